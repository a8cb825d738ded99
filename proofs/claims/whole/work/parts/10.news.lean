section GRF
variable {G : Gp} {X : Kx} {own : String} {cc : ByteArray} {nL : Nat} {ret : Option FieldType} {R : Room} {cells slots : Nat} {Q : State → Prop} {h : Hp} {pc : Nat} {L : List (Nat × Tv)} {st st0 : List Tv}
variable {idx : Nat} {rm : Room} {KX : String → Hp → Prop}
theorem at_use (C : Cx G X own cc nL ret) {ws : List Cond} (h1 : ∀ w ∈ ws, w ∈ tables_1) (h2 : ws.all (fun w => goodWord w || isBw w) = true) : ∀ w ∈ ws, w.before (xa X) (xs X) = true := by
  intro w hw
  have h3 := List.all_eq_true.mp h2 w hw
  simp only [Bool.or_eq_true] at h3
  rcases h3 with g | g
  · exact C.w (lw_of (h1 w hw) g)
  · exact va_Nw.use (bw_onTables g) (C.k.2.2.2.2.1 w (List.mem_filter.mpr ⟨h1 w hw, g⟩))
theorem at_pos {ws : List Cond} (ps : List Nat) (h : ws = ps.filterMap (fun i => tables_1[i]?)) : ∀ w ∈ ws, w ∈ tables_1 := by
  intro w hw
  rw [h] at hw
  obtain ⟨i, -, hi⟩ := List.mem_filterMap.mp hw
  exact List.mem_of_getElem? hi
def EX (own cls : String) (ik ic : Nat) : Prop := Bundle.fit cls = true ∧ Cond.classLink own ik cls ∈ lw_all ∧ Cond.initialized cls ∈ lw_all ∧ (∀ w ∈ vx_atS own ic cls ["java/lang/RuntimeException", "java/lang/Exception"], w ∈ tables_1) ∧ (vx_atS own ic cls ["java/lang/RuntimeException", "java/lang/Exception"]).all (fun w => goodWord w || isBw w) = true ∧ (∀ w ∈ Cond.classLink own ik cls :: Cond.initialized cls :: vx_atS own ic cls ["java/lang/RuntimeException", "java/lang/Exception"], vx_ot w = true)
theorem fitNames : ∀ n ∈ ["java/lang/RuntimeException", "java/lang/Exception"], Bundle.fit n = true := by decide +kernel
theorem go_throw (C : Cx G X RX11 cc nL ret) (hno : ∀ x ∈ (xc X).exceptionTable.toList, False) {Qo : Array Value → State → Outcome → State → Prop} {cls text : String} {ik is ic : Nat} (E : EX RX11 cls ik ic) (hs : Cond.stringRef RX11 is text ∈ tables_1) (d0 : decode cc pc = .ok (.new ik, 3)) (d3 : decode cc (pc + 3) = .ok (.dup, 1)) (d4 : decode cc (pc + 4) = .ok (.ldc is, 2)) (d6 : decode cc (pc + 6) = .ok (.invokespecial ic, 3)) (d9 : decode cc (pc + 9) = .ok (.athrow, 1)) (hR : 5 < R.frames ∧ 98 ≤ R.locals ∧ cells + 1 ≤ R.cells ∧ slots + 6 ≤ R.slots) (h8 : (st.map (fun v => if wide v then 2 else 1)).sum ≤ 16) (hc : cells + 1 ≤ rm.cells ∧ slots + 6 ≤ rm.slots) (hw : KX cls h) : Go G X R nL cells slots (QX G X Qo KX rm) h pc L st := by
  intro H locs ls hP hS hl
  obtain ⟨k1, k2, k3, k4, k5, k6, k7, k8, k9⟩ := C.k
  refine vx_throwS (A := AA G) C.1 C.2.1 C.2.2.2.2.2.2.2.1 C.2.2.2.1 E.1 fitNames (C.w E.2.1) (C.w E.2.2.1) (k7 is is text hs rfl) (at_use C E.2.2.2.1 E.2.2.2.2.1) E.2.2.2.2.2 k3 k4 hS (hl.1.trans C.2.2.1.symm) d0 d3 d4 d6 d9 (fun x hx => (hno x hx).elim) hR.1 (by rw [catsum]; have := hR.2.1; show _ + (13 * (2 + 1) + 43) ≤ _; omega) hR.2.2.1 hR.2.2.2 C.2.2.2.2.2.2.1 (fun t hvm hz hq => ?_) hS.2.2 hc.1 hc.2
  refine ⟨h, trivial, ⟨hw, fun a e ha => ⟨(hP a e ha).1.kept (hq a (hP a e ha).1.lt), (hP a e ha).2⟩⟩, Nat.le_trans hS.1 hz, fun q h1 h2 => (hq q (Nat.lt_of_lt_of_le h1 hS.1)).trans (hS.2.1 q h1 h2)⟩
theorem go_throwW (C : Cx G X RX11 cc nL ret) (hno : ∀ x ∈ (xc X).exceptionTable.toList, False) {Qo : Array Value → State → Outcome → State → Prop} {cls text : String} {ik is ic : Nat} (E : EX RX11 cls ik ic) (hs : Cond.stringRef RX11 is text ∈ tables_1) (d0 : decode cc pc = .ok (.new ik, 3)) (d3 : decode cc (pc + 3) = .ok (.dup, 1)) (d4 : decode cc (pc + 4) = .ok (.ldc_w is, 3)) (d6 : decode cc (pc + 7) = .ok (.invokespecial ic, 3)) (d9 : decode cc (pc + 10) = .ok (.athrow, 1)) (hR : 5 < R.frames ∧ 98 ≤ R.locals ∧ cells + 1 ≤ R.cells ∧ slots + 6 ≤ R.slots) (h8 : (st.map (fun v => if wide v then 2 else 1)).sum ≤ 16) (hc : cells + 1 ≤ rm.cells ∧ slots + 6 ≤ rm.slots) (hw : KX cls h) : Go G X R nL cells slots (QX G X Qo KX rm) h pc L st := by
  intro H locs ls hP hS hl
  obtain ⟨k1, k2, k3, k4, k5, k6, k7, k8, k9⟩ := C.k
  refine vx_throwSW (A := AA G) C.1 C.2.1 C.2.2.2.2.2.2.2.1 C.2.2.2.1 E.1 fitNames (C.w E.2.1) (C.w E.2.2.1) (k7 is is text hs rfl) (at_use C E.2.2.2.1 E.2.2.2.2.1) E.2.2.2.2.2 k3 k4 hS (hl.1.trans C.2.2.1.symm) d0 d3 d4 d6 d9 (fun x hx => (hno x hx).elim) hR.1 (by rw [catsum]; have := hR.2.1; show _ + (13 * (2 + 1) + 43) ≤ _; omega) hR.2.2.1 hR.2.2.2 C.2.2.2.2.2.2.1 (fun t hvm hz hq => ?_) hS.2.2 hc.1 hc.2
  refine ⟨h, trivial, ⟨hw, fun a e ha => ⟨(hP a e ha).1.kept (hq a (hP a e ha).1.lt), (hP a e ha).2⟩⟩, Nat.le_trans hS.1 hz, fun q h1 h2 => (hq q (Nat.lt_of_lt_of_le h1 hS.1)).trans (hS.2.1 q h1 h2)⟩
theorem exN_m : ∀ w ∈ ne_at RX11 138 "java/util/NoSuchElementException" "java/lang/RuntimeException" 13 (⟨#[0x2a, 0x2b, 0xb7, 0x00, 0x0d, 0xb1]⟩ : ByteArray) ["java/lang/Exception"], w ∈ tables_1 := at_pos [9, 756, 765, 773, 776, 778, 757, 758, 33, 34, 759, 764, 774, 794, 746, 795, 748, 796, 750, 760, 762, 752, 790, 791, 793, 752, 1003, 1004, 1005, 784, 738, 784, 785, 786, 787, 740, 787, 788, 789, 790, 742, 1002, 993, 994, 995, 772, 996, 997, 998, 999, 755, 754, 1000] (by decide +kernel)
theorem exN_g : (ne_at RX11 138 "java/util/NoSuchElementException" "java/lang/RuntimeException" 13 (⟨#[0x2a, 0x2b, 0xb7, 0x00, 0x0d, 0xb1]⟩ : ByteArray) ["java/lang/Exception"]).all (fun w => goodWord w || isBw w) = true := by decide +kernel
theorem exN_t : ∀ w ∈ Cond.classLink RX11 134 "java/util/NoSuchElementException" :: Cond.initialized "java/util/NoSuchElementException" :: ne_at RX11 138 "java/util/NoSuchElementException" "java/lang/RuntimeException" 13 (⟨#[0x2a, 0x2b, 0xb7, 0x00, 0x0d, 0xb1]⟩ : ByteArray) ["java/lang/Exception"], vx_ot w = true := by decide +kernel
theorem fitNames1 : ∀ n ∈ ["java/lang/Exception"], Bundle.fit n = true := by decide +kernel
theorem go_throwN (C : Cx G X RX11 cc nL ret) (hno : ∀ x ∈ (xc X).exceptionTable.toList, False) {Qo : Array Value → State → Outcome → State → Prop} {text : String} {is : Nat} (hs : Cond.stringRef RX11 is text ∈ tables_1) (d0 : decode cc pc = .ok (.new 134, 3)) (d3 : decode cc (pc + 3) = .ok (.dup, 1)) (d4 : decode cc (pc + 4) = .ok (.ldc is, 2)) (d6 : decode cc (pc + 6) = .ok (.invokespecial 138, 3)) (d9 : decode cc (pc + 9) = .ok (.athrow, 1)) (hR : 5 < R.frames ∧ 98 ≤ R.locals ∧ cells + 1 ≤ R.cells ∧ slots + 6 ≤ R.slots) (h8 : (st.map (fun v => if wide v then 2 else 1)).sum ≤ 16) (hc : cells + 1 ≤ rm.cells ∧ slots + 6 ≤ rm.slots) (hw : KX "java/util/NoSuchElementException" h) : Go G X R nL cells slots (QX G X Qo KX rm) h pc L st := by
  intro H locs ls hP hS hl
  obtain ⟨k1, k2, k3, k4, k5, k6, k7, k8, k9⟩ := C.k
  refine ne_throw (A := AA G) (Y := "java/lang/RuntimeException") (names := ["java/lang/Exception"]) (ix := 13) (rx := ⟨#[0x2a, 0x2b, 0xb7, 0x00, 0x0d, 0xb1]⟩) C.1 C.2.1 C.2.2.2.2.2.2.2.1 (by decide +kernel) (by decide +kernel) (by decide +kernel) (by decide +kernel) C.2.2.2.1 (by decide +kernel) (by decide +kernel) fitNames1 (C.w tw5_32) (C.w tw1_18) (k7 is is text hs rfl) (at_use C exN_m exN_g) exN_t k3 k4 hS (hl.1.trans C.2.2.1.symm) d0 d3 d4 d6 d9 (fun x hx => (hno x hx).elim) hR.1 (by rw [catsum]; have := hR.2.1; show _ + (13 * (1 + 1 + 1) + 43) ≤ _; omega) hR.2.2.1 hR.2.2.2 C.2.2.2.2.2.2.1 (fun t hvm hz hq => ?_) hS.2.2 hc.1 hc.2
  refine ⟨h, trivial, ⟨hw, fun a e ha => ⟨(hP a e ha).1.kept (hq a (hP a e ha).1.lt), (hP a e ha).2⟩⟩, Nat.le_trans hS.1 hz, fun q h1 h2 => (hq q (Nat.lt_of_lt_of_le h1 hS.1)).trans (hS.2.1 q h1 h2)⟩
theorem go_throwNW (C : Cx G X RX11 cc nL ret) (hno : ∀ x ∈ (xc X).exceptionTable.toList, False) {Qo : Array Value → State → Outcome → State → Prop} {text : String} {is : Nat} (hs : Cond.stringRef RX11 is text ∈ tables_1) (d0 : decode cc pc = .ok (.new 134, 3)) (d3 : decode cc (pc + 3) = .ok (.dup, 1)) (d4 : decode cc (pc + 4) = .ok (.ldc_w is, 3)) (d6 : decode cc (pc + 7) = .ok (.invokespecial 138, 3)) (d9 : decode cc (pc + 10) = .ok (.athrow, 1)) (hR : 5 < R.frames ∧ 98 ≤ R.locals ∧ cells + 1 ≤ R.cells ∧ slots + 6 ≤ R.slots) (h8 : (st.map (fun v => if wide v then 2 else 1)).sum ≤ 16) (hc : cells + 1 ≤ rm.cells ∧ slots + 6 ≤ rm.slots) (hw : KX "java/util/NoSuchElementException" h) : Go G X R nL cells slots (QX G X Qo KX rm) h pc L st := by
  intro H locs ls hP hS hl
  obtain ⟨k1, k2, k3, k4, k5, k6, k7, k8, k9⟩ := C.k
  refine ne_throwW (A := AA G) (Y := "java/lang/RuntimeException") (names := ["java/lang/Exception"]) (ix := 13) (rx := ⟨#[0x2a, 0x2b, 0xb7, 0x00, 0x0d, 0xb1]⟩) C.1 C.2.1 C.2.2.2.2.2.2.2.1 (by decide +kernel) (by decide +kernel) (by decide +kernel) (by decide +kernel) C.2.2.2.1 (by decide +kernel) (by decide +kernel) fitNames1 (C.w tw5_32) (C.w tw1_18) (k7 is is text hs rfl) (at_use C exN_m exN_g) exN_t k3 k4 hS (hl.1.trans C.2.2.1.symm) d0 d3 d4 d6 d9 (fun x hx => (hno x hx).elim) hR.1 (by rw [catsum]; have := hR.2.1; show _ + (13 * (1 + 1 + 1) + 43) ≤ _; omega) hR.2.2.1 hR.2.2.2 C.2.2.2.2.2.2.1 (fun t hvm hz hq => ?_) hS.2.2 hc.1 hc.2
  refine ⟨h, trivial, ⟨hw, fun a e ha => ⟨(hP a e ha).1.kept (hq a (hP a e ha).1.lt), (hP a e ha).2⟩⟩, Nat.le_trans hS.1 hz, fun q h1 h2 => (hq q (Nat.lt_of_lt_of_le h1 hS.1)).trans (hS.2.1 q h1 h2)⟩
theorem bsz {H : Heap} {locs : List Loc} (C : Cx G X own cc nL ret) (hS : va_S (AA G) (xs X).heap H locs) : G.2.2.1 ≤ H.size := Nat.le_trans C.k.2.1 hS.1
theorem SgrowS {H H1 : Heap} {locs : List Loc} (hS : va_S (AA G) (xs X).heap H locs) (z1 : H1.size = H.size + 1) (o1 : ∀ q : Nat, q < H.size → H1[q]? = H[q]?) : va_S (AA G) (xs X).heap H1 locs := ⟨Nat.le_trans hS.1 (by omega), fun x h1 h2 => (o1 x (Nat.lt_of_lt_of_le h1 hS.1)).trans (hS.2.1 x h1 h2), hS.2.2⟩
theorem go_new (C : Cx G X own cc nL ret) {ci N : Nat} {Cn : String} {T : u_T} {ty0 : Nat → FieldType} (cf : CF ci Cn T N ty0) (hcl : Cond.classLink own idx Cn ∈ lw_all) (hin : Cond.instantiable Cn N ∈ lw_all) (hini : Cond.initialized Cn ∈ lw_all) (fs : List Tv) {K : Nat → Hp → Prop} (hfs : ∀ j, j < N → defaultValue (ty0 j) = vp_V (fs.map toV) j) (hR : cells + 1 ≤ R.cells ∧ slots + N ≤ R.slots) (d : decode cc pc = .ok (.new idx, 3)) (hw : nw h ci fs K) (kk : ∀ q h1, K q h1 → Go G X R nL (cells + 1) (slots + N) Q h1 (pc + 3) L (rV (some q) :: st)) : Go G X R nL cells slots Q h pc L st := by
  intro H locs ls hP hS hl
  have hKn := C.k.1.1 ci _ cf.1
  refine W.newcK C.1 C.2.1 C.2.2.2.1 (C.w hcl) (C.w hin) (C.w hini) rfl d hR.1 hR.2 hKn.2.1 rfl fun H1 kC hkC e1 z1 o1 => ?_
  obtain ⟨h0, hP1⟩ := hP.push (e := .inr (ci, fs)) (bsz C hS) ⟨_, cf.1, (u_born ty0 C.2.2.2.2.1 cf.2.1 hKn hkC e1 cf.2.2.1).to hfs⟩ o1
  exact kk H.size _ (hw _ h0) H1 locs ls hP1 (SgrowS hS z1 o1) hl
theorem go_newarr0 (C : Cx G X own cc nL ret) {n : Int32} (N : Nat) {K : Nat → Hp → Prop} (hn : ¬ n < 0) (hN : n.toNatClampNeg = N) (hb : N * 8 ≤ 536870912) (harr : Cond.arrayClass .int ∈ lw_all) (hR : cells + 1 ≤ R.cells ∧ slots + N ≤ R.slots) (d : decode cc pc = .ok (.newarray .int, 2)) (hw : nA h (.inl (0, N, .inl (fun _ => 0))) K) (kk : ∀ q h1, K q h1 → Go G X R nL (cells + 1) (slots + N) Q h1 (pc + 2) L (rV (some q) :: st)) : Go G X R nL cells slots Q h pc L (iV n :: st) := by
  intro H locs ls hP hS hl
  refine va_newaK C.1 C.2.1 (atype := .int) (C.w harr) rfl d rfl hn hN (Nat.le_trans (Nat.mul_le_mul_left N (by decide)) hb) hR.1 hR.2 rfl fun H1 cA e1 z1 o1 hAr hNm => ?_
  have h2 : (xs X).vm.findClass ("[" ++ (.int : FieldType).toString) = some (G.2.1 0) := (C.k.1.2 0 _ rfl).2
  have h3 : G.2.1 0 = cA := Option.some.inj (h2.symm.trans hNm)
  obtain ⟨h0, hP1⟩ := hP.push (e := .inl (0, N, .inl (fun _ => 0))) (bsz C hS) (by
    show H1[H.size]? = some (vp_cell (G.2.1 0) _)
    rw [h3, vp_cell_i]
    exact e1) o1
  exact kk H.size _ (hw _ h0) H1 locs ls hP1 (SgrowS hS z1 o1) hl
theorem go_newarr1 (C : Cx G X own cc nL ret) {n : Int32} (N : Nat) {K : Nat → Hp → Prop} (hn : ¬ n < 0) (hN : n.toNatClampNeg = N) (hb : N * 8 ≤ 536870912) (harr : Cond.arrayClass .boolean ∈ lw_all) (hR : cells + 1 ≤ R.cells ∧ slots + N ≤ R.slots) (d : decode cc pc = .ok (.newarray .boolean, 2)) (hw : nA h (.inl (1, N, .inl (fun _ => 0))) K) (kk : ∀ q h1, K q h1 → Go G X R nL (cells + 1) (slots + N) Q h1 (pc + 2) L (rV (some q) :: st)) : Go G X R nL cells slots Q h pc L (iV n :: st) := by
  intro H locs ls hP hS hl
  refine va_newaK C.1 C.2.1 (atype := .boolean) (C.w harr) rfl d rfl hn hN (Nat.le_trans (Nat.mul_le_mul_left N (by decide)) hb) hR.1 hR.2 rfl fun H1 cA e1 z1 o1 hAr hNm => ?_
  have h2 : (xs X).vm.findClass ("[" ++ (.boolean : FieldType).toString) = some (G.2.1 1) := (C.k.1.2 1 _ rfl).2
  have h3 : G.2.1 1 = cA := Option.some.inj (h2.symm.trans hNm)
  obtain ⟨h0, hP1⟩ := hP.push (e := .inl (1, N, .inl (fun _ => 0))) (bsz C hS) (by
    show H1[H.size]? = some (vp_cell (G.2.1 1) _)
    rw [h3, vp_cell_i]
    exact e1) o1
  exact kk H.size _ (hw _ h0) H1 locs ls hP1 (SgrowS hS z1 o1) hl
theorem go_newarr2 (C : Cx G X own cc nL ret) {n : Int32} (N : Nat) {K : Nat → Hp → Prop} (hn : ¬ n < 0) (hN : n.toNatClampNeg = N) (hb : N * 8 ≤ 536870912) (harr : Cond.arrayClass .char ∈ lw_all) (hR : cells + 1 ≤ R.cells ∧ slots + N ≤ R.slots) (d : decode cc pc = .ok (.newarray .char, 2)) (hw : nA h (.inl (2, N, .inl (fun _ => 0))) K) (kk : ∀ q h1, K q h1 → Go G X R nL (cells + 1) (slots + N) Q h1 (pc + 2) L (rV (some q) :: st)) : Go G X R nL cells slots Q h pc L (iV n :: st) := by
  intro H locs ls hP hS hl
  refine va_newaK C.1 C.2.1 (atype := .char) (C.w harr) rfl d rfl hn hN (Nat.le_trans (Nat.mul_le_mul_left N (by decide)) hb) hR.1 hR.2 rfl fun H1 cA e1 z1 o1 hAr hNm => ?_
  have h2 : (xs X).vm.findClass ("[" ++ (.char : FieldType).toString) = some (G.2.1 2) := (C.k.1.2 2 _ rfl).2
  have h3 : G.2.1 2 = cA := Option.some.inj (h2.symm.trans hNm)
  obtain ⟨h0, hP1⟩ := hP.push (e := .inl (2, N, .inl (fun _ => 0))) (bsz C hS) (by
    show H1[H.size]? = some (vp_cell (G.2.1 2) _)
    rw [h3, vp_cell_i]
    exact e1) o1
  exact kk H.size _ (hw _ h0) H1 locs ls hP1 (SgrowS hS z1 o1) hl
theorem go_newarr3 (C : Cx G X own cc nL ret) {n : Int32} (N : Nat) {K : Nat → Hp → Prop} (hn : ¬ n < 0) (hN : n.toNatClampNeg = N) (hb : N * 8 ≤ 536870912) (harr : Cond.arrayClass .long ∈ lw_all) (hR : cells + 1 ≤ R.cells ∧ slots + N ≤ R.slots) (d : decode cc pc = .ok (.newarray .long, 2)) (hw : nA h (.inl (3, N, .inr (.inl (fun _ => 0)))) K) (kk : ∀ q h1, K q h1 → Go G X R nL (cells + 1) (slots + N) Q h1 (pc + 2) L (rV (some q) :: st)) : Go G X R nL cells slots Q h pc L (iV n :: st) := by
  intro H locs ls hP hS hl
  refine va_newaK C.1 C.2.1 (atype := .long) (C.w harr) rfl d rfl hn hN (Nat.le_trans (Nat.mul_le_mul_left N (by decide)) hb) hR.1 hR.2 rfl fun H1 cA e1 z1 o1 hAr hNm => ?_
  have h2 : (xs X).vm.findClass ("[" ++ (.long : FieldType).toString) = some (G.2.1 3) := (C.k.1.2 3 _ rfl).2
  have h3 : G.2.1 3 = cA := Option.some.inj (h2.symm.trans hNm)
  obtain ⟨h0, hP1⟩ := hP.push (e := .inl (3, N, .inr (.inl (fun _ => 0)))) (bsz C hS) (by
    show H1[H.size]? = some (vp_cell (G.2.1 3) _)
    rw [h3, vp_cell_l]
    exact e1) o1
  exact kk H.size _ (hw _ h0) H1 locs ls hP1 (SgrowS hS z1 o1) hl
theorem go_newarr4 (C : Cx G X own cc nL ret) {n : Int32} (N : Nat) {K : Nat → Hp → Prop} (hn : ¬ n < 0) (hN : n.toNatClampNeg = N) (hb : N * 8 ≤ 536870912) (harr : Cond.arrayClass .double ∈ lw_all) (hR : cells + 1 ≤ R.cells ∧ slots + N ≤ R.slots) (d : decode cc pc = .ok (.newarray .double, 2)) (hw : nA h (.inl (4, N, .inr (.inr (.inr (.inl (fun _ => 0)))))) K) (kk : ∀ q h1, K q h1 → Go G X R nL (cells + 1) (slots + N) Q h1 (pc + 2) L (rV (some q) :: st)) : Go G X R nL cells slots Q h pc L (iV n :: st) := by
  intro H locs ls hP hS hl
  refine va_newaK C.1 C.2.1 (atype := .double) (C.w harr) rfl d rfl hn hN (Nat.le_trans (Nat.mul_le_mul_left N (by decide)) hb) hR.1 hR.2 rfl fun H1 cA e1 z1 o1 hAr hNm => ?_
  have h2 : (xs X).vm.findClass ("[" ++ (.double : FieldType).toString) = some (G.2.1 4) := (C.k.1.2 4 _ rfl).2
  have h3 : G.2.1 4 = cA := Option.some.inj (h2.symm.trans hNm)
  obtain ⟨h0, hP1⟩ := hP.push (e := .inl (4, N, .inr (.inr (.inr (.inl (fun _ => 0)))))) (bsz C hS) (by
    show H1[H.size]? = some (vp_cell (G.2.1 4) _)
    rw [h3, vp_cell_d]
    exact e1) o1
  exact kk H.size _ (hw _ h0) H1 locs ls hP1 (SgrowS hS z1 o1) hl
theorem go_anewarr5 (C : Cx G X own cc nL ret) {n : Int32} (N : Nat) {K : Nat → Hp → Prop} (hn : ¬ n < 0) (hN : n.toNatClampNeg = N) (hb : N * 4 ≤ 536870912) (hcl : Cond.classLink own idx RX10 ∈ lw_all) (hR : cells + 1 ≤ R.cells ∧ slots + N ≤ R.slots) (d : decode cc pc = .ok (.anewarray idx, 3)) (hw : nA h (.inl (5, N, .inr (.inr (.inr (.inr (fun _ => none)))))) K) (kk : ∀ q h1, K q h1 → Go G X R nL (cells + 1) (slots + N) Q h1 (pc + 3) L (rV (some q) :: st)) : Go G X R nL cells slots Q h pc L (iV n :: st) := by
  intro H locs ls hP hS hl
  obtain ⟨k1, k2, k3, k4, k5, k6, k7, k8, k9⟩ := C.k
  subst hN
  refine W.anew C.1 C.2.1 C.2.2.2.1 (C.w hcl) (va_AO.use (k6.1 RX10 (by simp))) rfl d rfl hn hb hR.1 hR.2 fun cA kA comp f1 f2 f3 f4 => ?_
  generalize hH1 : H.push ({ cls := cA, slots := Array.replicate n.toNatClampNeg .null, vm := .none } : Cell) = H1
  have z1 : H1.size = H.size + 1 := by rw [← hH1, Array.size_push]
  have e1 : H1[H.size]? = some (arrV cA n.toNatClampNeg (fun _ => .null)) := by rw [← hH1, Array.getElem?_push_size, ← arrV_new]
  have o1 : ∀ q : Nat, q < H.size → H1[q]? = H[q]? := fun q hq => by rw [← hH1, Array.getElem?_push, if_neg (Nat.ne_of_lt hq)]
  obtain ⟨kA2, comp2, g1, g2, g3, g4⟩ := (C.k.1.2 5 _ rfl).2
  have h3 : G.2.1 5 = cA := by first | exact Option.some.inj (g4.symm.trans f1) | exact Option.some.inj (g4.symm.trans f4)
  obtain ⟨h0, hP1⟩ := hP.push (e := .inl (5, n.toNatClampNeg, .inr (.inr (.inr (.inr (fun _ => none)))))) (bsz C hS) (by
    show H1[H.size]? = some (vp_cell (G.2.1 5) _)
    rw [h3, vp_cell_q]
    exact e1) o1
  exact kk H.size _ (hw _ h0) H1 locs ls hP1 (SgrowS hS z1 o1) hl
theorem go_anewarr6 (C : Cx G X own cc nL ret) {n : Int32} (N : Nat) {K : Nat → Hp → Prop} (hn : ¬ n < 0) (hN : n.toNatClampNeg = N) (hb : N * 4 ≤ 536870912) (hcl : Cond.classLink own idx RX3 ∈ lw_all) (hR : cells + 1 ≤ R.cells ∧ slots + N ≤ R.slots) (d : decode cc pc = .ok (.anewarray idx, 3)) (hw : nA h (.inl (6, N, .inr (.inr (.inr (.inr (fun _ => none)))))) K) (kk : ∀ q h1, K q h1 → Go G X R nL (cells + 1) (slots + N) Q h1 (pc + 3) L (rV (some q) :: st)) : Go G X R nL cells slots Q h pc L (iV n :: st) := by
  intro H locs ls hP hS hl
  obtain ⟨k1, k2, k3, k4, k5, k6, k7, k8, k9⟩ := C.k
  subst hN
  refine W.anew C.1 C.2.1 C.2.2.2.1 (C.w hcl) (va_AO.use (k6.1 RX3 (by simp))) rfl d rfl hn hb hR.1 hR.2 fun cA kA comp f1 f2 f3 f4 => ?_
  generalize hH1 : H.push ({ cls := cA, slots := Array.replicate n.toNatClampNeg .null, vm := .none } : Cell) = H1
  have z1 : H1.size = H.size + 1 := by rw [← hH1, Array.size_push]
  have e1 : H1[H.size]? = some (arrV cA n.toNatClampNeg (fun _ => .null)) := by rw [← hH1, Array.getElem?_push_size, ← arrV_new]
  have o1 : ∀ q : Nat, q < H.size → H1[q]? = H[q]? := fun q hq => by rw [← hH1, Array.getElem?_push, if_neg (Nat.ne_of_lt hq)]
  obtain ⟨kA2, comp2, g1, g2, g3, g4⟩ := (C.k.1.2 6 _ rfl).2
  have h3 : G.2.1 6 = cA := by first | exact Option.some.inj (g4.symm.trans f1) | exact Option.some.inj (g4.symm.trans f4)
  obtain ⟨h0, hP1⟩ := hP.push (e := .inl (6, n.toNatClampNeg, .inr (.inr (.inr (.inr (fun _ => none)))))) (bsz C hS) (by
    show H1[H.size]? = some (vp_cell (G.2.1 6) _)
    rw [h3, vp_cell_q]
    exact e1) o1
  exact kk H.size _ (hw _ h0) H1 locs ls hP1 (SgrowS hS z1 o1) hl
theorem go_anewarr7 (C : Cx G X own cc nL ret) {n : Int32} (N : Nat) {K : Nat → Hp → Prop} (hn : ¬ n < 0) (hN : n.toNatClampNeg = N) (hb : N * 4 ≤ 536870912) (hcl : Cond.classLink own idx RX7 ∈ lw_all) (hR : cells + 1 ≤ R.cells ∧ slots + N ≤ R.slots) (d : decode cc pc = .ok (.anewarray idx, 3)) (hw : nA h (.inl (7, N, .inr (.inr (.inr (.inr (fun _ => none)))))) K) (kk : ∀ q h1, K q h1 → Go G X R nL (cells + 1) (slots + N) Q h1 (pc + 3) L (rV (some q) :: st)) : Go G X R nL cells slots Q h pc L (iV n :: st) := by
  intro H locs ls hP hS hl
  obtain ⟨k1, k2, k3, k4, k5, k6, k7, k8, k9⟩ := C.k
  subst hN
  refine W.anew C.1 C.2.1 C.2.2.2.1 (C.w hcl) (va_AO.use (k6.1 RX7 (by simp))) rfl d rfl hn hb hR.1 hR.2 fun cA kA comp f1 f2 f3 f4 => ?_
  generalize hH1 : H.push ({ cls := cA, slots := Array.replicate n.toNatClampNeg .null, vm := .none } : Cell) = H1
  have z1 : H1.size = H.size + 1 := by rw [← hH1, Array.size_push]
  have e1 : H1[H.size]? = some (arrV cA n.toNatClampNeg (fun _ => .null)) := by rw [← hH1, Array.getElem?_push_size, ← arrV_new]
  have o1 : ∀ q : Nat, q < H.size → H1[q]? = H[q]? := fun q hq => by rw [← hH1, Array.getElem?_push, if_neg (Nat.ne_of_lt hq)]
  obtain ⟨kA2, comp2, g1, g2, g3, g4⟩ := (C.k.1.2 7 _ rfl).2
  have h3 : G.2.1 7 = cA := by first | exact Option.some.inj (g4.symm.trans f1) | exact Option.some.inj (g4.symm.trans f4)
  obtain ⟨h0, hP1⟩ := hP.push (e := .inl (7, n.toNatClampNeg, .inr (.inr (.inr (.inr (fun _ => none)))))) (bsz C hS) (by
    show H1[H.size]? = some (vp_cell (G.2.1 7) _)
    rw [h3, vp_cell_q]
    exact e1) o1
  exact kk H.size _ (hw _ h0) H1 locs ls hP1 (SgrowS hS z1 o1) hl
theorem go_anewarr8 (C : Cx G X own cc nL ret) {n : Int32} (N : Nat) {K : Nat → Hp → Prop} (hn : ¬ n < 0) (hN : n.toNatClampNeg = N) (hb : N * 4 ≤ 536870912) (hcl : Cond.classLink own idx RX1 ∈ lw_all) (hR : cells + 1 ≤ R.cells ∧ slots + N ≤ R.slots) (d : decode cc pc = .ok (.anewarray idx, 3)) (hw : nA h (.inl (8, N, .inr (.inr (.inr (.inr (fun _ => none)))))) K) (kk : ∀ q h1, K q h1 → Go G X R nL (cells + 1) (slots + N) Q h1 (pc + 3) L (rV (some q) :: st)) : Go G X R nL cells slots Q h pc L (iV n :: st) := by
  intro H locs ls hP hS hl
  obtain ⟨k1, k2, k3, k4, k5, k6, k7, k8, k9⟩ := C.k
  subst hN
  refine W.anew C.1 C.2.1 C.2.2.2.1 (C.w hcl) (va_AO.use (k6.1 RX1 (by simp))) rfl d rfl hn hb hR.1 hR.2 fun cA kA comp f1 f2 f3 f4 => ?_
  generalize hH1 : H.push ({ cls := cA, slots := Array.replicate n.toNatClampNeg .null, vm := .none } : Cell) = H1
  have z1 : H1.size = H.size + 1 := by rw [← hH1, Array.size_push]
  have e1 : H1[H.size]? = some (arrV cA n.toNatClampNeg (fun _ => .null)) := by rw [← hH1, Array.getElem?_push_size, ← arrV_new]
  have o1 : ∀ q : Nat, q < H.size → H1[q]? = H[q]? := fun q hq => by rw [← hH1, Array.getElem?_push, if_neg (Nat.ne_of_lt hq)]
  obtain ⟨kA2, comp2, g1, g2, g3, g4⟩ := (C.k.1.2 8 _ rfl).2
  have h3 : G.2.1 8 = cA := by first | exact Option.some.inj (g4.symm.trans f1) | exact Option.some.inj (g4.symm.trans f4)
  obtain ⟨h0, hP1⟩ := hP.push (e := .inl (8, n.toNatClampNeg, .inr (.inr (.inr (.inr (fun _ => none)))))) (bsz C hS) (by
    show H1[H.size]? = some (vp_cell (G.2.1 8) _)
    rw [h3, vp_cell_q]
    exact e1) o1
  exact kk H.size _ (hw _ h0) H1 locs ls hP1 (SgrowS hS z1 o1) hl
theorem go_anewarr9 (C : Cx G X own cc nL ret) {n : Int32} (N : Nat) {K : Nat → Hp → Prop} (hn : ¬ n < 0) (hN : n.toNatClampNeg = N) (hb : N * 4 ≤ 536870912) (hcl : Cond.classLink own idx RX4 ∈ lw_all) (hR : cells + 1 ≤ R.cells ∧ slots + N ≤ R.slots) (d : decode cc pc = .ok (.anewarray idx, 3)) (hw : nA h (.inl (9, N, .inr (.inr (.inr (.inr (fun _ => none)))))) K) (kk : ∀ q h1, K q h1 → Go G X R nL (cells + 1) (slots + N) Q h1 (pc + 3) L (rV (some q) :: st)) : Go G X R nL cells slots Q h pc L (iV n :: st) := by
  intro H locs ls hP hS hl
  obtain ⟨k1, k2, k3, k4, k5, k6, k7, k8, k9⟩ := C.k
  subst hN
  refine W.anew C.1 C.2.1 C.2.2.2.1 (C.w hcl) (va_AO.use (k6.1 RX4 (by simp))) rfl d rfl hn hb hR.1 hR.2 fun cA kA comp f1 f2 f3 f4 => ?_
  generalize hH1 : H.push ({ cls := cA, slots := Array.replicate n.toNatClampNeg .null, vm := .none } : Cell) = H1
  have z1 : H1.size = H.size + 1 := by rw [← hH1, Array.size_push]
  have e1 : H1[H.size]? = some (arrV cA n.toNatClampNeg (fun _ => .null)) := by rw [← hH1, Array.getElem?_push_size, ← arrV_new]
  have o1 : ∀ q : Nat, q < H.size → H1[q]? = H[q]? := fun q hq => by rw [← hH1, Array.getElem?_push, if_neg (Nat.ne_of_lt hq)]
  obtain ⟨kA2, comp2, g1, g2, g3, g4⟩ := (C.k.1.2 9 _ rfl).2
  have h3 : G.2.1 9 = cA := by first | exact Option.some.inj (g4.symm.trans f1) | exact Option.some.inj (g4.symm.trans f4)
  obtain ⟨h0, hP1⟩ := hP.push (e := .inl (9, n.toNatClampNeg, .inr (.inr (.inr (.inr (fun _ => none)))))) (bsz C hS) (by
    show H1[H.size]? = some (vp_cell (G.2.1 9) _)
    rw [h3, vp_cell_q]
    exact e1) o1
  exact kk H.size _ (hw _ h0) H1 locs ls hP1 (SgrowS hS z1 o1) hl
theorem go_aastore5 (C : Cx G X own cc nL ret) {a x : Nat} {i : Int32} {K : Hp → Prop} (d : decode cc pc = .ok (.aastore, 1)) (hw : sR h a 5 i x 10 K) (kk : ∀ h1, K h1 → Go G X R nL cells slots Q h1 (pc + 1) L st) : Go G X R nL cells slots Q h pc L (rV (some x) :: iV i :: rV (some a) :: st) := by
  intro H locs ls hP hS hl
  obtain ⟨n, f, ha, hin, ⟨fs, hx⟩, hK⟩ := hw
  have hlt : i.toNatClampNeg < n := Nat.not_le.mp fun q => hin (Or.inr q)
  have h0 : ¬ i < 0 := fun q => hin (Or.inl q)
  obtain ⟨⟨r', hr', cellV, g1, g2, g3, -⟩, -⟩ := hP x _ hx
  have hcls := (C.k.1.1 10 (RX10, TX10, 13) rfl).2
  obtain ⟨kA, comp, k1, k2, k3, -⟩ := (C.k.1.2 5 _ rfl).2
  have hcomp : comp = G.1.1 10 := Option.some.inj (k3.symm.trans hcls.1)
  subst hcomp
  obtain ⟨kC, hkC, -⟩ := hcls.2
  refine W.aast C.1 C.2.1 (hP a _ ha).1 (fun q h => by cases h) (fun h => by cases h) k1 k2 rfl hkC ⟨h0, by show _ < (arrV _ _ _).slots.size; rw [arrV_size]; exact hlt⟩ g1 (fun q h => by rw [g3] at h; cases h) (by rw [g2]; exact hkC) (by rw [g2]; exact va_assign hcls) rfl rfl d fun H1 e z oq => ?_
  refine kk _ hK H1 _ ls (hP.put ha ?_ oq) (hS.put z oq (hP a _ ha).2) hl
  show H1[a]? = some (vp_cell _ _)
  rw [e]
  rw [vp_cell_q, vp_cell_q, arrV_store]
  congr 2
  funext q
  by_cases hq : q = i.toNatClampNeg
  · subst hq
    simp [updV, va_up, va_rf]
  · simp [updV, va_up, hq]
theorem go_aastore6 (C : Cx G X own cc nL ret) {a x : Nat} {i : Int32} {K : Hp → Prop} (d : decode cc pc = .ok (.aastore, 1)) (hw : sR h a 6 i x 3 K) (kk : ∀ h1, K h1 → Go G X R nL cells slots Q h1 (pc + 1) L st) : Go G X R nL cells slots Q h pc L (rV (some x) :: iV i :: rV (some a) :: st) := by
  intro H locs ls hP hS hl
  obtain ⟨n, f, ha, hin, ⟨fs, hx⟩, hK⟩ := hw
  have hlt : i.toNatClampNeg < n := Nat.not_le.mp fun q => hin (Or.inr q)
  have h0 : ¬ i < 0 := fun q => hin (Or.inl q)
  obtain ⟨⟨r', hr', cellV, g1, g2, g3, -⟩, -⟩ := hP x _ hx
  have hcls := (C.k.1.1 3 (RX3, TX3, 5) rfl).2
  obtain ⟨kA, comp, k1, k2, k3, -⟩ := (C.k.1.2 6 _ rfl).2
  have hcomp : comp = G.1.1 3 := Option.some.inj (k3.symm.trans hcls.1)
  subst hcomp
  obtain ⟨kC, hkC, -⟩ := hcls.2
  refine W.aast C.1 C.2.1 (hP a _ ha).1 (fun q h => by cases h) (fun h => by cases h) k1 k2 rfl hkC ⟨h0, by show _ < (arrV _ _ _).slots.size; rw [arrV_size]; exact hlt⟩ g1 (fun q h => by rw [g3] at h; cases h) (by rw [g2]; exact hkC) (by rw [g2]; exact va_assign hcls) rfl rfl d fun H1 e z oq => ?_
  refine kk _ hK H1 _ ls (hP.put ha ?_ oq) (hS.put z oq (hP a _ ha).2) hl
  show H1[a]? = some (vp_cell _ _)
  rw [e]
  rw [vp_cell_q, vp_cell_q, arrV_store]
  congr 2
  funext q
  by_cases hq : q = i.toNatClampNeg
  · subst hq
    simp [updV, va_up, va_rf]
  · simp [updV, va_up, hq]
theorem go_aastore7 (C : Cx G X own cc nL ret) {a x : Nat} {i : Int32} {K : Hp → Prop} (d : decode cc pc = .ok (.aastore, 1)) (hw : sR h a 7 i x 7 K) (kk : ∀ h1, K h1 → Go G X R nL cells slots Q h1 (pc + 1) L st) : Go G X R nL cells slots Q h pc L (rV (some x) :: iV i :: rV (some a) :: st) := by
  intro H locs ls hP hS hl
  obtain ⟨n, f, ha, hin, ⟨fs, hx⟩, hK⟩ := hw
  have hlt : i.toNatClampNeg < n := Nat.not_le.mp fun q => hin (Or.inr q)
  have h0 : ¬ i < 0 := fun q => hin (Or.inl q)
  obtain ⟨⟨r', hr', cellV, g1, g2, g3, -⟩, -⟩ := hP x _ hx
  have hcls := (C.k.1.1 7 (RX7, TX7, 6) rfl).2
  obtain ⟨kA, comp, k1, k2, k3, -⟩ := (C.k.1.2 7 _ rfl).2
  have hcomp : comp = G.1.1 7 := Option.some.inj (k3.symm.trans hcls.1)
  subst hcomp
  obtain ⟨kC, hkC, -⟩ := hcls.2
  refine W.aast C.1 C.2.1 (hP a _ ha).1 (fun q h => by cases h) (fun h => by cases h) k1 k2 rfl hkC ⟨h0, by show _ < (arrV _ _ _).slots.size; rw [arrV_size]; exact hlt⟩ g1 (fun q h => by rw [g3] at h; cases h) (by rw [g2]; exact hkC) (by rw [g2]; exact va_assign hcls) rfl rfl d fun H1 e z oq => ?_
  refine kk _ hK H1 _ ls (hP.put ha ?_ oq) (hS.put z oq (hP a _ ha).2) hl
  show H1[a]? = some (vp_cell _ _)
  rw [e]
  rw [vp_cell_q, vp_cell_q, arrV_store]
  congr 2
  funext q
  by_cases hq : q = i.toNatClampNeg
  · subst hq
    simp [updV, va_up, va_rf]
  · simp [updV, va_up, hq]
theorem go_aastore8 (C : Cx G X own cc nL ret) {a x : Nat} {i : Int32} {K : Hp → Prop} (d : decode cc pc = .ok (.aastore, 1)) (hw : sR h a 8 i x 1 K) (kk : ∀ h1, K h1 → Go G X R nL cells slots Q h1 (pc + 1) L st) : Go G X R nL cells slots Q h pc L (rV (some x) :: iV i :: rV (some a) :: st) := by
  intro H locs ls hP hS hl
  obtain ⟨n, f, ha, hin, ⟨fs, hx⟩, hK⟩ := hw
  have hlt : i.toNatClampNeg < n := Nat.not_le.mp fun q => hin (Or.inr q)
  have h0 : ¬ i < 0 := fun q => hin (Or.inl q)
  obtain ⟨⟨r', hr', cellV, g1, g2, g3, -⟩, -⟩ := hP x _ hx
  have hcls := (C.k.1.1 1 (RX1, TX1, 4) rfl).2
  obtain ⟨kA, comp, k1, k2, k3, -⟩ := (C.k.1.2 8 _ rfl).2
  have hcomp : comp = G.1.1 1 := Option.some.inj (k3.symm.trans hcls.1)
  subst hcomp
  obtain ⟨kC, hkC, -⟩ := hcls.2
  refine W.aast C.1 C.2.1 (hP a _ ha).1 (fun q h => by cases h) (fun h => by cases h) k1 k2 rfl hkC ⟨h0, by show _ < (arrV _ _ _).slots.size; rw [arrV_size]; exact hlt⟩ g1 (fun q h => by rw [g3] at h; cases h) (by rw [g2]; exact hkC) (by rw [g2]; exact va_assign hcls) rfl rfl d fun H1 e z oq => ?_
  refine kk _ hK H1 _ ls (hP.put ha ?_ oq) (hS.put z oq (hP a _ ha).2) hl
  show H1[a]? = some (vp_cell _ _)
  rw [e]
  rw [vp_cell_q, vp_cell_q, arrV_store]
  congr 2
  funext q
  by_cases hq : q = i.toNatClampNeg
  · subst hq
    simp [updV, va_up, va_rf]
  · simp [updV, va_up, hq]
theorem go_aastore9 (C : Cx G X own cc nL ret) {a x : Nat} {i : Int32} {K : Hp → Prop} (d : decode cc pc = .ok (.aastore, 1)) (hw : sR h a 9 i x 4 K) (kk : ∀ h1, K h1 → Go G X R nL cells slots Q h1 (pc + 1) L st) : Go G X R nL cells slots Q h pc L (rV (some x) :: iV i :: rV (some a) :: st) := by
  intro H locs ls hP hS hl
  obtain ⟨n, f, ha, hin, ⟨fs, hx⟩, hK⟩ := hw
  have hlt : i.toNatClampNeg < n := Nat.not_le.mp fun q => hin (Or.inr q)
  have h0 : ¬ i < 0 := fun q => hin (Or.inl q)
  obtain ⟨⟨r', hr', cellV, g1, g2, g3, -⟩, -⟩ := hP x _ hx
  have hcls := (C.k.1.1 4 (RX4, TX4, 4) rfl).2
  obtain ⟨kA, comp, k1, k2, k3, -⟩ := (C.k.1.2 9 _ rfl).2
  have hcomp : comp = G.1.1 4 := Option.some.inj (k3.symm.trans hcls.1)
  subst hcomp
  obtain ⟨kC, hkC, -⟩ := hcls.2
  refine W.aast C.1 C.2.1 (hP a _ ha).1 (fun q h => by cases h) (fun h => by cases h) k1 k2 rfl hkC ⟨h0, by show _ < (arrV _ _ _).slots.size; rw [arrV_size]; exact hlt⟩ g1 (fun q h => by rw [g3] at h; cases h) (by rw [g2]; exact hkC) (by rw [g2]; exact va_assign hcls) rfl rfl d fun H1 e z oq => ?_
  refine kk _ hK H1 _ ls (hP.put ha ?_ oq) (hS.put z oq (hP a _ ha).2) hl
  show H1[a]? = some (vp_cell _ _)
  rw [e]
  rw [vp_cell_q, vp_cell_q, arrV_store]
  congr 2
  funext q
  by_cases hq : q = i.toNatClampNeg
  · subst hq
    simp [updV, va_up, va_rf]
  · simp [updV, va_up, hq]
theorem go_fconst0 (C : Cx G X own cc nL ret) (d : decode cc pc = .ok (.fconst 0, 1)) (k : Go G X R nL cells slots Q h (pc + 1) L (fV FP.fconst0 :: st)) : Go G X R nL cells slots Q h pc L st := fun H locs ls hP hS hl => lv_fconst0 C.1 C.2.1 d (k H locs ls hP hS hl)
theorem go_dconst0 (C : Cx G X own cc nL ret) (d : decode cc pc = .ok (.dconst 0, 1)) (k : Go G X R nL cells slots Q h (pc + 1) L (dV FP.dconst0 :: st)) : Go G X R nL cells slots Q h pc L st := fun H locs ls hP hS hl => lv_dconst0 C.1 C.2.1 d (k H locs ls hP hS hl)
end GRF
theorem ex384_388 : EX RX11 "java/lang/ArithmeticException" 384 388 := ⟨by decide +kernel, tw7_66, tw1_26, at_pos [9, 756, 765, 773, 776, 778, 757, 758, 33, 34, 759, 764, 774, 794, 746, 795, 748, 796, 750, 760, 762, 752, 790, 791, 793, 752, 1490, 1491, 1492, 784, 738, 784, 785, 786, 787, 740, 787, 788, 789, 790, 742, 1508, 1489, 1500, 1501, 767, 1495, 1496, 1498, 1494, 755, 754, 1493] (by decide +kernel), by decide +kernel, by decide +kernel⟩
theorem ex74_78 : EX RX11 "java/lang/IllegalArgumentException" 74 78 := ⟨by decide +kernel, tw4_14, tw1_12, at_pos [9, 756, 765, 773, 776, 778, 757, 758, 33, 34, 759, 764, 774, 794, 746, 795, 748, 796, 750, 760, 762, 752, 790, 791, 793, 752, 781, 782, 783, 784, 738, 784, 785, 786, 787, 740, 787, 788, 789, 790, 742, 780, 735, 736, 743, 744, 745, 747, 749, 751, 755, 754, 753] (by decide +kernel), by decide +kernel, by decide +kernel⟩
theorem ex85_89 : EX RX11 "java/lang/IllegalStateException" 85 89 := ⟨by decide +kernel, tw4_136, tw1_14, at_pos [9, 756, 765, 773, 776, 778, 757, 758, 33, 34, 759, 764, 774, 794, 746, 795, 748, 796, 750, 760, 762, 752, 790, 791, 793, 752, 867, 868, 869, 784, 738, 784, 785, 786, 787, 740, 787, 788, 789, 790, 742, 866, 857, 858, 859, 769, 860, 861, 862, 863, 755, 754, 864] (by decide +kernel), by decide +kernel, by decide +kernel⟩
theorem ex410_414 : EX RX11 "java/lang/IndexOutOfBoundsException" 410 414 := ⟨by decide +kernel, tw4_191, tw1_15, at_pos [9, 756, 765, 773, 776, 778, 757, 758, 33, 34, 759, 764, 774, 794, 746, 795, 748, 796, 750, 760, 762, 752, 790, 791, 793, 752, 880, 881, 882, 784, 738, 784, 785, 786, 787, 740, 787, 788, 789, 790, 742, 921, 912, 913, 914, 770, 915, 916, 917, 918, 755, 754, 919] (by decide +kernel), by decide +kernel, by decide +kernel⟩
theorem ex323_327 : EX RX11 "java/lang/UnsupportedOperationException" 323 327 := ⟨by decide +kernel, tw6_85, tw1_24, at_pos [9, 756, 765, 773, 776, 778, 757, 758, 33, 34, 759, 764, 774, 794, 746, 795, 748, 796, 750, 760, 762, 752, 790, 791, 793, 752, 1296, 1297, 1298, 784, 738, 784, 785, 786, 787, 740, 787, 788, 789, 790, 742, 1295, 1286, 1287, 1288, 771, 1289, 1290, 1291, 1292, 755, 754, 1293] (by decide +kernel), by decide +kernel, by decide +kernel⟩
