-- ===== end of PART A; then your names; then what follows =====
/-! THE CLAIM OUT OF ONE WALK OF THE LAW'S BODY. Your part is whole_start (and what it stands on); all else here is the same for every law, but numbers. -/
def R_law : String := "DuelSchemaLaw"
def lw_P (b : Addr) (xs : List Int32) (args : Array Value) (s : State) : Prop := args = #[.ref b] ∧ s.IntsAt b xs ∧ xs.length ≤ 3072 ∧ (Jvm.Cond.and given_1 narrow_1).before args s = true
/-- what a walk over the start with the record d0 says of its end, said of the start itself -/
theorem lw_closed {s t : State} {o : Outcome} {d0 : Drawn} {L : List Loc} {k n : Nat} (hd0 : s.drawn.sameBut d0 lw_cs) (hv : ∃ v, o = .returned v) (hW : (s.setDrawn d0).WarmedH t.vm) (hs : (s.setDrawn d0).sameButNew ({ t with vm := s.vm } : State) L k n) : State.butDraws s t lw_cs (fun t1 => Framed s o t1 L k n) := by
  have h2 : t.drawn = d0 := congrArg State.drawn hs.1
  refine ⟨⟨hv, hW, State.sameButNew.setDrawn hs s.drawn⟩, ?_, by decide⟩
  rw [h2]
  exact hd0
def lw_Q (_ : Array Value) (s : State) (o : Outcome) (t : State) : Prop := o = .returned (some (.int 1)) ∧ State.butDraws s t lw_cs (fun t1 => Framed s o t1 [] 603072 7207018)
def lw_Z (below : List Frame) (a : Array Value) (s : State) : State → Prop := fun t => ∃ o, t.status = .running ∧ Ended t below o ∧ lw_Q a s o t
/-- the law's own end, with 1 on the stack, nothing written that was there before, its room as the claim has it; d0: the record of draws at this point (at the entry s.drawn: begin with 'refine W.base ?_' and 'have hd0 := Drawn.sameBut.refl s.drawn lw_cs') -/
theorem lw_ret {p : Program} {l : Launch} {e : Env} {s : State} {m : MethodId} {below : List Frame} {meth : Method} {c : Code} {b : Nat} {d0 : Drawn} (hd0 : s.drawn.sameBut d0 lw_cs) (hx : p.tables.exec = Jvm.exec) (hb : c.code = code) (hr : meth.sig.returnType = ret) (hlocks : meth.locks = false) {pc : Nat} {H : Heap} {ls : Array Slot} (hdg : decode code pc = .ok (.ireturn, 1)) : W p l e room_1 (s.setDrawn d0) m #[Value.ref b] below meth c H [] 603072 7207018 (lw_Z below #[Value.ref b] s) (F0 m pc ls [.int 1]) := by
  intro T hT X
  obtain ⟨fs, hret, hrun, hended, hW, hframe⟩ := X.leave (v := some (.int 1)) (hlocks := hlocks) (fun h => by rw [hr] at h; cases h)
  have hmeth' : T.vm.method? m = some meth := X.method'
  refine ⟨T.setFrames fs, ?_, .returned (some (.int 1)), hrun, hended, rfl, lw_closed hd0 ⟨_, rfl⟩ hW hframe⟩
  jvm_step X.here [X.here.top, hx, hb, hdg, hmeth', hr, ret, narrow_b1]
  (try refine ⟨rfl, ?_⟩); (try refine ⟨rfl, ?_⟩)
  first | (intro acts; rw [hret _ acts rfl rfl rfl]) | rw [hret _ _ rfl rfl rfl]
  exact Steps.refl _
/-- what holds at the law's entry: the machine, the code, the tables' words (any of lw_tbl by 'hts w (by decide +kernel)'), the script of L ints xs at the cell b, what the Statement gives of the start (any of its parts by flat_of_before) -/
def lw_At (p : Program) (s : State) (m : MethodId) (meth : Method) (c : Code) (b L : Nat) (xs : Nat → Int32) : Prop :=
  p.tables.exec = Jvm.exec ∧ c.code = code ∧ meth.sig.returnType = ret ∧ c.maxLocals = 9 ∧ s.vm.findClass R_law = some m.cls ∧ (∀ w ∈ lw_tbl, w.before #[Value.ref b] s = true) ∧ va_X b L xs s s.heap ∧ b < s.heap.size ∧ meth.locks = false ∧ (Jvm.Cond.and given_1 narrow_1).before #[Value.ref b] s = true

section GRM
variable {G : Gp} {X : Kx} {own : String} {cc : ByteArray} {nL : Nat} {ret : Option FieldType} {R : Room} {cells slots : Nat} {Q : State → Prop} {h : Hp} {pc : Nat} {L : List (Nat × Tv)} {st st0 : List Tv}
def aS (Ln : Nat) (xs9 : Nat → Int32) (i : Int32) (K : Int32 → Prop) : Prop := vp_in i Ln ∧ K (xs9 i.toNatClampNeg)
def Sc (G : Gp) (X : Kx) (b Ln : Nat) (xs9 : Nat → Int32) : Prop := va_X b Ln xs9 (xs X) (xs X).heap ∧ b < (xs X).heap.size ∧ ¬ AA G b
theorem go_sld (C : Cx G X own cc nL ret) {b Ln : Nat} {xs9 : Nat → Int32} (S : Sc G X b Ln xs9) {i : Int32} {K : Int32 → Prop} (d : decode cc pc = .ok (.iaload, 1)) (hw : aS Ln xs9 i K) (kk : ∀ v, K v → Go G X R nL cells slots Q h (pc + 1) L (iV v :: st)) : Go G X R nL cells slots Q h pc L (iV i :: rV (some b) :: st) := fun H locs ls hP hS hl => va_sld C.1 C.2.1 S.1 S.2.1 S.2.2 hS hw.1 d (kk _ hw.2 H locs ls hP hS hl)
theorem go_slen (C : Cx G X own cc nL ret) {b Ln : Nat} {xs9 : Nat → Int32} (S : Sc G X b Ln xs9) (d : decode cc pc = .ok (.arraylength, 1)) (kk : Go G X R nL cells slots Q h (pc + 1) L (iV (Int32.ofNat Ln) :: st)) : Go G X R nL cells slots Q h pc L (rV (some b) :: st) := fun H locs ls hP hS hl => va_slen C.1 C.2.1 S.1 S.2.1 S.2.2 hS d (kk H locs ls hP hS hl)
theorem go_tswIn (C : Cx G X own cc nL ret) {dflt hi : Int} {offs : Array Int} {len : Nat} {x : Int32} {off : Int} {tgt : Nat} (k : Nat) (he : x = nI k) (hk : k < 100) (hhi : (k : Int) ≤ hi) (d : decode cc pc = .ok (.tableswitch dflt 0 hi offs, len)) (ho : offs[k]? = some off) (ht : (pc : Int) + off = (tgt : Int)) (kk : Go G X R nL cells slots Q h tgt L st) : Go G X R nL cells slots Q h pc L (iV x :: st) := by
  intro H locs ls hP hS hl
  have e1 : x.toInt = (k : Int) := by rw [he]; exact nI_toInt (by omega)
  refine lv_tableIn C.1 C.2.1 d (by rw [e1]; omega) (by rw [e1]; omega) (off := off) ?_ ht (kk H locs ls hP hS hl)
  rw [e1]
  simpa using ho
theorem go_icmp_gtc (C : Cx G X own cc nL ret) {x y : Int32} {off : Int} {A B : Prop} (tgt : Nat) (d : decode cc pc = .ok (.if_icmp .gt off, 3)) (ht : (pc : Int) + off = (tgt : Int)) (hw : br (y < x) A B) (kt : y < x → A → Go G X R nL cells slots Q h tgt L st) (kf : ¬ y < x → B → Go G X R nL cells slots Q h (pc + 3) L st) : Go G X R nL cells slots Q h pc L (iV y :: iV x :: st) := fun H locs ls hP hS hl => lv_icmp_gt C.1 C.2.1 d ht (fun q => kt q (hw.1 q) H locs ls hP hS hl) (fun q => kf q (hw.2 q) H locs ls hP hS hl)
theorem tsw_out {x : Int32} {n : Nat} (hn : n < 1000) (h : ∀ k, k < n → x ≠ nI k) : x.toInt < 0 ∨ (n : Int) - 1 < x.toInt := by
  by_cases h0 : x.toInt < 0
  · exact Or.inl h0
  · by_cases h1 : (n : Int) - 1 < x.toInt
    · exact Or.inr h1
    · exfalso
      have h2 : ¬ x < 0 := by
        intro q
        have := Int32.lt_iff_toInt_lt.mp q
        simp at this
        omega
      obtain ⟨j, hj, rfl⟩ := nI_of h2
      rw [nI_toInt hj] at h1
      exact h j (by omega) rfl
theorem go_tswOut (C : Cx G X own cc nL ret) {dflt hi : Int} {offs : Array Int} {len : Nat} {x : Int32} {tgt : Nat} (n : Nat) (hn : n < 1000) (hhi : hi = (n : Int) - 1) (hx : ∀ k, k < n → x ≠ nI k) (d : decode cc pc = .ok (.tableswitch dflt 0 hi offs, len)) (ht : (pc : Int) + dflt = (tgt : Int)) (kk : Go G X R nL cells slots Q h tgt L st) : Go G X R nL cells slots Q h pc L (iV x :: st) := by
  intro H locs ls hP hS hl
  subst hhi
  exact lv_tableOut C.1 C.2.1 d (tsw_out hn hx) ht (kk H locs ls hP hS hl)
end GRM
theorem go_lend {G : Gp} {p : Program} {l : Launch} {e : Env} {s : State} {m : MethodId} {below : List Frame} {meth : Method} {c : Code} {b : Nat} {nL cells slots : Nat} {h : Hp} {pc : Nat} {L : List (Nat × Tv)} (hx : p.tables.exec = Jvm.exec) (hb : c.code = code) (hr : meth.sig.returnType = ret) (hlocks : meth.locks = false) (hG : G.2.2.1 = s.heap.size) (hdg : decode code pc = .ok (.ireturn, 1)) (hc : cells ≤ 603072) (hs : slots ≤ 7207018) : Go G (p, l, e, s.setDrawn s.drawn, m, #[Value.ref b], below, meth, c) room_1 nL cells slots (lw_Z below #[Value.ref b] s) h pc L [iV 1] := by
  intro H locs ls hP hS hl
  refine va_forget (fun q hq => by have h9 := hS.2.2 q hq; show s.heap.size ≤ q.base; rw [← hG]; exact h9) ?_
  refine W.widen hc hs ?_
  exact lw_ret (Drawn.sameBut.refl s.drawn lw_cs) hx hb hr hlocks hdg

