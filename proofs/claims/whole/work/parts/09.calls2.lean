section VXQ
variable {p : Program} {l : Launch} {e : Env} {R : Room} {s : State} {m : MethodId} {args : Array Value} {below : List Frame} {meth : Method} {c : Code} {H : Heap} {locs : List Loc} {cells slots : Nat} {Q : State → Prop}
variable {mc ms : Nat} {free : Addr → Prop} {A0 A1 : Nat → Prop} {H0 : Heap} {a : Array Value} {pc : Nat} {ls : Array Slot} {st0 rest : List Value}
theorem vx_callq {S SX : Type} {post : Option Nat → S → Prop} {px : SX → Prop} {B : S → State → Prop} {BX : String → SX → State → Prop} {AX : Nat → Prop} (hr : vx_Run p l e R s m args below meth c H locs cells slots mc ms (F0 m pc ls st0) rest (va_Qq post B A1 a) (vx_X px BX AX) free) (hS : va_S A0 H0 H locs) (hA : ∀ q, q < H.size → A1 q → A0 q) (hf : ∀ q, free q → A0 q) (hAX : ∀ q, q < H.size → AX q → A0 q)
    (kx : ∀ (E : String) (ce : Cell) (q9 : Addr) (u : SX) (t : State) (H1 : Heap) (locs1 : List Loc), t.heap = H1 → s.vm.Alike t.vm → px u → BX E u t → H.size ≤ H1.size → (∀ q : Nat, q < H.size → ¬ AX q → H1[q]? = H[q]?) → va_S A0 H0 H1 locs1 → H1[q9]? = some ce → ce.vm = .none → s.vm.findClass E = some ce.cls → vx_W p l e R s m args below meth c H1 locs1 (cells + mc) (slots + ms) Q (F0 m pc ls rest) q9)
    (kk : ∀ (r : Option Nat) (u : S) (t : State) (H1 : Heap) (locs1 : List Loc), t.heap = H1 → s.vm.Alike t.vm → post r u → B u t → H.size ≤ H1.size → (∀ q : Nat, q < H.size → ¬ A1 q → H1[q]? = H[q]?) → va_S A0 H0 H1 locs1 → W p l e R s m args below meth c H1 locs1 (cells + mc) (slots + ms) Q (F0 m (pc + 3) ls (va_rf r :: rest))) : W p l e R s m args below meth c H locs cells slots Q (F0 m pc ls st0) := by
  intro T hT X
  rcases hr T hT X with ⟨v, st₀, t, T', L, h0, X', hL, e1, e2, ⟨⟨r, u, hv, hp, hb⟩, hF⟩, st⟩ | ⟨q, st₀, t, T', L, E, ce, h0, X', hL, e1, e2, ⟨u, hp, hb, hF⟩, hce, hcv, hcl, st⟩
  · cases hv
    obtain ⟨k1, k2, k3⟩ := vx_keep h0 e1 hS hA hf hL hF
    obtain ⟨t2, a1, b1⟩ := kk r u t T'.heap (locs ++ L) e1.symm (by rw [← e2]; exact X'.warmed.alike) hp hb k1 k2 k3 T' rfl X'
    exact ⟨t2, st t2 a1, b1⟩
  · obtain ⟨k1, k2, k3⟩ := vx_keep h0 e1 hS hAX hf hL hF
    obtain ⟨t2, a1, b1⟩ := kx E ce q u t T'.heap (locs ++ L) e1.symm (by rw [← e2]; exact X'.warmed.alike) hp hb k1 k2 k3 (by rw [e1]; exact hce) hcv hcl T' rfl X'
    exact ⟨t2, st.trans a1, b1⟩
end VXQ
section GRD
variable {G : Gp} {X : Kx} {own : String} {cc : ByteArray} {nL : Nat} {ret : Option FieldType} {R : Room} {cells slots : Nat} {Q : State → Prop} {h : Hp} {pc : Nat} {L : List (Nat × Tv)} {st st0 : List Tv}
variable {y : MethodName} {bytes : ByteArray} {maxL n idx : Nat} {rt : Option FieldType} {rm : Room} {KX : String → Hp → Prop}
theorem go_callV_i (C : Cx G X own cc nL ret) {b ci : Nat} {Cn : String} {T : u_T} {N : Nat} (As : List Tv) {K : Int32 → Hp → Prop} (V : VI Cn y bytes maxL rt n) (hlk : Cond.methodLink own idx y ∈ lw_all) (cf : kcl[ci]? = some (Cn, T, N)) (M : MT G (xl X) y bytes maxL rt rm (rV (some b) :: As) h (QI G K)) (hR : RmOk rm maxL R cells slots) (hcv : ∃ fs, h b = some (.inr (ci, fs))) (d : decode cc pc = .ok (.invokevirtual idx, 3)) (hn : As.length = n) (h8 : (st.map (fun v => if wide v then 2 else 1)).sum ≤ 8) (e : st0 = As.reverse ++ rV (some b) :: st) (kk : ∀ r h1, K r h1 → Go G X R nL (cells + rm.cells) (slots + rm.slots) Q h1 (pc + 3) L (iV r :: st)) : Go G X R nL cells slots Q h pc L st0 := by
  intro H locs ls hP hS hl
  refine va_calli (go_runV C V hlk cf M hR hcv d hn h8 e hP hS hl) hS (fun q _ hq => hq) (fun q hq => hq) (fun r u t H1 locs1 ht hvm hw hB hz hk hS1 => ?_)
  have hB1 : Rp G u H1 := by rw [← ht]; exact hB
  exact kk r u hw H1 locs1 ls hB1 hS1 hl
theorem go_callV_l (C : Cx G X own cc nL ret) {b ci : Nat} {Cn : String} {T : u_T} {N : Nat} (As : List Tv) {K : Int64 → Hp → Prop} (V : VI Cn y bytes maxL rt n) (hlk : Cond.methodLink own idx y ∈ lw_all) (cf : kcl[ci]? = some (Cn, T, N)) (M : MT G (xl X) y bytes maxL rt rm (rV (some b) :: As) h (QL G K)) (hR : RmOk rm maxL R cells slots) (hcv : ∃ fs, h b = some (.inr (ci, fs))) (d : decode cc pc = .ok (.invokevirtual idx, 3)) (hn : As.length = n) (h8 : (st.map (fun v => if wide v then 2 else 1)).sum ≤ 8) (e : st0 = As.reverse ++ rV (some b) :: st) (kk : ∀ r h1, K r h1 → Go G X R nL (cells + rm.cells) (slots + rm.slots) Q h1 (pc + 3) L (lV r :: st)) : Go G X R nL cells slots Q h pc L st0 := by
  intro H locs ls hP hS hl
  refine va_calll (go_runV C V hlk cf M hR hcv d hn h8 e hP hS hl) hS (fun q _ hq => hq) (fun q hq => hq) (fun r u t H1 locs1 ht hvm hw hB hz hk hS1 => ?_)
  have hB1 : Rp G u H1 := by rw [← ht]; exact hB
  exact kk r u hw H1 locs1 ls hB1 hS1 hl
theorem go_callV_f (C : Cx G X own cc nL ret) {b ci : Nat} {Cn : String} {T : u_T} {N : Nat} (As : List Tv) {K : UInt32 → Hp → Prop} (V : VI Cn y bytes maxL rt n) (hlk : Cond.methodLink own idx y ∈ lw_all) (cf : kcl[ci]? = some (Cn, T, N)) (M : MT G (xl X) y bytes maxL rt rm (rV (some b) :: As) h (QF G K)) (hR : RmOk rm maxL R cells slots) (hcv : ∃ fs, h b = some (.inr (ci, fs))) (d : decode cc pc = .ok (.invokevirtual idx, 3)) (hn : As.length = n) (h8 : (st.map (fun v => if wide v then 2 else 1)).sum ≤ 8) (e : st0 = As.reverse ++ rV (some b) :: st) (kk : ∀ r h1, K r h1 → Go G X R nL (cells + rm.cells) (slots + rm.slots) Q h1 (pc + 3) L (fV r :: st)) : Go G X R nL cells slots Q h pc L st0 := by
  intro H locs ls hP hS hl
  refine va_callf (go_runV C V hlk cf M hR hcv d hn h8 e hP hS hl) hS (fun q _ hq => hq) (fun q hq => hq) (fun r u t H1 locs1 ht hvm hw hB hz hk hS1 => ?_)
  have hB1 : Rp G u H1 := by rw [← ht]; exact hB
  exact kk r u hw H1 locs1 ls hB1 hS1 hl
theorem go_callV_d (C : Cx G X own cc nL ret) {b ci : Nat} {Cn : String} {T : u_T} {N : Nat} (As : List Tv) {K : UInt64 → Hp → Prop} (V : VI Cn y bytes maxL rt n) (hlk : Cond.methodLink own idx y ∈ lw_all) (cf : kcl[ci]? = some (Cn, T, N)) (M : MT G (xl X) y bytes maxL rt rm (rV (some b) :: As) h (QD G K)) (hR : RmOk rm maxL R cells slots) (hcv : ∃ fs, h b = some (.inr (ci, fs))) (d : decode cc pc = .ok (.invokevirtual idx, 3)) (hn : As.length = n) (h8 : (st.map (fun v => if wide v then 2 else 1)).sum ≤ 8) (e : st0 = As.reverse ++ rV (some b) :: st) (kk : ∀ r h1, K r h1 → Go G X R nL (cells + rm.cells) (slots + rm.slots) Q h1 (pc + 3) L (dV r :: st)) : Go G X R nL cells slots Q h pc L st0 := by
  intro H locs ls hP hS hl
  refine va_calld (go_runV C V hlk cf M hR hcv d hn h8 e hP hS hl) hS (fun q _ hq => hq) (fun q hq => hq) (fun r u t H1 locs1 ht hvm hw hB hz hk hS1 => ?_)
  have hB1 : Rp G u H1 := by rw [← ht]; exact hB
  exact kk r u hw H1 locs1 ls hB1 hS1 hl
theorem go_callV_q (C : Cx G X own cc nL ret) {b ci : Nat} {Cn : String} {T : u_T} {N : Nat} (As : List Tv) {K : Option Nat → Hp → Prop} (V : VI Cn y bytes maxL rt n) (hlk : Cond.methodLink own idx y ∈ lw_all) (cf : kcl[ci]? = some (Cn, T, N)) (M : MT G (xl X) y bytes maxL rt rm (rV (some b) :: As) h (QR G K)) (hR : RmOk rm maxL R cells slots) (hcv : ∃ fs, h b = some (.inr (ci, fs))) (d : decode cc pc = .ok (.invokevirtual idx, 3)) (hn : As.length = n) (h8 : (st.map (fun v => if wide v then 2 else 1)).sum ≤ 8) (e : st0 = As.reverse ++ rV (some b) :: st) (kk : ∀ r h1, K r h1 → Go G X R nL (cells + rm.cells) (slots + rm.slots) Q h1 (pc + 3) L (rV r :: st)) : Go G X R nL cells slots Q h pc L st0 := by
  intro H locs ls hP hS hl
  refine va_callq (go_runV C V hlk cf M hR hcv d hn h8 e hP hS hl) hS (fun q _ hq => hq) (fun q hq => hq) (fun r u t H1 locs1 ht hvm hw hB hz hk hS1 => ?_)
  have hB1 : Rp G u H1 := by rw [← ht]; exact hB
  exact kk r u hw H1 locs1 ls hB1 hS1 hl
theorem go_callV_v (C : Cx G X own cc nL ret) {b ci : Nat} {Cn : String} {T : u_T} {N : Nat} (As : List Tv) {K : Hp → Prop} (V : VI Cn y bytes maxL rt n) (hlk : Cond.methodLink own idx y ∈ lw_all) (cf : kcl[ci]? = some (Cn, T, N)) (M : MT G (xl X) y bytes maxL rt rm (rV (some b) :: As) h (QV G K)) (hR : RmOk rm maxL R cells slots) (hcv : ∃ fs, h b = some (.inr (ci, fs))) (d : decode cc pc = .ok (.invokevirtual idx, 3)) (hn : As.length = n) (h8 : (st.map (fun v => if wide v then 2 else 1)).sum ≤ 8) (e : st0 = As.reverse ++ rV (some b) :: st) (kk : ∀ h1, K h1 → Go G X R nL (cells + rm.cells) (slots + rm.slots) Q h1 (pc + 3) L (st)) : Go G X R nL cells slots Q h pc L st0 := by
  intro H locs ls hP hS hl
  refine va_callv (go_runV C V hlk cf M hR hcv d hn h8 e hP hS hl) hS (fun q _ hq => hq) (fun q hq => hq) (fun u t H1 locs1 ht hvm hw hB hz hk hS1 => ?_)
  have hB1 : Rp G u H1 := by rw [← ht]; exact hB
  exact kk u hw H1 locs1 ls hB1 hS1 hl
theorem go_callS_i (C : Cx G X own cc nL ret)  (As : List Tv) {K : Int32 → Hp → Prop} (V : SI y bytes maxL rt n) (hlk : Cond.methodLink own idx y ∈ lw_all)  (M : MT G (xl X) y bytes maxL rt rm As h (QI G K)) (hR : RmOk rm maxL R cells slots)  (d : decode cc pc = .ok (.invokestatic idx, 3)) (hn : As.length = n) (h8 : (st.map (fun v => if wide v then 2 else 1)).sum ≤ 8) (e : st0 = As.reverse ++ st) (kk : ∀ r h1, K r h1 → Go G X R nL (cells + rm.cells) (slots + rm.slots) Q h1 (pc + 3) L (iV r :: st)) : Go G X R nL cells slots Q h pc L st0 := by
  intro H locs ls hP hS hl
  refine va_calli (go_runS C V hlk M hR d hn h8 e hP hS hl) hS (fun q _ hq => hq) (fun q hq => hq) (fun r u t H1 locs1 ht hvm hw hB hz hk hS1 => ?_)
  have hB1 : Rp G u H1 := by rw [← ht]; exact hB
  exact kk r u hw H1 locs1 ls hB1 hS1 hl
theorem go_callS_l (C : Cx G X own cc nL ret)  (As : List Tv) {K : Int64 → Hp → Prop} (V : SI y bytes maxL rt n) (hlk : Cond.methodLink own idx y ∈ lw_all)  (M : MT G (xl X) y bytes maxL rt rm As h (QL G K)) (hR : RmOk rm maxL R cells slots)  (d : decode cc pc = .ok (.invokestatic idx, 3)) (hn : As.length = n) (h8 : (st.map (fun v => if wide v then 2 else 1)).sum ≤ 8) (e : st0 = As.reverse ++ st) (kk : ∀ r h1, K r h1 → Go G X R nL (cells + rm.cells) (slots + rm.slots) Q h1 (pc + 3) L (lV r :: st)) : Go G X R nL cells slots Q h pc L st0 := by
  intro H locs ls hP hS hl
  refine va_calll (go_runS C V hlk M hR d hn h8 e hP hS hl) hS (fun q _ hq => hq) (fun q hq => hq) (fun r u t H1 locs1 ht hvm hw hB hz hk hS1 => ?_)
  have hB1 : Rp G u H1 := by rw [← ht]; exact hB
  exact kk r u hw H1 locs1 ls hB1 hS1 hl
theorem go_callS_f (C : Cx G X own cc nL ret)  (As : List Tv) {K : UInt32 → Hp → Prop} (V : SI y bytes maxL rt n) (hlk : Cond.methodLink own idx y ∈ lw_all)  (M : MT G (xl X) y bytes maxL rt rm As h (QF G K)) (hR : RmOk rm maxL R cells slots)  (d : decode cc pc = .ok (.invokestatic idx, 3)) (hn : As.length = n) (h8 : (st.map (fun v => if wide v then 2 else 1)).sum ≤ 8) (e : st0 = As.reverse ++ st) (kk : ∀ r h1, K r h1 → Go G X R nL (cells + rm.cells) (slots + rm.slots) Q h1 (pc + 3) L (fV r :: st)) : Go G X R nL cells slots Q h pc L st0 := by
  intro H locs ls hP hS hl
  refine va_callf (go_runS C V hlk M hR d hn h8 e hP hS hl) hS (fun q _ hq => hq) (fun q hq => hq) (fun r u t H1 locs1 ht hvm hw hB hz hk hS1 => ?_)
  have hB1 : Rp G u H1 := by rw [← ht]; exact hB
  exact kk r u hw H1 locs1 ls hB1 hS1 hl
theorem go_callS_d (C : Cx G X own cc nL ret)  (As : List Tv) {K : UInt64 → Hp → Prop} (V : SI y bytes maxL rt n) (hlk : Cond.methodLink own idx y ∈ lw_all)  (M : MT G (xl X) y bytes maxL rt rm As h (QD G K)) (hR : RmOk rm maxL R cells slots)  (d : decode cc pc = .ok (.invokestatic idx, 3)) (hn : As.length = n) (h8 : (st.map (fun v => if wide v then 2 else 1)).sum ≤ 8) (e : st0 = As.reverse ++ st) (kk : ∀ r h1, K r h1 → Go G X R nL (cells + rm.cells) (slots + rm.slots) Q h1 (pc + 3) L (dV r :: st)) : Go G X R nL cells slots Q h pc L st0 := by
  intro H locs ls hP hS hl
  refine va_calld (go_runS C V hlk M hR d hn h8 e hP hS hl) hS (fun q _ hq => hq) (fun q hq => hq) (fun r u t H1 locs1 ht hvm hw hB hz hk hS1 => ?_)
  have hB1 : Rp G u H1 := by rw [← ht]; exact hB
  exact kk r u hw H1 locs1 ls hB1 hS1 hl
theorem go_callS_q (C : Cx G X own cc nL ret)  (As : List Tv) {K : Option Nat → Hp → Prop} (V : SI y bytes maxL rt n) (hlk : Cond.methodLink own idx y ∈ lw_all)  (M : MT G (xl X) y bytes maxL rt rm As h (QR G K)) (hR : RmOk rm maxL R cells slots)  (d : decode cc pc = .ok (.invokestatic idx, 3)) (hn : As.length = n) (h8 : (st.map (fun v => if wide v then 2 else 1)).sum ≤ 8) (e : st0 = As.reverse ++ st) (kk : ∀ r h1, K r h1 → Go G X R nL (cells + rm.cells) (slots + rm.slots) Q h1 (pc + 3) L (rV r :: st)) : Go G X R nL cells slots Q h pc L st0 := by
  intro H locs ls hP hS hl
  refine va_callq (go_runS C V hlk M hR d hn h8 e hP hS hl) hS (fun q _ hq => hq) (fun q hq => hq) (fun r u t H1 locs1 ht hvm hw hB hz hk hS1 => ?_)
  have hB1 : Rp G u H1 := by rw [← ht]; exact hB
  exact kk r u hw H1 locs1 ls hB1 hS1 hl
theorem go_callS_v (C : Cx G X own cc nL ret)  (As : List Tv) {K : Hp → Prop} (V : SI y bytes maxL rt n) (hlk : Cond.methodLink own idx y ∈ lw_all)  (M : MT G (xl X) y bytes maxL rt rm As h (QV G K)) (hR : RmOk rm maxL R cells slots)  (d : decode cc pc = .ok (.invokestatic idx, 3)) (hn : As.length = n) (h8 : (st.map (fun v => if wide v then 2 else 1)).sum ≤ 8) (e : st0 = As.reverse ++ st) (kk : ∀ h1, K h1 → Go G X R nL (cells + rm.cells) (slots + rm.slots) Q h1 (pc + 3) L (st)) : Go G X R nL cells slots Q h pc L st0 := by
  intro H locs ls hP hS hl
  refine va_callv (go_runS C V hlk M hR d hn h8 e hP hS hl) hS (fun q _ hq => hq) (fun q hq => hq) (fun u t H1 locs1 ht hvm hw hB hz hk hS1 => ?_)
  have hB1 : Rp G u H1 := by rw [← ht]; exact hB
  exact kk u hw H1 locs1 ls hB1 hS1 hl
theorem go_callSN_i (C : Cx G X own cc nL ret) {host : String} (As : List Tv) {K : Int32 → Hp → Prop} (V : SI y bytes maxL rt n) (hlk : Cond.methodLinkNest own idx y host ∈ tables_1)  (M : MT G (xl X) y bytes maxL rt rm As h (QI G K)) (hR : RmOk rm maxL R cells slots)  (d : decode cc pc = .ok (.invokestatic idx, 3)) (hn : As.length = n) (h8 : (st.map (fun v => if wide v then 2 else 1)).sum ≤ 8) (e : st0 = As.reverse ++ st) (kk : ∀ r h1, K r h1 → Go G X R nL (cells + rm.cells) (slots + rm.slots) Q h1 (pc + 3) L (iV r :: st)) : Go G X R nL cells slots Q h pc L st0 := by
  intro H locs ls hP hS hl
  refine va_calli (go_runSN C V hlk M hR d hn h8 e hP hS hl) hS (fun q _ hq => hq) (fun q hq => hq) (fun r u t H1 locs1 ht hvm hw hB hz hk hS1 => ?_)
  have hB1 : Rp G u H1 := by rw [← ht]; exact hB
  exact kk r u hw H1 locs1 ls hB1 hS1 hl
theorem go_callSN_l (C : Cx G X own cc nL ret) {host : String} (As : List Tv) {K : Int64 → Hp → Prop} (V : SI y bytes maxL rt n) (hlk : Cond.methodLinkNest own idx y host ∈ tables_1)  (M : MT G (xl X) y bytes maxL rt rm As h (QL G K)) (hR : RmOk rm maxL R cells slots)  (d : decode cc pc = .ok (.invokestatic idx, 3)) (hn : As.length = n) (h8 : (st.map (fun v => if wide v then 2 else 1)).sum ≤ 8) (e : st0 = As.reverse ++ st) (kk : ∀ r h1, K r h1 → Go G X R nL (cells + rm.cells) (slots + rm.slots) Q h1 (pc + 3) L (lV r :: st)) : Go G X R nL cells slots Q h pc L st0 := by
  intro H locs ls hP hS hl
  refine va_calll (go_runSN C V hlk M hR d hn h8 e hP hS hl) hS (fun q _ hq => hq) (fun q hq => hq) (fun r u t H1 locs1 ht hvm hw hB hz hk hS1 => ?_)
  have hB1 : Rp G u H1 := by rw [← ht]; exact hB
  exact kk r u hw H1 locs1 ls hB1 hS1 hl
theorem go_callSN_f (C : Cx G X own cc nL ret) {host : String} (As : List Tv) {K : UInt32 → Hp → Prop} (V : SI y bytes maxL rt n) (hlk : Cond.methodLinkNest own idx y host ∈ tables_1)  (M : MT G (xl X) y bytes maxL rt rm As h (QF G K)) (hR : RmOk rm maxL R cells slots)  (d : decode cc pc = .ok (.invokestatic idx, 3)) (hn : As.length = n) (h8 : (st.map (fun v => if wide v then 2 else 1)).sum ≤ 8) (e : st0 = As.reverse ++ st) (kk : ∀ r h1, K r h1 → Go G X R nL (cells + rm.cells) (slots + rm.slots) Q h1 (pc + 3) L (fV r :: st)) : Go G X R nL cells slots Q h pc L st0 := by
  intro H locs ls hP hS hl
  refine va_callf (go_runSN C V hlk M hR d hn h8 e hP hS hl) hS (fun q _ hq => hq) (fun q hq => hq) (fun r u t H1 locs1 ht hvm hw hB hz hk hS1 => ?_)
  have hB1 : Rp G u H1 := by rw [← ht]; exact hB
  exact kk r u hw H1 locs1 ls hB1 hS1 hl
theorem go_callSN_d (C : Cx G X own cc nL ret) {host : String} (As : List Tv) {K : UInt64 → Hp → Prop} (V : SI y bytes maxL rt n) (hlk : Cond.methodLinkNest own idx y host ∈ tables_1)  (M : MT G (xl X) y bytes maxL rt rm As h (QD G K)) (hR : RmOk rm maxL R cells slots)  (d : decode cc pc = .ok (.invokestatic idx, 3)) (hn : As.length = n) (h8 : (st.map (fun v => if wide v then 2 else 1)).sum ≤ 8) (e : st0 = As.reverse ++ st) (kk : ∀ r h1, K r h1 → Go G X R nL (cells + rm.cells) (slots + rm.slots) Q h1 (pc + 3) L (dV r :: st)) : Go G X R nL cells slots Q h pc L st0 := by
  intro H locs ls hP hS hl
  refine va_calld (go_runSN C V hlk M hR d hn h8 e hP hS hl) hS (fun q _ hq => hq) (fun q hq => hq) (fun r u t H1 locs1 ht hvm hw hB hz hk hS1 => ?_)
  have hB1 : Rp G u H1 := by rw [← ht]; exact hB
  exact kk r u hw H1 locs1 ls hB1 hS1 hl
theorem go_callSN_q (C : Cx G X own cc nL ret) {host : String} (As : List Tv) {K : Option Nat → Hp → Prop} (V : SI y bytes maxL rt n) (hlk : Cond.methodLinkNest own idx y host ∈ tables_1)  (M : MT G (xl X) y bytes maxL rt rm As h (QR G K)) (hR : RmOk rm maxL R cells slots)  (d : decode cc pc = .ok (.invokestatic idx, 3)) (hn : As.length = n) (h8 : (st.map (fun v => if wide v then 2 else 1)).sum ≤ 8) (e : st0 = As.reverse ++ st) (kk : ∀ r h1, K r h1 → Go G X R nL (cells + rm.cells) (slots + rm.slots) Q h1 (pc + 3) L (rV r :: st)) : Go G X R nL cells slots Q h pc L st0 := by
  intro H locs ls hP hS hl
  refine va_callq (go_runSN C V hlk M hR d hn h8 e hP hS hl) hS (fun q _ hq => hq) (fun q hq => hq) (fun r u t H1 locs1 ht hvm hw hB hz hk hS1 => ?_)
  have hB1 : Rp G u H1 := by rw [← ht]; exact hB
  exact kk r u hw H1 locs1 ls hB1 hS1 hl
theorem go_callSN_v (C : Cx G X own cc nL ret) {host : String} (As : List Tv) {K : Hp → Prop} (V : SI y bytes maxL rt n) (hlk : Cond.methodLinkNest own idx y host ∈ tables_1)  (M : MT G (xl X) y bytes maxL rt rm As h (QV G K)) (hR : RmOk rm maxL R cells slots)  (d : decode cc pc = .ok (.invokestatic idx, 3)) (hn : As.length = n) (h8 : (st.map (fun v => if wide v then 2 else 1)).sum ≤ 8) (e : st0 = As.reverse ++ st) (kk : ∀ h1, K h1 → Go G X R nL (cells + rm.cells) (slots + rm.slots) Q h1 (pc + 3) L (st)) : Go G X R nL cells slots Q h pc L st0 := by
  intro H locs ls hP hS hl
  refine va_callv (go_runSN C V hlk M hR d hn h8 e hP hS hl) hS (fun q _ hq => hq) (fun q hq => hq) (fun u t H1 locs1 ht hvm hw hB hz hk hS1 => ?_)
  have hB1 : Rp G u H1 := by rw [← ht]; exact hB
  exact kk u hw H1 locs1 ls hB1 hS1 hl
theorem go_callI_v (C : Cx G X own cc nL ret) {b : Nat} (As : List Tv) {K : Hp → Prop} (V : II y bytes maxL n) (hlk : Cond.methodLink own idx y ∈ lw_all)  (M : MT G (xl X) y bytes maxL none rm (rV (some b) :: As) h (QV G K)) (hR : RmOk rm maxL R cells slots)  (d : decode cc pc = .ok (.invokespecial idx, 3)) (hn : As.length = n) (h8 : (st.map (fun v => if wide v then 2 else 1)).sum ≤ 8) (e : st0 = As.reverse ++ rV (some b) :: st) (kk : ∀ h1, K h1 → Go G X R nL (cells + rm.cells) (slots + rm.slots) Q h1 (pc + 3) L (st)) : Go G X R nL cells slots Q h pc L st0 := by
  intro H locs ls hP hS hl
  refine va_callv (go_runI C V hlk M hR d hn h8 e hP hS hl) hS (fun q _ hq => hq) (fun q hq => hq) (fun u t H1 locs1 ht hvm hw hB hz hk hS1 => ?_)
  have hB1 : Rp G u H1 := by rw [← ht]; exact hB
  exact kk u hw H1 locs1 ls hB1 hS1 hl
theorem go_callIN_v (C : Cx G X own cc nL ret) {b : Nat} {host : String} (As : List Tv) {K : Hp → Prop} (V : II y bytes maxL n) (hlk : Cond.methodLinkNest own idx y host ∈ tables_1)  (M : MT G (xl X) y bytes maxL none rm (rV (some b) :: As) h (QV G K)) (hR : RmOk rm maxL R cells slots)  (d : decode cc pc = .ok (.invokespecial idx, 3)) (hn : As.length = n) (h8 : (st.map (fun v => if wide v then 2 else 1)).sum ≤ 8) (e : st0 = As.reverse ++ rV (some b) :: st) (kk : ∀ h1, K h1 → Go G X R nL (cells + rm.cells) (slots + rm.slots) Q h1 (pc + 3) L (st)) : Go G X R nL cells slots Q h pc L st0 := by
  intro H locs ls hP hS hl
  refine va_callv (go_runIN C V hlk M hR d hn h8 e hP hS hl) hS (fun q _ hq => hq) (fun q hq => hq) (fun u t H1 locs1 ht hvm hw hB hz hk hS1 => ?_)
  have hB1 : Rp G u H1 := by rw [← ht]; exact hB
  exact kk u hw H1 locs1 ls hB1 hS1 hl
theorem go_xcallV_i {Qo : Array Value → State → Outcome → State → Prop} {rmo : Room} (C : Cx G X own cc nL ret) (hno : ∀ x ∈ (xc X).exceptionTable.toList, False) {b ci : Nat} {Cn : String} {T : u_T} {N : Nat} (As : List Tv) {K : Int32 → Hp → Prop} (V : VI Cn y bytes maxL rt n) (hlk : Cond.methodLink own idx y ∈ lw_all) (cf : kcl[ci]? = some (Cn, T, N)) (M : MX G (xl X) y bytes maxL rt rm (rV (some b) :: As) h (QI G K) KX) (hR : RmOk rm maxL R cells slots) (hO : cells + rm.cells ≤ rmo.cells ∧ slots + rm.slots ≤ rmo.slots) (hcv : ∃ fs, h b = some (.inr (ci, fs))) (d : decode cc pc = .ok (.invokevirtual idx, 3)) (hn : As.length = n) (h8 : (st.map (fun v => if wide v then 2 else 1)).sum ≤ 8) (e : st0 = As.reverse ++ rV (some b) :: st) (kk : ∀ r h1, K r h1 → Go G X R nL (cells + rm.cells) (slots + rm.slots) (QX G X Qo KX rmo) h1 (pc + 3) L (iV r :: st)) : Go G X R nL cells slots (QX G X Qo KX rmo) h pc L st0 := by
  intro H locs ls hP hS hl
  refine vx_calli (go_xrunV C V hlk cf M hR hcv d hn h8 e hP hS hl) hS (fun q _ hq => hq) (fun q hq => hq) (fun q _ hq => hq) (fun E ce q9 u t H1 locs1 ht hvm hpx hB hz hk hS1 hce hcv9 hcl => ?_) (fun r u t H1 locs1 ht hvm hw hB hz hk hS1 => ?_)
  · refine vx_out (fun x hx => (hno x hx).elim) C.2.2.2.2.2.2.1 hce hcv9 hcl (fun t9 ht9 hW9 => ?_) (fun z hz => hS1.2.2 z hz) hO.1 hO.2
    exact ⟨u, trivial, ⟨hB.1, by rw [ht9, ← ht]; exact hB.2⟩, hS1.F ht9⟩
  · have hB1 : Rp G u H1 := by rw [← ht]; exact hB
    exact kk r u hw H1 locs1 ls hB1 hS1 hl
theorem go_xcallV_l {Qo : Array Value → State → Outcome → State → Prop} {rmo : Room} (C : Cx G X own cc nL ret) (hno : ∀ x ∈ (xc X).exceptionTable.toList, False) {b ci : Nat} {Cn : String} {T : u_T} {N : Nat} (As : List Tv) {K : Int64 → Hp → Prop} (V : VI Cn y bytes maxL rt n) (hlk : Cond.methodLink own idx y ∈ lw_all) (cf : kcl[ci]? = some (Cn, T, N)) (M : MX G (xl X) y bytes maxL rt rm (rV (some b) :: As) h (QL G K) KX) (hR : RmOk rm maxL R cells slots) (hO : cells + rm.cells ≤ rmo.cells ∧ slots + rm.slots ≤ rmo.slots) (hcv : ∃ fs, h b = some (.inr (ci, fs))) (d : decode cc pc = .ok (.invokevirtual idx, 3)) (hn : As.length = n) (h8 : (st.map (fun v => if wide v then 2 else 1)).sum ≤ 8) (e : st0 = As.reverse ++ rV (some b) :: st) (kk : ∀ r h1, K r h1 → Go G X R nL (cells + rm.cells) (slots + rm.slots) (QX G X Qo KX rmo) h1 (pc + 3) L (lV r :: st)) : Go G X R nL cells slots (QX G X Qo KX rmo) h pc L st0 := by
  intro H locs ls hP hS hl
  refine vx_calll (go_xrunV C V hlk cf M hR hcv d hn h8 e hP hS hl) hS (fun q _ hq => hq) (fun q hq => hq) (fun q _ hq => hq) (fun E ce q9 u t H1 locs1 ht hvm hpx hB hz hk hS1 hce hcv9 hcl => ?_) (fun r u t H1 locs1 ht hvm hw hB hz hk hS1 => ?_)
  · refine vx_out (fun x hx => (hno x hx).elim) C.2.2.2.2.2.2.1 hce hcv9 hcl (fun t9 ht9 hW9 => ?_) (fun z hz => hS1.2.2 z hz) hO.1 hO.2
    exact ⟨u, trivial, ⟨hB.1, by rw [ht9, ← ht]; exact hB.2⟩, hS1.F ht9⟩
  · have hB1 : Rp G u H1 := by rw [← ht]; exact hB
    exact kk r u hw H1 locs1 ls hB1 hS1 hl
theorem go_xcallV_f {Qo : Array Value → State → Outcome → State → Prop} {rmo : Room} (C : Cx G X own cc nL ret) (hno : ∀ x ∈ (xc X).exceptionTable.toList, False) {b ci : Nat} {Cn : String} {T : u_T} {N : Nat} (As : List Tv) {K : UInt32 → Hp → Prop} (V : VI Cn y bytes maxL rt n) (hlk : Cond.methodLink own idx y ∈ lw_all) (cf : kcl[ci]? = some (Cn, T, N)) (M : MX G (xl X) y bytes maxL rt rm (rV (some b) :: As) h (QF G K) KX) (hR : RmOk rm maxL R cells slots) (hO : cells + rm.cells ≤ rmo.cells ∧ slots + rm.slots ≤ rmo.slots) (hcv : ∃ fs, h b = some (.inr (ci, fs))) (d : decode cc pc = .ok (.invokevirtual idx, 3)) (hn : As.length = n) (h8 : (st.map (fun v => if wide v then 2 else 1)).sum ≤ 8) (e : st0 = As.reverse ++ rV (some b) :: st) (kk : ∀ r h1, K r h1 → Go G X R nL (cells + rm.cells) (slots + rm.slots) (QX G X Qo KX rmo) h1 (pc + 3) L (fV r :: st)) : Go G X R nL cells slots (QX G X Qo KX rmo) h pc L st0 := by
  intro H locs ls hP hS hl
  refine vx_callf (go_xrunV C V hlk cf M hR hcv d hn h8 e hP hS hl) hS (fun q _ hq => hq) (fun q hq => hq) (fun q _ hq => hq) (fun E ce q9 u t H1 locs1 ht hvm hpx hB hz hk hS1 hce hcv9 hcl => ?_) (fun r u t H1 locs1 ht hvm hw hB hz hk hS1 => ?_)
  · refine vx_out (fun x hx => (hno x hx).elim) C.2.2.2.2.2.2.1 hce hcv9 hcl (fun t9 ht9 hW9 => ?_) (fun z hz => hS1.2.2 z hz) hO.1 hO.2
    exact ⟨u, trivial, ⟨hB.1, by rw [ht9, ← ht]; exact hB.2⟩, hS1.F ht9⟩
  · have hB1 : Rp G u H1 := by rw [← ht]; exact hB
    exact kk r u hw H1 locs1 ls hB1 hS1 hl
theorem go_xcallV_d {Qo : Array Value → State → Outcome → State → Prop} {rmo : Room} (C : Cx G X own cc nL ret) (hno : ∀ x ∈ (xc X).exceptionTable.toList, False) {b ci : Nat} {Cn : String} {T : u_T} {N : Nat} (As : List Tv) {K : UInt64 → Hp → Prop} (V : VI Cn y bytes maxL rt n) (hlk : Cond.methodLink own idx y ∈ lw_all) (cf : kcl[ci]? = some (Cn, T, N)) (M : MX G (xl X) y bytes maxL rt rm (rV (some b) :: As) h (QD G K) KX) (hR : RmOk rm maxL R cells slots) (hO : cells + rm.cells ≤ rmo.cells ∧ slots + rm.slots ≤ rmo.slots) (hcv : ∃ fs, h b = some (.inr (ci, fs))) (d : decode cc pc = .ok (.invokevirtual idx, 3)) (hn : As.length = n) (h8 : (st.map (fun v => if wide v then 2 else 1)).sum ≤ 8) (e : st0 = As.reverse ++ rV (some b) :: st) (kk : ∀ r h1, K r h1 → Go G X R nL (cells + rm.cells) (slots + rm.slots) (QX G X Qo KX rmo) h1 (pc + 3) L (dV r :: st)) : Go G X R nL cells slots (QX G X Qo KX rmo) h pc L st0 := by
  intro H locs ls hP hS hl
  refine vx_calld (go_xrunV C V hlk cf M hR hcv d hn h8 e hP hS hl) hS (fun q _ hq => hq) (fun q hq => hq) (fun q _ hq => hq) (fun E ce q9 u t H1 locs1 ht hvm hpx hB hz hk hS1 hce hcv9 hcl => ?_) (fun r u t H1 locs1 ht hvm hw hB hz hk hS1 => ?_)
  · refine vx_out (fun x hx => (hno x hx).elim) C.2.2.2.2.2.2.1 hce hcv9 hcl (fun t9 ht9 hW9 => ?_) (fun z hz => hS1.2.2 z hz) hO.1 hO.2
    exact ⟨u, trivial, ⟨hB.1, by rw [ht9, ← ht]; exact hB.2⟩, hS1.F ht9⟩
  · have hB1 : Rp G u H1 := by rw [← ht]; exact hB
    exact kk r u hw H1 locs1 ls hB1 hS1 hl
theorem go_xcallV_q {Qo : Array Value → State → Outcome → State → Prop} {rmo : Room} (C : Cx G X own cc nL ret) (hno : ∀ x ∈ (xc X).exceptionTable.toList, False) {b ci : Nat} {Cn : String} {T : u_T} {N : Nat} (As : List Tv) {K : Option Nat → Hp → Prop} (V : VI Cn y bytes maxL rt n) (hlk : Cond.methodLink own idx y ∈ lw_all) (cf : kcl[ci]? = some (Cn, T, N)) (M : MX G (xl X) y bytes maxL rt rm (rV (some b) :: As) h (QR G K) KX) (hR : RmOk rm maxL R cells slots) (hO : cells + rm.cells ≤ rmo.cells ∧ slots + rm.slots ≤ rmo.slots) (hcv : ∃ fs, h b = some (.inr (ci, fs))) (d : decode cc pc = .ok (.invokevirtual idx, 3)) (hn : As.length = n) (h8 : (st.map (fun v => if wide v then 2 else 1)).sum ≤ 8) (e : st0 = As.reverse ++ rV (some b) :: st) (kk : ∀ r h1, K r h1 → Go G X R nL (cells + rm.cells) (slots + rm.slots) (QX G X Qo KX rmo) h1 (pc + 3) L (rV r :: st)) : Go G X R nL cells slots (QX G X Qo KX rmo) h pc L st0 := by
  intro H locs ls hP hS hl
  refine vx_callq (go_xrunV C V hlk cf M hR hcv d hn h8 e hP hS hl) hS (fun q _ hq => hq) (fun q hq => hq) (fun q _ hq => hq) (fun E ce q9 u t H1 locs1 ht hvm hpx hB hz hk hS1 hce hcv9 hcl => ?_) (fun r u t H1 locs1 ht hvm hw hB hz hk hS1 => ?_)
  · refine vx_out (fun x hx => (hno x hx).elim) C.2.2.2.2.2.2.1 hce hcv9 hcl (fun t9 ht9 hW9 => ?_) (fun z hz => hS1.2.2 z hz) hO.1 hO.2
    exact ⟨u, trivial, ⟨hB.1, by rw [ht9, ← ht]; exact hB.2⟩, hS1.F ht9⟩
  · have hB1 : Rp G u H1 := by rw [← ht]; exact hB
    exact kk r u hw H1 locs1 ls hB1 hS1 hl
theorem go_xcallV_v {Qo : Array Value → State → Outcome → State → Prop} {rmo : Room} (C : Cx G X own cc nL ret) (hno : ∀ x ∈ (xc X).exceptionTable.toList, False) {b ci : Nat} {Cn : String} {T : u_T} {N : Nat} (As : List Tv) {K : Hp → Prop} (V : VI Cn y bytes maxL rt n) (hlk : Cond.methodLink own idx y ∈ lw_all) (cf : kcl[ci]? = some (Cn, T, N)) (M : MX G (xl X) y bytes maxL rt rm (rV (some b) :: As) h (QV G K) KX) (hR : RmOk rm maxL R cells slots) (hO : cells + rm.cells ≤ rmo.cells ∧ slots + rm.slots ≤ rmo.slots) (hcv : ∃ fs, h b = some (.inr (ci, fs))) (d : decode cc pc = .ok (.invokevirtual idx, 3)) (hn : As.length = n) (h8 : (st.map (fun v => if wide v then 2 else 1)).sum ≤ 8) (e : st0 = As.reverse ++ rV (some b) :: st) (kk : ∀ h1, K h1 → Go G X R nL (cells + rm.cells) (slots + rm.slots) (QX G X Qo KX rmo) h1 (pc + 3) L (st)) : Go G X R nL cells slots (QX G X Qo KX rmo) h pc L st0 := by
  intro H locs ls hP hS hl
  refine vx_callv (go_xrunV C V hlk cf M hR hcv d hn h8 e hP hS hl) hS (fun q _ hq => hq) (fun q hq => hq) (fun q _ hq => hq) (fun E ce q9 u t H1 locs1 ht hvm hpx hB hz hk hS1 hce hcv9 hcl => ?_) (fun u t H1 locs1 ht hvm hw hB hz hk hS1 => ?_)
  · refine vx_out (fun x hx => (hno x hx).elim) C.2.2.2.2.2.2.1 hce hcv9 hcl (fun t9 ht9 hW9 => ?_) (fun z hz => hS1.2.2 z hz) hO.1 hO.2
    exact ⟨u, trivial, ⟨hB.1, by rw [ht9, ← ht]; exact hB.2⟩, hS1.F ht9⟩
  · have hB1 : Rp G u H1 := by rw [← ht]; exact hB
    exact kk u hw H1 locs1 ls hB1 hS1 hl
theorem go_xcallS_i {Qo : Array Value → State → Outcome → State → Prop} {rmo : Room} (C : Cx G X own cc nL ret) (hno : ∀ x ∈ (xc X).exceptionTable.toList, False)  (As : List Tv) {K : Int32 → Hp → Prop} (V : SI y bytes maxL rt n) (hlk : Cond.methodLink own idx y ∈ lw_all)  (M : MX G (xl X) y bytes maxL rt rm As h (QI G K) KX) (hR : RmOk rm maxL R cells slots) (hO : cells + rm.cells ≤ rmo.cells ∧ slots + rm.slots ≤ rmo.slots)  (d : decode cc pc = .ok (.invokestatic idx, 3)) (hn : As.length = n) (h8 : (st.map (fun v => if wide v then 2 else 1)).sum ≤ 8) (e : st0 = As.reverse ++ st) (kk : ∀ r h1, K r h1 → Go G X R nL (cells + rm.cells) (slots + rm.slots) (QX G X Qo KX rmo) h1 (pc + 3) L (iV r :: st)) : Go G X R nL cells slots (QX G X Qo KX rmo) h pc L st0 := by
  intro H locs ls hP hS hl
  refine vx_calli (go_xrunS C V hlk M hR d hn h8 e hP hS hl) hS (fun q _ hq => hq) (fun q hq => hq) (fun q _ hq => hq) (fun E ce q9 u t H1 locs1 ht hvm hpx hB hz hk hS1 hce hcv9 hcl => ?_) (fun r u t H1 locs1 ht hvm hw hB hz hk hS1 => ?_)
  · refine vx_out (fun x hx => (hno x hx).elim) C.2.2.2.2.2.2.1 hce hcv9 hcl (fun t9 ht9 hW9 => ?_) (fun z hz => hS1.2.2 z hz) hO.1 hO.2
    exact ⟨u, trivial, ⟨hB.1, by rw [ht9, ← ht]; exact hB.2⟩, hS1.F ht9⟩
  · have hB1 : Rp G u H1 := by rw [← ht]; exact hB
    exact kk r u hw H1 locs1 ls hB1 hS1 hl
theorem go_xcallS_l {Qo : Array Value → State → Outcome → State → Prop} {rmo : Room} (C : Cx G X own cc nL ret) (hno : ∀ x ∈ (xc X).exceptionTable.toList, False)  (As : List Tv) {K : Int64 → Hp → Prop} (V : SI y bytes maxL rt n) (hlk : Cond.methodLink own idx y ∈ lw_all)  (M : MX G (xl X) y bytes maxL rt rm As h (QL G K) KX) (hR : RmOk rm maxL R cells slots) (hO : cells + rm.cells ≤ rmo.cells ∧ slots + rm.slots ≤ rmo.slots)  (d : decode cc pc = .ok (.invokestatic idx, 3)) (hn : As.length = n) (h8 : (st.map (fun v => if wide v then 2 else 1)).sum ≤ 8) (e : st0 = As.reverse ++ st) (kk : ∀ r h1, K r h1 → Go G X R nL (cells + rm.cells) (slots + rm.slots) (QX G X Qo KX rmo) h1 (pc + 3) L (lV r :: st)) : Go G X R nL cells slots (QX G X Qo KX rmo) h pc L st0 := by
  intro H locs ls hP hS hl
  refine vx_calll (go_xrunS C V hlk M hR d hn h8 e hP hS hl) hS (fun q _ hq => hq) (fun q hq => hq) (fun q _ hq => hq) (fun E ce q9 u t H1 locs1 ht hvm hpx hB hz hk hS1 hce hcv9 hcl => ?_) (fun r u t H1 locs1 ht hvm hw hB hz hk hS1 => ?_)
  · refine vx_out (fun x hx => (hno x hx).elim) C.2.2.2.2.2.2.1 hce hcv9 hcl (fun t9 ht9 hW9 => ?_) (fun z hz => hS1.2.2 z hz) hO.1 hO.2
    exact ⟨u, trivial, ⟨hB.1, by rw [ht9, ← ht]; exact hB.2⟩, hS1.F ht9⟩
  · have hB1 : Rp G u H1 := by rw [← ht]; exact hB
    exact kk r u hw H1 locs1 ls hB1 hS1 hl
theorem go_xcallS_f {Qo : Array Value → State → Outcome → State → Prop} {rmo : Room} (C : Cx G X own cc nL ret) (hno : ∀ x ∈ (xc X).exceptionTable.toList, False)  (As : List Tv) {K : UInt32 → Hp → Prop} (V : SI y bytes maxL rt n) (hlk : Cond.methodLink own idx y ∈ lw_all)  (M : MX G (xl X) y bytes maxL rt rm As h (QF G K) KX) (hR : RmOk rm maxL R cells slots) (hO : cells + rm.cells ≤ rmo.cells ∧ slots + rm.slots ≤ rmo.slots)  (d : decode cc pc = .ok (.invokestatic idx, 3)) (hn : As.length = n) (h8 : (st.map (fun v => if wide v then 2 else 1)).sum ≤ 8) (e : st0 = As.reverse ++ st) (kk : ∀ r h1, K r h1 → Go G X R nL (cells + rm.cells) (slots + rm.slots) (QX G X Qo KX rmo) h1 (pc + 3) L (fV r :: st)) : Go G X R nL cells slots (QX G X Qo KX rmo) h pc L st0 := by
  intro H locs ls hP hS hl
  refine vx_callf (go_xrunS C V hlk M hR d hn h8 e hP hS hl) hS (fun q _ hq => hq) (fun q hq => hq) (fun q _ hq => hq) (fun E ce q9 u t H1 locs1 ht hvm hpx hB hz hk hS1 hce hcv9 hcl => ?_) (fun r u t H1 locs1 ht hvm hw hB hz hk hS1 => ?_)
  · refine vx_out (fun x hx => (hno x hx).elim) C.2.2.2.2.2.2.1 hce hcv9 hcl (fun t9 ht9 hW9 => ?_) (fun z hz => hS1.2.2 z hz) hO.1 hO.2
    exact ⟨u, trivial, ⟨hB.1, by rw [ht9, ← ht]; exact hB.2⟩, hS1.F ht9⟩
  · have hB1 : Rp G u H1 := by rw [← ht]; exact hB
    exact kk r u hw H1 locs1 ls hB1 hS1 hl
theorem go_xcallS_d {Qo : Array Value → State → Outcome → State → Prop} {rmo : Room} (C : Cx G X own cc nL ret) (hno : ∀ x ∈ (xc X).exceptionTable.toList, False)  (As : List Tv) {K : UInt64 → Hp → Prop} (V : SI y bytes maxL rt n) (hlk : Cond.methodLink own idx y ∈ lw_all)  (M : MX G (xl X) y bytes maxL rt rm As h (QD G K) KX) (hR : RmOk rm maxL R cells slots) (hO : cells + rm.cells ≤ rmo.cells ∧ slots + rm.slots ≤ rmo.slots)  (d : decode cc pc = .ok (.invokestatic idx, 3)) (hn : As.length = n) (h8 : (st.map (fun v => if wide v then 2 else 1)).sum ≤ 8) (e : st0 = As.reverse ++ st) (kk : ∀ r h1, K r h1 → Go G X R nL (cells + rm.cells) (slots + rm.slots) (QX G X Qo KX rmo) h1 (pc + 3) L (dV r :: st)) : Go G X R nL cells slots (QX G X Qo KX rmo) h pc L st0 := by
  intro H locs ls hP hS hl
  refine vx_calld (go_xrunS C V hlk M hR d hn h8 e hP hS hl) hS (fun q _ hq => hq) (fun q hq => hq) (fun q _ hq => hq) (fun E ce q9 u t H1 locs1 ht hvm hpx hB hz hk hS1 hce hcv9 hcl => ?_) (fun r u t H1 locs1 ht hvm hw hB hz hk hS1 => ?_)
  · refine vx_out (fun x hx => (hno x hx).elim) C.2.2.2.2.2.2.1 hce hcv9 hcl (fun t9 ht9 hW9 => ?_) (fun z hz => hS1.2.2 z hz) hO.1 hO.2
    exact ⟨u, trivial, ⟨hB.1, by rw [ht9, ← ht]; exact hB.2⟩, hS1.F ht9⟩
  · have hB1 : Rp G u H1 := by rw [← ht]; exact hB
    exact kk r u hw H1 locs1 ls hB1 hS1 hl
theorem go_xcallS_q {Qo : Array Value → State → Outcome → State → Prop} {rmo : Room} (C : Cx G X own cc nL ret) (hno : ∀ x ∈ (xc X).exceptionTable.toList, False)  (As : List Tv) {K : Option Nat → Hp → Prop} (V : SI y bytes maxL rt n) (hlk : Cond.methodLink own idx y ∈ lw_all)  (M : MX G (xl X) y bytes maxL rt rm As h (QR G K) KX) (hR : RmOk rm maxL R cells slots) (hO : cells + rm.cells ≤ rmo.cells ∧ slots + rm.slots ≤ rmo.slots)  (d : decode cc pc = .ok (.invokestatic idx, 3)) (hn : As.length = n) (h8 : (st.map (fun v => if wide v then 2 else 1)).sum ≤ 8) (e : st0 = As.reverse ++ st) (kk : ∀ r h1, K r h1 → Go G X R nL (cells + rm.cells) (slots + rm.slots) (QX G X Qo KX rmo) h1 (pc + 3) L (rV r :: st)) : Go G X R nL cells slots (QX G X Qo KX rmo) h pc L st0 := by
  intro H locs ls hP hS hl
  refine vx_callq (go_xrunS C V hlk M hR d hn h8 e hP hS hl) hS (fun q _ hq => hq) (fun q hq => hq) (fun q _ hq => hq) (fun E ce q9 u t H1 locs1 ht hvm hpx hB hz hk hS1 hce hcv9 hcl => ?_) (fun r u t H1 locs1 ht hvm hw hB hz hk hS1 => ?_)
  · refine vx_out (fun x hx => (hno x hx).elim) C.2.2.2.2.2.2.1 hce hcv9 hcl (fun t9 ht9 hW9 => ?_) (fun z hz => hS1.2.2 z hz) hO.1 hO.2
    exact ⟨u, trivial, ⟨hB.1, by rw [ht9, ← ht]; exact hB.2⟩, hS1.F ht9⟩
  · have hB1 : Rp G u H1 := by rw [← ht]; exact hB
    exact kk r u hw H1 locs1 ls hB1 hS1 hl
theorem go_xcallS_v {Qo : Array Value → State → Outcome → State → Prop} {rmo : Room} (C : Cx G X own cc nL ret) (hno : ∀ x ∈ (xc X).exceptionTable.toList, False)  (As : List Tv) {K : Hp → Prop} (V : SI y bytes maxL rt n) (hlk : Cond.methodLink own idx y ∈ lw_all)  (M : MX G (xl X) y bytes maxL rt rm As h (QV G K) KX) (hR : RmOk rm maxL R cells slots) (hO : cells + rm.cells ≤ rmo.cells ∧ slots + rm.slots ≤ rmo.slots)  (d : decode cc pc = .ok (.invokestatic idx, 3)) (hn : As.length = n) (h8 : (st.map (fun v => if wide v then 2 else 1)).sum ≤ 8) (e : st0 = As.reverse ++ st) (kk : ∀ h1, K h1 → Go G X R nL (cells + rm.cells) (slots + rm.slots) (QX G X Qo KX rmo) h1 (pc + 3) L (st)) : Go G X R nL cells slots (QX G X Qo KX rmo) h pc L st0 := by
  intro H locs ls hP hS hl
  refine vx_callv (go_xrunS C V hlk M hR d hn h8 e hP hS hl) hS (fun q _ hq => hq) (fun q hq => hq) (fun q _ hq => hq) (fun E ce q9 u t H1 locs1 ht hvm hpx hB hz hk hS1 hce hcv9 hcl => ?_) (fun u t H1 locs1 ht hvm hw hB hz hk hS1 => ?_)
  · refine vx_out (fun x hx => (hno x hx).elim) C.2.2.2.2.2.2.1 hce hcv9 hcl (fun t9 ht9 hW9 => ?_) (fun z hz => hS1.2.2 z hz) hO.1 hO.2
    exact ⟨u, trivial, ⟨hB.1, by rw [ht9, ← ht]; exact hB.2⟩, hS1.F ht9⟩
  · have hB1 : Rp G u H1 := by rw [← ht]; exact hB
    exact kk u hw H1 locs1 ls hB1 hS1 hl
theorem go_objinit (C : Cx G X own cc nL ret) {a : Nat} (hlk : Cond.methodLink own idx Lib.objectInit ∈ lw_all) (w1 : Cond.instanceMethod Lib.objectInit ∈ lw_all) (w2 : Cond.code Lib.objectInit ⟨#[0xb1]⟩ 1 none ∈ lw_all) (d : decode cc pc = .ok (.invokespecial idx, 3)) (hR : 1 ≤ R.frames ∧ 28 ≤ R.locals) (h8 : (st.map (fun v => if wide v then 2 else 1)).sum ≤ 16) (k : Go G X R nL cells slots Q h (pc + 3) L st) : Go G X R nL cells slots Q h pc L (rV (some a) :: st) := fun H locs ls hP hS hl =>
  W.objInit C.1 C.2.1 C.2.2.2.1 (C.w hlk) (C.w w1) (C.w w2) rfl (hl.1.trans C.2.2.1.symm) rfl d hR.1 (by show 2 * 0 + _ + 12 ≤ _; rw [catsum]; have := hR.2; omega) (k H locs ls hP hS hl)
theorem go_iret (C : Cx G X own cc nL (some .int)) {K : Int32 → Hp → Prop} {v : Int32} (d : decode cc pc = .ok (.ireturn, 1)) (hw : K v h) (hc : cells ≤ rm.cells) (hs : slots ≤ rm.slots) : Go G X R nL cells slots (QN G X (QI G K) rm) h pc L [iV v] := fun H locs ls hP hS hl => W.widen hc hs (W.iret (v := v) C.1 C.2.1 C.2.2.2.2.2.2.2.2 (fun t ht hW => ⟨⟨v, h, rfl, hw, by show Rp G h t.heap; rw [ht]; exact hP⟩, hS.F ht⟩) hS.2.2 d C.2.2.2.2.2.2.1)
theorem go_xiret (C : Cx G X own cc nL (some .int)) {K : Int32 → Hp → Prop} {v : Int32} (d : decode cc pc = .ok (.ireturn, 1)) (hw : K v h) (hc : cells ≤ rm.cells) (hs : slots ≤ rm.slots) : Go G X R nL cells slots (QX G X (QI G K) KX rm) h pc L [iV v] := fun H locs ls hP hS hl => W.widen hc hs (vx_ret (W.iret (v := v) C.1 C.2.1 C.2.2.2.2.2.2.2.2 (fun t ht hW => ⟨⟨v, h, rfl, hw, by show Rp G h t.heap; rw [ht]; exact hP⟩, hS.F ht⟩) hS.2.2 d C.2.2.2.2.2.2.1))
theorem go_lret (C : Cx G X own cc nL (some .long)) {K : Int64 → Hp → Prop} {v : Int64} (d : decode cc pc = .ok (.lreturn, 1)) (hw : K v h) (hc : cells ≤ rm.cells) (hs : slots ≤ rm.slots) : Go G X R nL cells slots (QN G X (QL G K) rm) h pc L [lV v] := fun H locs ls hP hS hl => W.widen hc hs (W.lret (v := v) C.1 C.2.1 C.2.2.2.2.2.2.2.2 (fun t ht hW => ⟨⟨v, h, rfl, hw, by show Rp G h t.heap; rw [ht]; exact hP⟩, hS.F ht⟩) hS.2.2 d C.2.2.2.2.2.2.1)
theorem go_xlret (C : Cx G X own cc nL (some .long)) {K : Int64 → Hp → Prop} {v : Int64} (d : decode cc pc = .ok (.lreturn, 1)) (hw : K v h) (hc : cells ≤ rm.cells) (hs : slots ≤ rm.slots) : Go G X R nL cells slots (QX G X (QL G K) KX rm) h pc L [lV v] := fun H locs ls hP hS hl => W.widen hc hs (vx_ret (W.lret (v := v) C.1 C.2.1 C.2.2.2.2.2.2.2.2 (fun t ht hW => ⟨⟨v, h, rfl, hw, by show Rp G h t.heap; rw [ht]; exact hP⟩, hS.F ht⟩) hS.2.2 d C.2.2.2.2.2.2.1))
theorem go_fret (C : Cx G X own cc nL (some .float)) {K : UInt32 → Hp → Prop} {v : UInt32} (d : decode cc pc = .ok (.freturn, 1)) (hw : K v h) (hc : cells ≤ rm.cells) (hs : slots ≤ rm.slots) : Go G X R nL cells slots (QN G X (QF G K) rm) h pc L [fV v] := fun H locs ls hP hS hl => W.widen hc hs (W.fret (v := v) C.1 C.2.1 C.2.2.2.2.2.2.2.2 (fun t ht hW => ⟨⟨v, h, rfl, hw, by show Rp G h t.heap; rw [ht]; exact hP⟩, hS.F ht⟩) hS.2.2 d C.2.2.2.2.2.2.1)
theorem go_xfret (C : Cx G X own cc nL (some .float)) {K : UInt32 → Hp → Prop} {v : UInt32} (d : decode cc pc = .ok (.freturn, 1)) (hw : K v h) (hc : cells ≤ rm.cells) (hs : slots ≤ rm.slots) : Go G X R nL cells slots (QX G X (QF G K) KX rm) h pc L [fV v] := fun H locs ls hP hS hl => W.widen hc hs (vx_ret (W.fret (v := v) C.1 C.2.1 C.2.2.2.2.2.2.2.2 (fun t ht hW => ⟨⟨v, h, rfl, hw, by show Rp G h t.heap; rw [ht]; exact hP⟩, hS.F ht⟩) hS.2.2 d C.2.2.2.2.2.2.1))
theorem go_dret (C : Cx G X own cc nL (some .double)) {K : UInt64 → Hp → Prop} {v : UInt64} (d : decode cc pc = .ok (.dreturn, 1)) (hw : K v h) (hc : cells ≤ rm.cells) (hs : slots ≤ rm.slots) : Go G X R nL cells slots (QN G X (QD G K) rm) h pc L [dV v] := fun H locs ls hP hS hl => W.widen hc hs (W.dret (v := v) C.1 C.2.1 C.2.2.2.2.2.2.2.2 (fun t ht hW => ⟨⟨v, h, rfl, hw, by show Rp G h t.heap; rw [ht]; exact hP⟩, hS.F ht⟩) hS.2.2 d C.2.2.2.2.2.2.1)
theorem go_xdret (C : Cx G X own cc nL (some .double)) {K : UInt64 → Hp → Prop} {v : UInt64} (d : decode cc pc = .ok (.dreturn, 1)) (hw : K v h) (hc : cells ≤ rm.cells) (hs : slots ≤ rm.slots) : Go G X R nL cells slots (QX G X (QD G K) KX rm) h pc L [dV v] := fun H locs ls hP hS hl => W.widen hc hs (vx_ret (W.dret (v := v) C.1 C.2.1 C.2.2.2.2.2.2.2.2 (fun t ht hW => ⟨⟨v, h, rfl, hw, by show Rp G h t.heap; rw [ht]; exact hP⟩, hS.F ht⟩) hS.2.2 d C.2.2.2.2.2.2.1))
theorem go_zret {ty : FieldType} (C : Cx G X own cc nL (some ty)) {K : Int32 → Hp → Prop} {v : Int32} (d : decode cc pc = .ok (.ireturn, 1)) (hw : ok (narrow ty (.int v) = .int v) (K v h)) (hc : cells ≤ rm.cells) (hs : slots ≤ rm.slots) : Go G X R nL cells slots (QN G X (QI G K) rm) h pc L [iV v] := fun H locs ls hP hS hl => W.widen hc hs (W.zret (v := v) C.1 C.2.1 C.2.2.2.2.2.2.2.2 hw.1 (fun t ht hW => ⟨⟨v, h, rfl, hw.2, by show Rp G h t.heap; rw [ht]; exact hP⟩, hS.F ht⟩) hS.2.2 d C.2.2.2.2.2.2.1)
theorem go_xzret {ty : FieldType} (C : Cx G X own cc nL (some ty)) {K : Int32 → Hp → Prop} {v : Int32} (d : decode cc pc = .ok (.ireturn, 1)) (hw : ok (narrow ty (.int v) = .int v) (K v h)) (hc : cells ≤ rm.cells) (hs : slots ≤ rm.slots) : Go G X R nL cells slots (QX G X (QI G K) KX rm) h pc L [iV v] := fun H locs ls hP hS hl => W.widen hc hs (vx_ret (W.zret (v := v) C.1 C.2.1 C.2.2.2.2.2.2.2.2 hw.1 (fun t ht hW => ⟨⟨v, h, rfl, hw.2, by show Rp G h t.heap; rw [ht]; exact hP⟩, hS.F ht⟩) hS.2.2 d C.2.2.2.2.2.2.1))
theorem go_vret (C : Cx G X own cc nL none) {K : Hp → Prop} (d : decode cc pc = .ok (.return_, 1)) (hw : K h) (hc : cells ≤ rm.cells) (hs : slots ≤ rm.slots) : Go G X R nL cells slots (QN G X (QV G K) rm) h pc L [] := fun H locs ls hP hS hl => W.widen hc hs (W.vret C.1 C.2.1 C.2.2.2.2.2.2.2.2 (fun t ht hW => ⟨⟨h, rfl, hw, by show Rp G h t.heap; rw [ht]; exact hP⟩, hS.F ht⟩) hS.2.2 d C.2.2.2.2.2.2.1)
theorem go_aret {Cr : String} (C : Cx G X own cc nL (some (.object Cr))) {K : Option Nat → Hp → Prop} {v : Option Nat} (d : decode cc pc = .ok (.areturn, 1)) (hw : K v h) (hc : cells ≤ rm.cells) (hs : slots ≤ rm.slots) : Go G X R nL cells slots (QN G X (QR G K) rm) h pc L [rV v] := fun H locs ls hP hS hl => W.widen hc hs (W.aret (v := va_rf v) C.1 C.2.1 C.2.2.2.2.2.2.2.2 (Or.inl ⟨_, rfl⟩) (by cases v with | none => exact Or.inl rfl | some a => exact Or.inr ⟨a, rfl⟩) (fun t ht hW => ⟨⟨v, h, rfl, hw, by show Rp G h t.heap; rw [ht]; exact hP⟩, hS.F ht⟩) hS.2.2 d C.2.2.2.2.2.2.1)
theorem go_xvret (C : Cx G X own cc nL none) {K : Hp → Prop} (d : decode cc pc = .ok (.return_, 1)) (hw : K h) (hc : cells ≤ rm.cells) (hs : slots ≤ rm.slots) : Go G X R nL cells slots (QX G X (QV G K) KX rm) h pc L [] := fun H locs ls hP hS hl => W.widen hc hs (vx_ret (W.vret C.1 C.2.1 C.2.2.2.2.2.2.2.2 (fun t ht hW => ⟨⟨h, rfl, hw, by show Rp G h t.heap; rw [ht]; exact hP⟩, hS.F ht⟩) hS.2.2 d C.2.2.2.2.2.2.1))
theorem go_xaret {Cr : String} (C : Cx G X own cc nL (some (.object Cr))) {K : Option Nat → Hp → Prop} {v : Option Nat} (d : decode cc pc = .ok (.areturn, 1)) (hw : K v h) (hc : cells ≤ rm.cells) (hs : slots ≤ rm.slots) : Go G X R nL cells slots (QX G X (QR G K) KX rm) h pc L [rV v] := fun H locs ls hP hS hl => W.widen hc hs (vx_ret (W.aret (v := va_rf v) C.1 C.2.1 C.2.2.2.2.2.2.2.2 (Or.inl ⟨_, rfl⟩) (by cases v with | none => exact Or.inl rfl | some a => exact Or.inr ⟨a, rfl⟩) (fun t ht hW => ⟨⟨v, h, rfl, hw, by show Rp G h t.heap; rw [ht]; exact hP⟩, hS.F ht⟩) hS.2.2 d C.2.2.2.2.2.2.1))
theorem go_met {cc : ByteArray} {ret : Option FieldType} (l : Launch) (hfl : l.stackTraces = false) (y : MethodName) (maxL : Nat) (as : List Tv) (rm : Room) {Qc : Array Value → State → Outcome → State → Prop} {Cn : String} (hc : y.cls = Cn) (hp : plainName Cn = true) (hw : (lg_sl (as.map toV)).length ≤ maxL) (L : List (Nat × Tv)) (hL : lv_args 0 (as.map toV) = lvV L)
    (body : ∀ X : Kx, xl X = l → Cx G X Cn cc maxL ret → (xh X).name = y.name → Go G X rm maxL 0 0 (QN G X Qc rm) h 0 L []) : MT G l y cc maxL ret rm as h Qc := by
  subst hc
  refine Met.ofW (cc := cc) (maxL := maxL) (ret := ret) hp rfl ?_
  intro p e s m args below meth c s₁ B hml hv
  obtain ⟨rfl, hK, hP⟩ := hv
  have hts := atoms_spec (ws := wM y cc maxL ret) B.pre
  have hl := lv_entry (as.map toV) (n := maxL) hw
  rw [lg_entry_eq]
  generalize (lg_sl (as.map toV) ++ List.replicate (maxL - (lg_sl (as.map toV)).length) Slot.unset).toArray = ls at hl ⊢
  rw [hL] at hl
  exact body (p, l, e, s, m, (as.map toV).toArray, below, meth, c) rfl ⟨B.exec, B.bytes, hml, findClass_of_methodNamed B.named, fun w hw => hts w (List.mem_cons_of_mem _ hw), hK, B.notSynchronized, hfl, B.returns⟩ (name_of_methodNamed B.named B.method).1 s.heap [] ls hP va_S.rf hl
theorem go_xmet {cc : ByteArray} {ret : Option FieldType} (l : Launch) (hfl : l.stackTraces = false) (y : MethodName) (maxL : Nat) (as : List Tv) (rm : Room) {Qc : Array Value → State → Outcome → State → Prop} {Cn : String} (hc : y.cls = Cn) (hp : plainName Cn = true) (hw : (lg_sl (as.map toV)).length ≤ maxL) (L : List (Nat × Tv)) (hL : lv_args 0 (as.map toV) = lvV L)
    (body : ∀ X : Kx, xl X = l → Cx G X Cn cc maxL ret → (∀ x ∈ (xc X).exceptionTable.toList, False) → Go G X rm maxL 0 0 (QX G X Qc KX rm) h 0 L []) : MX G l y cc maxL ret rm as h Qc KX := by
  subst hc
  refine vx_ofW (cc := cc) (maxL := maxL) (ret := ret) hp rfl ?_
  intro p e s m args below meth c s₁ B hml hno hv
  obtain ⟨rfl, hK, hP⟩ := hv
  have hts := atoms_spec (ws := wM y cc maxL ret) B.pre
  have hl := lv_entry (as.map toV) (n := maxL) hw
  rw [lg_entry_eq]
  generalize (lg_sl (as.map toV) ++ List.replicate (maxL - (lg_sl (as.map toV)).length) Slot.unset).toArray = ls at hl ⊢
  rw [hL] at hl
  exact body (p, l, e, s, m, (as.map toV).toArray, below, meth, c) rfl ⟨B.exec, B.bytes, hml, findClass_of_methodNamed B.named, fun w hw => hts w (List.mem_cons_of_mem _ hw), hK, B.notSynchronized, hfl, B.returns⟩ hno s.heap [] ls hP va_S.rf hl
end GRD
