section CTRY
variable {m : Nat → Nat → Nat} {u w : Nat → Int32} {L : List Nat} {σ σ' s s2 σ1 : St} {N kk n q p d ban t c k a x i place v told F key p3 p4 r e : Nat} {g o : Nat → Nat} {A : Nat → Bool} {cc : Option Nat} {p2 : Int32} {rs : RSt} {vf : (Nat → Nat) → Int32}
theorem ordI0 : ∀ p, p < 3 → ordN 0 p = p := by decide
/-- the events of trying all rows -/
def evT (m : Nat → Nat → Nat) (u : Nat → Int32) (q : Nat) : Nat → Nat → (Nat → Nat) → List (Nat ⊕ (Nat → Nat)) := evG m u q idO (fun place _ E => pgE (tq m q place) E (m 3 (tq m q place)))
theorem c_tryAll (hN : 1000000 ≤ N) (S : SS m u σ) (W : WQ m) (Wt : WT m u) (hq : q < m 24 0) (hp3 : p3 < m 25 q) (hp4 : p4 < 3) {K : St → Prop}
    (h : ∀ s, RVs s none 0 p2 p3 p4 ((evT m u q (m 25 q) 0 (fun _ => 0)).foldl (stEv none 0 p2 p3 (fun g => vl u (tq m q p3) (g p3) p4)) (r0 [])) → KT σ s → KM σ s → K s) : z_X8_tryAllRows N 0 (some q) p2 (nI p3) (nI p4) σ K := by
  have w3 := W.2.2 q hq
  have h1 := Wt.nt
  have C := S.1
  unfold C0 at C
  have e80 : sQ σ 8 0 0 0 = some 1 := C.2.2.2.2.2.2.2.2.2.2
  have e1 := (S.2.2.2.2.2.2 q hq).1
  have n102 : (nI 102 : Int32) = nI (wCh 0) := rfl
  simp only [z_X8_tryAllRows, e80, u_br_True, u_br_False, u_jn_u, u_lt_u, u_nn_s, u_brn_s, u_brn_n, z_X7_size, e1, ↓li_m1, li_0, li_1, li_2, li_3, li_4, li_5, li_6, li_7, li_8, li_9, li_10, li_12, li_13, li_26, li_40, li_60, li_61, li_62, li_99, li_100, li_102, li_106, li_114, li_112, li_117, li_108, li_103, li_120, li_300, li_360, li_512, li_1000]
  refine c_order hN (j := 1) (Or.inr rfl) (by decide : (0 : Nat) < 6) w3.1 (fun s1 k1 hP => ?_)
  obtain ⟨P1, P2⟩ := hP okO_0
  have e80' : sQ s1 8 0 0 0 = some 1 := by rw [k1.2.2.1]; exact e80
  simp only [e80', u_br_True, u_br_False, u_jn_u, u_lt_u, u_nn_s, u_brn_s, u_brn_n]
  have S1 := S.kx k1.kpl.kx
  refine c_begin hN (fun s a0 a1 a2 a3 a4 a5 a6 a7 a8 a9 b1 b2 b3 b4 b5 => ?_)
  have S2 := S1.kx a0.kx
  have kA : KX_ s (stP (stP (stP s 8 0 11 0 p2) 8 0 12 0 (nI p3)) 8 0 13 0 (nI p4)) := ⟨fun k i f j _ _ _ h8 => by simp only [sP_stP, if_neg (fun e : k = 8 ∧ _ => h8 e.1)], fun k i f j _ => rfl, fun i => rfl, rfl⟩
  have S3 := S2.kx kA
  have ne : ∀ k i f j, ¬ (k = 8 ∧ (f = 11 ∨ f = 12 ∨ f = 13)) → sP (stP (stP (stP s 8 0 11 0 p2) 8 0 12 0 (nI p3)) 8 0 13 0 (nI p4)) k i f j = sP s k i f j := fun k i f j hn => by
    rw [sP_stP, if_neg (fun e => hn ⟨e.1, by omega⟩), sP_stP, if_neg (fun e => hn ⟨e.1, by omega⟩), sP_stP, if_neg (fun e => hn ⟨e.1, by omega⟩)]
  have R : RVs (stP (stP (stP s 8 0 11 0 p2) 8 0 12 0 (nI p3)) 8 0 13 0 (nI p4)) none 0 p2 p3 p4 (r0 []) := by
    unfold RVs
    rw [ne 8 0 7 0 (by omega), ne 8 0 8 0 (by omega), ne 8 0 9 0 (by omega), ne 8 0 14 0 (by omega)]
    refine ⟨a4, a5, a6, a7, a8, ?_, ?_, ?_, b3, b4, fun c hc => by cases hc⟩
    all_goals simp only [sP_stP, Nat.reduceEqDiff, true_and, and_true, false_and, and_false, if_true, if_false, eq_self, and_self, Nat.reduceLT, Nat.reduceLeDiff, Nat.reduceAdd, Nat.reduceMul, Nat.reduceDiv, Nat.one_ne_zero]
  have e5 : ∀ f j, sP (stP (stP (stP s 8 0 11 0 p2) 8 0 12 0 (nI p3)) 8 0 13 0 (nI p4)) 5 1 f j = sP s1 5 1 f j := fun f j => by
    rw [ne 5 1 f j (by omega)]
    exact a0.1 5 1 f j (fun e => absurd e.1 (by decide))
  have hPQ : PQ (stP (stP (stP s 8 0 11 0 p2) 8 0 12 0 (nI p3)) 8 0 13 0 (nI p4)) 1 (m 25 q) idO := by
    unfold PQ
    simp only [e5]
    refine ⟨P1.1, fun p hp => ?_⟩
    obtain ⟨x1, x2⟩ := P1.2 p (by omega)
    rw [ordI0 p (by omega)] at x1 x2
    exact ⟨x1, x2⟩
  have V : VS m u q 1 idO (stP (stP (stP s 8 0 11 0 p2) 8 0 12 0 (nI p3)) 8 0 13 0 (nI p4)) 0 (fun _ => 0) :=
    ⟨S3, a2, a3, hPQ, fun x hx ha => by simp [ahead] at ha, fun x hx _ => by rw [ne 8 0 5 x (by omega)]; exact b5 x hx, fun x hx ha => by simp [ahead] at ha⟩
  have hn : m 25 q = 0 + ((m 25 q - 1) + 1) := by omega
  refine c_visG (cc := none) (F := 0) (p2 := p2) (itm := fun place _ E => pgE (tq m q place) E (m 3 (tq m q place))) (Q := fun s => (∀ p, p < 3 → sP s 5 1 3 p = nI 102) ∧ sQ s 8 0 1 0 = none) (fun s s' hQ kv => ⟨fun p hp => by rw [kv.1 5 1 3 p (fun e => absurd e.1 (by decide)) (fun e => absurd e.1 (by decide))]; exact hQ.1 p hp, by rw [kv.2.2.1]; exact hQ.2⟩)
    hN W Wt hq PN_id hp3 hp4 (vf := fun g => vl u (tq m q p3) (g p3) p4) (fun g => rfl) (fun d place g σ rs hpl R V hQ E hrow {K} hK => ?_) (m 25 q - 1) 0 (fun _ => 0) hn.symm 4 (by omega) _ _ R V ⟨fun p hp => ?_, a1⟩ (fun s3 R3 k3 _ => ?_)
  · refine c_visP (o := idO) (E := E) hN W Wt hq PN_id hpl R V (hQ.1 place (by omega)) (Or.inl hQ.2) (fun r hr s rs' R' k' V' {K} hK' => ?_) hK
    have hr40 := Wt.2.2.2.1 (tq m q (idO place)) (by have : tq m q (idO place) < m 1 0 := w3.2.2.2.1 _ hpl; omega)
    exact hrow r (by omega) s rs' R' V' ⟨fun p hp => by rw [k'.1 5 1 3 p (fun e => absurd e.1 (by decide)) (fun e => absurd e.1 (by decide))]; exact hQ.1 p hp, by rw [k'.2.2.1]; exact hQ.2⟩ hK'
  · rw [e5]
    exact (P2 p hp).1
  · rw [show m 25 q - 1 + 1 = m 25 q by omega] at R3
    have all : ∀ k i f j, k ≠ 8 → ¬ (k = 5 ∧ (i = 0 ∨ i = 1)) → sP s3 k i f j = sP σ k i f j := fun k i f j h8 h5 => by
      rw [k3.1 k i f j (fun e => h8 e.1) (fun e => by cases e.2.1), ne k i f j (fun e => h8 e.1), a0.1 k i f j (fun e => h8 e.1)]
      exact k1.1 k i f j h5
    have q3 : ∀ k i f j, ¬ (k = 8 ∧ i = 0 ∧ (f = 1 ∨ f = 2 ∨ f = 3 ∨ f = 4)) → sQ s3 k i f j = sQ σ k i f j := fun k i f j hn => by
      rw [k3.2.2.1]
      exact (a0.2.2.1 k i f j hn).trans (by rw [k1.2.2.1])
    have v3 : sV s3 = sV σ := by
      rw [k3.2.2.2.2]
      exact a0.2.2.2.2.trans k1.2.2.2.2
    exact h s3 R3 ⟨fun k i f j _ h5 _ h8 => all k i f j h8 (fun e => by omega), fun k i f j h8 => q3 k i f j (fun e => h8 e.1), fun i => q3 8 i 0 0 (fun e => by have := e.2.2; omega), v3⟩ (fun i f j => all 12 i f j (by decide) (fun e => absurd e.1 (by decide)))
end CTRY
