section KBAN
variable {m : Nat → Nat → Nat} {u w : Nat → Int32} {L L0 : List Nat} {σ σ' σ0 s s2 σ1 : St} {N kk n q p d ban t c k a x i j f b y : Nat} {v : Int32}
theorem tq_mu (h : nin [8, 9, 10, 11, 12, 13, 14, 15, 25, 26, 27, 28, 29, 30, 31, 32, 33, 34, 35, 36] f = true) : tq (mu m f j x) = tq m := by
  have h9 := nin_ne h
  funext q p
  simp only [tq, mu_ne (h9 26 (by decide))]
theorem iOn_mu (h : nin [8, 9, 10, 11, 12, 13, 14, 15, 25, 26, 27, 28, 29, 30, 31, 32, 33, 34, 35, 36] f = true) : iOn (mu m f j x) = iOn m := by
  have h9 := nin_ne h
  funext ban t c
  simp only [iOn, mu_ne (h9 13 (by decide)), mu_ne (h9 14 (by decide)), mu_ne (h9 15 (by decide))]
theorem share_mu (h : nin [8, 9, 10, 11, 12, 13, 14, 15, 25, 26, 27, 28, 29, 30, 31, 32, 33, 34, 35, 36] f = true) : share (mu m f j x) = share m := by
  have h9 := nin_ne h
  funext q k
  simp only [share, tq_mu h, mu_ne (h9 10 (by decide)), mu_ne (h9 11 (by decide)), mu_ne (h9 12 (by decide)), mu_ne (h9 28 (by decide)), mu_ne (h9 29 (by decide)), mu_ne (h9 30 (by decide)), mu_ne (h9 31 (by decide))]
theorem jsh_mu (h : nin [8, 9, 10, 11, 12, 13, 14, 15, 25, 26, 27, 28, 29, 30, 31, 32, 33, 34, 35, 36] f = true) : jsh (mu m f j x) = jsh m := by
  have h9 := nin_ne h
  funext q k
  simp only [jsh, tq_mu h, mu_ne (h9 10 (by decide)), mu_ne (h9 33 (by decide)), mu_ne (h9 34 (by decide)), mu_ne (h9 35 (by decide)), mu_ne (h9 36 (by decide))]
theorem own_mu (h : nin [8, 9, 10, 11, 12, 13, 14, 15, 25, 26, 27, 28, 29, 30, 31, 32, 33, 34, 35, 36] f = true) : own (mu m f j x) = own m := by
  have h9 := nin_ne h
  funext q o place k
  simp only [own, mu_ne (h9 33 (by decide)), mu_ne (h9 34 (by decide)), mu_ne (h9 35 (by decide)), mu_ne (h9 36 (by decide))]
theorem wIdx_mu (h : nin [8, 9, 10, 11, 12, 13, 14, 15, 25, 26, 27, 28, 29, 30, 31, 32, 33, 34, 35, 36] f = true) : wIdx (mu m f j x) = wIdx m := by
  have h9 := nin_ne h
  funext q ban o place way
  simp only [wIdx, tq_mu h, iOn_mu h, own_mu h, mu_ne (h9 27 (by decide)), mu_ne (h9 28 (by decide)), mu_ne (h9 29 (by decide)), mu_ne (h9 32 (by decide))]
theorem wCost_mu (h : nin [8, 9, 10, 11, 12, 13, 14, 15, 25, 26, 27, 28, 29, 30, 31, 32, 33, 34, 35, 36] f = true) : wCost (mu m f j x) = wCost m := by
  have h9 := nin_ne h
  funext q o place way
  simp only [wCost, tq_mu h, share_mu h, own_mu h, mu_ne (h9 8 (by decide)), mu_ne (h9 9 (by decide)), mu_ne (h9 10 (by decide))]
theorem chC_mu (h : nin [8, 9, 10, 11, 12, 13, 14, 15, 25, 26, 27, 28, 29, 30, 31, 32, 33, 34, 35, 36] f = true) : chC (mu m f j x) = chC m := by
  have h9 := nin_ne h
  funext q p b n
  simp only [chC, share_mu h, mu_ne (h9 28 (by decide))]
theorem chJ_mu (h : nin [8, 9, 10, 11, 12, 13, 14, 15, 25, 26, 27, 28, 29, 30, 31, 32, 33, 34, 35, 36] f = true) : chJ (mu m f j x) = chJ m := by
  have h9 := nin_ne h
  funext q o place b n
  simp only [chJ, own_mu h, jsh_mu h]
theorem chs_mu (h : nin [8, 9, 10, 11, 12, 13, 14, 15, 25, 26, 27, 28, 29, 30, 31, 32, 33, 34, 35, 36] f = true) : chs (mu m f j x) = chs m := by
  have h9 := nin_ne h
  funext q o n
  simp only [chs, chC_mu h, chJ_mu h, tq_mu h, mu_ne (h9 8 (by decide)), mu_ne (h9 27 (by decide)), mu_ne (h9 32 (by decide))]
theorem est_mu (h : nin [8, 9, 10, 11, 12, 13, 14, 15, 25, 26, 27, 28, 29, 30, 31, 32, 33, 34, 35, 36] f = true) : est (mu m f j x) = est m := by
  have h9 := nin_ne h
  funext q o ways n
  simp only [est, chs_mu h, wCost_mu h]
theorem bway_mu (h : nin [8, 9, 10, 11, 12, 13, 14, 15, 25, 26, 27, 28, 29, 30, 31, 32, 33, 34, 35, 36] f = true) : bway (mu m f j x) = bway m := by
  have h9 := nin_ne h
  funext q ban place
  simp only [bway, wIdx_mu h, mu_ne (h9 30 (by decide))]
theorem gway_mu (h : nin [8, 9, 10, 11, 12, 13, 14, 15, 25, 26, 27, 28, 29, 30, 31, 32, 33, 34, 35, 36] f = true) : gway (mu m f j x) = gway m := by
  have h9 := nin_ne h
  funext q ban o place
  simp only [gway, wIdx_mu h, wCost_mu h]
theorem eO_mu (h : nin [8, 9, 10, 11, 12, 13, 14, 15, 25, 26, 27, 28, 29, 30, 31, 32, 33, 34, 35, 36] f = true) : eO (mu m f j x) = eO m := by
  have h9 := nin_ne h
  funext q ban i
  simp only [eO, est_mu h, gway_mu h, mu_ne (h9 25 (by decide))]
theorem best_mu (h : nin [8, 9, 10, 11, 12, 13, 14, 15, 25, 26, 27, 28, 29, 30, 31, 32, 33, 34, 35, 36] f = true) : best (mu m f j x) = best m := by
  have h9 := nin_ne h
  funext q ban
  simp only [best, eO_mu h, mu_ne (h9 25 (by decide))]
theorem plO_mu (h : nin [8, 9, 10, 11, 12, 13, 14, 15, 25, 26, 27, 28, 29, 30, 31, 32, 33, 34, 35, 36] f = true) : plO (mu m f j x) = plO m := by
  have h9 := nin_ne h
  funext q ban d
  simp only [plO, best_mu h]
theorem plW_mu (h : nin [8, 9, 10, 11, 12, 13, 14, 15, 25, 26, 27, 28, 29, 30, 31, 32, 33, 34, 35, 36] f = true) : plW (mu m f j x) = plW m := by
  have h9 := nin_ne h
  funext q ban d place
  simp only [plW, best_mu h, bway_mu h, gway_mu h]
theorem plI_mu (h : nin [8, 9, 10, 11, 12, 13, 14, 15, 25, 26, 27, 28, 29, 30, 31, 32, 33, 34, 35, 36] f = true) : plI (mu m f j x) = plI m := by
  have h9 := nin_ne h
  funext q ban d place
  simp only [plI, wIdx_mu h, plO_mu h, plW_mu h]
theorem PL_mu (h : nin [8, 9, 10, 11, 12, 13, 14, 15, 25, 26, 27, 28, 29, 30, 31, 32, 33, 34, 35, 36] f = true) : PL (mu m f j x) q ban d σ i = PL m q ban d σ i := by
  have h9 := nin_ne h
  simp only [PL, plO_mu h, plW_mu h, plI_mu h, mu_ne (h9 25 (by decide))]
theorem CP_mu (h : nin [16, 24, 52, 54, 55, 8, 9, 10, 11, 12, 13, 14, 15, 25, 26, 27, 28, 29, 30, 31, 32, 33, 34, 35, 36] f = true) : CP (mu m f j x) σ = CP m σ := by
  have n := nin_ne h
  have h2 : nin [8, 9, 10, 11, 12, 13, 14, 15, 25, 26, 27, 28, 29, 30, 31, 32, 33, 34, 35, 36] f = true := by
    cases e : nin [8, 9, 10, 11, 12, 13, 14, 15, 25, 26, 27, 28, 29, 30, 31, 32, 33, 34, 35, 36] f with
    | true => rfl
    | false =>
      simp only [nin, Bool.not_eq_false', List.contains_eq_mem, decide_eq_true_eq] at e
      exact absurd rfl (n f (List.mem_append_right [16, 24, 52, 54, 55] e))
  simp only [CP, PL_mu h2, mu_ne (n 16 (by decide)), mu_ne (n 24 (by decide)), mu_ne (n 25 (by decide)), mu_ne (n 52 (by decide)), mu_ne (n 54 (by decide)), mu_ne (n 55 (by decide))]
theorem CP_st2 : CP m (stP σ 2 i f j v) = CP m σ := by
  have e : ∀ i' f' j', sP (stP σ 2 i f j v) 5 i' f' j' = sP σ 5 i' f' j' := fun i' f' j' => by rw [sP_stP, if_neg (fun e => absurd e.1 (by decide))]
  simp only [CP, PL, PH, e, sQ_stP]
theorem bBan : ∀ b, b < 64 → ∀ k, k < 6 → (nI b ||| (nI 1 <<< (nI k &&& 31))) = nI (b ||| 2 ^ k) ∧ (b ||| 2 ^ k) < 64 ∧ popC (b ||| 2 ^ k) ≤ popC b + 1 := by decide +kernel
theorem bShr : ∀ b, b < 64 → ∀ k, k < 6 → ((nI b >>> (nI k &&& 31)) &&& nI 1) = nI (if b.testBit k = true then 1 else 0) := by decide +kernel
theorem bcA : ∀ b, b < 64 → z_J6_bitCount_0f7a4 N (nI b) σ (fun x => x = nI (popC b)) := by
  simp only [z_J6_bitCount_0f7a4]
  decide +kernel
theorem c_bits (hb : b < 64) {K : Int32 → Prop} : z_J6_bitCount_0f7a4 N (nI b) σ K = K (nI (popC b)) := by
  have h := bcA (N := N) (σ := σ) b hb
  unfold z_J6_bitCount_0f7a4 at h ⊢
  rw [h]
theorem popC_lt : ∀ b, b < 64 → popC b ≤ 6 := by decide +kernel
theorem r_ones (hN : 1000000 ≤ N) (hb : b < 64) {K : Int32 → Prop} (h : K (nI (popC b))) : z_X12_ones N (nI b) σ K := by
  unfold z_X12_ones
  simp only [↓li_m1, li_0, li_1, li_2, li_3, li_4, li_5, li_6, li_7, li_8, li_9, li_10, li_12, li_13, li_26, li_40, li_60, li_61, li_62, li_99, li_100, li_102, li_106, li_114, li_112, li_117, li_108, li_103, li_120, li_300, li_360, li_512, li_1000]
  refine for_v 6 (by omega) (by omega) (fun j a => a = nI ((List.range j).filter (fun k => b.testBit k)).length) 0 (by omega) (fun self j a hj ha hs => ?_) rfl
  subst ha
  by_cases hl : j < 6
  · have e := bShr b hb j hl
    simp (disch := omega) only [u_br_True, u_br_False, u_jn_u, u_lt_u, u_nn_s, u_brn_s, u_brn_n, nI_add, u_n_mul, u_n_lt, u_n_le, u_n_eq, u_n_sub, u_n_div, u_n_mod, nI_clamp, u_m1, u_m1q, u_wI_n, u_wA_n, u_br_t, u_br_f, ↓li_m1, li_0, li_1, li_2, li_3, li_4, li_5, li_6, li_7, li_8, li_9, li_10, li_12, li_13, li_26, li_40, li_60, li_61, li_62, li_99, li_100, li_102, li_106, li_114, li_112, li_117, li_108, li_103, li_120, li_300, li_360, li_512, li_1000, e]
    refine hs _ hl ?_
    congr 1
    rw [List.range_succ, List.filter_append, List.length_append]
    cases ht : b.testBit j <;> simp [ht]
  · have hj2 : j = 6 := by omega
    subst hj2
    simp (disch := omega) only [u_br_True, u_br_False, u_jn_u, u_lt_u, u_nn_s, u_brn_s, u_brn_n, nI_add, u_n_mul, u_n_lt, u_n_le, u_n_eq, u_n_sub, u_n_div, u_n_mod, nI_clamp, u_m1, u_m1q, u_wI_n, u_wA_n, u_br_t, u_br_f, ↓li_m1, li_0, li_1, li_2, li_3, li_4, li_5, li_6, li_7, li_8, li_9, li_10, li_12, li_13, li_26, li_40, li_60, li_61, li_62, li_99, li_100, li_102, li_106, li_114, li_112, li_117, li_108, li_103, li_120, li_300, li_360, li_512, li_1000]
    exact h
theorem nI_m2 (h : 2 ≤ c) : nI c + - nI 2 = nI (c - 2) := by
  rw [← Int32.sub_eq_add_neg, u_n_sub h]
theorem k_ban (hN : 1000000 ≤ N) (I : Inv kk σ) (hk : kk < 512) (p1 p2 : Int32) {T : Int32 → Int32 → St → Prop} (hT : ∀ code b σ2, G (kk + 1) code b σ2 → T code b σ2) : z_L_ban N (some 0) p1 p2 σ (fun code σ1 => z_X12_ban N 0 p1 p2 σ1 (fun b σ2 => T code b σ2)) := by
  have I0 := I
  obtain ⟨m, u, w, L, R, C, W⟩ := I
  have C' := C
  obtain ⟨C0', CT', CX', CC', CQ', CD', CP'⟩ := C
  have hC := C0'
  unfold C0 at hC
  obtain ⟨WT', WX', WC', WQ', WD'⟩ := W
  have R0 : RI m u w L (stP σ 12 0 0 0 (nI 0)) := R.tmp rfl
  rcases u_io p1 2 with ⟨d, hd, _, rfl⟩ | hp1
  · rcases u_io p2 (m 13 0) with ⟨k, hk2, _, rfl⟩ | hp2
    · have hk6 : k < 6 := by have := WX'.1; omega
      have hd1 : 1 - d < 2 := by omega
      obtain ⟨hb, _, _, hpc⟩ := WD'.1 (1 - d) hd1
      have h51 := (WD'.1 d hd).2.2.1
      have e46 := CD'.2.1 (1 - d) hd1
      have e51 := CD'.1 d hd
      have r46 : sP (stP σ 12 0 0 0 (nI 0)) 12 0 46 (1 - d) = nI (m 46 (1 - d)) := R0.r 46 _ rfl
      have r51 : sP (stP σ 12 0 0 0 (nI 0)) 12 0 51 d = nI (m 51 d) := R0.r 51 _ rfl
      have bs := bShr _ hb k hk6
      have popb := popC_lt _ hb
      have ro : ∀ {K : Int32 → Prop}, K (nI (popC (m 46 (1 - d)))) → z_X12_ones N (nI (m 46 (1 - d))) (stP σ 12 0 0 0 (nI 0)) K := fun {K} h => r_ones hN hb h
      have li31 : ∀ x : Int32, (x &&& 31) = (x &&& 31) := fun _ => rfl
      cases htb : (m 46 (1 - d)).testBit k with
      | true =>
        rw [htb, if_pos rfl] at bs
        have ci : ∀ {K : Int32 → Prop}, z_X11_isIn N (nI (m 46 (1 - d))) (nI k) σ K = K (nI 1) := fun {K} => by rw [c_isIn hb hk6, htb]; rfl
        simp (disch := omega) only [z_L_ban, z_X11_ban, c_D hd, c_needX C0' CX' WX' hk2, hC, z_X2_bansFor, u_br_True, u_br_False, u_jn_u, u_lt_u, u_nn_s, u_brn_s, u_brn_n, nI_add, u_n_mul, u_n_lt, u_n_le, u_n_eq, u_n_sub, u_n_div, u_n_mod, nI_clamp, u_m1, u_m1q, u_wI_n, u_wA_n, u_br_t, u_br_f, ↓li_m1, li_0, li_1, li_2, li_3, li_4, li_5, li_6, li_7, li_8, li_9, li_10, li_12, li_13, li_26, li_40, li_60, li_61, li_62, li_99, li_100, li_102, li_106, li_114, li_112, li_117, li_108, li_103, li_120, li_300, li_360, li_512, li_1000, Nat.reduceEqDiff, true_and, and_true, false_and, and_false, if_true, if_false, eq_self, and_self, Nat.reduceLT, Nat.reduceLeDiff, Nat.reduceAdd, Nat.reduceMul, Nat.reduceDiv, Nat.one_ne_zero, e46, ci, b10]
        refine Or.inr (Or.inr (Or.inl ?_))
        simp (disch := omega) only [z_X12_ban, u_br_True, u_br_False, u_jn_u, u_lt_u, u_nn_s, u_brn_s, u_brn_n, nI_add, u_n_mul, u_n_lt, u_n_le, u_n_eq, u_n_sub, u_n_div, u_n_mod, nI_clamp, u_m1, u_m1q, u_wI_n, u_wA_n, u_br_t, u_br_f, ↓li_m1, li_0, li_1, li_2, li_3, li_4, li_5, li_6, li_7, li_8, li_9, li_10, li_12, li_13, li_26, li_40, li_60, li_61, li_62, li_99, li_100, li_102, li_106, li_114, li_112, li_117, li_108, li_103, li_120, li_300, li_360, li_512, li_1000, r_inT, r_inL, r_inH, r_inPT, r_inPF, b10, b00, f_0, f_1, u_okT, u_nb_0, u_nb_1, r_isX R0 WX' hk2, r46, bs]
        exact hT _ _ _ (G_exc (c := 3) I0 hk (by decide) (by decide))
      | false =>
        rw [htb, if_neg (by decide)] at bs
        have ci : ∀ {K : Int32 → Prop}, z_X11_isIn N (nI (m 46 (1 - d))) (nI k) σ K = K (nI 0) := fun {K} => by rw [c_isIn hb hk6, htb]; rfl
        have e01 : (nI 0 = nI 1) = False := eq_false (by decide)
        by_cases hp2 : popC (m 46 (1 - d)) = 2
        · rw [hp2] at ro
          simp (disch := omega) only [z_L_ban, z_X11_ban, c_D hd, c_needX C0' CX' WX' hk2, hC, z_X2_bansFor, u_br_True, u_br_False, u_jn_u, u_lt_u, u_nn_s, u_brn_s, u_brn_n, nI_add, u_n_mul, u_n_lt, u_n_le, u_n_eq, u_n_sub, u_n_div, u_n_mod, nI_clamp, u_m1, u_m1q, u_wI_n, u_wA_n, u_br_t, u_br_f, ↓li_m1, li_0, li_1, li_2, li_3, li_4, li_5, li_6, li_7, li_8, li_9, li_10, li_12, li_13, li_26, li_40, li_60, li_61, li_62, li_99, li_100, li_102, li_106, li_114, li_112, li_117, li_108, li_103, li_120, li_300, li_360, li_512, li_1000, Nat.reduceEqDiff, true_and, and_true, false_and, and_false, if_true, if_false, eq_self, and_self, Nat.reduceLT, Nat.reduceLeDiff, Nat.reduceAdd, Nat.reduceMul, Nat.reduceDiv, Nat.one_ne_zero, e46, ci, c_bits hb, hp2]
          refine Or.inr (Or.inr (Or.inl ?_))
          simp (disch := omega) only [z_X12_ban, u_br_True, u_br_False, u_jn_u, u_lt_u, u_nn_s, u_brn_s, u_brn_n, nI_add, u_n_mul, u_n_lt, u_n_le, u_n_eq, u_n_sub, u_n_div, u_n_mod, nI_clamp, u_m1, u_m1q, u_wI_n, u_wA_n, u_br_t, u_br_f, ↓li_m1, li_0, li_1, li_2, li_3, li_4, li_5, li_6, li_7, li_8, li_9, li_10, li_12, li_13, li_26, li_40, li_60, li_61, li_62, li_99, li_100, li_102, li_106, li_114, li_112, li_117, li_108, li_103, li_120, li_300, li_360, li_512, li_1000, r_inT, r_inL, r_inH, r_inPT, r_inPF, b10, b00, f_0, f_1, u_okT, u_nb_0, u_nb_1, r_isX R0 WX' hk2, r46, bs, e01]
          refine ro ?_
          simp (disch := omega) only [u_br_True, u_br_False, u_jn_u, u_lt_u, u_nn_s, u_brn_s, u_brn_n, nI_add, u_n_mul, u_n_lt, u_n_le, u_n_eq, u_n_sub, u_n_div, u_n_mod, nI_clamp, u_m1, u_m1q, u_wI_n, u_wA_n, u_br_t, u_br_f, ↓li_m1, li_0, li_1, li_2, li_3, li_4, li_5, li_6, li_7, li_8, li_9, li_10, li_12, li_13, li_26, li_40, li_60, li_61, li_62, li_99, li_100, li_102, li_106, li_114, li_112, li_117, li_108, li_103, li_120, li_300, li_360, li_512, li_1000, b10, b00, f_0, f_1, u_okT, u_nb_0, u_nb_1, Nat.reduceEqDiff, true_and, and_true, false_and, and_false, if_true, if_false, eq_self, and_self, Nat.reduceLT, Nat.reduceLeDiff, Nat.reduceAdd, Nat.reduceMul, Nat.reduceDiv, Nat.one_ne_zero]
          exact hT _ _ _ (G_exc (c := 3) I0 hk (by decide) (by decide))
        · by_cases hc2 : m 51 d < 2
          · simp (disch := omega) only [z_L_ban, z_X11_ban, c_D hd, c_needX C0' CX' WX' hk2, hC, z_X2_bansFor, z_X2_purseOf, u_br_True, u_br_False, u_jn_u, u_lt_u, u_nn_s, u_brn_s, u_brn_n, nI_add, u_n_mul, u_n_lt, u_n_le, u_n_eq, u_n_sub, u_n_div, u_n_mod, nI_clamp, u_m1, u_m1q, u_wI_n, u_wA_n, u_br_t, u_br_f, ↓li_m1, li_0, li_1, li_2, li_3, li_4, li_5, li_6, li_7, li_8, li_9, li_10, li_12, li_13, li_26, li_40, li_60, li_61, li_62, li_99, li_100, li_102, li_106, li_114, li_112, li_117, li_108, li_103, li_120, li_300, li_360, li_512, li_1000, Nat.reduceEqDiff, true_and, and_true, false_and, and_false, if_true, if_false, eq_self, and_self, Nat.reduceLT, Nat.reduceLeDiff, Nat.reduceAdd, Nat.reduceMul, Nat.reduceDiv, Nat.one_ne_zero, e46, e51, ci, c_bits hb]
            refine Or.inr (Or.inr (Or.inr ?_))
            simp (disch := omega) only [z_X12_ban, u_br_True, u_br_False, u_jn_u, u_lt_u, u_nn_s, u_brn_s, u_brn_n, nI_add, u_n_mul, u_n_lt, u_n_le, u_n_eq, u_n_sub, u_n_div, u_n_mod, nI_clamp, u_m1, u_m1q, u_wI_n, u_wA_n, u_br_t, u_br_f, ↓li_m1, li_0, li_1, li_2, li_3, li_4, li_5, li_6, li_7, li_8, li_9, li_10, li_12, li_13, li_26, li_40, li_60, li_61, li_62, li_99, li_100, li_102, li_106, li_114, li_112, li_117, li_108, li_103, li_120, li_300, li_360, li_512, li_1000, r_inT, r_inL, r_inH, r_inPT, r_inPF, b10, b00, f_0, f_1, u_okT, u_nb_0, u_nb_1, r_isX R0 WX' hk2, r46, bs, e01]
            refine ro ?_
            simp (disch := omega) only [u_br_True, u_br_False, u_jn_u, u_lt_u, u_nn_s, u_brn_s, u_brn_n, nI_add, u_n_mul, u_n_lt, u_n_le, u_n_eq, u_n_sub, u_n_div, u_n_mod, nI_clamp, u_m1, u_m1q, u_wI_n, u_wA_n, u_br_t, u_br_f, ↓li_m1, li_0, li_1, li_2, li_3, li_4, li_5, li_6, li_7, li_8, li_9, li_10, li_12, li_13, li_26, li_40, li_60, li_61, li_62, li_99, li_100, li_102, li_106, li_114, li_112, li_117, li_108, li_103, li_120, li_300, li_360, li_512, li_1000, b10, b00, f_0, f_1, u_okT, u_nb_0, u_nb_1, Nat.reduceEqDiff, true_and, and_true, false_and, and_false, if_true, if_false, eq_self, and_self, Nat.reduceLT, Nat.reduceLeDiff, Nat.reduceAdd, Nat.reduceMul, Nat.reduceDiv, Nat.one_ne_zero, r51]
            exact hT _ _ _ (G_exc (c := 4) I0 hk (by decide) (by decide))
          · obtain ⟨bb1, bb2, bb3⟩ := bBan _ hb k hk6
            have egv : (if nI 0 < nI (m 51 d) + - nI 2 then nI (m 51 d) + - nI 2 else nI 0) = nI (m 51 d - 2) := by
              rw [nI_m2 (by omega)]
              by_cases h2 : m 51 d - 2 = 0
              · rw [h2, if_neg (by decide)]
              · rw [if_pos (by rw [u_n_lt (by omega) (by omega)]; omega)]
            simp (disch := omega) only [z_L_ban, z_X11_ban, c_D hd, c_needX C0' CX' WX' hk2, hC, z_X2_bansFor, z_X2_purseOf, z_X2_addBan, z_X2_give, u_br_True, u_br_False, u_jn_u, u_lt_u, u_nn_s, u_brn_s, u_brn_n, nI_add, u_n_mul, u_n_lt, u_n_le, u_n_eq, u_n_sub, u_n_div, u_n_mod, nI_clamp, u_m1, u_m1q, u_wI_n, u_wA_n, u_br_t, u_br_f, ↓li_m1, li_0, li_1, li_2, li_3, li_4, li_5, li_6, li_7, li_8, li_9, li_10, li_12, li_13, li_26, li_40, li_60, li_61, li_62, li_99, li_100, li_102, li_106, li_114, li_112, li_117, li_108, li_103, li_120, li_300, li_360, li_512, li_1000, Nat.reduceEqDiff, true_and, and_true, false_and, and_false, if_true, if_false, eq_self, and_self, Nat.reduceLT, Nat.reduceLeDiff, Nat.reduceAdd, Nat.reduceMul, Nat.reduceDiv, Nat.one_ne_zero, e46, e51, ci, c_bits hb, sP_stP, sQ_stP, bb1, egv, wA_l, l0c]
            have R2 : RI m u w L (stP (stL (stP (stP σ 2 0 1 (1 - d) (nI (m 46 (1 - d) ||| 2 ^ k))) 2 0 0 d (nI (m 51 d - 2))) 13 0 0 0 (nI (m 51 d - 2)).toInt64) 12 0 0 0 (nI 0)) := (R.km (((KM.st (by decide)).trans (KM.st (by decide))).trans KM.stL)).tmp rfl
            have q46 : sP (stP (stL (stP (stP σ 2 0 1 (1 - d) (nI (m 46 (1 - d) ||| 2 ^ k))) 2 0 0 d (nI (m 51 d - 2))) 13 0 0 0 (nI (m 51 d - 2)).toInt64) 12 0 0 0 (nI 0)) 12 0 46 (1 - d) = nI (m 46 (1 - d)) := R2.r 46 _ rfl
            have q51 : sP (stP (stL (stP (stP σ 2 0 1 (1 - d) (nI (m 46 (1 - d) ||| 2 ^ k))) 2 0 0 d (nI (m 51 d - 2))) 13 0 0 0 (nI (m 51 d - 2)).toInt64) 12 0 0 0 (nI 0)) 12 0 51 d = nI (m 51 d) := R2.r 51 _ rfl
            have popb : popC (m 46 (1 - d)) < 2 := by omega
            simp (disch := omega) only [z_X12_ban, u_br_True, u_br_False, u_jn_u, u_lt_u, u_nn_s, u_brn_s, u_brn_n, nI_add, u_n_mul, u_n_lt, u_n_le, u_n_eq, u_n_sub, u_n_div, u_n_mod, nI_clamp, u_m1, u_m1q, u_wI_n, u_wA_n, u_br_t, u_br_f, ↓li_m1, li_0, li_1, li_2, li_3, li_4, li_5, li_6, li_7, li_8, li_9, li_10, li_12, li_13, li_26, li_40, li_60, li_61, li_62, li_99, li_100, li_102, li_106, li_114, li_112, li_117, li_108, li_103, li_120, li_300, li_360, li_512, li_1000, r_inT, r_inL, r_inH, r_inPT, r_inPF, b10, b00, f_0, f_1, u_okT, u_nb_0, u_nb_1, r_isX R2 WX' hk2, q46, bs, e01]
            refine r_ones hN hb ?_
            simp (disch := omega) only [u_br_True, u_br_False, u_jn_u, u_lt_u, u_nn_s, u_brn_s, u_brn_n, nI_add, u_n_mul, u_n_lt, u_n_le, u_n_eq, u_n_sub, u_n_div, u_n_mod, nI_clamp, u_m1, u_m1q, u_wI_n, u_wA_n, u_br_t, u_br_f, ↓li_m1, li_0, li_1, li_2, li_3, li_4, li_5, li_6, li_7, li_8, li_9, li_10, li_12, li_13, li_26, li_40, li_60, li_61, li_62, li_99, li_100, li_102, li_106, li_114, li_112, li_117, li_108, li_103, li_120, li_300, li_360, li_512, li_1000, b10, b00, f_0, f_1, u_okT, u_nb_0, u_nb_1, q46, q51, bb1, sP_stP, Nat.reduceEqDiff, true_and, and_true, false_and, and_false, if_true, if_false, eq_self, and_self, Nat.reduceLT, Nat.reduceLeDiff, Nat.reduceAdd, Nat.reduceMul, Nat.reduceDiv, Nat.one_ne_zero]
            refine hT _ _ _ (fin (m := mu (mu m 46 (1 - d) (m 46 (1 - d) ||| 2 ^ k)) 51 d (m 51 d - 2)) (u := u) (w := w) (L := L) (σc := stP (stP σ 2 0 1 (1 - d) (nI (m 46 (1 - d) ||| 2 ^ k))) 2 0 0 d (nI (m 51 d - 2))) ⟨C0', ?_, ?_, ?_, ?_, ?_, ?_⟩ ((R2.set rfl).set rfl) ((KC.st.trans KC.st).trans KC.st) ⟨?_, ?_, ?_, ?_, ?_⟩ ?_)
            · simp (disch := decide) only [CT_mu, CT_st]; exact CT'
            · simp (disch := decide) only [CX_mu, CX_st]; exact CX'
            · simp (disch := decide) only [CC_mu, CC_st]; exact CC'
            · simp (disch := decide) only [CQ_mu, CQ_st]; exact CQ'
            · obtain ⟨d1, d2, d3, d4, d5, d6, d7⟩ := CD'
              refine ⟨fun d' hd' => ?_, fun d' hd' => ?_, fun j hj => ?_, ?_, fun h => ?_, ?_, fun j hj => ?_⟩
              · by_cases e : d' = d
                · subst e
                  rw [mu_eq]
                  simp only [sP_stP, Nat.reduceEqDiff, true_and, and_true, false_and, and_false, if_true, if_false, eq_self, and_self, Nat.reduceLT, Nat.reduceLeDiff, Nat.reduceAdd, Nat.reduceMul, Nat.reduceDiv, Nat.one_ne_zero]
                · rw [mu_nj e, mu_ne (by decide), sP_stP, if_neg (fun h => e h.2.2.2), sP_stP, if_neg (fun h => absurd h.2.2.1 (by decide))]
                  exact d1 d' hd'
              · rw [mu_ne (by decide)]
                by_cases e : d' = 1 - d
                · subst e
                  rw [mu_eq]
                  simp only [sP_stP, Nat.reduceEqDiff, true_and, and_true, false_and, and_false, if_true, if_false, eq_self, and_self, Nat.reduceLT, Nat.reduceLeDiff, Nat.reduceAdd, Nat.reduceMul, Nat.reduceDiv, Nat.one_ne_zero]
                · rw [mu_nj e, sP_stP, if_neg (fun h => absurd h.2.2.1 (by decide)), sP_stP, if_neg (fun h => e h.2.2.2)]
                  exact d2 d' hd'
              · rw [mu_ne (by decide), mu_ne (by decide)] at hj
                simp only [sP_stP, Nat.reduceEqDiff, true_and, and_true, false_and, and_false, if_true, if_false, eq_self, and_self, Nat.reduceLT, Nat.reduceLeDiff, Nat.reduceAdd, Nat.reduceMul, Nat.reduceDiv, Nat.one_ne_zero]
                exact d3 j hj
              · rw [mu_ne (by decide), mu_ne (by decide)]
                simp only [sP_stP, Nat.reduceEqDiff, true_and, and_true, false_and, and_false, if_true, if_false, eq_self, and_self, Nat.reduceLT, Nat.reduceLeDiff, Nat.reduceAdd, Nat.reduceMul, Nat.reduceDiv, Nat.one_ne_zero]
                exact d4
              · rw [mu_ne (by decide), mu_ne (by decide)] at h ⊢
                simp only [sP_stP, Nat.reduceEqDiff, true_and, and_true, false_and, and_false, if_true, if_false, eq_self, and_self, Nat.reduceLT, Nat.reduceLeDiff, Nat.reduceAdd, Nat.reduceMul, Nat.reduceDiv, Nat.one_ne_zero]
                exact d5 h
              · rw [mu_ne (by decide), mu_ne (by decide)]
                simp only [sP_stP, Nat.reduceEqDiff, true_and, and_true, false_and, and_false, if_true, if_false, eq_self, and_self, Nat.reduceLT, Nat.reduceLeDiff, Nat.reduceAdd, Nat.reduceMul, Nat.reduceDiv, Nat.one_ne_zero]
                exact d6
              · rw [mu_ne (by decide), mu_ne (by decide)] at hj
                exact d7 j hj
            · rw [CP_mu (by decide), CP_mu (by decide), CP_st2, CP_st2]
              exact CP'
            · simp (disch := decide) only [WT_mu]; exact WT'
            · simp (disch := decide) only [WX_mu]; exact WX'
            · simp (disch := decide) only [WC_mu]; exact WC'
            · simp (disch := decide) only [WQ_mu]; exact WQ'
            · obtain ⟨v1, v2, v3, v4⟩ := WD_up WD' hk
              refine ⟨fun d' hd' => ?_, by rw [mu_ne (by decide), mu_ne (by decide)]; exact v2, by rw [mu_ne (by decide), mu_ne (by decide)]; exact v3, v4⟩
              obtain ⟨x1, x2, x3, x4⟩ := v1 d' hd'
              rw [mu_ne (by decide : 46 ≠ 51), mu_ne (by decide : 54 ≠ 51), mu_ne (by decide : 54 ≠ 46)]
              have y3 : mu (mu m 46 (1 - d) (m 46 (1 - d) ||| 2 ^ k)) 51 d (m 51 d - 2) 51 d' ≤ 3 * (kk + 1) := by
                by_cases e : d' = d
                · subst e
                  rw [mu_eq]
                  omega
                · rw [mu_nj e, mu_ne (by decide)]
                  exact x3
              by_cases e : d' = 1 - d
              · subst e
                rw [mu_eq]
                exact ⟨bb2, x2, y3, by omega⟩
              · rw [mu_nj e]
                exact ⟨x1, x2, y3, x4⟩
            · simp only [sP_stP, sP_stL, Nat.reduceEqDiff, true_and, and_true, false_and, and_false, if_true, if_false, eq_self, and_self, Nat.reduceLT, Nat.reduceLeDiff, Nat.reduceAdd, Nat.reduceMul, Nat.reduceDiv, Nat.one_ne_zero]
    · simp only [z_L_ban, z_X11_ban, c_D hd, c_needXO C0' CX' WX' hp2, u_br_True, u_br_False, u_jn_u, u_lt_u, u_nn_s, u_brn_s, u_brn_n, ↓li_m1, li_0, li_1, li_2, li_3, li_4, li_5, li_6, li_7, li_8, li_9, li_10, li_12, li_13, li_26, li_40, li_60, li_61, li_62, li_99, li_100, li_102, li_106, li_114, li_112, li_117, li_108, li_103, li_120, li_300, li_360, li_512, li_1000, Nat.reduceEqDiff, true_and, and_true, false_and, and_false, if_true, if_false, eq_self, and_self, Nat.reduceLT, Nat.reduceLeDiff, Nat.reduceAdd, Nat.reduceMul, Nat.reduceDiv, Nat.one_ne_zero]
      refine Or.inr (Or.inl ?_)
      simp (disch := omega) only [z_X12_ban, r_isXO R0 WX' hp2, u_br_True, u_br_False, u_jn_u, u_lt_u, u_nn_s, u_brn_s, u_brn_n, nI_add, u_n_mul, u_n_lt, u_n_le, u_n_eq, u_n_sub, u_n_div, u_n_mod, nI_clamp, u_m1, u_m1q, u_wI_n, u_wA_n, u_br_t, u_br_f, ↓li_m1, li_0, li_1, li_2, li_3, li_4, li_5, li_6, li_7, li_8, li_9, li_10, li_12, li_13, li_26, li_40, li_60, li_61, li_62, li_99, li_100, li_102, li_106, li_114, li_112, li_117, li_108, li_103, li_120, li_300, li_360, li_512, li_1000, r_inT, r_inL, r_inH, r_inPT, r_inPF, b10, b00, f_0, f_1, u_okT, u_nb_0, u_nb_1, Nat.reduceEqDiff, true_and, and_true, false_and, and_false, if_true, if_false, eq_self, and_self, Nat.reduceLT, Nat.reduceLeDiff, Nat.reduceAdd, Nat.reduceMul, Nat.reduceDiv, Nat.one_ne_zero]
      exact hT _ _ _ (G_exc (c := 2) I0 hk (by decide) (by decide))
  · simp only [z_L_ban, z_X11_ban, c_DO hp1, u_br_True, u_br_False, u_jn_u, u_lt_u, u_nn_s, u_brn_s, u_brn_n, ↓li_m1, li_0, li_1, li_2, li_3, li_4, li_5, li_6, li_7, li_8, li_9, li_10, li_12, li_13, li_26, li_40, li_60, li_61, li_62, li_99, li_100, li_102, li_106, li_114, li_112, li_117, li_108, li_103, li_120, li_300, li_360, li_512, li_1000, Nat.reduceEqDiff, true_and, and_true, false_and, and_false, if_true, if_false, eq_self, and_self, Nat.reduceLT, Nat.reduceLeDiff, Nat.reduceAdd, Nat.reduceMul, Nat.reduceDiv, Nat.one_ne_zero]
    refine Or.inl ?_
    simp (disch := omega) only [z_X12_ban, r_inO2 hp1, u_br_True, u_br_False, u_jn_u, u_lt_u, u_nn_s, u_brn_s, u_brn_n, nI_add, u_n_mul, u_n_lt, u_n_le, u_n_eq, u_n_sub, u_n_div, u_n_mod, nI_clamp, u_m1, u_m1q, u_wI_n, u_wA_n, u_br_t, u_br_f, ↓li_m1, li_0, li_1, li_2, li_3, li_4, li_5, li_6, li_7, li_8, li_9, li_10, li_12, li_13, li_26, li_40, li_60, li_61, li_62, li_99, li_100, li_102, li_106, li_114, li_112, li_117, li_108, li_103, li_120, li_300, li_360, li_512, li_1000, b10, b00, f_0, f_1, u_okT, u_nb_0, u_nb_1, Nat.reduceEqDiff, true_and, and_true, false_and, and_false, if_true, if_false, eq_self, and_self, Nat.reduceLT, Nat.reduceLeDiff, Nat.reduceAdd, Nat.reduceMul, Nat.reduceDiv, Nat.one_ne_zero]
    exact hT _ _ _ (G_exc (c := 1) I0 hk (by decide) (by decide))
end KBAN
