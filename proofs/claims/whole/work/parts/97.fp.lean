section FPS
variable {s : Bool} {n c e : Nat} {q : Int} {d : FP.Core.Datum}
/-- a datum that is no NaN and whose number fits above -/
def okD (f : FP.Core.Fmt) (d : FP.Core.Datum) : Prop := match d with
  | .nan => False
  | .inf _ => True
  | .fin _ c q => c < 2 ^ f.p ∧ q ≤ f.qmax
theorem bound_ok {f : FP.Core.Fmt} (h : c < 2 ^ f.p) : okD f (FP.Core.bound f s c q) := by
  unfold FP.Core.bound
  split
  · rename_i h2
    exact ⟨h, h2⟩
  · trivial
theorem rr_ok {f : FP.Core.Fmt} (hp : 0 < f.p) (hq : f.qmin ≤ f.qmax) (num den : Nat) (e : Int) : okD f (FP.Core.roundRatio f s num den e) := by
  unfold FP.Core.roundRatio
  split
  · exact ⟨Nat.pow_pos (by decide), hq⟩
  · unfold FP.Core.roundAt FP.Core.settle
    split
    · rename_i h2
      exact bound_ok h2
    · refine bound_ok ?_
      unfold FP.Core.Fmt.tails
      exact Nat.pow_lt_pow_right (by decide) (by omega)
theorem b2n : ∀ s : Bool, s.toNat = 0 ∨ s.toNat = 1 := by decide
theorem enc32 (h : okD FP.Core.b32 d) : FP.Core.encode FP.Core.b32 d % 2 ^ 31 ≤ 0x7f800000 ∧ FP.Core.encode FP.Core.b32 d < 2 ^ 32 := by
  have ht : FP.Core.b32.tails = 8388608 := by decide
  have hx : FP.Core.b32.exps = 256 := by decide
  have hm : FP.Core.b32.qmin = -149 := by decide
  have hM : FP.Core.b32.qmax = 104 := by decide
  cases d with
  | nan => exact h.elim
  | inf s =>
    have := b2n s
    simp only [FP.Core.encode, FP.Core.assemble, ht, hx]
    omega
  | fin s c q =>
    obtain ⟨h1, h2⟩ := h
    have h1' : c < 16777216 := h1
    rw [hM] at h2
    have := b2n s
    simp only [FP.Core.encode, FP.Core.assemble, ht, hx, hm]
    split <;> omega
theorem enc64 (h : okD FP.Core.b64 d) : FP.Core.encode FP.Core.b64 d % 2 ^ 63 ≤ 0x7ff0000000000000 ∧ FP.Core.encode FP.Core.b64 d < 2 ^ 64 := by
  have ht : FP.Core.b64.tails = 4503599627370496 := by decide
  have hx : FP.Core.b64.exps = 2048 := by decide
  have hm : FP.Core.b64.qmin = -1074 := by decide
  have hM : FP.Core.b64.qmax = 971 := by decide
  cases d with
  | nan => exact h.elim
  | inf s =>
    have := b2n s
    simp only [FP.Core.encode, FP.Core.assemble, ht, hx]
    omega
  | fin s c q =>
    obtain ⟨h1, h2⟩ := h
    have h1' : c < 9007199254740992 := h1
    rw [hM] at h2
    have := b2n s
    simp only [FP.Core.encode, FP.Core.assemble, ht, hx, hm]
    split <;> omega
theorem nf32 (h1 : n % 2 ^ 31 ≤ 0x7f800000) (h2 : n < 2 ^ 32) : vf_n32 (UInt32.ofNat n) := by
  unfold vf_n32
  rw [UInt32.le_iff_toNat_le, UInt32.toNat_and, UInt32.toNat_ofNat_of_lt' (by simpa using h2)]
  have e : (0x7fffffff : UInt32).toNat = 2 ^ 31 - 1 := by decide
  have e2 : (0x7f800000 : UInt32).toNat = 0x7f800000 := by decide
  rw [e, e2, Nat.and_two_pow_sub_one_eq_mod]
  exact h1
theorem nf64 (h1 : n % 2 ^ 63 ≤ 0x7ff0000000000000) (h2 : n < 2 ^ 64) : vf_n64 (UInt64.ofNat n) := by
  unfold vf_n64
  rw [UInt64.le_iff_toNat_le, UInt64.toNat_and, UInt64.toNat_ofNat_of_lt' (by simpa using h2)]
  have e : (0x7fffffffffffffff : UInt64).toNat = 2 ^ 63 - 1 := by decide
  have e2 : (0x7ff0000000000000 : UInt64).toNat = 0x7ff0000000000000 := by decide
  rw [e, e2, Nat.and_two_pow_sub_one_eq_mod]
  exact h1
/-- a number of few digits is itself -/
theorem lead1 (h : n ≠ 0) : FP.Core.leading n 1 = (n.log2 : Int) := by
  unfold FP.Core.leading
  have e1 : (1 : Nat).log2 = 0 := by decide
  simp only [e1]
  have e2 : ((n.log2 : Int) - ((0 : Nat) : Int)).toNat = n.log2 := by omega
  have e3 : (-((n.log2 : Int) - ((0 : Nat) : Int))).toNat = 0 := by omega
  rw [e2, e3, if_pos]
  · omega
  · rw [Nat.one_mul, Nat.pow_zero, Nat.mul_one]
    exact Nat.log2_self_le h
theorem rint {f : FP.Core.Fmt} (hp : 0 < f.p) (hm : f.qmin ≤ -((f.p : Int) - 1)) (hM : 0 ≤ f.qmax) (hn : n ≠ 0) (h : n < 2 ^ f.p) : ∃ c q, FP.Core.round f (FP.Core.ofInt (n : Int)) = .fin false c q ∧ f.tails ≤ c ∧ c < 2 ^ f.p ∧ f.qmin ≤ q ∧ q ≤ 0 := by
  have hl : n.log2 < f.p := (Nat.log2_lt hn).mpr h
  have h1 := Nat.log2_self_le hn
  have h2 := Nat.lt_log2_self (n := n)
  have hq : FP.Core.quantum f n 1 0 = (n.log2 : Int) - ((f.p : Int) - 1) := by
    unfold FP.Core.quantum
    rw [lead1 hn]
    omega
  refine ⟨n * 2 ^ (f.p - 1 - n.log2), (n.log2 : Int) - ((f.p : Int) - 1), ?_, ?_, ?_, by omega, by omega⟩
  · have e1 : decide ((n : Int) < 0) = false := by simp
    have e2 : FP.Core.unitsNum n 0 ((n.log2 : Int) - ((f.p : Int) - 1)) = n * 2 ^ (f.p - 1 - n.log2) := by
      unfold FP.Core.unitsNum
      congr 2
      omega
    have e3 : FP.Core.unitsDen 1 0 ((n.log2 : Int) - ((f.p : Int) - 1)) = 1 := by
      unfold FP.Core.unitsDen
      rw [show ((n.log2 : Int) - ((f.p : Int) - 1) - 0).toNat = 0 by omega]
    have e4 : ∀ x, FP.Core.nearest x 1 = x := fun x => by
      unfold FP.Core.nearest
      rw [Nat.mod_one, if_pos (by decide), Nat.div_one]
    simp only [FP.Core.ofInt, FP.Core.round, FP.Core.roundRatio, Int.natAbs_natCast, if_neg hn, FP.Core.roundAt, hq, e1, e2, e3, e4]
    unfold FP.Core.settle FP.Core.bound
    rw [if_pos, if_pos (by omega)]
    calc n * 2 ^ (f.p - 1 - n.log2) < 2 ^ (n.log2 + 1) * 2 ^ (f.p - 1 - n.log2) := Nat.mul_lt_mul_of_pos_right h2 (Nat.pow_pos (by decide))
      _ = 2 ^ f.p := by rw [← Nat.pow_add]; congr 1; omega
  · unfold FP.Core.Fmt.tails
    calc 2 ^ (f.p - 1) = 2 ^ n.log2 * 2 ^ (f.p - 1 - n.log2) := by rw [← Nat.pow_add]; congr 1; omega
      _ ≤ n * 2 ^ (f.p - 1 - n.log2) := Nat.mul_le_mul_right _ h1
  · calc n * 2 ^ (f.p - 1 - n.log2) < 2 ^ (n.log2 + 1) * 2 ^ (f.p - 1 - n.log2) := Nat.mul_lt_mul_of_pos_right h2 (Nat.pow_pos (by decide))
      _ = 2 ^ f.p := by rw [← Nat.pow_add]; congr 1; omega
theorem dec32 (h1 : 8388608 ≤ c) (h2 : c < 16777216) (h3 : -149 ≤ q) (h4 : q ≤ 0) : FP.Core.encode FP.Core.b32 (.fin false c q) < 2 ^ 32 ∧ ∃ s' c' q', FP.Core.decode FP.Core.b32 (FP.Core.encode FP.Core.b32 (.fin false c q)) = .fin s' c' q' ∧ c' ≠ 0 := by
  have ht : FP.Core.b32.tails = 8388608 := by decide
  have hx : FP.Core.b32.exps = 256 := by decide
  have hm : FP.Core.b32.qmin = -149 := by decide
  have hb : false.toNat = 0 := rfl
  simp only [FP.Core.encode, FP.Core.assemble, FP.Core.decode, FP.Core.fieldE, FP.Core.fieldT, ht, hx, hm, hb]
  rw [if_neg (by omega)]
  obtain ⟨e, he⟩ : ∃ e, e = (q - -149).toNat + 1 := ⟨_, rfl⟩
  rw [← he]
  have hE : ((0 * 256 + e) * 8388608 + (c - 8388608)) / 8388608 % 256 = e := by omega
  rw [hE, if_neg (by omega), if_neg (by omega)]
  exact ⟨by omega, _, _, _, rfl, by omega⟩
theorem dec64 (h1 : 4503599627370496 ≤ c) (h2 : c < 9007199254740992) (h3 : -1074 ≤ q) (h4 : q ≤ 0) : FP.Core.encode FP.Core.b64 (.fin false c q) < 2 ^ 64 ∧ ∃ s' c' q', FP.Core.decode FP.Core.b64 (FP.Core.encode FP.Core.b64 (.fin false c q)) = .fin s' c' q' ∧ c' ≠ 0 := by
  have ht : FP.Core.b64.tails = 4503599627370496 := by decide
  have hx : FP.Core.b64.exps = 2048 := by decide
  have hm : FP.Core.b64.qmin = -1074 := by decide
  have hb : false.toNat = 0 := rfl
  simp only [FP.Core.encode, FP.Core.assemble, FP.Core.decode, FP.Core.fieldE, FP.Core.fieldT, ht, hx, hm, hb]
  rw [if_neg (by omega)]
  obtain ⟨e, he⟩ : ∃ e, e = (q - -1074).toNat + 1 := ⟨_, rfl⟩
  rw [← he]
  have hE : ((0 * 2048 + e) * 4503599627370496 + (c - 4503599627370496)) / 4503599627370496 % 2048 = e := by omega
  rw [hE, if_neg (by omega), if_neg (by omega)]
  exact ⟨by omega, _, _, _, rfl, by omega⟩
theorem i2f_dec (h : n < 16777216) : ∃ s c q, FP.Core.decode FP.Core.b32 (FP.i2f (nI n)).toNat = .fin s c q ∧ (n ≠ 0 → c ≠ 0) := by
  have e1 : (FP.i2f (nI n)).toNat = FP.Core.encode FP.Core.b32 (FP.Core.round FP.Core.b32 (FP.Core.ofInt (n : Int))) % 2 ^ 32 := by
    show (UInt32.ofNat (FP.Core.fromInt FP.Core.b32 (nI n).toInt)).toNat = _
    rw [nI_toInt (by omega)]
    rfl
  by_cases h0 : n = 0
  · subst h0
    refine ⟨false, 0, -149, ?_, fun h => absurd rfl h⟩
    rw [e1]
    decide
  · obtain ⟨c, q, r1, r2, r3, r4, r5⟩ := rint (f := FP.Core.b32) (by decide) (by decide) (by decide) h0 (by rw [show 2 ^ FP.Core.b32.p = 16777216 from by decide]; omega)
    have ht : FP.Core.b32.tails = 8388608 := by decide
    have hm : FP.Core.b32.qmin = -149 := by decide
    have hpp : 2 ^ FP.Core.b32.p = 16777216 := by decide
    rw [ht] at r2
    rw [hpp] at r3
    rw [hm] at r4
    obtain ⟨d1, s', c', q', d2, d3⟩ := dec32 r2 r3 r4 r5
    refine ⟨s', c', q', ?_, fun _ => d3⟩
    rw [e1, r1, Nat.mod_eq_of_lt d1]
    exact d2
theorem i2d_dec (h : n < 2147483648) : ∃ s c q, FP.Core.decode FP.Core.b64 (FP.i2d (nI n)).toNat = .fin s c q ∧ (n ≠ 0 → c ≠ 0) := by
  have e1 : (FP.i2d (nI n)).toNat = FP.Core.encode FP.Core.b64 (FP.Core.round FP.Core.b64 (FP.Core.ofInt (n : Int))) % 2 ^ 64 := by
    show (UInt64.ofNat (FP.Core.fromInt FP.Core.b64 (nI n).toInt)).toNat = _
    rw [nI_toInt (by omega)]
    rfl
  by_cases h0 : n = 0
  · subst h0
    refine ⟨false, 0, -1074, ?_, fun h => absurd rfl h⟩
    rw [e1]
    decide
  · obtain ⟨c, q, r1, r2, r3, r4, r5⟩ := rint (f := FP.Core.b64) (by decide) (by decide) (by decide) h0 (by rw [show 2 ^ FP.Core.b64.p = 9007199254740992 from by decide]; omega)
    have ht : FP.Core.b64.tails = 4503599627370496 := by decide
    have hm : FP.Core.b64.qmin = -1074 := by decide
    have hpp : 2 ^ FP.Core.b64.p = 9007199254740992 := by decide
    rw [ht] at r2
    rw [hpp] at r3
    rw [hm] at r4
    obtain ⟨d1, s', c', q', d2, d3⟩ := dec64 r2 r3 r4 r5
    refine ⟨s', c', q', ?_, fun _ => d3⟩
    rw [e1, r1, Nat.mod_eq_of_lt d1]
    exact d2
theorem fdiv_nf {a b : Nat} (ha : a < 16777216) (hb : b < 16777216) (h0 : b ≠ 0) : vf_n32 (FP.fdiv (FP.i2f (nI a)) (FP.i2f (nI b))) := by
  obtain ⟨s, c, q, e1, _⟩ := i2f_dec ha
  obtain ⟨t, c', r, e2, e3⟩ := i2f_dec hb
  show vf_n32 (UInt32.ofNat (FP.Core.encode FP.Core.b32 (FP.Core.quotient FP.Core.b32 (FP.Core.decode FP.Core.b32 (FP.i2f (nI a)).toNat) (FP.Core.decode FP.Core.b32 (FP.i2f (nI b)).toNat))))
  rw [e1, e2]
  simp only [FP.Core.quotient]
  rw [if_neg (e3 h0)]
  obtain ⟨h1, h2⟩ := enc32 (rr_ok (f := FP.Core.b32) (s := s != t) (by decide) (by decide) c c' (q - r))
  exact nf32 h1 h2
theorem ddiv_nf {a b : Nat} (ha : a < 2147483648) (hb : b < 2147483648) (h0 : b ≠ 0) : vf_n64 (FP.ddiv (FP.i2d (nI a)) (FP.i2d (nI b))) := by
  obtain ⟨s, c, q, e1, _⟩ := i2d_dec ha
  obtain ⟨t, c', r, e2, e3⟩ := i2d_dec hb
  show vf_n64 (UInt64.ofNat (FP.Core.encode FP.Core.b64 (FP.Core.quotient FP.Core.b64 (FP.Core.decode FP.Core.b64 (FP.i2d (nI a)).toNat) (FP.Core.decode FP.Core.b64 (FP.i2d (nI b)).toNat))))
  rw [e1, e2]
  simp only [FP.Core.quotient]
  rw [if_neg (e3 h0)]
  obtain ⟨h1, h2⟩ := enc64 (rr_ok (f := FP.Core.b64) (s := s != t) (by decide) (by decide) c c' (q - r))
  exact nf64 h1 h2
theorem nn32 {x : UInt32} (h : vf_n32 x) : FP.Core.decode FP.Core.b32 x.toNat ≠ .nan := by
  unfold vf_n32 at h
  rw [UInt32.le_iff_toNat_le, UInt32.toNat_and] at h
  have e : (0x7fffffff : UInt32).toNat = 2 ^ 31 - 1 := by decide
  have e2 : (0x7f800000 : UInt32).toNat = 0x7f800000 := by decide
  rw [e, e2, Nat.and_two_pow_sub_one_eq_mod] at h
  have ht : FP.Core.b32.tails = 8388608 := by decide
  have hx : FP.Core.b32.exps = 256 := by decide
  simp only [FP.Core.decode, FP.Core.fieldE, FP.Core.fieldT, ht, hx]
  split
  · rename_i h1
    rw [if_pos (by omega)]
    exact fun h => by cases h
  · split <;> exact fun h => by cases h
theorem f2d_nf {x : UInt32} (h : vf_n32 x) : vf_n64 (FP.f2d x) := by
  have hn := nn32 h
  have e1 : FP.f2d x = UInt64.ofNat (FP.Core.encode FP.Core.b64 (FP.Core.round FP.Core.b64 (FP.Core.decode FP.Core.b32 x.toNat))) := by
    unfold FP.f2d
    rw [if_neg]
    · rfl
    · intro h9
      exact hn (of_decide_eq_true h9)
  rw [e1]
  have hk : okD FP.Core.b64 (FP.Core.round FP.Core.b64 (FP.Core.decode FP.Core.b32 x.toNat)) := by
    cases hd : FP.Core.decode FP.Core.b32 x.toNat with
    | nan => exact absurd hd hn
    | inf s => trivial
    | fin s c q => exact rr_ok (by decide) (by decide) c 1 q
  obtain ⟨h1, h2⟩ := enc64 hk
  exact nf64 h1 h2
end FPS
