section NEXTA
variable {m : Nat → Nat → Nat} {u w : Nat → Int32} {L : List Nat} {σ s : St} {N n q p t x place r e : Nat} {g o nx : Nat → Nat} {p1 : Int32}
/-- one turn of the loop of nextAnswer -/
def nF (N : Nat) (p1 : Int32) (K : Int32 → St → Prop) (w0 : St → Prop) (h78 : St) : Prop :=
  br ((sP h78 12 0 38 0) < 0) (
    K 0 h78) (
    wI 3 (sP h78 12 0 38 0) <|
    wA 3 (sP h78 12 0 38 0) (stP h78 12 0 37 ((sP h78 12 0 38 0)).toNatClampNeg ((sP h78 12 0 37 ((sP h78 12 0 38 0)).toNatClampNeg) + 1)) fun h83 =>
    wI 3 (sP h83 12 0 38 0) <|
    wI 24 ((3 * p1) + (sP h83 12 0 38 0)) <|
    wI 3 (sP h83 12 0 26 (((3 * p1) + (sP h83 12 0 38 0))).toNatClampNeg) <|
    br ((sP h83 12 0 37 ((sP h83 12 0 38 0)).toNatClampNeg) = (sP h83 12 0 3 ((sP h83 12 0 26 (((3 * p1) + (sP h83 12 0 38 0))).toNatClampNeg)).toNatClampNeg)) (
      wA 3 (sP h83 12 0 38 0) (stP h83 12 0 37 ((sP h83 12 0 38 0)).toNatClampNeg (-1)) fun h101 =>
      lt_ (stP h101 12 0 38 0 ((sP h101 12 0 38 0) - 1)) fun h103 =>
      w0 h103) (
      z_X12_fits N 0 p1 (sP h83 12 0 38 0) h83 fun v93 =>
      br (v93 = 0) (
        w0 h83) (
        wI 8 p1 <|
        br ((sP h83 12 0 38 0) = ((sP h83 12 0 25 (p1).toNatClampNeg) - 1)) (
          K 1 h83) (
          lt_ (stP h83 12 0 38 0 ((sP h83 12 0 38 0) + 1)) fun h98 =>
          w0 h98))))
theorem nextA_eq {K : Int32 → St → Prop} : z_X12_nextAnswer N 0 p1 σ K = nF N p1 K (fx1 (nF N p1 K) N) σ := rfl
end NEXTA
