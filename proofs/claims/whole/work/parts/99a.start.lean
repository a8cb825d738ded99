def SI9 : List Nat := [76, 87, 106, 119, 125, 136, 152, 158, 160, 188, 194, 203, 214, 220, 225, 236, 241, 265, 270, 272, 325, 331, 357, 359, 371, 386, 389, 405, 412, 417, 419, 421]
def strOk : Cond → Bool
  | .stringRef _ i _ => decide (i ∈ SI9)
  | _ => true
theorem str_in {i : Nat} {tx : String} (h : Cond.stringRef RX11 i tx ∈ tables_1) : i ∈ SI9 := by
  have h1 : tables_1.all strOk = true := by decide +kernel
  have h2 := List.all_eq_true.mp h1 _ h
  exact of_decide_eq_true h2
section STR
theorem st_76 {s : State} {args : Array Value} (hs : ∀ c ∈ flatC (Jvm.Cond.and given_1 narrow_1), c.before args s = true) : ∃ a, (Term.string RX11 76).eval args s none [] s = some (.ref a) := by
  obtain ⟨a, _, _, _, h1, -⟩ := Cond.exactly_spec (hs (.exactly (.string RX11 76) "java/lang/String") (by decide +kernel))
  exact ⟨a, h1⟩
theorem st_87 {s : State} {args : Array Value} (hs : ∀ c ∈ flatC (Jvm.Cond.and given_1 narrow_1), c.before args s = true) : ∃ a, (Term.string RX11 87).eval args s none [] s = some (.ref a) := by
  obtain ⟨a, _, _, _, h1, -⟩ := Cond.exactly_spec (hs (.exactly (.string RX11 87) "java/lang/String") (by decide +kernel))
  exact ⟨a, h1⟩
theorem st_106 {s : State} {args : Array Value} (hs : ∀ c ∈ flatC (Jvm.Cond.and given_1 narrow_1), c.before args s = true) : ∃ a, (Term.string RX11 106).eval args s none [] s = some (.ref a) := by
  obtain ⟨a, _, _, _, h1, -⟩ := Cond.exactly_spec (hs (.exactly (.string RX11 106) "java/lang/String") (by decide +kernel))
  exact ⟨a, h1⟩
theorem st_119 {s : State} {args : Array Value} (hs : ∀ c ∈ flatC (Jvm.Cond.and given_1 narrow_1), c.before args s = true) : ∃ a, (Term.string RX11 119).eval args s none [] s = some (.ref a) := by
  obtain ⟨a, _, _, _, h1, -⟩ := Cond.exactly_spec (hs (.exactly (.string RX11 119) "java/lang/String") (by decide +kernel))
  exact ⟨a, h1⟩
theorem st_125 {s : State} {args : Array Value} (hs : ∀ c ∈ flatC (Jvm.Cond.and given_1 narrow_1), c.before args s = true) : ∃ a, (Term.string RX11 125).eval args s none [] s = some (.ref a) := by
  obtain ⟨a, _, _, _, h1, -⟩ := Cond.exactly_spec (hs (.exactly (.string RX11 125) "java/lang/String") (by decide +kernel))
  exact ⟨a, h1⟩
theorem st_136 {s : State} {args : Array Value} (hs : ∀ c ∈ flatC (Jvm.Cond.and given_1 narrow_1), c.before args s = true) : ∃ a, (Term.string RX11 136).eval args s none [] s = some (.ref a) := by
  obtain ⟨a, _, _, _, h1, -⟩ := Cond.exactly_spec (hs (.exactly (.string RX11 136) "java/lang/String") (by decide +kernel))
  exact ⟨a, h1⟩
theorem st_152 {s : State} {args : Array Value} (hs : ∀ c ∈ flatC (Jvm.Cond.and given_1 narrow_1), c.before args s = true) : ∃ a, (Term.string RX11 152).eval args s none [] s = some (.ref a) := by
  obtain ⟨a, _, _, _, h1, -⟩ := Cond.exactly_spec (hs (.exactly (.string RX11 152) "java/lang/String") (by decide +kernel))
  exact ⟨a, h1⟩
theorem st_158 {s : State} {args : Array Value} (hs : ∀ c ∈ flatC (Jvm.Cond.and given_1 narrow_1), c.before args s = true) : ∃ a, (Term.string RX11 158).eval args s none [] s = some (.ref a) := by
  obtain ⟨a, _, _, _, h1, -⟩ := Cond.exactly_spec (hs (.exactly (.string RX11 158) "java/lang/String") (by decide +kernel))
  exact ⟨a, h1⟩
theorem st_160 {s : State} {args : Array Value} (hs : ∀ c ∈ flatC (Jvm.Cond.and given_1 narrow_1), c.before args s = true) : ∃ a, (Term.string RX11 160).eval args s none [] s = some (.ref a) := by
  obtain ⟨a, _, _, _, h1, -⟩ := Cond.exactly_spec (hs (.exactly (.string RX11 160) "java/lang/String") (by decide +kernel))
  exact ⟨a, h1⟩
theorem st_188 {s : State} {args : Array Value} (hs : ∀ c ∈ flatC (Jvm.Cond.and given_1 narrow_1), c.before args s = true) : ∃ a, (Term.string RX11 188).eval args s none [] s = some (.ref a) := by
  obtain ⟨a, _, _, _, h1, -⟩ := Cond.exactly_spec (hs (.exactly (.string RX11 188) "java/lang/String") (by decide +kernel))
  exact ⟨a, h1⟩
theorem st_194 {s : State} {args : Array Value} (hs : ∀ c ∈ flatC (Jvm.Cond.and given_1 narrow_1), c.before args s = true) : ∃ a, (Term.string RX11 194).eval args s none [] s = some (.ref a) := by
  obtain ⟨a, _, _, _, h1, -⟩ := Cond.exactly_spec (hs (.exactly (.string RX11 194) "java/lang/String") (by decide +kernel))
  exact ⟨a, h1⟩
theorem st_203 {s : State} {args : Array Value} (hs : ∀ c ∈ flatC (Jvm.Cond.and given_1 narrow_1), c.before args s = true) : ∃ a, (Term.string RX11 203).eval args s none [] s = some (.ref a) := by
  obtain ⟨a, _, _, _, h1, -⟩ := Cond.exactly_spec (hs (.exactly (.string RX11 203) "java/lang/String") (by decide +kernel))
  exact ⟨a, h1⟩
theorem st_214 {s : State} {args : Array Value} (hs : ∀ c ∈ flatC (Jvm.Cond.and given_1 narrow_1), c.before args s = true) : ∃ a, (Term.string RX11 214).eval args s none [] s = some (.ref a) := by
  obtain ⟨a, _, _, _, h1, -⟩ := Cond.exactly_spec (hs (.exactly (.string RX11 214) "java/lang/String") (by decide +kernel))
  exact ⟨a, h1⟩
theorem st_220 {s : State} {args : Array Value} (hs : ∀ c ∈ flatC (Jvm.Cond.and given_1 narrow_1), c.before args s = true) : ∃ a, (Term.string RX11 220).eval args s none [] s = some (.ref a) := by
  obtain ⟨a, _, _, _, h1, -⟩ := Cond.exactly_spec (hs (.exactly (.string RX11 220) "java/lang/String") (by decide +kernel))
  exact ⟨a, h1⟩
theorem st_225 {s : State} {args : Array Value} (hs : ∀ c ∈ flatC (Jvm.Cond.and given_1 narrow_1), c.before args s = true) : ∃ a, (Term.string RX11 225).eval args s none [] s = some (.ref a) := by
  obtain ⟨a, _, _, _, h1, -⟩ := Cond.exactly_spec (hs (.exactly (.string RX11 225) "java/lang/String") (by decide +kernel))
  exact ⟨a, h1⟩
theorem st_236 {s : State} {args : Array Value} (hs : ∀ c ∈ flatC (Jvm.Cond.and given_1 narrow_1), c.before args s = true) : ∃ a, (Term.string RX11 236).eval args s none [] s = some (.ref a) := by
  obtain ⟨a, _, _, _, h1, -⟩ := Cond.exactly_spec (hs (.exactly (.string RX11 236) "java/lang/String") (by decide +kernel))
  exact ⟨a, h1⟩
theorem st_241 {s : State} {args : Array Value} (hs : ∀ c ∈ flatC (Jvm.Cond.and given_1 narrow_1), c.before args s = true) : ∃ a, (Term.string RX11 241).eval args s none [] s = some (.ref a) := by
  obtain ⟨a, _, _, _, h1, -⟩ := Cond.exactly_spec (hs (.exactly (.string RX11 241) "java/lang/String") (by decide +kernel))
  exact ⟨a, h1⟩
theorem st_265 {s : State} {args : Array Value} (hs : ∀ c ∈ flatC (Jvm.Cond.and given_1 narrow_1), c.before args s = true) : ∃ a, (Term.string RX11 265).eval args s none [] s = some (.ref a) := by
  obtain ⟨a, _, _, _, h1, -⟩ := Cond.exactly_spec (hs (.exactly (.string RX11 265) "java/lang/String") (by decide +kernel))
  exact ⟨a, h1⟩
theorem st_270 {s : State} {args : Array Value} (hs : ∀ c ∈ flatC (Jvm.Cond.and given_1 narrow_1), c.before args s = true) : ∃ a, (Term.string RX11 270).eval args s none [] s = some (.ref a) := by
  obtain ⟨a, _, _, _, h1, -⟩ := Cond.exactly_spec (hs (.exactly (.string RX11 270) "java/lang/String") (by decide +kernel))
  exact ⟨a, h1⟩
theorem st_272 {s : State} {args : Array Value} (hs : ∀ c ∈ flatC (Jvm.Cond.and given_1 narrow_1), c.before args s = true) : ∃ a, (Term.string RX11 272).eval args s none [] s = some (.ref a) := by
  obtain ⟨a, _, _, _, h1, -⟩ := Cond.exactly_spec (hs (.exactly (.string RX11 272) "java/lang/String") (by decide +kernel))
  exact ⟨a, h1⟩
theorem st_325 {s : State} {args : Array Value} (hs : ∀ c ∈ flatC (Jvm.Cond.and given_1 narrow_1), c.before args s = true) : ∃ a, (Term.string RX11 325).eval args s none [] s = some (.ref a) := by
  obtain ⟨a, _, _, _, h1, -⟩ := Cond.exactly_spec (hs (.exactly (.string RX11 325) "java/lang/String") (by decide +kernel))
  exact ⟨a, h1⟩
theorem st_331 {s : State} {args : Array Value} (hs : ∀ c ∈ flatC (Jvm.Cond.and given_1 narrow_1), c.before args s = true) : ∃ a, (Term.string RX11 331).eval args s none [] s = some (.ref a) := by
  obtain ⟨a, _, _, _, h1, -⟩ := Cond.exactly_spec (hs (.exactly (.string RX11 331) "java/lang/String") (by decide +kernel))
  exact ⟨a, h1⟩
theorem st_357 {s : State} {args : Array Value} (hs : ∀ c ∈ flatC (Jvm.Cond.and given_1 narrow_1), c.before args s = true) : ∃ a, (Term.string RX11 357).eval args s none [] s = some (.ref a) := by
  obtain ⟨a, _, _, _, h1, -⟩ := Cond.exactly_spec (hs (.exactly (.string RX11 357) "java/lang/String") (by decide +kernel))
  exact ⟨a, h1⟩
theorem st_359 {s : State} {args : Array Value} (hs : ∀ c ∈ flatC (Jvm.Cond.and given_1 narrow_1), c.before args s = true) : ∃ a, (Term.string RX11 359).eval args s none [] s = some (.ref a) := by
  obtain ⟨a, _, _, _, h1, -⟩ := Cond.exactly_spec (hs (.exactly (.string RX11 359) "java/lang/String") (by decide +kernel))
  exact ⟨a, h1⟩
theorem st_371 {s : State} {args : Array Value} (hs : ∀ c ∈ flatC (Jvm.Cond.and given_1 narrow_1), c.before args s = true) : ∃ a, (Term.string RX11 371).eval args s none [] s = some (.ref a) := by
  obtain ⟨a, _, _, _, h1, -⟩ := Cond.exactly_spec (hs (.exactly (.string RX11 371) "java/lang/String") (by decide +kernel))
  exact ⟨a, h1⟩
theorem st_386 {s : State} {args : Array Value} (hs : ∀ c ∈ flatC (Jvm.Cond.and given_1 narrow_1), c.before args s = true) : ∃ a, (Term.string RX11 386).eval args s none [] s = some (.ref a) := by
  obtain ⟨a, _, _, _, h1, -⟩ := Cond.exactly_spec (hs (.exactly (.string RX11 386) "java/lang/String") (by decide +kernel))
  exact ⟨a, h1⟩
theorem st_389 {s : State} {args : Array Value} (hs : ∀ c ∈ flatC (Jvm.Cond.and given_1 narrow_1), c.before args s = true) : ∃ a, (Term.string RX11 389).eval args s none [] s = some (.ref a) := by
  obtain ⟨a, _, _, _, h1, -⟩ := Cond.exactly_spec (hs (.exactly (.string RX11 389) "java/lang/String") (by decide +kernel))
  exact ⟨a, h1⟩
theorem st_405 {s : State} {args : Array Value} (hs : ∀ c ∈ flatC (Jvm.Cond.and given_1 narrow_1), c.before args s = true) : ∃ a, (Term.string RX11 405).eval args s none [] s = some (.ref a) := by
  obtain ⟨a, _, _, _, h1, -⟩ := Cond.exactly_spec (hs (.exactly (.string RX11 405) "java/lang/String") (by decide +kernel))
  exact ⟨a, h1⟩
theorem st_412 {s : State} {args : Array Value} (hs : ∀ c ∈ flatC (Jvm.Cond.and given_1 narrow_1), c.before args s = true) : ∃ a, (Term.string RX11 412).eval args s none [] s = some (.ref a) := by
  obtain ⟨a, _, _, _, h1, -⟩ := Cond.exactly_spec (hs (.exactly (.string RX11 412) "java/lang/String") (by decide +kernel))
  exact ⟨a, h1⟩
theorem st_417 {s : State} {args : Array Value} (hs : ∀ c ∈ flatC (Jvm.Cond.and given_1 narrow_1), c.before args s = true) : ∃ a, (Term.string RX11 417).eval args s none [] s = some (.ref a) := by
  obtain ⟨a, _, _, _, h1, -⟩ := Cond.exactly_spec (hs (.exactly (.string RX11 417) "java/lang/String") (by decide +kernel))
  exact ⟨a, h1⟩
theorem st_419 {s : State} {args : Array Value} (hs : ∀ c ∈ flatC (Jvm.Cond.and given_1 narrow_1), c.before args s = true) : ∃ a, (Term.string RX11 419).eval args s none [] s = some (.ref a) := by
  obtain ⟨a, _, _, _, h1, -⟩ := Cond.exactly_spec (hs (.exactly (.string RX11 419) "java/lang/String") (by decide +kernel))
  exact ⟨a, h1⟩
theorem st_421 {s : State} {args : Array Value} (hs : ∀ c ∈ flatC (Jvm.Cond.and given_1 narrow_1), c.before args s = true) : ∃ a, (Term.string RX11 421).eval args s none [] s = some (.ref a) := by
  obtain ⟨a, _, _, _, h1, -⟩ := Cond.exactly_spec (hs (.exactly (.string RX11 421) "java/lang/String") (by decide +kernel))
  exact ⟨a, h1⟩
theorem st_all {s : State} {args : Array Value} (hs : ∀ c ∈ flatC (Jvm.Cond.and given_1 narrow_1), c.before args s = true) : ∀ i ∈ SI9, ∃ a, (Term.string RX11 i).eval args s none [] s = some (.ref a) := List.forall_mem_cons.mpr ⟨st_76 hs, List.forall_mem_cons.mpr ⟨st_87 hs, List.forall_mem_cons.mpr ⟨st_106 hs, List.forall_mem_cons.mpr ⟨st_119 hs, List.forall_mem_cons.mpr ⟨st_125 hs, List.forall_mem_cons.mpr ⟨st_136 hs, List.forall_mem_cons.mpr ⟨st_152 hs, List.forall_mem_cons.mpr ⟨st_158 hs, List.forall_mem_cons.mpr ⟨st_160 hs, List.forall_mem_cons.mpr ⟨st_188 hs, List.forall_mem_cons.mpr ⟨st_194 hs, List.forall_mem_cons.mpr ⟨st_203 hs, List.forall_mem_cons.mpr ⟨st_214 hs, List.forall_mem_cons.mpr ⟨st_220 hs, List.forall_mem_cons.mpr ⟨st_225 hs, List.forall_mem_cons.mpr ⟨st_236 hs, List.forall_mem_cons.mpr ⟨st_241 hs, List.forall_mem_cons.mpr ⟨st_265 hs, List.forall_mem_cons.mpr ⟨st_270 hs, List.forall_mem_cons.mpr ⟨st_272 hs, List.forall_mem_cons.mpr ⟨st_325 hs, List.forall_mem_cons.mpr ⟨st_331 hs, List.forall_mem_cons.mpr ⟨st_357 hs, List.forall_mem_cons.mpr ⟨st_359 hs, List.forall_mem_cons.mpr ⟨st_371 hs, List.forall_mem_cons.mpr ⟨st_386 hs, List.forall_mem_cons.mpr ⟨st_389 hs, List.forall_mem_cons.mpr ⟨st_405 hs, List.forall_mem_cons.mpr ⟨st_412 hs, List.forall_mem_cons.mpr ⟨st_417 hs, List.forall_mem_cons.mpr ⟨st_419 hs, List.forall_mem_cons.mpr ⟨st_421 hs, fun _ h => absurd h List.not_mem_nil⟩⟩⟩⟩⟩⟩⟩⟩⟩⟩⟩⟩⟩⟩⟩⟩⟩⟩⟩⟩⟩⟩⟩⟩⟩⟩⟩⟩⟩⟩⟩⟩
theorem ord_el {s : State} {args : Array Value} (hs : ∀ c ∈ flatC (Jvm.Cond.and given_1 narrow_1), c.before args s = true) : ∀ j : Nat, j < 18 → (Term.elem (.static RX11 "ORDERS" "[I") (.int (Int32.ofNat j))).eval args s none [] s = some (.int (ordA j)) := fun j hj => by
  match j, hj with
  | 0, _ => exact va_eqt (z := 0) (hs (.eq (.elem (.static RX11 "ORDERS" "[I") (.int 0)) (.int 0)) (by decide +kernel))
  | 1, _ => exact va_eqt (z := 1) (hs (.eq (.elem (.static RX11 "ORDERS" "[I") (.int 1)) (.int 1)) (by decide +kernel))
  | 2, _ => exact va_eqt (z := 2) (hs (.eq (.elem (.static RX11 "ORDERS" "[I") (.int 2)) (.int 2)) (by decide +kernel))
  | 3, _ => exact va_eqt (z := 0) (hs (.eq (.elem (.static RX11 "ORDERS" "[I") (.int 3)) (.int 0)) (by decide +kernel))
  | 4, _ => exact va_eqt (z := 2) (hs (.eq (.elem (.static RX11 "ORDERS" "[I") (.int 4)) (.int 2)) (by decide +kernel))
  | 5, _ => exact va_eqt (z := 1) (hs (.eq (.elem (.static RX11 "ORDERS" "[I") (.int 5)) (.int 1)) (by decide +kernel))
  | 6, _ => exact va_eqt (z := 1) (hs (.eq (.elem (.static RX11 "ORDERS" "[I") (.int 6)) (.int 1)) (by decide +kernel))
  | 7, _ => exact va_eqt (z := 0) (hs (.eq (.elem (.static RX11 "ORDERS" "[I") (.int 7)) (.int 0)) (by decide +kernel))
  | 8, _ => exact va_eqt (z := 2) (hs (.eq (.elem (.static RX11 "ORDERS" "[I") (.int 8)) (.int 2)) (by decide +kernel))
  | 9, _ => exact va_eqt (z := 1) (hs (.eq (.elem (.static RX11 "ORDERS" "[I") (.int 9)) (.int 1)) (by decide +kernel))
  | 10, _ => exact va_eqt (z := 2) (hs (.eq (.elem (.static RX11 "ORDERS" "[I") (.int 10)) (.int 2)) (by decide +kernel))
  | 11, _ => exact va_eqt (z := 0) (hs (.eq (.elem (.static RX11 "ORDERS" "[I") (.int 11)) (.int 0)) (by decide +kernel))
  | 12, _ => exact va_eqt (z := 2) (hs (.eq (.elem (.static RX11 "ORDERS" "[I") (.int 12)) (.int 2)) (by decide +kernel))
  | 13, _ => exact va_eqt (z := 0) (hs (.eq (.elem (.static RX11 "ORDERS" "[I") (.int 13)) (.int 0)) (by decide +kernel))
  | 14, _ => exact va_eqt (z := 1) (hs (.eq (.elem (.static RX11 "ORDERS" "[I") (.int 14)) (.int 1)) (by decide +kernel))
  | 15, _ => exact va_eqt (z := 2) (hs (.eq (.elem (.static RX11 "ORDERS" "[I") (.int 15)) (.int 2)) (by decide +kernel))
  | 16, _ => exact va_eqt (z := 1) (hs (.eq (.elem (.static RX11 "ORDERS" "[I") (.int 16)) (.int 1)) (by decide +kernel))
  | 17, _ => exact va_eqt (z := 0) (hs (.eq (.elem (.static RX11 "ORDERS" "[I") (.int 17)) (.int 0)) (by decide +kernel))
  | k + 18, hk => exact absurd hk (by omega)
theorem nc_all {s : State} {args : Array Value} (hs : ∀ c ∈ flatC (Jvm.Cond.and given_1 narrow_1), c.before args s = true) : ∀ q ∈ ncl, va_Nc q.1 q.2 s := List.forall_mem_cons.mpr ⟨va_Nc.of (hs (.not (.castable "java/lang/IllegalArgumentException" "java/lang/IllegalStateException")) (by decide +kernel)), List.forall_mem_cons.mpr ⟨va_Nc.of (hs (.not (.castable "java/lang/IllegalArgumentException" "java/lang/IndexOutOfBoundsException")) (by decide +kernel)), List.forall_mem_cons.mpr ⟨va_Nc.of (hs (.not (.castable "java/lang/IllegalArgumentException" "java/lang/UnsupportedOperationException")) (by decide +kernel)), List.forall_mem_cons.mpr ⟨va_Nc.of (hs (.not (.castable "java/lang/IllegalArgumentException" "java/util/NoSuchElementException")) (by decide +kernel)), List.forall_mem_cons.mpr ⟨va_Nc.of (hs (.not (.castable "java/lang/IllegalArgumentException" "java/lang/ArithmeticException")) (by decide +kernel)), List.forall_mem_cons.mpr ⟨va_Nc.of (hs (.not (.castable "java/lang/IllegalStateException" "java/lang/IllegalArgumentException")) (by decide +kernel)), List.forall_mem_cons.mpr ⟨va_Nc.of (hs (.not (.castable "java/lang/IllegalStateException" "java/lang/IndexOutOfBoundsException")) (by decide +kernel)), List.forall_mem_cons.mpr ⟨va_Nc.of (hs (.not (.castable "java/lang/IllegalStateException" "java/lang/UnsupportedOperationException")) (by decide +kernel)), List.forall_mem_cons.mpr ⟨va_Nc.of (hs (.not (.castable "java/lang/IllegalStateException" "java/util/NoSuchElementException")) (by decide +kernel)), List.forall_mem_cons.mpr ⟨va_Nc.of (hs (.not (.castable "java/lang/IllegalStateException" "java/lang/ArithmeticException")) (by decide +kernel)), List.forall_mem_cons.mpr ⟨va_Nc.of (hs (.not (.castable "java/lang/IndexOutOfBoundsException" "java/lang/IllegalArgumentException")) (by decide +kernel)), List.forall_mem_cons.mpr ⟨va_Nc.of (hs (.not (.castable "java/lang/IndexOutOfBoundsException" "java/lang/IllegalStateException")) (by decide +kernel)), List.forall_mem_cons.mpr ⟨va_Nc.of (hs (.not (.castable "java/lang/IndexOutOfBoundsException" "java/lang/UnsupportedOperationException")) (by decide +kernel)), List.forall_mem_cons.mpr ⟨va_Nc.of (hs (.not (.castable "java/lang/IndexOutOfBoundsException" "java/util/NoSuchElementException")) (by decide +kernel)), List.forall_mem_cons.mpr ⟨va_Nc.of (hs (.not (.castable "java/lang/IndexOutOfBoundsException" "java/lang/ArithmeticException")) (by decide +kernel)), List.forall_mem_cons.mpr ⟨va_Nc.of (hs (.not (.castable "java/lang/UnsupportedOperationException" "java/lang/IllegalArgumentException")) (by decide +kernel)), List.forall_mem_cons.mpr ⟨va_Nc.of (hs (.not (.castable "java/lang/UnsupportedOperationException" "java/lang/IllegalStateException")) (by decide +kernel)), List.forall_mem_cons.mpr ⟨va_Nc.of (hs (.not (.castable "java/lang/UnsupportedOperationException" "java/lang/IndexOutOfBoundsException")) (by decide +kernel)), List.forall_mem_cons.mpr ⟨va_Nc.of (hs (.not (.castable "java/lang/UnsupportedOperationException" "java/util/NoSuchElementException")) (by decide +kernel)), List.forall_mem_cons.mpr ⟨va_Nc.of (hs (.not (.castable "java/lang/UnsupportedOperationException" "java/lang/ArithmeticException")) (by decide +kernel)), List.forall_mem_cons.mpr ⟨va_Nc.of (hs (.not (.castable "java/util/NoSuchElementException" "java/lang/IllegalArgumentException")) (by decide +kernel)), List.forall_mem_cons.mpr ⟨va_Nc.of (hs (.not (.castable "java/util/NoSuchElementException" "java/lang/IllegalStateException")) (by decide +kernel)), List.forall_mem_cons.mpr ⟨va_Nc.of (hs (.not (.castable "java/util/NoSuchElementException" "java/lang/IndexOutOfBoundsException")) (by decide +kernel)), List.forall_mem_cons.mpr ⟨va_Nc.of (hs (.not (.castable "java/util/NoSuchElementException" "java/lang/UnsupportedOperationException")) (by decide +kernel)), List.forall_mem_cons.mpr ⟨va_Nc.of (hs (.not (.castable "java/util/NoSuchElementException" "java/lang/ArithmeticException")) (by decide +kernel)), List.forall_mem_cons.mpr ⟨va_Nc.of (hs (.not (.castable "java/lang/ArithmeticException" "java/lang/IllegalArgumentException")) (by decide +kernel)), List.forall_mem_cons.mpr ⟨va_Nc.of (hs (.not (.castable "java/lang/ArithmeticException" "java/lang/IllegalStateException")) (by decide +kernel)), List.forall_mem_cons.mpr ⟨va_Nc.of (hs (.not (.castable "java/lang/ArithmeticException" "java/lang/IndexOutOfBoundsException")) (by decide +kernel)), List.forall_mem_cons.mpr ⟨va_Nc.of (hs (.not (.castable "java/lang/ArithmeticException" "java/lang/UnsupportedOperationException")) (by decide +kernel)), List.forall_mem_cons.mpr ⟨va_Nc.of (hs (.not (.castable "java/lang/ArithmeticException" "java/util/NoSuchElementException")) (by decide +kernel)), fun _ h => absurd h List.not_mem_nil⟩⟩⟩⟩⟩⟩⟩⟩⟩⟩⟩⟩⟩⟩⟩⟩⟩⟩⟩⟩⟩⟩⟩⟩⟩⟩⟩⟩⟩⟩
theorem ks_start {s : State} {args : Array Value} (hla : ∀ w ∈ lw_all, w.before args s = true) (htb : ∀ w ∈ tables_1, w.before args s = true) (hs : ∀ c ∈ flatC (Jvm.Cond.and given_1 narrow_1), c.before args s = true) : ∃ G : Gp, G.2.2.1 = s.heap.size ∧ KS G s := by
  obtain ⟨c0, iS0, hKn0⟩ := u_known (C := RX0) (T := TX0) (N := 3) (n := 3) hla cfX0.2.1 (hla _ tw1_61)
  obtain ⟨c1, iS1, hKn1⟩ := u_known (C := RX1) (T := TX1) (N := 4) (n := 4) hla cfX1.2.1 (hla _ tw6_18)
  obtain ⟨c2, iS2, hKn2⟩ := u_known (C := RX2) (T := TX2) (N := 6) (n := 6) hla cfX2.2.1 (hla _ tw1_194)
  obtain ⟨c3, iS3, hKn3⟩ := u_known (C := RX3) (T := TX3) (N := 5) (n := 5) hla cfX3.2.1 (hla _ tw5_98)
  obtain ⟨c4, iS4, hKn4⟩ := u_known (C := RX4) (T := TX4) (N := 4) (n := 4) hla cfX4.2.1 (hla _ tw6_51)
  obtain ⟨c5, iS5, hKn5⟩ := u_known (C := RX5) (T := TX5) (N := 7) (n := 7) hla cfX5.2.1 (hla _ tw1_84)
  obtain ⟨c6, iS6, hKn6⟩ := u_known (C := RX6) (T := TX6) (N := 7) (n := 7) hla cfX6.2.1 (hla _ tw1_78)
  obtain ⟨c7, iS7, hKn7⟩ := u_known (C := RX7) (T := TX7) (N := 6) (n := 6) hla cfX7.2.1 (hla _ tw5_195)
  obtain ⟨c8, iS8, hKn8⟩ := u_known (C := RX8) (T := TX8) (N := 16) (n := 16) hla cfX8.2.1 (hla _ tw1_135)
  obtain ⟨c9, iS9, hKn9⟩ := u_known (C := RX9) (T := TX9) (N := 4) (n := 4) hla cfX9.2.1 (hla _ tw1_36)
  obtain ⟨c10, iS10, hKn10⟩ := u_known (C := RX10) (T := TX10) (N := 13) (n := 13) hla cfX10.2.1 (hla _ tw4_90)
  obtain ⟨c11, iS11, hKn11⟩ := u_known (C := RX11) (T := TX11) (N := 12) (n := 12) hla cfX11.2.1 (hla _ tw1_28)
  obtain ⟨c12, iS12, hKn12⟩ := u_known (C := RX12) (T := TX12) (N := 56) (n := 56) hla cfX12.2.1 (hla _ tw7_78)
  obtain ⟨a0, k0, m0, p0, q0, r0⟩ := Cond.arrayClass_spec (hla _ tw1_76)
  obtain ⟨a1, k1, m1, p1, q1, r1⟩ := Cond.arrayClass_spec (hla _ tw4_135)
  obtain ⟨a2, k2, m2, p2, q2, r2⟩ := Cond.arrayClass_spec (hla _ tw1_111)
  obtain ⟨a3, k3, m3, p3, q3, r3⟩ := Cond.arrayClass_spec (hla _ tw9_143)
  obtain ⟨a4, k4, m4, p4, q4, r4⟩ := Cond.arrayClass_spec (hla _ tw9_144)
  obtain ⟨m5, a5, k5, p5, _, q5, r5, u5⟩ := Cond.arrayOver_spec (htb _ tw1_42)
  obtain ⟨m6, a6, k6, p6, _, q6, r6, u6⟩ := Cond.arrayOver_spec (htb _ tw1_44)
  obtain ⟨m7, a7, k7, p7, _, q7, r7, u7⟩ := Cond.arrayOver_spec (htb _ tw1_59)
  obtain ⟨m8, a8, k8, p8, _, q8, r8, u8⟩ := Cond.arrayOver_spec (htb _ tw5_202)
  obtain ⟨m9, a9, k9, p9, _, q9, r9, u9⟩ := Cond.arrayOver_spec (htb _ tw5_204)
  obtain ⟨oa, ho1, ho2⟩ := va_Tof (A := fun q => s.heap.size ≤ q) (ty := .int) (N := 18) (f := fun j => .int (ordA j)) (tm := .static RX11 "ORDERS" "[I") (by decide) (hs _ (by decide +kernel)) (va_eqt (z := Int32.ofNat 18) (hs (.eq (.length (.static RX11 "ORDERS" "[I")) (.int 18)) (by decide +kernel))) (ord_el hs) (fun a h => Nat.not_le.mpr h)
  have hsa : ∃ sa : Nat → Nat, ∀ i ∈ SI9, (Term.string RX11 i).eval args s none [] s = some (.ref (sa i)) := by
    refine ⟨fun i => if h : i ∈ SI9 then Classical.choose (st_all hs i h) else 0, fun i hi => ?_⟩
    simp only [hi, dif_pos]
    exact Classical.choose_spec (st_all hs i hi)
  obtain ⟨sa, hsa⟩ := hsa
  refine ⟨((fun k => [c0, c1, c2, c3, c4, c5, c6, c7, c8, c9, c10, c11, c12].getD k 0, fun k => [iS0, iS1, iS2, iS3, iS4, iS5, iS6, iS7, iS8, iS9, iS10, iS11, iS12].getD k (fun _ => 0)), (fun k => [a0, a1, a2, a3, a4, a5, a6, a7, a8, a9].getD k 0), s.heap.size, oa, sa), rfl, ⟨?_, ?_⟩, Nat.le_refl _, ?_, ?_, ?_, ⟨?_, nc_all hs⟩, ?_, ?_, ho2⟩
  · intro k q hq
    match k, hq with
    | 0, hq => cases hq; exact hKn0
    | 1, hq => cases hq; exact hKn1
    | 2, hq => cases hq; exact hKn2
    | 3, hq => cases hq; exact hKn3
    | 4, hq => cases hq; exact hKn4
    | 5, hq => cases hq; exact hKn5
    | 6, hq => cases hq; exact hKn6
    | 7, hq => cases hq; exact hKn7
    | 8, hq => cases hq; exact hKn8
    | 9, hq => cases hq; exact hKn9
    | 10, hq => cases hq; exact hKn10
    | 11, hq => cases hq; exact hKn11
    | 12, hq => cases hq; exact hKn12
    | k + 13, hq => simp [kcl] at hq
  · intro k q hq
    match k, hq with
    | 0, hq => cases hq; exact ⟨fun n z => ⟨(fun k h => (by cases h)), k0, q0, m0, r0⟩, p0⟩
    | 1, hq => cases hq; exact ⟨fun n z => ⟨(fun k h => (by cases h)), k1, q1, m1, r1⟩, p1⟩
    | 2, hq => cases hq; exact ⟨fun n z => ⟨(fun k h => (by cases h)), k2, q2, m2, r2⟩, p2⟩
    | 3, hq => cases hq; exact ⟨fun n z => ⟨(fun k h => (by cases h)), k3, q3, m3, r3⟩, p3⟩
    | 4, hq => cases hq; exact ⟨fun n z => ⟨(fun k h => (by cases h)), k4, q4, m4, r4⟩, p4⟩
    | 5, hq => cases hq; exact ⟨fun n z => ⟨(fun k h => (by cases h)), k5, q5, m5, r5⟩, k5, m5, q5, r5, p5, u5⟩
    | 6, hq => cases hq; exact ⟨fun n z => ⟨(fun k h => (by cases h)), k6, q6, m6, r6⟩, k6, m6, q6, r6, p6, u6⟩
    | 7, hq => cases hq; exact ⟨fun n z => ⟨(fun k h => (by cases h)), k7, q7, m7, r7⟩, k7, m7, q7, r7, p7, u7⟩
    | 8, hq => cases hq; exact ⟨fun n z => ⟨(fun k h => (by cases h)), k8, q8, m8, r8⟩, k8, m8, q8, r8, p8, u8⟩
    | 9, hq => cases hq; exact ⟨fun n z => ⟨(fun k h => (by cases h)), k9, q9, m9, r9⟩, k9, m9, q9, r9, p9, u9⟩
    | k + 10, hq => simp [tysOf] at hq
  · exact vx_Zqof (htb _ tw4_41) (hla _ tw1_9) (hs _ (by decide +kernel)) (fun a h => Nat.not_le.mpr h)
  · exact vx_Zqof (htb _ tw4_43) (hla _ tw1_9) (hs _ (by decide +kernel)) (fun a h => Nat.not_le.mpr h)
  · intro w hw
    exact va_Nw.of (bw_onTables (List.mem_filter.mp hw).2) (htb w (List.mem_filter.mp hw).1)
  · exact List.forall_mem_cons.mpr ⟨va_AO.of (htb _ tw1_42), List.forall_mem_cons.mpr ⟨va_AO.of (htb _ tw1_44), List.forall_mem_cons.mpr ⟨va_AO.of (htb _ tw1_59), List.forall_mem_cons.mpr ⟨va_AO.of (htb _ tw5_202), List.forall_mem_cons.mpr ⟨va_AO.of (htb _ tw5_204), fun _ h => absurd h List.not_mem_nil⟩⟩⟩⟩⟩
  · intro k i tx ht hk
    subst hk
    exact vk_R.of (htb _ ht) (hsa k (str_in ht))
  · exact va_Zref (htb _ tw2_125) (hla _ tw1_1) ho1 (fun a h => Nat.not_le.mpr h)
end STR
theorem whole_start {p : Program} {e : Env} {s : State} {m : MethodId} {below : List Frame} {meth : Method} {c : Code} (l : Launch) (hflags : l.flags = flags0) {b L : Nat} {xs : Nat → Int32} (hL : L ≤ 3072) (C0 : lw_At p s m meth c b L xs) : W p l e room_1 s m #[Value.ref b] below meth c s.heap [] 0 0 (lw_Z below #[Value.ref b] s) (entryFrame m ([Value.ref b] : List Value).toArray 9) := by
  obtain ⟨hx, hb, hr, hml, hown, hts, hX, hbl, hlocks, hgv⟩ := id C0
  have hla : ∀ w ∈ lw_all, w.before #[Value.ref b] s = true := fun w hw => hts w (List.mem_filter.mp hw).1
  obtain ⟨G, hG, hK⟩ := ks_start hla (fun w hw => hts w (List.mem_append_right _ hw)) (flat_of_before _ hgv)
  have hst : l.stackTraces = false := by
    unfold Launch.stackTraces
    rw [hflags]
    decide +kernel
  have C : Cx G (p, l, e, s.setDrawn s.drawn, m, #[Value.ref b], below, meth, c) RL cL_law 9 ret := ⟨hx, hb, hml, hown, dr_words hla _, hK.same rfl rfl, hlocks, hst, hr⟩
  have S : Sc G (p, l, e, s.setDrawn s.drawn, m, #[Value.ref b], below, meth, c) b L xs := ⟨hX, hbl, by show ¬ G.2.2.1 ≤ b; rw [hG]; exact Nat.not_le.mpr hbl⟩
  obtain ⟨N, hN⟩ := law_true hL xs b
  have hgo := go_law (N := N) hL hx hb hr hlocks hG C S hN
  refine W.base ?_
  have hl := lv_entry ([.ref b]) (n := 9) (Nat.le_of_ble_eq_true rfl)
  rw [lg_entry_eq]
  generalize (lg_sl ([.ref b]) ++ List.replicate (9 - (lg_sl ([.ref b])).length) Slot.unset).toArray = ls at hl ⊢
  exact hgo s.heap [] ls (fun a e h => by cases h) va_S.rf hl
-- ===== YOUR PART ENDS =====
set_option maxHeartbeats 4000000 in
theorem lw_walk (l : Launch) (hflags : l.flags = flags0) (b : Addr) (xs : List Int32) : MetFree l x (headSpec (Jvm.Cond.code x code maxLocals ret :: tables_1) room_1) (lw_P b xs) (fun _ _ _ _ _ => True) lw_Q := by
  refine MetFree.of_bodyS (code := code) (maxLocals := maxLocals) (ret := ret) (by decide) ?_ ?_
  · intro args s m h hn
    obtain ⟨meth, c, h1, h2, h3, h4, h5, h6, -, -⟩ := Cond.code_spec hn (atoms_spec (ws := Jvm.Cond.code x code maxLocals ret :: tables_1) h _ List.mem_cons_self)
    exact ⟨meth, c, h1, h2, h3, h4, h5, h6⟩
  · intro p e s m args below meth c s₁ B hml0 hP _
    obtain ⟨rfl, hx, hbd, hgv⟩ := hP
    obtain ⟨scr, harrAt, hlist, hof, hsmall⟩ := hx
    obtain ⟨hcb, hkn, -, -⟩ := State.arrayAt?_spec harrAt
    have hown : s.vm.findClass R_law = some m.cls := findClass_of_methodNamed B.named
    have hts0 : ∀ c ∈ (Jvm.Cond.code x code maxLocals ret :: tables_1), c.before #[Value.ref b] s = true := atoms_spec (ws := Jvm.Cond.code x code maxLocals ret :: tables_1) B.pre
    have hts : ∀ w ∈ lw_tbl, w.before #[Value.ref b] s = true := k2_hts_sels lw_privs (fun w hw => hts0 w (List.mem_cons_of_mem _ hw)) lw_privs_ok
    have hml : c.maxLocals = 9 := B.maxLocals_eq (hts0 _ List.mem_cons_self)
    have X₀ : Stand p l e room_1 s m #[Value.ref b] below meth c s₁ [] 0 0 := Stand.of_body B
    have hh0 : s₁.heap = s.heap := by rw [B.state]; rfl
    have hsz : scr.slots.size = xs.length := by rw [← Array.length_toList, hlist, List.length_map]
    have hval : ∀ j : Nat, j < xs.length → scr.slots[j]? = some (.int (xs.getD j 0)) := fun j hj => by
      rw [← Array.getElem?_toList, hlist]
      simp [hj]
    have hbl : b < s.heap.size := (Array.getElem?_eq_some_iff.mp hcb).1
    have hX : va_X b xs.length (fun j => xs.getD j 0) s s.heap := ⟨scr, hcb, hof, hkn, hsz, hval⟩
    have K : W p l e room_1 s m #[Value.ref b] below meth c s₁.heap [] 0 0 (lw_Z below #[Value.ref b] s) (entryFrame m ([Value.ref b] : List Value).toArray 9) := by
      rw [hh0]
      exact whole_start l hflags hbd ⟨B.exec, B.bytes, B.returns, hml, hown, hts, hX, hbl, B.notSynchronized, hgv⟩
    obtain ⟨t, a1, o, b1, b2, b3⟩ := K s₁ rfl X₀
    exact ⟨t, o, a1, b1, b2, b3⟩
theorem lw_pre_spec {args : Array Value} {s : State} (h : (Jvm.Cond.and given_1 narrow_1).before args s = true) (hr : rest_1_c.before args s = true) : ∃ (b : Addr) (xs : List Int32), lw_P b xs args s := by
  have hs := flat_of_before _ h
  have hq := flat_of_before _ hr
  have hc : (Cond.count 1).before args s = true := hs _ (by decide +kernel)
  have harr : (Cond.arrayOf (.arg 0) .int).before args s = true := hs _ (by decide +kernel)
  have hle : (Cond.le (.length (.arg 0)) (.int 3072)).before args s = true := hs _ (by decide +kernel)
  have hlen : (Cond.isInt (.length (.arg 0))).before args s = true := hq _ (by decide +kernel)
  have hall : (Cond.all (.arg 0) (.isInt (.elem (.arg 0) (.index 0)))).before args s = true := hq _ (by decide +kernel)
  obtain ⟨b, xs, hb, hx⟩ := State.ints_of_pre rfl harr hlen hall
  have hsm : xs.length < 2 ^ 31 := hx.choose_spec.2.2.2
  have hev : (Term.length (.arg 0)).eval args s none [] s = some (.int xs.length.toInt32) := hx.length_eval hb
  have hv := Cond.le_ints hev (show (Term.int 3072).eval args s none [] s = some (.int 3072) from rfl)
  have hd : xs.length.toInt32 ≤ 3072 := by
    simpa [Cond.before, Cond.holds, hv] using hle
  have hN : xs.length ≤ 3072 := (Int32.ofNat_le_ofNat hsm (by decide)).mp (show Int32.ofNat xs.length ≤ Int32.ofNat 3072 from hd)
  exact ⟨b, xs, Cond.one_arg hc (show args[0]? = some (.ref b) from hb), hx, hN, h⟩
theorem lw_comes (l : Launch) (hflags : l.flags = flags0) : Comes l x (Jvm.Cond.code x code maxLocals ret :: tables_1) room_1 (fun tb e args s => Calls_1 tb e args s ∧ rest_1 tb e args s ∧ Pre_1 tb e args s)
    (fun _ _ args s o t => lw_Q args s o t) := by
  intro p e ha hc hk s m args below hf hfit hheap happ hpre
  obtain ⟨b, xs, hP⟩ := lw_pre_spec hpre.2.2 hpre.2.1
  obtain ⟨k, o, h1, h2, h3, hQ⟩ := lw_walk l hflags b xs p e ha hc hk s m args below hf ((Spec.applies_iff_loose hf).mp happ).1 hP trivial
  exact ⟨k, o, h1, h2, h3, hQ⟩
theorem lw_frame {s t : State} {o : Outcome} {args : Array Value} (h : State.butDraws s t lw_cs (fun t1 => Framed s o t1 [] 603072 7207018)) :
    State.butDraws s t [Jvm.Choice.named "NaN.bits"] (fun t1 => Framed s o t1 (fieldLocs frame_1_writes args s ++ arrayLocs frame_1_arrays args s ++ staticLocs frame_1_statics s) 603072 7207018) := h
theorem lw_limb (L : Cond) (hL : ∀ (args : Array Value) (s t : State), L.after args s (.returned (some (.int 1))) t = true) :
    ArmFor flags0 classFile x code maxLocals ret World_1 tables_1 room_1 Calls_1 rest_1 Pre_1
      (fun tb e a s o t => postC L tb e a s o t ∧ State.butDraws s t [Jvm.Choice.named "NaN.bits"] (fun t1 => Framed s o t1 (fieldLocs frame_1_writes a s ++ arrayLocs frame_1_arrays a s ++ staticLocs frame_1_statics s) 603072 7207018)) := by
  intro l hflags _ _ p e ha hc hk s m args below hf hfit hheap happ hpre
  obtain ⟨k, o, h1, h2, h3, rfl, hF⟩ := lw_comes l hflags p e ha hc hk s m args below hf hfit hheap happ hpre
  exact ⟨k, _, h1, h2, h3, hL args s _, lw_frame hF⟩
theorem i_vc : Claimed_1_1 ∧ Claimed_1_2 := ⟨lw_limb limb_1_1 (fun args s t => by simp [limb_1_1, Cond.after, Cond.holds, Cond.value]), lw_limb limb_1_2 (fun args s t => Cond.after_iff.mpr (by
  first | (rw [show limb_1_2 = Cond.eq .result (.int 1) from rfl, Cond.eq_ints (x := 1) (y := 1) rfl rfl]; simp; done) | (simp [limb_1_2, Cond.value, Term.eval]; done)))⟩
