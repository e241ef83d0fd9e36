/-! numbers -/
theorem zm_i8 (x : Int8) : x.toInt32 = Int32.ofInt x.toInt := by
  apply Int32.toInt_inj.mp
  rw [Int8.toInt_toInt32, Int32.toInt_ofInt_of_le]
  · have := x.toInt_lt; have := x.le_toInt; omega
  · have := x.toInt_lt; have := x.le_toInt; omega
theorem zm_i16 (x : Int16) : x.toInt32 = Int32.ofInt x.toInt := by
  apply Int32.toInt_inj.mp
  rw [Int16.toInt_toInt32, Int32.toInt_ofInt_of_le]
  · have := x.toInt_lt; have := x.le_toInt; omega
  · have := x.toInt_lt; have := x.le_toInt; omega
theorem zm_oi (x : Int32) : Int32.ofInt x.toInt = x := Int32.ofInt_toInt x
theorem zm_oj (x : Int64) : Int64.ofInt x.toInt = x := Int64.ofInt_toInt x
theorem zm_n32_eq (a b : Int) : Int32.ofInt a = Int32.ofInt b ↔ n32 a = n32 b := Int32.toInt_inj.symm
theorem zm_n32_lt (a b : Int) : Int32.ofInt a < Int32.ofInt b ↔ n32 a < n32 b := Int32.lt_iff_toInt_lt
theorem zm_n32_le (a b : Int) : Int32.ofInt a ≤ Int32.ofInt b ↔ n32 a ≤ n32 b := Int32.le_iff_toInt_le
theorem zm_z0 : (0 : Int32) = Int32.ofInt 0 := rfl
theorem zm_n0' : n32 0 = 0 := rfl
theorem zm_add (a b : Int) : Int32.ofInt (a + b) = Int32.ofInt a + Int32.ofInt b := Int32.ofInt_add a b
theorem zm_sub (a b : Int) : Int32.ofInt (a - b) = Int32.ofInt a - Int32.ofInt b := Int32.ofInt_sub a b
theorem zm_mul (a b : Int) : Int32.ofInt (a * b) = Int32.ofInt a * Int32.ofInt b := Int32.ofInt_mul a b
theorem zm_addL (a b : Int) : Int64.ofInt (a + b) = Int64.ofInt a + Int64.ofInt b := Int64.ofInt_add a b
theorem zm_subL (a b : Int) : Int64.ofInt (a - b) = Int64.ofInt a - Int64.ofInt b := Int64.ofInt_sub a b
theorem zm_mulL (a b : Int) : Int64.ofInt (a * b) = Int64.ofInt a * Int64.ofInt b := Int64.ofInt_mul a b
theorem zm_rem (a b : Int) : Int32.ofInt ((n32 a).tmod (n32 b)) = Int32.ofInt a - Int32.ofInt a / Int32.ofInt b * Int32.ofInt b := by
  rw [← zm_oi (Int32.ofInt a - Int32.ofInt a / Int32.ofInt b * Int32.ofInt b), rem_toInt]
  rfl
theorem zm_remL (a b : Int) : Int64.ofInt ((n64 a).tmod (n64 b)) = Int64.ofInt a - Int64.ofInt a / Int64.ofInt b * Int64.ofInt b := by
  have e : ∀ x y : Int64, x - (x / y) * y = x % y := by
    intro x y
    apply Int64.toInt_inj.mp
    have h1 := Int64.le_toInt (x % y)
    have h2 := Int64.toInt_lt (x % y)
    rw [Int64.toInt_sub, Int64.toInt_mul, Int64.toInt_div, Int.bmod_mul_bmod, Int.sub_bmod_bmod, Int.mul_comm (x.toInt.tdiv y.toInt), ← Int.tmod_def, ← Int64.toInt_mod]
    exact Int.bmod_eq_of_le_mul_two (by omega) (by omega)
  rw [e]
  apply Int64.toInt_inj.mp
  rw [Int64.toInt_mod]
  have h1 := Int64.le_toInt (Int64.ofInt a % Int64.ofInt b)
  have h2 := Int64.toInt_lt (Int64.ofInt a % Int64.ofInt b)
  rw [Int64.toInt_mod] at h1 h2
  exact Int64.toInt_ofInt_of_le h1 h2
theorem zm_div (a b : Int) : Int32.ofInt ((n32 a).tdiv (n32 b)) = Int32.ofInt a / Int32.ofInt b := by
  apply Int32.toInt_inj.mp
  rw [Int32.toInt_div, Int32.toInt_ofInt]
  rfl
theorem zm_divL (a b : Int) : Int64.ofInt ((n64 a).tdiv (n64 b)) = Int64.ofInt a / Int64.ofInt b := by
  apply Int64.toInt_inj.mp
  rw [Int64.toInt_div, Int64.toInt_ofInt]
  rfl
theorem zm_i2l (a : Int) : (Int32.ofInt a).toInt64 = Int64.ofInt (n32 a) := by
  apply Int64.toInt_inj.mp
  rw [Int32.toInt_toInt64, Int64.toInt_ofInt_of_le]
  · rfl
  · have := (Int32.ofInt a).toInt_lt; have := (Int32.ofInt a).le_toInt; unfold n32; omega
  · have := (Int32.ofInt a).toInt_lt; have := (Int32.ofInt a).le_toInt; unfold n32; omega
theorem zm_lcmp_eq (a b : Int) : lg_cmp (Int64.ofInt a) (Int64.ofInt b) = Int32.ofInt (zm_lcmp a b) := by
  unfold lg_cmp zm_lcmp
  have h1 : (Int64.ofInt a > Int64.ofInt b) ↔ n64 b < n64 a := Int64.lt_iff_toInt_lt
  have h2 : (Int64.ofInt a = Int64.ofInt b) ↔ n64 a = n64 b := Int64.toInt_inj.symm
  by_cases q : n64 b < n64 a
  · rw [if_pos (h1.mpr q), if_pos q]; rfl
  · rw [if_neg (fun z => q (h1.mp z)), if_neg q]
    by_cases q2 : n64 a = n64 b
    · rw [if_pos (h2.mpr q2), if_pos q2]; rfl
    · rw [if_neg (fun z => q2 (h2.mp z)), if_neg q2]; rfl
theorem zm_tgt_eq {pc : Nat} {off : Int} (h : 0 ≤ (pc : Int) + off) : (pc : Int) + off = ((zm_tgt pc off : Nat) : Int) := by
  unfold zm_tgt
  omega
theorem zm_inb_in {i : Int} {n : Nat} (h : zm_inb i n = true) : vp_in (Int32.ofInt i) n := by
  rw [vp_in_iff]
  simpa [zm_inb, n32] using h
theorem zm_clamp {i : Int} : (Int32.ofInt i).toNatClampNeg = (n32 i).toNat := rfl
