/-- a small number as an int -/
def o (k : Nat) : Int32 := Int32.ofNat k
theorem lit (k : Nat) : (@OfNat.ofNat Int32 k _) = o k := rfl
theorem o_toInt {k : Nat} (h : k < 2147483648) : (o k).toInt = (k : Int) := Int32.toInt_ofNat_of_lt h
theorem o_inj {a b : Nat} (ha : a < 2147483648) (hb : b < 2147483648) : o a = o b ↔ a = b := by
  constructor
  · intro h
    have := congrArg Int32.toInt h
    rw [o_toInt ha, o_toInt hb] at this
    omega
  · intro h; rw [h]
theorem o_lt {a b : Nat} (ha : a < 2147483648) (hb : b < 2147483648) : o a < o b ↔ a < b := by
  rw [Int32.lt_iff_toInt_lt, o_toInt ha, o_toInt hb]; omega
theorem o_le {a b : Nat} (ha : a < 2147483648) (hb : b < 2147483648) : o a ≤ o b ↔ a ≤ b := by
  rw [Int32.le_iff_toInt_le, o_toInt ha, o_toInt hb]; omega
theorem o_add (a b : Nat) : o a + o b = o (a + b) := (Int32.ofNat_add a b).symm
theorem o_mul (a b : Nat) : o a * o b = o (a * b) := (Int32.ofNat_mul a b).symm
theorem o_sub {a b : Nat} (h : b ≤ a) : o a - o b = o (a - b) := (Int32.ofNat_sub a b h).symm
theorem ix_o {a : Nat} (ha : a < 2147483648) : ix (o a) = a := by
  show (Int32.ofNat a).toNatClampNeg = a
  rw [Int32.toNatClampNeg, Int32.toInt_ofNat_of_lt ha]; rfl
theorem sIn_o {a : Nat} (N : Nat) (ha : a < 2147483648) : sIn (o a) N = decide (a < N) := by
  unfold sIn
  rw [o_toInt ha]
  simp
theorem bm_small {c : Nat} (h : c < 2147483648) : ((c : Int)).bmod (2 ^ 32) = (c : Int) := Int.bmod_eq_of_le (by omega) (by omega)
theorem o_div {a b : Nat} (ha : a < 2147483648) (hb : b < 2147483648) : o a / o b = o (a / b) := by
  apply Int32.toInt_inj.mp
  have h1 : a / b < 2147483648 := Nat.lt_of_le_of_lt (Nat.div_le_self a b) ha
  rw [o_toInt h1, Int32.toInt_div, o_toInt ha, o_toInt hb]
  have h2 : ((a : Int).tdiv (b : Int)) = ((a / b : Nat) : Int) := by rw [Int.ofNat_tdiv]
  rw [h2]
  exact bm_small h1
theorem jRem_o {a b : Nat} (ha : a < 2147483648) (hb : b < 2147483648) : jRem (o a) (o b) = o (a % b) := by
  unfold jRem
  rw [o_div ha hb, o_mul, o_sub (Nat.div_mul_le_self a b)]
  congr 1
  have := Nat.div_add_mod a b
  rw [Nat.mul_comm] at this
  omega
