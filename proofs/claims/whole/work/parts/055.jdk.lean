/-! the JDK's own methods that are called: what they answer, and their contracts -/
def zsl (i : Nat) : Int := ((zslen.getD i 0 : Nat) : Int)
def zsc (i k : Nat) : Int := (((zsbyt.getD i []).getD k 0).toInt)
def F_J0_length_8abf5 (n : Nat) (i : Nat) (m : ZMem) : ZR := chk (i < 7) (some (zsl i, m))
def F_J0_isEmpty_aae02 (n : Nat) (i : Nat) (m : ZMem) : ZR := chk (i < 7) (some (if zsl i = 0 then 1 else 0, m))
def F_J0_charAt_5068e (n : Nat) (i : Nat) (k : Int) (m : ZMem) : ZR := chk (i < 7) (chk (0 ≤ k ∧ k < zsl i) (some (zsc i k.toNat, m)))
def zpop (x : Int) : Int := x % 2 + x / 2 % 2 + x / 4 % 2 + x / 8 % 2 + x / 16 % 2 + x / 32 % 2 + x / 64 % 2 + x / 128 % 2 + x / 256 % 2 + x / 512 % 2
def F_J6_bitCount_0f7a4 (n : Nat) (x : Int) (m : ZMem) : ZR := chk (0 ≤ x ∧ x < 1024) (some (zpop x, m))
theorem ct_J0_length_8abf5 {ad sc sv : Nat → Nat} (n : Nat) (i : Nat) (m : ZMem) : zCT LX ad sc sv M_J0_length_8abf5 yJ0_length_8abf5 [.ref (sc i)] m (F_J0_length_8abf5 n i m) := sorry
theorem ct_J0_isEmpty_aae02 {ad sc sv : Nat → Nat} (n : Nat) (i : Nat) (m : ZMem) : zCT LX ad sc sv M_J0_isEmpty_aae02 yJ0_isEmpty_aae02 [.ref (sc i)] m (F_J0_isEmpty_aae02 n i m) := sorry
theorem ct_J0_charAt_5068e {ad sc sv : Nat → Nat} (n : Nat) (i : Nat) (k : Int) (m : ZMem) (hk : R32 k) : zCT LX ad sc sv M_J0_charAt_5068e yJ0_charAt_5068e [.ref (sc i), .int (mI k)] m (F_J0_charAt_5068e n i k m) := sorry
theorem ct_J6_bitCount_0f7a4 {ad sc sv : Nat → Nat} (n : Nat) (x : Int) (m : ZMem) (hx : R32 x) : zCT LX ad sc sv M_J6_bitCount_0f7a4 yJ6_bitCount_0f7a4 [.int (mI x)] m (F_J6_bitCount_0f7a4 n x m) := sorry
