/-! ===== 44: obligation: lands ===== -/
def wl (L : Ld) (x : Int32) : Nat := x.toBitVec.toNat &&& msk L
theorem wl_eq (L : Ld) (x : Int32) : x &&& nI (msk L) = nI (wl L x) := by
  have h := n_and x.toBitVec.toNat (msk L)
  rw [← n_self x] at h
  exact h
theorem wl_isW (L : Ld) (x : Int32) : isW L (wl L x) = true := by
  unfold isW wl
  rw [Nat.and_assoc, Nat.and_self]
  exact decide_eq_true rfl
def nx (x : Int32) : Int32 := (x * (1664525 : Int32)) + (1013904223 : Int32)
theorem nx_f (x : Int32) : (x * (1664525 : Int32)) + (1013904223 : Int32) = nx x := by rw [nx]
def vl (x : Int32) : Int32 := ((nx x &&& (2147483647 : Int32)) / (256 : Int32)) - ((nx x &&& (2147483647 : Int32)) / (256 : Int32)) / (1024 : Int32) * (1024 : Int32)
theorem vl_f (x : Int32) : ((nx x &&& (2147483647 : Int32)) / (256 : Int32)) - ((nx x &&& (2147483647 : Int32)) / (256 : Int32)) / (1024 : Int32) * (1024 : Int32) = vl x := by rw [vl]
def sg (N : Int32 → Int32) (x : Int32) : Nat → Int32
  | 0 => x
  | j + 1 => N (sg N x j)
theorem msk_or (L : Ld) (ok : LdOK L) : nI (2 ^ L.1 2 - 1) ||| (nI (2 ^ L.1 3 - 1) <<< ((4 : Int32) &&& 31)) = nI (msk L) := by
  have h3 := ok.2.2.2.1
  have e : ∀ s, s ≤ 6 → nI (2 ^ s - 1) <<< ((4 : Int32) &&& 31) = nI ((2 ^ s - 1) <<< 4) := by decide +kernel
  rw [e _ h3, n_or]
  rfl
