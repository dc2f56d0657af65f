/-! ===== 31: numbers, bits, loops ===== -/
def b2i (b : Bool) : Int32 := if b then 1 else 0
theorem b2i_t : b2i true = 1 := rfl
theorem b2i_f : b2i false = 0 := rfl
theorem b2i_0 {b : Bool} : b2i b = 0 ↔ b = false := by cases b <;> decide
theorem b2i_1 {b : Bool} : b2i b = 1 ↔ b = true := by cases b <;> decide
theorem b2i_inj {a b : Bool} : b2i a = b2i b ↔ a = b := by cases a <;> cases b <;> decide
theorem b2i_b1 (b : Bool) : qv_b1 (b2i b) = some (b2i b) := by cases b <;> rfl
theorem b2i_and (b : Bool) : b2i b &&& 1 = b2i b := by cases b <;> decide
theorem b2i_nI (b : Bool) : b2i b = nI b.toNat := by cases b <;> rfl
theorem b2i_dec {c : Prop} [Decidable c] : (if c then (1 : Int32) else 0) = b2i (decide c) := by
  by_cases h : c <;> simp [h, b2i]
theorem b2i_decn {c : Prop} [Decidable c] : (if c then (0 : Int32) else 1) = b2i (!decide c) := by
  by_cases h : c <;> simp [h, b2i]
/-- two branches that both give a value -/
theorem o_ite {α β : Type} {c : Prop} [Decidable c] (x y : α) (f : α → Option β) : Option.bind (if c then some x else some y) f = f (if c then x else y) := by
  by_cases h : c <;> simp [h]
theorem o_b {α β : Type} (x : α) (f : α → Option β) : Option.bind (some x) f = f x := rfl
theorem s_l : ∀ n, n < 32 → ((nI n &&& 31).toBitVec.smod 32).toNat = n := by decide +kernel
theorem n_shr {w i : Nat} (hw : w < 2 ^ 31) (hi : i < 32) : nI w >>> (nI i &&& 31) = nI (w / 2 ^ i) := pk_shrN hw _ i (s_l i hi)
theorem n_and1 {n : Nat} (h : n < 2 ^ 32) : nI n &&& 1 = nI (n % 2) := pk_andN h 1 (by decide)
theorem n_bit {w i : Nat} (hw : w < 2 ^ 31) (hi : i < 32) : (nI w >>> (nI i &&& 31)) &&& 1 = b2i (w.testBit i) := by
  rw [n_shr hw hi, n_and1 (Nat.lt_of_le_of_lt (Nat.div_le_self _ _) (by omega)), b2i_nI]
  congr 1
  rw [Nat.testBit_eq_decide_div_mod_eq]
  have h2 := Nat.mod_two_eq_zero_or_one (w / 2 ^ i)
  rcases h2 with h2 | h2 <;> simp [h2]
theorem n_has {w i : Nat} (hw : w < 2 ^ 31) (hi : i < 32) : fX0_has (nI w) (nI i) = some (b2i (w.testBit i)) := by
  unfold fX0_has
  rw [n_bit hw hi, o_ite]
  cases w.testBit i <;> rfl
theorem n_and (a b : Nat) : nI a &&& nI b = nI (a &&& b) := by
  unfold nI
  apply Int32.toBitVec_inj.mp
  show BitVec.ofNat 32 a &&& BitVec.ofNat 32 b = BitVec.ofNat 32 (a &&& b)
  apply BitVec.eq_of_toNat_eq
  rw [BitVec.toNat_and, BitVec.toNat_ofNat, BitVec.toNat_ofNat, BitVec.toNat_ofNat, Nat.and_mod_two_pow]
theorem n_or (a b : Nat) : nI a ||| nI b = nI (a ||| b) := by
  unfold nI
  apply Int32.toBitVec_inj.mp
  show BitVec.ofNat 32 a ||| BitVec.ofNat 32 b = BitVec.ofNat 32 (a ||| b)
  apply BitVec.eq_of_toNat_eq
  rw [BitVec.toNat_or, BitVec.toNat_ofNat, BitVec.toNat_ofNat, BitVec.toNat_ofNat, Nat.or_mod_two_pow]
theorem n_xor (a b : Nat) : nI a ^^^ nI b = nI (a ^^^ b) := by
  unfold nI
  apply Int32.toBitVec_inj.mp
  show BitVec.ofNat 32 a ^^^ BitVec.ofNat 32 b = BitVec.ofNat 32 (a ^^^ b)
  apply BitVec.eq_of_toNat_eq
  rw [BitVec.toNat_xor, BitVec.toNat_ofNat, BitVec.toNat_ofNat, BitVec.toNat_ofNat, Nat.xor_mod_two_pow]
theorem n_shl1 : ∀ i, i < 31 → (1 : Int32) <<< (nI i &&& 31) = nI (2 ^ i) := by decide +kernel
theorem n_lit (n : Nat) : (OfNat.ofNat n : Int32) = nI n := rfl
theorem n_1 : (1 : Int32) = nI 1 := rfl
theorem n_4 : (4 : Int32) = nI 4 := rfl
/-- ¬ x: the bits that are not there -/
theorem n_andn {w m : Nat} (hw : w < 2 ^ 31) : nI w &&& (nI m ^^^ (-1)) = nI (w &&& (2 ^ 32 - 1 - m % 2 ^ 32)) := by
  unfold nI
  apply Int32.toBitVec_inj.mp
  show BitVec.ofNat 32 w &&& (BitVec.ofNat 32 m ^^^ BitVec.allOnes 32) = _
  rw [BitVec.xor_allOnes]
  apply BitVec.eq_of_toNat_eq
  rw [BitVec.toNat_and, BitVec.toNat_not, BitVec.toNat_ofNat, BitVec.toNat_ofNat, Nat.mod_eq_of_lt (show w < 2 ^ 32 by omega)]
  show _ = (BitVec.ofNat 32 (w &&& (2 ^ 32 - 1 - m % 2 ^ 32))).toNat
  rw [BitVec.toNat_ofNat, Nat.mod_eq_of_lt (Nat.lt_of_le_of_lt Nat.and_le_left (by omega))]
theorem n_sub0 {w m : Nat} (hm : m < 2 ^ 32) : w &&& (2 ^ 32 - 1 - m) = 0 ↔ ∀ i, i < 32 → w.testBit i = true → m.testBit i = true := by
  have key : ∀ i, (2 ^ 32 - 1 - m).testBit i = (decide (i < 32) && !m.testBit i) := by
    intro i
    rw [show 2 ^ 32 - 1 - m = 2 ^ 32 - (m + 1) by omega, Nat.testBit_two_pow_sub_succ hm]
  constructor
  · intro h i hi hw
    have h1 : (w &&& (2 ^ 32 - 1 - m)).testBit i = false := by rw [h]; exact Nat.zero_testBit i
    rw [Nat.testBit_and, key, hw] at h1
    simpa [hi] using h1
  · intro h
    apply Nat.eq_of_testBit_eq
    intro i
    rw [Nat.testBit_and, key, Nat.zero_testBit]
    by_cases hi : i < 32
    · cases hw : w.testBit i with
      | false => simp
      | true => simp [h i hi hw]
    · simp [hi]
/-- an Int32 is below 0, or a number -/
theorem n_cases (x : Int32) : x < 0 ∨ ∃ j : Nat, j < 2 ^ 31 ∧ x = nI j := by
  by_cases h : x < 0
  · exact Or.inl h
  · exact Or.inr (nI_of h)
theorem n_nn {j : Nat} (h : j < 2 ^ 31) : ¬ nI j < 0 := nI_pos h
/-- a loop that counts up, with early end at no place -/
theorem lp_up {σ ρ : Type} {body : σ → Option (σ ⊕ ρ)} (f : Nat → σ) (n : Nat) {r : ρ} {s : σ} (h0 : s = f 0) (hs : ∀ j, j < n → body (f j) = some (.inl (f (j + 1)))) (he : body (f n) = some (.inr r)) : qv_loop body s = some r := by
  subst h0
  exact qv_loop_up f n 0 (fun j _ h => hs j (by omega)) (by rw [Nat.zero_add]; exact he)
/-- how many below n -/
def ct (p : Nat → Bool) : Nat → Nat
  | 0 => 0
  | n + 1 => ct p n + (p n).toNat
theorem ct_le (p : Nat → Bool) : ∀ n, ct p n ≤ n
  | 0 => Nat.le_refl _
  | n + 1 => by
    have h := ct_le p n
    have h2 : (p n).toNat ≤ 1 := by cases p n <;> decide
    show ct p n + _ ≤ _
    omega
theorem ct_cong {p q : Nat → Bool} : ∀ {n : Nat}, (∀ k, k < n → p k = q k) → ct p n = ct q n
  | 0, _ => rfl
  | n + 1, h => by
    show ct p n + _ = ct q n + _
    rw [ct_cong (fun k hk => h k (by omega)), h n (by omega)]
theorem ct_0 {p : Nat → Bool} : ∀ {n : Nat}, ct p n = 0 ↔ ∀ k, k < n → p k = false
  | 0 => ⟨fun _ k hk => absurd hk (Nat.not_lt_zero k), fun _ => rfl⟩
  | n + 1 => by
    have ih := ct_0 (p := p) (n := n)
    show ct p n + (p n).toNat = 0 ↔ _
    constructor
    · intro h k hk
      by_cases hkn : k = n
      · subst hkn
        cases hp : p k with
        | false => rfl
        | true => rw [hp] at h; simp at h
      · exact ih.mp (by omega) k (by omega)
    · intro h
      rw [ih.mpr (fun k hk => h k (by omega)), h n (by omega)]
      rfl
/-- a loop and what is behind it -/
theorem lp_b {σ ρ β : Type} {body : σ → Option (σ ⊕ ρ)} {s : σ} {k : ρ → Option β} {x : Option β} (f : Nat → σ) (n : Nat) {r : ρ} (h0 : s = f 0) (hs : ∀ j, j < n → body (f j) = some (.inl (f (j + 1)))) (he : body (f n) = some (.inr r)) (hk : k r = x) : Option.bind (qv_loop body s) k = x := by
  rw [lp_up f n h0 hs he]
  exact hk
