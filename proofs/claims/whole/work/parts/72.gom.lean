/-! ===== 72: go: the reference ===== -/
def prt3 (k i : Nat) : Nat := k / 3 ^ i % 3
def tcr (kn so : Nat) : Nat → Nat
  | 0 => 0
  | i + 1 => tcr kn so i + 3 ^ i * (if kn.testBit i = true then 1 + (so.testBit i).toNat else 0)
/-- what one knows, in threes -/
def tc (kn so : Nat) : Nat := tcr kn so 4
def agq (k f i : Nat) : Bool := !(decide (prt3 k i = 0) || decide (prt3 k i = 1 + (f.testBit i).toNat))
def agb (k f : Nat) : Bool := !decide (fi (agq k f) 4 < 4)
def ka (s k f : Nat) : Nat → Nat
  | 0 => k
  | i + 1 => if (s.testBit i && decide (prt3 k i = 0)) = true then ka s k f i + 3 ^ i * (1 + (f.testBit i).toNat) else ka s k f i
def knd (k : Nat) : Nat := (if prt3 k 0 = 0 then 0 else 1) + (if prt3 k 1 = 0 then 0 else 2) + (if prt3 k 2 = 0 then 0 else 4) + (if prt3 k 3 = 0 then 0 else 8)
def sod (k : Nat) : Nat := (if prt3 k 0 = 2 then 1 else 0) + (if prt3 k 1 = 2 then 2 else 0) + (if prt3 k 2 = 2 then 4 else 0) + (if prt3 k 3 = 2 then 8 else 0)
theorem t_dec : ∀ k, k < 81 → tc (knd k) (sod k) = k ∧ knd k < 16 ∧ sod k &&& knd k = sod k := by decide +kernel
theorem t_enc : ∀ kn, kn < 16 → ∀ so, so < 16 → so &&& kn = so → knd (tc kn so) = kn ∧ sod (tc kn so) = so ∧ tc kn so < 81 := by decide +kernel
theorem t_ag : ∀ kn, kn < 16 → ∀ so, so < 16 → so &&& kn = so → ∀ f, f < 16 → agb (tc kn so) f = decide (f &&& kn = so) := by decide +kernel
theorem t_ka : ∀ kn, kn < 16 → ∀ s, s < 16 → ∀ f, f < 16 → ka s (tc kn (f &&& kn)) f 4 = tc (kn ||| s) (f &&& (kn ||| s)) := by decide +kernel
theorem p3_lt (k i : Nat) : prt3 k i < 3 := Nat.mod_lt _ (by decide)
section MG
variable {τ : St} {L : Ld} {C : Nat → Bool} {W : Nat → Nat}
theorem m_part {k : Nat} (hk : k < 2 ^ 31) {i : Nat} (hi : i < 5) : fX9_partOf (nI k) (nI i) = some (nI (prt3 k i)) := by
  have hdiv : ∀ j, k / 3 ^ j < 2 ^ 31 := fun j => Nat.lt_of_le_of_lt (Nat.div_le_self _ _) hk
  unfold fX9_partOf
  refine lp_b (fun j => (nI (k / 3 ^ j), nI j)) i (r := nI (k / 3 ^ i)) ?_ ?_ ?_ ?_
  · show (nI k, (0 : Int32)) = (nI (k / 1), nI 0)
    rw [Nat.div_one]
    rfl
  · intro j hj
    dsimp only
    rw [if_neg (nI_ge hj (by omega)), show nI j + 1 = nI (j + 1) from nI_1 j, show nI (k / 3 ^ j) / (3 : Int32) = nI (k / 3 ^ j / 3) from pk_div (hdiv j) (by decide) (by decide), Nat.div_div_eq_div_mul, ← Nat.pow_succ]
  · dsimp only
    rw [if_pos (nI_le (Nat.le_refl _) (by omega))]
  · have e : nI (k / 3 ^ i) - nI (k / 3 ^ i) / (3 : Int32) * (3 : Int32) = nI (k / 3 ^ i % 3) := pk_rem (hdiv i) (by decide) (by decide)
    rw [e]
    rfl
theorem m_agrees {k f : Nat} (hk : k < 81) (hf : f < 16) : fX9_agrees 45 (nI k) (nI f) (mk τ) = some (b2i (agb k f)) := by
  unfold fX9_agrees
  refine lp_fb (fun i => nI i) 4 (agq k f) (fun _ => .inr 0) (.inl ()) rfl ?_ ?_ ?_ ?_
  · intro i hi hb
    have h3 := p3_lt k i
    have hbt : (f.testBit i).toNat ≤ 1 := by cases f.testBit i <;> decide
    unfold agq at hb
    rw [Bool.not_eq_false', Bool.or_eq_true, decide_eq_true_iff, decide_eq_true_iff] at hb
    rw [if_neg (show ¬ (4 : Int32) ≤ nI i from nI_ge (b := 4) hi (by decide)), m_part (by omega) (by omega), o_b, n_bit (by omega) (by omega), show nI i + 1 = nI (i + 1) from nI_1 i]
    by_cases h0 : prt3 k i = 0
    · rw [if_pos (show nI (prt3 k i) ≤ 0 by rw [h0]; decide)]
    · have h1 : prt3 k i = 1 + (f.testBit i).toNat := by omega
      rw [if_neg (show ¬ nI (prt3 k i) ≤ 0 from nI_nle (by omega) (by omega)), show nI (prt3 k i) - 1 = nI (prt3 k i - 1) from pk_sub (b := 1) (by omega), b2i_nI, if_pos (by rw [h1]; congr 1; omega)]
  · intro i hi hb
    have h3 := p3_lt k i
    have hbt : (f.testBit i).toNat ≤ 1 := by cases f.testBit i <;> decide
    unfold agq at hb
    rw [Bool.not_eq_true', Bool.or_eq_false_iff, decide_eq_false_iff_not, decide_eq_false_iff_not] at hb
    rw [if_neg (show ¬ (4 : Int32) ≤ nI i from nI_ge (b := 4) hi (by decide)), m_part (by omega) (by omega), o_b, n_bit (by omega) (by omega)]
    rw [if_neg (show ¬ nI (prt3 k i) ≤ 0 from nI_nle (by omega) (by omega)), show nI (prt3 k i) - 1 = nI (prt3 k i - 1) from pk_sub (b := 1) (by omega), b2i_nI, if_neg (fun z => by
      have := (nI_eq (show prt3 k i - 1 < 2 ^ 31 by omega) (show (f.testBit i).toNat < 2 ^ 31 by omega)).mp z
      omega)]
  · rw [if_pos (show (4 : Int32) ≤ nI 4 by decide)]
  · unfold agb
    by_cases h : fi (agq k f) 4 < 4
    · rw [if_pos h, decide_eq_true h]; rfl
    · rw [if_neg h, decide_eq_false h]; rfl
theorem m_known (hz : τ.2.2 = true) (hL : LM τ L) (ok : LdOK L) {k p f : Nat} (hk : k < 81) (hp : p < 6) (hf : f < 16) : fX9_knownAt 45 (nI k) (nI p) (nI f) (mk τ) = some (nI (ka (L.2 6 p) k f 4)) := by
  have h16 := pF_16 ok
  have hsh := sh_16 ok hp
  unfold fX9_knownAt
  refine lp_b (fun i => (nI (ka (L.2 6 p) k f i), nI (3 ^ i), nI i)) 4 (r := nI (ka (L.2 6 p) k f 4)) rfl ?_ ?_ rfl
  · intro i hi
    have h3 := p3_lt k i
    have e3 : nI (3 ^ i) * (3 : Int32) = nI (3 ^ (i + 1)) := by rw [Nat.pow_succ]; exact pk_mul (3 ^ i) 3
    have e1 : ∀ x : Nat, (1 : Int32) + nI x = nI (1 + x) := fun x => nI_add 1 x
    dsimp only
    simp only [m_R hz, m_A hz, hp, o_b, hL.2.2.2.2.2.2.2.2.2.2 p hp, m_part (show k < 2 ^ 31 by omega) (show i < 5 by omega)]
    rw [if_neg (show ¬ (4 : Int32) ≤ nI i from nI_ge (b := 4) hi (by decide)), n_bit (show L.2 6 p < 2 ^ 31 by omega) (by omega), n_bit (show f < 2 ^ 31 by omega) (by omega), show nI i + 1 = nI (i + 1) from nI_1 i, e3, b2i_nI (f.testBit i), e1, pk_mul, nI_add]
    show _ = some (Sum.inl (nI (if ((L.2 6 p).testBit i && decide (prt3 k i = 0)) = true then ka (L.2 6 p) k f i + 3 ^ i * (1 + (f.testBit i).toNat) else ka (L.2 6 p) k f i), nI (3 ^ (i + 1)), nI (i + 1)))
    cases (L.2 6 p).testBit i with
    | false => rw [if_neg (show ¬ b2i false = 1 by decide), if_neg (by simp)]; rfl
    | true =>
      rw [if_pos (show b2i true = 1 from rfl)]
      by_cases h0 : prt3 k i = 0
      · rw [if_pos (show nI (prt3 k i) = 0 by rw [h0]; rfl), if_pos (show (true && decide (prt3 k i = 0)) = true by rw [decide_eq_true h0]; rfl)]
        rfl
      · rw [if_neg (show ¬ nI (prt3 k i) = 0 from nI_ne0 (by omega) (by omega)), if_neg (show ¬ (true && decide (prt3 k i = 0)) = true by rw [decide_eq_false h0]; decide)]
        rfl
  · dsimp only
    rw [if_pos (show (4 : Int32) ≤ nI 4 by decide)]
theorem m_done (hz : τ.2.2 = true) (hN : InnM (τ.1 45 12) (τ.1 45 13) (τ.1 45 14) L) (ok : LdOK L) (h4 : L.1 4 = 1) (hC : ∀ f, f < 16 → τ.2.1 65 f = b2i (C f)) {p kn so : Nat} (hp : p < 6) (hk : kn < 16) (hs : so &&& kn = so) : fX9_isDone 45 (nI p) (nI (tc kn so)) (mk τ) = some (b2i (dne L C p kn so)) := by
  have hpc := ok.1.2
  have hfc := ok.2.2.1
  have hso := sub_le hs
  have ht := (t_enc kn hk so (by omega) hs).2.2
  rcases hN with ⟨q, -⟩ | ⟨q, r1, r2, r3⟩
  · omega
  · rcases ok.2.2.2.2.2.2.2.2 with z | ⟨z1, z2, z3, z4, z5⟩
    · omega
    · have hin : ∀ f, innp L f < 2 ^ 31 := fun f => by unfold innp; split <;> omega
      have ei : ∀ f, f < 16 → (if (nI f >>> (nI (L.1 7) &&& 31)) &&& (1 : Int32) = 1 then some (nI (L.1 5)) else some (nI (L.1 6))) = some (nI (innp L f)) := fun f hf => by
        rw [n_bit (by omega) (by omega)]
        unfold innp
        cases f.testBit (L.1 7) <;> rfl
      unfold fX9_isDone
      refine lp_fb (fun f => nI f) 16 (dnq L C p kn so) (fun _ => .inr 0) (.inl ()) rfl ?_ ?_ ?_ ?_
      · intro f hf hb
        unfold dnq at hb
        simp only [m_R hz, m_A hz, hf, o_b, hC f hf, m_O hz, m_agrees ht hf, t_ag kn hk so (by omega) hs f hf, m_I hz, r1, r2, r3, ei f hf]
        rw [if_neg (show ¬ (16 : Int32) ≤ nI f from nI_ge (b := 16) hf (by decide)), show nI f + 1 = nI (f + 1) from nI_1 f]
        cases hc : C f with
        | false => rw [if_neg (show ¬ b2i false = 1 by decide)]
        | true =>
          rw [if_pos (show b2i true = 1 from rfl)]
          by_cases hq : f &&& kn = so
          · rw [hc, decide_eq_true hq] at hb
            have hi : innp L f = p := by simpa using hb
            rw [decide_eq_true hq, if_neg (show ¬ b2i true = 0 from hne), if_pos (show nI (innp L f) = nI p by rw [hi])]
          · rw [decide_eq_false hq, if_pos b2i_f]
      · intro f hf hb
        unfold dnq at hb
        rw [Bool.and_eq_true, wc_iff, Bool.not_eq_true'] at hb
        obtain ⟨⟨b1, b2⟩, b3⟩ := hb
        simp only [m_R hz, m_A hz, hf, o_b, hC f hf, m_O hz, m_agrees ht hf, t_ag kn hk so (by omega) hs f hf, m_I hz, r1, r2, r3, ei f hf]
        rw [if_neg (show ¬ (16 : Int32) ≤ nI f from nI_ge (b := 16) hf (by decide)), b1, if_pos (show b2i true = 1 from rfl), decide_eq_true b2, if_neg (show ¬ b2i true = 0 from hne), if_neg (fun z => (of_decide_eq_false b3) ((nI_eq (hin f) (by omega)).mp z))]
      · rw [if_pos (show (16 : Int32) ≤ nI 16 by decide)]
      · unfold dne
        by_cases hq : fi (dnq L C p kn so) 16 < 16
        · rw [if_pos hq, decide_eq_true hq]; rfl
        · rw [if_neg hq, decide_eq_false hq]; rfl
/-- the worst of going to a place -/
def wv (L : Ld) (C : Nat → Bool) (W : Nat → Nat) (kn so q : Nat) : Nat := wmx C kn so (fun f => W (81 * q + tc (kn ||| L.2 6 q) (f &&& (kn ||| L.2 6 q)))) 16
theorem i486 (ok : LdOK L) {kn q f : Nat} (hk : kn < 16) (hq : q < 6) (hf : f < 16) : 81 * q + tc (kn ||| L.2 6 q) (f &&& (kn ||| L.2 6 q)) < 486 := by
  have h16 := pF_16 ok
  have hsh := sh_16 ok hq
  have h1 : kn ||| L.2 6 q < 2 ^ 4 := Nat.or_lt_two_pow hk (by omega)
  have h2 : f &&& (kn ||| L.2 6 q) < 16 := Nat.lt_of_le_of_lt Nat.and_le_left hf
  have := (t_enc _ h1 _ h2 (and_sub _ _)).2.2
  omega
theorem m_worst (hz : τ.2.2 = true) (hL : LM τ L) (ok : LdOK L) (hC : ∀ f, f < 16 → τ.2.1 65 f = b2i (C f)) (hW : ∀ i, i < 486 → τ.2.1 66 i = nI (W i)) (hb : ∀ i, i < 486 → W i ≤ 1000) {q kn so : Nat} (hq : q < 6) (hk : kn < 16) (hs : so &&& kn = so) : fX9_worstAt 45 (nI q) (nI (tc kn so)) (mk τ) = some (nI (wv L C W kn so q)) := by
  have hso := sub_le hs
  have h16 := pF_16 ok
  have hsh := sh_16 ok hq
  have ht := (t_enc kn hk so (by omega) hs).2.2
  unfold fX9_worstAt
  refine lp_b (fun f => (nI (wmx C kn so (fun f => W (81 * q + tc (kn ||| L.2 6 q) (f &&& (kn ||| L.2 6 q)))) f), nI f)) 16 (r := nI (wv L C W kn so q)) rfl ?_ ?_ rfl
  · intro f hf
    have hi := i486 ok hk hq hf
    have hbi := hb _ hi
    have hwle : wmx C kn so (fun f => W (81 * q + tc (kn ||| L.2 6 q) (f &&& (kn ||| L.2 6 q)))) f ≤ 1000 := wmx_le (fun g hgl _ _ => hb _ (i486 ok hk hq (by omega)))
    have e81 : (81 : Int32) * nI q = nI (81 * q) := pk_mul 81 q
    dsimp only
    simp only [m_R hz, m_A hz, hf, o_b, hC f hf, m_O hz, m_agrees ht hf, t_ag kn hk so (by omega) hs f hf, m_known hz hL ok ht hq hf, e81, nI_add]
    rw [if_neg (show ¬ (16 : Int32) ≤ nI f from nI_ge (b := 16) hf (by decide)), show nI f + 1 = nI (f + 1) from nI_1 f]
    have e : wmx C kn so (fun f => W (81 * q + tc (kn ||| L.2 6 q) (f &&& (kn ||| L.2 6 q)))) (f + 1) = if (C f && decide (f &&& kn = so)) = true then max (wmx C kn so (fun f => W (81 * q + tc (kn ||| L.2 6 q) (f &&& (kn ||| L.2 6 q)))) f) (W (81 * q + tc (kn ||| L.2 6 q) (f &&& (kn ||| L.2 6 q)))) else wmx C kn so (fun f => W (81 * q + tc (kn ||| L.2 6 q) (f &&& (kn ||| L.2 6 q)))) f := rfl
    rw [e]
    generalize wmx C kn so (fun f => W (81 * q + tc (kn ||| L.2 6 q) (f &&& (kn ||| L.2 6 q)))) f = x at hwle
    cases hc : C f with
    | false => rw [if_pos b2i_f, if_neg (by simp)]; rfl
    | true =>
      rw [if_neg (show ¬ b2i true = 0 from hne)]
      by_cases hfk : f &&& kn = so
      · have hka := t_ka kn hk (L.2 6 q) (by omega) f hf
        rw [hfk] at hka
        rw [decide_eq_true hfk, if_neg (show ¬ b2i true = 0 from hne), hka, if_pos (show (true && true) = true from rfl)]
        simp only [m_A hz, hi, hW _ hi, o_b]
        by_cases hle : W (81 * q + tc (kn ||| L.2 6 q) (f &&& (kn ||| L.2 6 q))) ≤ x
        · rw [if_pos (nI_le hle (by omega)), Nat.max_eq_left hle]
          rfl
        · rw [if_neg (nI_ge (by omega) (by omega)), Nat.max_eq_right (by omega)]
          rfl
      · rw [decide_eq_false hfk, if_pos b2i_f, if_neg (show ¬ (true && false) = true by decide)]
        rfl
  · dsimp only
    rw [if_pos (show (16 : Int32) ≤ nI 16 by decide)]
    rfl
theorem wv_le (ok : LdOK L) (hb : ∀ i, i < 486 → W i ≤ 1000) {q kn so : Nat} (hq : q < 6) (hk : kn < 16) : wv L C W kn so q ≤ 1000 := wmx_le (fun f hf _ _ => hb _ (i486 ok hk hq hf))
def bnS (L : Ld) (v : Nat → Nat) (p : Nat) : Nat → Option Nat × Nat
  | 0 => (none, 1000)
  | q + 1 => if (ajb L p q && decide (v q < (bnS L v p q).2)) = true then (some q, v q) else bnS L v p q
theorem bnS_sp (L : Ld) (v : Nat → Nat) (p : Nat) : ∀ n, ((bnS L v p n).1 = none ∧ (bnS L v p n).2 = 1000 ∧ ∀ q, q < n → ajb L p q = true → 1000 ≤ v q) ∨ ∃ b, (bnS L v p n).1 = some b ∧ (bnS L v p n).2 = v b ∧ b < n ∧ ajb L p b = true ∧ v b < 1000 ∧ (∀ q, q < n → ajb L p q = true → v b ≤ v q) ∧ ∀ q, q < b → ajb L p q = true → v b < v q
  | 0 => Or.inl ⟨rfl, rfl, fun q hq => absurd hq (Nat.not_lt_zero q)⟩
  | n + 1 => by
    have ih := bnS_sp L v p n
    have e : bnS L v p (n + 1) = if (ajb L p n && decide (v n < (bnS L v p n).2)) = true then (some n, v n) else bnS L v p n := rfl
    rw [e]
    by_cases hc : (ajb L p n && decide (v n < (bnS L v p n).2)) = true
    · rw [if_pos hc]
      rw [Bool.and_eq_true, decide_eq_true_iff] at hc
      right
      refine ⟨n, rfl, rfl, by omega, hc.1, ?_, fun q hq ha => ?_, fun q hq ha => ?_⟩
      · rcases ih with ⟨_, i2, _⟩ | ⟨b, _, i2, _, _, i5, _⟩ <;> omega
      · by_cases hqn : q = n
        · rw [hqn]; exact Nat.le_refl _
        · rcases ih with ⟨_, i2, i3⟩ | ⟨b, _, i2, _, _, i5, i6, _⟩
          · have := i3 q (by omega) ha; omega
          · have := i6 q (by omega) ha; omega
      · rcases ih with ⟨_, i2, i3⟩ | ⟨b, _, i2, _, _, i5, i6, _⟩
        · have := i3 q (by omega) ha; omega
        · have := i6 q (by omega) ha; omega
    · rw [if_neg hc]
      rcases ih with ⟨i1, i2, i3⟩ | ⟨b, i1, i2, i3, i4, i5, i6, i7⟩
      · left
        refine ⟨i1, i2, fun q hq ha => ?_⟩
        by_cases hqn : q = n
        · subst hqn
          rcases Nat.lt_or_ge (v q) 1000 with z | z
          · exact absurd (by rw [ha, i2, decide_eq_true z]; rfl) hc
          · exact z
        · exact i3 q (by omega) ha
      · right
        refine ⟨b, i1, i2, by omega, i4, i5, fun q hq ha => ?_, i7⟩
        by_cases hqn : q = n
        · subst hqn
          rcases Nat.lt_or_ge (v q) (v b) with z | z
          · exact absurd (by rw [ha, i2, decide_eq_true z]; rfl) hc
          · exact z
        · exact i6 q (by omega) ha
theorem m_best (hz : τ.2.2 = true) (hL : LM τ L) (ok : LdOK L) (hC : ∀ f, f < 16 → τ.2.1 65 f = b2i (C f)) (hW : ∀ i, i < 486 → τ.2.1 66 i = nI (W i)) (hb : ∀ i, i < 486 → W i ≤ 1000) {p kn so : Nat} (hp : p < 6) (hk : kn < 16) (hs : so &&& kn = so) : fX9_bestNext 45 (nI p) (nI (tc kn so)) (mk τ) = some (rp (bnS L (wv L C W kn so) p (L.1 0)).1) := by
  have hpc := ok.1.2
  have l0 : τ.1 45 8 = nI (L.1 0) := hL.1
  unfold fX9_bestNext
  refine lp_b (fun q => (rp (bnS L (wv L C W kn so) p q).1, nI (bnS L (wv L C W kn so) p q).2, nI q)) (L.1 0) (r := rp (bnS L (wv L C W kn so) p (L.1 0)).1) rfl ?_ ?_ rfl
  · intro q hq
    have hq6 : q < 6 := by omega
    have hwl := wv_le (C := C) (so := so) ok hb hq6 hk
    have hx : (bnS L (wv L C W kn so) p q).2 ≤ 1000 := by
      rcases bnS_sp L (wv L C W kn so) p q with ⟨_, h, _⟩ | ⟨b, _, h, _, _, h5, _⟩ <;> omega
    have e : bnS L (wv L C W kn so) p (q + 1) = if (ajb L p q && decide (wv L C W kn so q < (bnS L (wv L C W kn so) p q).2)) = true then (some q, wv L C W kn so q) else bnS L (wv L C W kn so) p q := rfl
    dsimp only
    simp only [m_I hz, l0, o_b, m_O hz, m_road2 hz hL ok hp hq6, m_worst hz hL ok hC hW hb hq6 hk hs]
    rw [if_neg (nI_ge hq (by omega)), show nI q + 1 = nI (q + 1) from nI_1 q, e]
    generalize bnS L (wv L C W kn so) p q = s at hx
    cases ha : ajb L p q with
    | false => rw [if_pos b2i_f, if_neg (by simp)]; rfl
    | true =>
      rw [if_neg (show ¬ b2i true = 0 from hne)]
      by_cases hlt : wv L C W kn so q < s.2
      · rw [if_pos (nI_lt hlt (by omega)), if_pos (show (true && decide (wv L C W kn so q < s.2)) = true by rw [decide_eq_true hlt]; rfl)]
        rfl
      · rw [if_neg (nI_nlt (by omega) (by omega)), if_neg (show ¬ (true && decide (wv L C W kn so q < s.2)) = true by rw [decide_eq_false hlt]; decide)]
        rfl
  · dsimp only
    simp only [m_I hz, l0, o_b]
    rw [if_pos (nI_le (Nat.le_refl _) (by omega))]
end MG
