/-! ===== 69: go: the class ===== -/
theorem lp_inv {σ ρ α : Type} {body : σ → Option (σ ⊕ ρ)} {s : σ} (f : Nat → α → σ) (I : Nat → α → Prop) (r : α → ρ) (a0 : α) (n : Nat) (h0 : s = f 0 a0) (hI : I 0 a0) (hs : ∀ j a, j < n → I j a → ∃ a', body (f j a) = some (.inl (f (j + 1) a')) ∧ I (j + 1) a') (he : ∀ a, I n a → body (f n a) = some (.inr (r a))) : ∃ a, I n a ∧ qv_loop body s = some (r a) := by
  subst h0
  have main : ∀ d j a, n - j = d → j ≤ n → I j a → ∃ a', I n a' ∧ qv_loop body (f j a) = some (r a') := by
    intro d
    induction d with
    | zero =>
      intro j a hd hj hI
      have : j = n := by omega
      subst this
      exact ⟨a, hI, qv_loop_r (he a hI)⟩
    | succ d ih =>
      intro j a hd hj hI
      obtain ⟨a', h1, h2⟩ := hs j a (by omega) hI
      obtain ⟨a'', h3, h4⟩ := ih (j + 1) a' (by omega) (by omega) h2
      exact ⟨a'', h3, by rw [qv_loop_l h1]; exact h4⟩
  exact main n 0 a0 (by omega) (Nat.zero_le n) hI
/-- the fact sets that can be -/
def cM (l : List Nat) : Nat → Nat → Bool
  | 0, _ => false
  | j + 1, f => cM l j f || decide (l.getD j 0 % 16 = f)
def ix (p kn so : Nat) : Nat := (p * 16 + kn) * 16 + so
theorem ix_e {p kn so : Nat} (hk : kn < 16) (hs : so < 16) : ix p kn so % 256 = kn * 16 + so ∧ ix p kn so / 256 = p := by
  unfold ix
  omega
def wr_ (a : Nat → Int32) (kn so P : Nat) (e : Nat → Nat) : Nat → Int32 := fun i => if i % 256 = kn * 16 + so ∧ i / 256 < P then nI (e (i / 256)) else a i
section WR
variable {a : Nat → Int32} {kn so P : Nat} {e : Nat → Nat}
theorem wr_at (hk : kn < 16) (hs : so < 16) {p : Nat} (hp : p < P) : wr_ a kn so P e (ix p kn so) = nI (e p) := by
  obtain ⟨h1, h2⟩ := ix_e (p := p) hk hs
  unfold wr_
  rw [if_pos ⟨h1, by rw [h2]; exact hp⟩, h2]
theorem wr_ne {p k s : Nat} (hk : k < 16) (hs : s < 16) (hk2 : kn < 16) (hs2 : so < 16) (h : ¬ (k = kn ∧ s = so)) : wr_ a kn so P e (ix p k s) = a (ix p k s) := by
  obtain ⟨h1, h2⟩ := ix_e (p := p) hk hs
  unfold wr_
  rw [if_neg (fun z => by omega)]
theorem wr_up (hk : kn < 16) (hs : so < 16) {p v : Nat} (hp : p < P) : upd (wr_ a kn so P e) (ix p kn so) (nI v) = wr_ a kn so P (fun q => if q = p then v else e q) := by
  obtain ⟨h1, h2⟩ := ix_e (p := p) hk hs
  funext i
  unfold upd wr_
  by_cases h : i = ix p kn so
  · subst h
    rw [if_pos rfl, if_pos ⟨h1, by rw [h2]; exact hp⟩, h2]
    exact congrArg nI (if_pos rfl).symm
  · rw [if_neg h]
    by_cases h3 : i % 256 = kn * 16 + so ∧ i / 256 < P
    · have h4 : i / 256 ≠ p := fun z => h (by unfold ix; omega)
      rw [if_pos h3, if_pos h3]
      exact congrArg nI (if_neg h4).symm
    · rw [if_neg h3, if_neg h3]
theorem wr_in (hk : kn < 16) (hs : so < 16) {j : Nat} : upd (wr_ a kn so j e) (ix j kn so) (nI (e j)) = wr_ a kn so (j + 1) e := by
  obtain ⟨h1, h2⟩ := ix_e (p := j) hk hs
  funext i
  unfold upd wr_
  by_cases h : i = ix j kn so
  · subst h
    rw [if_pos rfl, if_pos ⟨h1, by rw [h2]; omega⟩, h2]
  · rw [if_neg h]
    by_cases h3 : i % 256 = kn * 16 + so ∧ i / 256 < j
    · rw [if_pos h3, if_pos ⟨h3.1, by omega⟩]
    · rw [if_neg h3, if_neg (fun z => by
        have h4 : i / 256 = j := by omega
        exact h (by unfold ix; omega))]
end WR
def vA (a : Nat → Int32) (p kn so : Nat) : Nat := (a (ix p kn so)).toNatClampNeg
def okp (L : Ld) (kn p : Nat) : Bool := decide (L.2 6 p &&& kn = L.2 6 p)
def innp (L : Ld) (f : Nat) : Nat := if f.testBit (L.1 7) = true then L.1 5 else L.1 6
def dnq (L : Ld) (C : Nat → Bool) (p kn so f : Nat) : Bool := (C f && decide (f &&& kn = so)) && !decide (innp L f = p)
def dne (L : Ld) (C : Nat → Bool) (p kn so : Nat) : Bool := !decide (fi (dnq L C p kn so) 16 < 16)
theorem dne_t {L : Ld} {C : Nat → Bool} {p kn so : Nat} : dne L C p kn so = true ↔ ∀ f, f < 16 → C f = true → f &&& kn = so → innp L f = p := by
  unfold dne
  rw [Bool.not_eq_true', decide_eq_false_iff_not, fi_all]
  constructor
  · intro h f hf h1 h2
    by_cases h3 : innp L f = p
    · exact h3
    · exact absurd ⟨f, hf, by unfold dnq; rw [h1, decide_eq_true h2, decide_eq_false h3]; rfl⟩ h
  · rintro h ⟨f, hf, h1⟩
    unfold dnq at h1
    rw [Bool.and_eq_true, wc_iff, Bool.not_eq_true'] at h1
    exact (of_decide_eq_false h1.2) (h f hf h1.1.1 h1.1.2)
abbrev adjL (L : Ld) (p q : Nat) : Prop := adj (L.2 0) (L.2 1) (L.1 1) p q
/-- what the table holds of those who know just this -/
def PR (L : Ld) (C : Nat → Bool) (a : Nat → Int32) (kn so : Nat) : Prop := ∀ p, p < L.1 0 → (a (ix p kn so) = nI (vA a p kn so) ∧ vA a p kn so ≤ 99) ∧ (okp L kn p = false → vA a p kn so = wmx C kn so (fun f => vA a p (kn ||| L.2 6 p) (f &&& (kn ||| L.2 6 p))) 16) ∧ (okp L kn p = true → dne L C p kn so = true → vA a p kn so = 0) ∧ (okp L kn p = true → dne L C p kn so = false → (∀ q, adjL L p q → vA a p kn so ≤ vA a q kn so + 1) ∧ (vA a p kn so = 99 ∨ ∃ q, adjL L p q ∧ vA a p kn so = vA a q kn so + 1))
theorem or_gt {kn s : Nat} (h : ¬ s &&& kn = s) : kn < kn ||| s := by
  have h1 : kn ≤ kn ||| s := Nat.left_le_or
  rcases Nat.lt_or_ge kn (kn ||| s) with q | q
  · exact q
  · have e : kn ||| s = kn := by omega
    refine absurd ?_ h
    rw [sub_iff]
    intro i hi
    rw [← e, Nat.testBit_or, hi, Bool.or_true]
theorem and_sub (f m : Nat) : (f &&& m) &&& m = f &&& m := by rw [Nat.and_assoc, Nat.and_self]
theorem okp_f {L : Ld} {kn p : Nat} (h : okp L kn p = false) : ¬ L.2 6 p &&& kn = L.2 6 p := of_decide_eq_false h
theorem sub_le {so kn : Nat} (h : so &&& kn = so) : so ≤ kn := by
  rw [← h]
  exact Nat.and_le_right
theorem sh_16 {L : Ld} (ok : LdOK L) {p : Nat} (hp : p < 6) : L.2 6 p < 2 ^ L.1 2 := ok.2.2.2.2.2.2.1 p hp
theorem pF_16 {L : Ld} (ok : LdOK L) : 2 ^ L.1 2 ≤ 16 := Nat.pow_le_pow_right (n := 2) (by decide) ok.2.2.1
theorem PR_c {L : Ld} (ok : LdOK L) {C : Nat → Bool} {a a' : Nat → Int32} {kn so k s : Nat} (h : ∀ p k1 s1, k1 < 16 → s1 < 16 → ¬ (k1 = kn ∧ s1 = so) → a' (ix p k1 s1) = a (ix p k1 s1)) (hne : ¬ (k = kn ∧ s = so)) (hle : kn ≤ k) (hk : k < 2 ^ L.1 2) (hs : s < 16) (hP : PR L C a k s) : PR L C a' k s := by
  have h16 := pF_16 ok
  have hp6 := ok.1.2
  have e1 : ∀ p, vA a' p k s = vA a p k s := fun p => by
    unfold vA
    rw [h p k s (by omega) hs hne]
  intro p hp
  obtain ⟨h1, h2, h3, h4⟩ := hP p hp
  refine ⟨⟨by rw [h p k s (by omega) hs hne, e1]; exact h1.1, by rw [e1]; exact h1.2⟩, fun z => ?_, fun z z2 => by rw [e1]; exact h3 z z2, fun z z2 => ?_⟩
  · rw [e1, h2 z]
    have hgt := or_gt (okp_f z)
    have hlt : k ||| L.2 6 p < 2 ^ L.1 2 := Nat.or_lt_two_pow hk (sh_16 ok (by omega))
    refine wmx_cong (fun f hf _ _ => ?_)
    unfold vA
    rw [h p (k ||| L.2 6 p) (f &&& (k ||| L.2 6 p)) (by omega) (Nat.lt_of_le_of_lt Nat.and_le_left hf) (fun y => by omega)]
  · obtain ⟨i1, i2⟩ := h4 z z2
    refine ⟨fun q hq => by rw [e1, e1]; exact i1 q hq, ?_⟩
    rcases i2 with i2 | ⟨q, i3, i4⟩
    · exact Or.inl (by rw [e1]; exact i2)
    · exact Or.inr ⟨q, i3, by rw [e1, e1]; exact i4⟩
section CW
variable {τ : St} {L : Ld} {C : Nat → Bool}
theorem c_ix (p kn so : Nat) : fX6_indexOf (nI p) (nI kn) (nI so) = some (nI (ix p kn so)) := by
  unfold fX6_indexOf ix
  have e : ∀ x, nI x * (16 : Int32) = nI (x * 16) := fun x => pk_mul x 16
  rw [e, nI_add, e, nI_add]
theorem ix_lt {p kn so : Nat} (hp : p < 6) (hk : kn < 16) (hs : so < 16) : ix p kn so < 1536 := by
  unfold ix
  omega
theorem c_more (hL : LC τ L) (ok : LdOK L) {p kn : Nat} (hp : p < 6) (hk : kn < 16) : fX6_showsMore 3 (nI p) (nI kn) (mk τ) = some (b2i (!okp L kn p)) := by
  have h16 := pF_16 ok
  have hsh := sh_16 ok hp
  have hs := n_sub (w := L.2 6 p) (m := kn) (by omega) (by omega)
  unfold fX6_showsMore okp
  simp only [c_R, c_A, hp, o_b, hL.2.2.2.2.2.2.2.2.2.2 p hp]
  by_cases h : L.2 6 p &&& kn = L.2 6 p
  · rw [if_pos (hs.mpr h), decide_eq_true h]; rfl
  · rw [if_neg (fun z => h (hs.mp z)), decide_eq_false h]; rfl
theorem c_innIn (hN : InnC (τ.1 3 11) (τ.1 3 12) (τ.1 3 13) L) (ok : LdOK L) (h4 : L.1 4 = 1) {f : Nat} (hf : f < 16) : fX3_innIn 3 (nI f) (mk τ) = some (nI (innp L f)) := by
  have hfc := ok.2.2.1
  rcases hN with ⟨q, -⟩ | ⟨q, r1, r2, r3⟩
  · omega
  · rcases ok.2.2.2.2.2.2.2.2 with z | ⟨z1, z2, z3, z4, z5⟩
    · omega
    · unfold fX3_innIn innp
      simp only [c_I, r1, r2, r3, o_b, n_has (show f < 2 ^ 31 by omega) (show L.1 7 < 32 by omega)]
      cases f.testBit (L.1 7) <;> rfl
theorem c_sure (hN : InnC (τ.1 3 11) (τ.1 3 12) (τ.1 3 13) L) (ok : LdOK L) (h4 : L.1 4 = 1) (hC : ∀ f, f < 16 → τ.2.1 40 f = b2i (C f)) {p kn so : Nat} (hp : p < 6) (hk : kn < 16) (hs : so < 16) : fX6_isInnSurelyAt 38 3 (nI p) (nI kn) (nI so) (mk τ) = some (b2i (dne L C p kn so)) := by
  have hin : ∀ f, innp L f < 2 ^ 31 := fun f => by
    have hpc := ok.1.2
    unfold innp
    rcases ok.2.2.2.2.2.2.2.2 with z | ⟨z1, z2, z3, z4, z5⟩
    · omega
    · split <;> omega
  unfold fX6_isInnSurelyAt
  refine lp_fb (fun f => nI f) 16 (dnq L C p kn so) (fun _ => .inr 0) (.inl ()) rfl ?_ ?_ ?_ ?_
  · intro f hf hb
    unfold dnq at hb
    have hand : f &&& kn < 16 := Nat.lt_of_le_of_lt Nat.and_le_left hf
    simp only [c_R, c_A, hf, o_b, hC f hf, n_and, c_O, c_innIn hN ok h4 hf]
    rw [if_neg (show ¬ (16 : Int32) ≤ nI f from nI_ge (b := 16) hf (by decide)), show nI f + 1 = nI (f + 1) from nI_1 f]
    cases hc : C f with
    | false => rw [if_pos b2i_f]
    | true =>
      rw [if_neg (show ¬ b2i true = 0 from hne)]
      by_cases hq : f &&& kn = so
      · rw [hc, decide_eq_true hq] at hb
        have hi : innp L f = p := by simpa using hb
        rw [if_pos (show nI (f &&& kn) = nI so by rw [hq]), if_pos (show nI (innp L f) = nI p by rw [hi])]
      · rw [if_neg (fun z => hq ((nI_eq (by omega) (by omega)).mp z))]
  · intro f hf hb
    have hand : f &&& kn < 16 := Nat.lt_of_le_of_lt Nat.and_le_left hf
    unfold dnq at hb
    rw [Bool.and_eq_true, wc_iff, Bool.not_eq_true'] at hb
    obtain ⟨⟨b1, b2⟩, b3⟩ := hb
    simp only [c_R, c_A, hf, o_b, hC f hf, n_and, c_O, c_innIn hN ok h4 hf]
    rw [if_neg (show ¬ (16 : Int32) ≤ nI f from nI_ge (b := 16) hf (by decide)), b1, if_neg (show ¬ b2i true = 0 from hne), if_pos (show nI (f &&& kn) = nI so by rw [b2]), if_neg (fun z => (of_decide_eq_false b3) ((nI_eq (hin f) (by omega)).mp z))]
  · rw [if_pos (show (16 : Int32) ≤ nI 16 by decide)]
  · unfold dne
    by_cases hq : fi (dnq L C p kn so) 16 < 16
    · rw [if_pos hq, decide_eq_true hq]; rfl
    · rw [if_neg hq, decide_eq_false hq]; rfl
theorem c_worst (hL : LC τ L) (ok : LdOK L) (hC : ∀ f, f < 16 → τ.2.1 40 f = b2i (C f)) {p kn so : Nat} (hp : p < 6) (hk : kn < 2 ^ L.1 2) (hs : so < 16) (hg : ∀ f, f < 16 → C f = true → f &&& kn = so → τ.2.1 39 (ix p (kn ||| L.2 6 p) (f &&& (kn ||| L.2 6 p))) = nI (vA (τ.2.1 39) p (kn ||| L.2 6 p) (f &&& (kn ||| L.2 6 p))) ∧ vA (τ.2.1 39) p (kn ||| L.2 6 p) (f &&& (kn ||| L.2 6 p)) ≤ 99) : fX6_worstOf 38 3 (nI p) (nI kn) (nI so) (mk τ) = some (nI (wmx C kn so (fun f => vA (τ.2.1 39) p (kn ||| L.2 6 p) (f &&& (kn ||| L.2 6 p))) 16)) := by
  have h16 := pF_16 ok
  have hor : kn ||| L.2 6 p < 2 ^ L.1 2 := Nat.or_lt_two_pow hk (sh_16 ok hp)
  unfold fX6_worstOf
  simp only [c_R, c_A, hp, o_b, hL.2.2.2.2.2.2.2.2.2.2 p hp, n_or]
  refine lp_b (fun f => (nI (wmx C kn so (fun f => vA (τ.2.1 39) p (kn ||| L.2 6 p) (f &&& (kn ||| L.2 6 p))) f), nI f)) 16 (r := nI (wmx C kn so (fun f => vA (τ.2.1 39) p (kn ||| L.2 6 p) (f &&& (kn ||| L.2 6 p))) 16)) rfl ?_ ?_ rfl
  · intro f hf
    have hand : f &&& kn < 16 := Nat.lt_of_le_of_lt Nat.and_le_left hf
    have hand2 : f &&& (kn ||| L.2 6 p) < 16 := Nat.lt_of_le_of_lt Nat.and_le_left hf
    have hix := ix_lt (p := p) (kn := kn ||| L.2 6 p) (so := f &&& (kn ||| L.2 6 p)) hp (by omega) hand2
    have hwle : wmx C kn so (fun f => vA (τ.2.1 39) p (kn ||| L.2 6 p) (f &&& (kn ||| L.2 6 p))) f ≤ 99 := wmx_le (fun g hgl c1 c2 => (hg g (by omega) c1 c2).2)
    dsimp only
    simp only [hC f hf, c_A, hf, o_b, n_and, c_ix, hix]
    rw [if_neg (show ¬ (16 : Int32) ≤ nI f from nI_ge (b := 16) hf (by decide)), show nI f + 1 = nI (f + 1) from nI_1 f]
    have e : wmx C kn so (fun f => vA (τ.2.1 39) p (kn ||| L.2 6 p) (f &&& (kn ||| L.2 6 p))) (f + 1) = if (C f && decide (f &&& kn = so)) = true then max (wmx C kn so (fun f => vA (τ.2.1 39) p (kn ||| L.2 6 p) (f &&& (kn ||| L.2 6 p))) f) (vA (τ.2.1 39) p (kn ||| L.2 6 p) (f &&& (kn ||| L.2 6 p))) else wmx C kn so (fun f => vA (τ.2.1 39) p (kn ||| L.2 6 p) (f &&& (kn ||| L.2 6 p))) f := rfl
    rw [e]
    cases hc : C f with
    | false => rw [if_pos b2i_f, if_neg (by simp)]; rfl
    | true =>
      rw [if_neg (show ¬ b2i true = 0 from hne)]
      by_cases hq : f &&& kn = so
      · obtain ⟨g1, g2⟩ := hg f hf hc hq
        rw [if_pos (show nI (f &&& kn) = nI so by rw [hq]), g1, o_b, mx_n (by omega) (by omega), if_pos (show (true && decide (f &&& kn = so)) = true by rw [decide_eq_true hq]; rfl)]
      · rw [if_neg (fun z => hq ((nI_eq (by omega) (by omega)).mp z)), if_neg (show ¬ (true && decide (f &&& kn = so)) = true by rw [decide_eq_false hq]; decide)]
        rfl
  · dsimp only
    rw [if_pos (show (16 : Int32) ≤ nI 16 by decide)]
end CW
