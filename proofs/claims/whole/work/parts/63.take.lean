/-! ===== 63: land: the class takes a statement ===== -/
abbrev LT (τ : St) (L : Ld) : Prop := LdA (τ.1 11 0) (τ.1 11 1) (τ.1 11 2) (τ.1 11 3) (τ.2.1 12) (τ.2.1 13) (τ.2.1 14) (τ.2.1 15) (τ.2.1 16) (τ.2.1 17) (τ.2.1 18) L
def DS (σ τ : St) : Prop := (∀ o, o ≠ 11 → τ.1 o = σ.1 o) ∧ (∀ o, (o < 12 ∨ 18 < o) → τ.2.1 o = σ.2.1 o) ∧ τ.2.2 = σ.2.2
theorem DS_r (σ : St) : DS σ σ := ⟨fun _ _ => rfl, fun _ _ => rfl, rfl⟩
theorem DS_t {σ τ υ : St} (h : DS σ τ) (h2 : DS τ υ) : DS σ υ := ⟨fun o ho => (h2.1 o ho).trans (h.1 o ho), fun o ho => (h2.2.1 o ho).trans (h.2.1 o ho), h2.2.2.trans h.2.2⟩
theorem DS_f (σ : St) (k : Nat) (v : Int32) : DS σ (fS σ 11 k v) := ⟨fun o ho => by
  funext j
  rw [fS_f, if_neg ho], fun _ _ => rfl, rfl⟩
theorem DS_a (σ : St) {o : Nat} (h1 : 12 ≤ o) (h2 : o ≤ 18) (k : Nat) (v : Int32) : DS σ (aS σ o k v) := ⟨fun _ _ => rfl, fun p hp => by
  funext j
  rw [aS_a, if_neg (by omega)], rfl⟩
def dgv (c : Nat → Nat) (i : Nat) : Int32 := if sut 100 (c i) = true then nI (c i - 48) else -1
theorem sut_r {x : Nat} (h : sut 100 x = true) : 48 ≤ x ∧ x ≤ 57 := by
  unfold sut at h
  simp at h
  exact h
section TK
variable {τ : St} {c : Nat → Nat} {t : Nat} {L : Ld}
theorem c_at (hT : TxB (τ.1 1 0) (τ.2.1 2) c t) {i : Nat} (hi : i ≤ 1000) : fX5_at 1 (nI i) (mk τ) = some (nI (c i)) := by
  obtain ⟨h1, h2, h3, h4, h5⟩ := hT
  unfold fX5_at
  simp only [c_I, c_R, h1, o_b]
  rw [if_neg (nI_pos (by omega))]
  by_cases h : i < t
  · have hi80 : i < 80 := by omega
    rw [if_neg (nI_ge h (by omega))]
    simp only [c_A, hi80, o_b, h3 i h]
  · rw [if_pos (nI_le (by omega) (by omega)), h5 i (by omega)]
    rfl
theorem c_dig (hT : TxB (τ.1 1 0) (τ.2.1 2) c t) {i : Nat} (hi : i ≤ 1000) : fX5_digitAt 1 (nI i) (mk τ) = some (dgv c i) := by
  unfold fX5_digitAt
  simp only [c_O, c_at hT hi, o_b, (k_kind _ (hT.2.2.2.1 i)).2.2]
  unfold dgv
  cases hs : sut 100 (c i) with
  | false => rw [if_pos b2i_f, if_neg (by decide)]; rfl
  | true =>
    rw [if_neg (show ¬ b2i true = 0 from hne), if_pos rfl, o_b, show nI (c i) - 48 = nI (c i - 48) from pk_sub (b := 48) (sut_r hs).1]
theorem c_kindAt (hT : TxB (τ.1 1 0) (τ.2.1 2) c t) {i : Nat} (hi : i ≤ 1000) (hk : sut 107 (c i) = true) : fX5_kindAt 1 (nI i) (mk τ) = some (nI (kdx (c i))) := by
  unfold fX5_kindAt
  have hk7 : kdx (c i) < 7 := of_decide_eq_true hk
  simp only [c_O, c_at hT hi, o_b, (k_kind _ (hT.2.2.2.1 i)).1, hk7, if_true]
def en (m : Nat) : Int32 := nI m - 1
theorem en_n (m : Nat) : nI m = en (m + 1) := (nI_pred m).symm
theorem en_mx {a b : Nat} (ha : a < 1000) (hb : b < 1000) : qv_mx (en a) (en b) = en (max a b) := by
  have ea : (en a).toInt = (a : Int) - 1 := pk_sub_toInt (a := a) (b := 1) (by omega) (by decide)
  have eb : (en b).toInt = (b : Int) - 1 := pk_sub_toInt (a := b) (b := 1) (by omega) (by decide)
  unfold qv_mx
  by_cases h : a < b
  · rw [if_pos (by rw [Int32.lt_iff_toInt_lt, ea, eb]; omega), Nat.max_eq_right (by omega)]
  · rw [if_neg (by rw [Int32.lt_iff_toInt_lt, ea, eb]; omega), Nat.max_eq_left (by omega)]
theorem tpR_9 (ok : LdOK L) : ∀ n, n ≤ L.1 1 → tpR L n ≤ 6
  | 0, _ => Nat.zero_le _
  | n + 1, h => by
    have ih := tpR_9 ok n (by omega)
    obtain ⟨k1, k2, k3⟩ := ok.2.2.2.2.1 n (by omega)
    have hp := ok.1.2
    show max (tpR L n) (max (L.2 0 n) (L.2 1 n) + 1) ≤ 6
    omega
theorem tpS_9 : ∀ n, tpS L n ≤ n
  | 0 => Nat.zero_le _
  | n + 1 => by
    have ih := tpS_9 n
    show (if L.2 6 n = 0 then tpS L n else max (tpS L n) (n + 1)) ≤ n + 1
    split <;> omega
theorem tpI_9 (ok : LdOK L) : tpI L ≤ 6 := by
  have hp := ok.1.2
  unfold tpI
  rcases ok.2.2.2.2.2.2.2.2 with q | ⟨q1, q2, q3, q4, q5⟩
  · rw [if_neg (by omega)]; omega
  · rw [if_pos q1]; omega
theorem c_told (hL : LT τ L) (hN : InnC (τ.1 11 11) (τ.1 11 12) (τ.1 11 13) L) (ok : LdOK L) : fX3_placesToldOf 11 (mk τ) = some (nI (tp L)) := by
  obtain ⟨l0, l1, l2, l3, l4, l5, l6, l7, l8, l9, l10⟩ := hL
  have hI := tpI_9 ok
  have hR := tpR_9 ok
  have hS := tpS_9 (L := L)
  have hrc := ok.2.1
  have hpc := ok.1.2
  have e0 : qv_mx (τ.1 11 11) (τ.1 11 12) = en (tpI L) := by
    unfold tpI
    rcases hN with ⟨q, r1, r2, r3⟩ | ⟨q, r1, r2, r3⟩
    · rw [r1, r2, if_neg (by omega)]
      rfl
    · rcases ok.2.2.2.2.2.2.2.2 with z | ⟨z1, z2, z3, z4, z5⟩
      · omega
      · rw [r1, r2, mx_n (by omega) (by omega), if_pos q, en_n]
  unfold fX3_placesToldOf
  simp only [c_I, o_b, e0]
  refine lp_b (fun r => (en (max (tpI L) (tpR L r)), nI r)) (L.1 1) (r := en (max (tpI L) (tpR L (L.1 1)))) ?_ ?_ ?_ ?_
  · show (en (tpI L), (0 : Int32)) = (en (max (tpI L) 0), nI 0)
    rw [Nat.max_eq_left (Nat.zero_le _)]
    rfl
  · intro r hr
    have hr8 : r < 8 := by omega
    have h1 := hR r (by omega)
    obtain ⟨k1, k2, k3⟩ := ok.2.2.2.2.1 r hr
    dsimp only
    simp only [c_I, c_R, c_A, hr8, l1, o_b, l4 r hr8, l5 r hr8]
    rw [if_neg (nI_ge hr (by omega)), show nI r + 1 = nI (r + 1) from nI_1 r, mx_n (by omega) (by omega), en_n (max (L.2 0 r) (L.2 1 r)), en_mx (by omega) (by omega)]
    show some (Sum.inl (en (max (max (tpI L) (tpR L r)) (max (L.2 0 r) (L.2 1 r) + 1)), nI (r + 1))) = some (Sum.inl (en (max (tpI L) (max (tpR L r) (max (L.2 0 r) (L.2 1 r) + 1))), nI (r + 1)))
    rw [Nat.max_assoc]
  · dsimp only
    simp only [c_I, l1, o_b]
    rw [if_pos (nI_le (Nat.le_refl _) (by omega))]
  · have hRR := hR (L.1 1) (Nat.le_refl _)
    refine lp_b (fun p => (en (max (max (tpI L) (tpR L (L.1 1))) (tpS L p)), nI p)) 6 (r := en (max (max (tpI L) (tpR L (L.1 1))) (tpS L 6))) ?_ ?_ ?_ ?_
    · show (en (max (tpI L) (tpR L (L.1 1))), (0 : Int32)) = (en (max (max (tpI L) (tpR L (L.1 1))) 0), nI 0)
      rw [Nat.max_eq_left (Nat.zero_le _)]
      rfl
    · intro p hp
      have h1 := hS p
      have h7 := ok.2.2.2.2.2.2.1 p hp
      have h8 : 2 ^ L.1 2 ≤ 2 ^ 4 := Nat.pow_le_pow_right (by decide) ok.2.2.1
      dsimp only
      simp only [c_R, c_A, hp, o_b, l10 p hp]
      rw [if_neg (show ¬ (6 : Int32) ≤ nI p from nI_ge (b := 6) hp (by decide)), show nI p + 1 = nI (p + 1) from nI_1 p]
      show _ = some (Sum.inl (en (max (max (tpI L) (tpR L (L.1 1))) (if L.2 6 p = 0 then tpS L p else max (tpS L p) (p + 1))), nI (p + 1)))
      by_cases hq : L.2 6 p = 0
      · rw [if_pos (show nI (L.2 6 p) = 0 by rw [hq]; rfl), if_pos hq]
        rfl
      · rw [if_neg (show ¬ nI (L.2 6 p) = 0 from nI_ne0 (by omega) (by omega)), if_neg hq, o_b, en_n p, en_mx (by omega) (by omega), Nat.max_assoc]
    · dsimp only
      rw [if_pos (show (6 : Int32) ≤ nI 6 by decide)]
    · have h1 := hS 6
      unfold tp
      rw [Nat.max_assoc]
      unfold en
      have e2 : ∀ x : Int32, x - 1 + 1 = x := fun x => Int32.sub_add_cancel x 1
      rw [e2]
theorem c_speak (hL : LT τ L) (ok : LdOK L) {kd a b : Nat} (hk : kd ≤ 6) (ha : a ≤ 9) (hb : b ≤ 9) : fX3_canSpeakOf 11 (nI kd) (nI a) (nI b) (mk τ) = some (b2i (may L kd a b)) := by
  have l2 : τ.1 11 2 = nI (L.1 2) := hL.2.2.1
  have l3 : τ.1 11 3 = nI (L.1 3) := hL.2.2.2.1
  have hfc := ok.2.2.1
  have hsc := ok.2.2.2.1
  have ea : inr_ (nI a) (nI (L.1 2)) = decide (a < L.1 2) := inr_n (by omega) (by omega)
  have eb : inr_ (nI b) (nI (L.1 2)) = decide (b < L.1 2) := inr_n (by omega) (by omega)
  unfold fX3_canSpeakOf may
  simp only [c_O, o_b, d_fact, l2, ea, eb, b2i_b1, c_I, l3]
  rcases kd_cases hk with rfl | rfl | rfl | rfl | rfl | rfl | rfl
  · rw [if_pos (show nI 0 = (0 : Int32) from rfl)]
    simp
  · rw [if_neg (show ¬ nI 1 = (0 : Int32) by decide), if_pos (show nI 1 = (1 : Int32) from rfl)]
    simp
  · rw [if_neg (show ¬ nI 2 = (0 : Int32) by decide), if_neg (show ¬ nI 2 = (1 : Int32) by decide), if_pos (show nI 2 = (2 : Int32) from rfl)]
    by_cases h1 : a < L.1 2 <;> by_cases h2 : b < L.1 2 <;> simp [h1, h2] <;> rfl
  · rw [if_neg (show ¬ nI 3 = (0 : Int32) by decide), if_neg (show ¬ nI 3 = (1 : Int32) by decide), if_neg (show ¬ nI 3 = (2 : Int32) by decide), if_pos (show nI 3 = (3 : Int32) from rfl)]
    by_cases h1 : a < L.1 2 <;> by_cases h2 : b < L.1 2 <;> simp [h1, h2] <;> rfl
  · rw [if_neg (show ¬ nI 4 = (0 : Int32) by decide), if_neg (show ¬ nI 4 = (1 : Int32) by decide), if_neg (show ¬ nI 4 = (2 : Int32) by decide), if_neg (show ¬ nI 4 = (3 : Int32) by decide), if_pos (show nI 4 = (4 : Int32) from rfl)]
    by_cases h1 : a < L.1 2 <;> by_cases h2 : b < L.1 2 <;> simp [h1, h2] <;> rfl
  · rw [if_neg (show ¬ nI 5 = (0 : Int32) by decide), if_neg (show ¬ nI 5 = (1 : Int32) by decide), if_neg (show ¬ nI 5 = (2 : Int32) by decide), if_neg (show ¬ nI 5 = (3 : Int32) by decide), if_neg (show ¬ nI 5 = (4 : Int32) by decide), if_pos (show nI 5 = (5 : Int32) from rfl), if_neg (nI_pos (show a < 2 ^ 31 by omega))]
    by_cases h1 : a ≤ L.1 3
    · rw [if_neg (nI_nlt h1 (by omega))]
      simp [h1]
      rfl
    · rw [if_pos (nI_lt (by omega) (by omega))]
      simp [h1]
      rfl
  · rw [if_neg (show ¬ nI 6 = (0 : Int32) by decide), if_neg (show ¬ nI 6 = (1 : Int32) by decide), if_neg (show ¬ nI 6 = (2 : Int32) by decide), if_neg (show ¬ nI 6 = (3 : Int32) by decide), if_neg (show ¬ nI 6 = (4 : Int32) by decide), if_neg (show ¬ nI 6 = (5 : Int32) by decide), if_pos (show nI 6 = (6 : Int32) from rfl)]
    simp
    rfl
/-- what both sides show of a statement that came -/
def TKc (τ : St) (o : Option Ld) (r : Option (Int32 × qv_H)) : Prop := ∃ τ', r = some (b2i o.isSome, mk τ') ∧ DS τ τ' ∧ ∀ L', o = some L' → LT τ' L' ∧ InnC (τ'.1 11 11) (τ'.1 11 12) (τ'.1 11 13) L'
theorem tkc_no {o : Option Ld} {r : Option (Int32 × qv_H)} (ho : o = none) (hr : r = some (0, mk τ)) : TKc τ o r := ⟨τ, by rw [hr, ho]; rfl, DS_r τ, fun L' h => by rw [ho] at h; cases h⟩
theorem lda_u {a : Nat → Int32} {f : Nat → Nat} {n i v b : Nat} (h : ∀ k, k < n → a k = nI (f k)) : ∀ k, k < n → upd a i (nI v) k = nI (if b = b ∧ k = i then v else f k) := by
  intro k hk
  unfold upd
  by_cases hq : k = i
  · rw [if_pos hq, if_pos ⟨rfl, hq⟩]
  · rw [if_neg hq, if_neg (fun z => hq z.2)]
    exact h k hk
theorem up_s (f : Nat → Nat → Int32) (o : Nat) (g : Nat → Int32) : va_up f o g o = g := by unfold va_up; simp
theorem t_fact (hL : LT τ L) (hN : InnC (τ.1 11 11) (τ.1 11 12) (τ.1 11 13) L) (ok : LdOK L) : TKc τ (if L.1 2 < 4 then some (uF L 2 (L.1 2 + 1)) else none) (fX3_takeFact 11 (mk τ)) := by
  have l2 : τ.1 11 2 = nI (L.1 2) := hL.2.2.1
  unfold fX3_takeFact
  simp only [c_I, l2, o_b, c_P, nI_1]
  by_cases h : L.1 2 < 4
  · rw [if_pos (show nI (L.1 2) < 4 from nI_lt (b := 4) h (by decide)), if_pos h]
    refine ⟨fS τ 11 2 (nI (L.1 2 + 1)), rfl, DS_f _ _ _, fun L' h' => ?_⟩
    cases h'
    obtain ⟨l0, l1, l2, l3, l4, l5, l6, l7, l8, l9, l10⟩ := hL
    exact ⟨⟨l0, l1, rfl, l3, l4, l5, l6, l7, l8, l9, l10⟩, hN⟩
  · rw [if_neg (show ¬ nI (L.1 2) < 4 from nI_nlt (a := L.1 2) (b := 4) (by omega) (by have := ok.2.2.1; omega)), if_neg h]
    exact tkc_no rfl rfl
theorem t_inn (hL : LT τ L) (hN : InnC (τ.1 11 11) (τ.1 11 12) (τ.1 11 13) L) (ok : LdOK L) {x1 x2 x3 : Nat} (b1 : x1 ≤ 9) (b2 : x2 ≤ 9) (b3 : x3 ≤ 9) : TKc τ (if x1 < L.1 0 ∧ x2 < L.1 0 ∧ x1 ≠ x2 ∧ x3 < L.1 2 then some (uF (uF (uF (uF L 4 1) 5 x1) 6 x2) 7 x3) else none) (fX3_takeInn 11 (nI x1) (nI x2) (nI x3) (mk τ)) := by
  have l0 : τ.1 11 0 = nI (L.1 0) := hL.1
  have l2 : τ.1 11 2 = nI (L.1 2) := hL.2.2.1
  have hp := ok.1.2
  have hf := ok.2.2.1
  unfold fX3_takeInn
  simp only [c_O, o_b, d_place, d_fact, l0, l2, inr_n (show x1 < 2 ^ 31 by omega) (show L.1 0 < 2 ^ 31 by omega), inr_n (show x2 < 2 ^ 31 by omega) (show L.1 0 < 2 ^ 31 by omega), inr_n (show x3 < 2 ^ 31 by omega) (show L.1 2 < 2 ^ 31 by omega), c_P]
  by_cases h1 : x1 < L.1 0
  · rw [decide_eq_true h1, if_neg (show ¬ b2i true = 0 from hne)]
    by_cases h2 : x2 < L.1 0
    · rw [decide_eq_true h2, if_neg (show ¬ b2i true = 0 from hne)]
      by_cases h3 : x1 = x2
      · rw [if_pos (show nI x1 = nI x2 by rw [h3]), if_neg (fun z => z.2.2.1 h3)]
        exact tkc_no rfl rfl
      · rw [if_neg (fun z => h3 ((nI_eq (by omega) (by omega)).mp z))]
        by_cases h4 : x3 < L.1 2
        · rw [decide_eq_true h4, if_neg (show ¬ b2i true = 0 from hne), if_pos ⟨h1, h2, h3, h4⟩]
          refine ⟨fS (fS (fS τ 11 11 (nI x1)) 11 12 (nI x2)) 11 13 (nI x3), rfl, DS_t (DS_t (DS_f _ _ _) (DS_f _ _ _)) (DS_f _ _ _), fun L' h' => ?_⟩
          cases h'
          exact ⟨hL, Or.inr ⟨rfl, rfl, rfl, rfl⟩⟩
        · rw [decide_eq_false h4, if_pos b2i_f, if_neg (fun z => h4 z.2.2.2)]
          exact tkc_no rfl rfl
    · rw [decide_eq_false h2, if_pos b2i_f, if_neg (fun z => h2 z.2.1)]
      exact tkc_no rfl rfl
  · rw [decide_eq_false h1, if_pos b2i_f, if_neg (fun z => h1 z.1)]
    exact tkc_no rfl rfl
theorem t_shown (hL : LT τ L) (hN : InnC (τ.1 11 11) (τ.1 11 12) (τ.1 11 13) L) (ok : LdOK L) {x1 x2 : Nat} (b1 : x1 ≤ 9) (b2 : x2 ≤ 9) : TKc τ (if x1 < L.1 0 ∧ x2 < L.1 2 then some (uL L 6 x1 (L.2 6 x1 ||| 2 ^ x2)) else none) (fX3_takeShown 11 (nI x1) (nI x2) (mk τ)) := by
  have l0 : τ.1 11 0 = nI (L.1 0) := hL.1
  have l2 : τ.1 11 2 = nI (L.1 2) := hL.2.2.1
  have hp := ok.1.2
  have hf := ok.2.2.1
  unfold fX3_takeShown
  simp only [c_O, o_b, d_place, d_fact, l0, l2, inr_n (show x1 < 2 ^ 31 by omega) (show L.1 0 < 2 ^ 31 by omega), inr_n (show x2 < 2 ^ 31 by omega) (show L.1 2 < 2 ^ 31 by omega), c_R]
  by_cases h1 : x1 < L.1 0
  · rw [decide_eq_true h1, if_neg (show ¬ b2i true = 0 from hne)]
    by_cases h2 : x2 < L.1 2
    · have h16 : x1 < 6 := by omega
      have l10 := hL.2.2.2.2.2.2.2.2.2.2
      rw [decide_eq_true h2, if_neg (show ¬ b2i true = 0 from hne), if_pos ⟨h1, h2⟩]
      simp only [c_A, h16, o_b, l10 x1 h16, n_shl1 x2 (show x2 < 31 by omega), n_or, c_S]
      refine ⟨aS τ 18 x1 (nI (L.2 6 x1 ||| 2 ^ x2)), rfl, DS_a _ (by decide) (by decide) _ _, fun L' h' => ?_⟩
      cases h'
      obtain ⟨l0, l1, l2, l3, l4, l5, l6, l7, l8, l9, l10⟩ := hL
      refine ⟨⟨l0, l1, l2, l3, l4, l5, l6, l7, l8, l9, ?_⟩, hN⟩
      exact lda_u (b := 6) l10
    · rw [decide_eq_false h2, if_pos b2i_f, if_neg (fun z => h2 z.2)]
      exact tkc_no rfl rfl
  · rw [decide_eq_false h1, if_pos b2i_f, if_neg (fun z => h1 z.1)]
    exact tkc_no rfl rfl
theorem t_places (hL : LT τ L) (hN : InnC (τ.1 11 11) (τ.1 11 12) (τ.1 11 13) L) (ok : LdOK L) {x1 : Nat} (b1 : x1 ≤ 9) : TKc τ (if 2 ≤ x1 ∧ x1 ≤ 6 ∧ tp L ≤ x1 then some (uF L 0 x1) else none) (fX3_takePlaces 11 (nI x1) (mk τ)) := by
  have htp : tp L ≤ 6 := by
    have h1 := tpI_9 ok
    have h2 := tpR_9 ok (L.1 1) (Nat.le_refl _)
    have h3 := tpS_9 (L := L) 6
    unfold tp
    omega
  unfold fX3_takePlaces
  simp only [c_O, o_b, c_told hL hN ok, c_P]
  by_cases h1 : 2 ≤ x1
  · rw [if_neg (show ¬ nI x1 < 2 from nI_nlt (a := x1) (b := 2) h1 (by omega))]
    by_cases h2 : x1 ≤ 6
    · rw [if_neg (show ¬ (6 : Int32) < nI x1 from nI_nlt (a := 6) (b := x1) h2 (by decide))]
      by_cases h3 : tp L ≤ x1
      · rw [if_pos (nI_le h3 (by omega)), if_pos ⟨h1, h2, h3⟩]
        refine ⟨fS τ 11 0 (nI x1), rfl, DS_f _ _ _, fun L' h' => ?_⟩
        cases h'
        obtain ⟨l0, l1, l2, l3, l4, l5, l6, l7, l8, l9, l10⟩ := hL
        exact ⟨⟨rfl, l1, l2, l3, l4, l5, l6, l7, l8, l9, l10⟩, hN⟩
      · rw [if_neg (nI_ge (by omega) (by omega)), if_neg (fun z => h3 z.2.2)]
        exact tkc_no rfl rfl
    · rw [if_pos (show (6 : Int32) < nI x1 from nI_lt (a := 6) (by omega) (by omega)), if_neg (fun z => h2 z.2.1)]
      exact tkc_no rfl rfl
  · rw [if_pos (show nI x1 < 2 from nI_lt (b := 2) (by omega) (by decide)), if_neg (fun z => h1 z.1)]
    exact tkc_no rfl rfl
theorem t_road (hL : LT τ L) (hN : InnC (τ.1 11 11) (τ.1 11 12) (τ.1 11 13) L) (ok : LdOK L) {x1 x2 : Nat} (b1 : x1 ≤ 9) (b2 : x2 ≤ 9) : TKc τ (if x1 < L.1 0 ∧ x2 < L.1 0 ∧ x1 ≠ x2 ∧ L.1 1 < 8 then some (uF (uL (uL L 0 (L.1 1) x1) 1 (L.1 1) x2) 1 (L.1 1 + 1)) else none) (fX3_takeRoad 11 (nI x1) (nI x2) (mk τ)) := by
  have l0 : τ.1 11 0 = nI (L.1 0) := hL.1
  have l1 : τ.1 11 1 = nI (L.1 1) := hL.2.1
  have hp := ok.1.2
  have hr := ok.2.1
  unfold fX3_takeRoad
  simp only [c_O, o_b, d_place, l0, inr_n (show x1 < 2 ^ 31 by omega) (show L.1 0 < 2 ^ 31 by omega), inr_n (show x2 < 2 ^ 31 by omega) (show L.1 0 < 2 ^ 31 by omega), c_I, c_R, l1]
  by_cases h1 : x1 < L.1 0
  · rw [decide_eq_true h1, if_neg (show ¬ b2i true = 0 from hne)]
    by_cases h2 : x2 < L.1 0
    · rw [decide_eq_true h2, if_neg (show ¬ b2i true = 0 from hne)]
      by_cases h3 : x1 = x2
      · rw [if_pos (show nI x1 = nI x2 by rw [h3]), if_neg (fun z => z.2.2.1 h3)]
        exact tkc_no rfl rfl
      · rw [if_neg (fun z => h3 ((nI_eq (by omega) (by omega)).mp z))]
        by_cases h4 : L.1 1 < 8
        · have e1 : (aS τ 12 (L.1 1) (nI x1)).1 11 1 = nI (L.1 1) := l1
          have e2 : (aS (aS τ 12 (L.1 1) (nI x1)) 13 (L.1 1) (nI x2)).1 11 1 = nI (L.1 1) := l1
          rw [if_pos (show nI (L.1 1) < 8 from nI_lt (b := 8) h4 (by decide)), if_pos ⟨h1, h2, h3, h4⟩]
          simp only [c_S, h4, o_b, c_R, c_I, e1, e2, c_P, nI_1]
          refine ⟨fS (aS (aS τ 12 (L.1 1) (nI x1)) 13 (L.1 1) (nI x2)) 11 1 (nI (L.1 1 + 1)), rfl, DS_t (DS_t (DS_a _ (by decide) (by decide) _ _) (DS_a _ (by decide) (by decide) _ _)) (DS_f _ _ _), fun L' h' => ?_⟩
          cases h'
          obtain ⟨l0, l1, l2, l3, l4, l5, l6, l7, l8, l9, l10⟩ := hL
          refine ⟨⟨l0, rfl, l2, l3, ?_, ?_, l6, l7, l8, l9, l10⟩, hN⟩
          · exact lda_u (b := 0) l4
          · exact lda_u (b := 1) l5
        · rw [if_neg (show ¬ nI (L.1 1) < 8 from nI_nlt (a := L.1 1) (b := 8) (by omega) (by omega)), if_neg (fun z => h4 z.2.2.2)]
          exact tkc_no rfl rfl
    · rw [decide_eq_false h2, if_pos b2i_f, if_neg (fun z => h2 z.2.1)]
      exact tkc_no rfl rfl
  · rw [decide_eq_false h1, if_pos b2i_f, if_neg (fun z => h1 z.1)]
    exact tkc_no rfl rfl
theorem t_sign (hL : LT τ L) (hN : InnC (τ.1 11 11) (τ.1 11 12) (τ.1 11 13) L) (ok : LdOK L) {x1 x3 x4 kd : Nat} (b1 : x1 ≤ 9) (b3 : x3 ≤ 9) (b4 : x4 ≤ 9) (bk : kd ≤ 6) : TKc τ (if x1 < L.1 1 ∧ L.1 3 < 6 ∧ may L kd x3 x4 = true then some (uF (uL (uL (uL (uL L 2 (L.1 3) kd) 3 (L.1 3) x1) 4 (L.1 3) x3) 5 (L.1 3) x4) 3 (L.1 3 + 1)) else none) (fX3_takeSign 11 (nI x1) (nI kd) (nI x3) (nI x4) (mk τ)) := by
  have l1 : τ.1 11 1 = nI (L.1 1) := hL.2.1
  have l3 : τ.1 11 3 = nI (L.1 3) := hL.2.2.2.1
  have hr := ok.2.1
  have hs := ok.2.2.2.1
  unfold fX3_takeSign
  simp only [c_O, o_b, d_road, l1, inr_n (show x1 < 2 ^ 31 by omega) (show L.1 1 < 2 ^ 31 by omega), c_I, c_R, l3, c_speak hL ok bk b3 b4]
  by_cases h1 : x1 < L.1 1
  · rw [decide_eq_true h1, if_neg (show ¬ b2i true = 0 from hne)]
    by_cases h2 : L.1 3 < 6
    · rw [if_neg (show ¬ (6 : Int32) ≤ nI (L.1 3) from nI_ge (b := 6) h2 (by decide))]
      cases h3 : may L kd x3 x4 with
      | false =>
        rw [if_pos b2i_f, if_neg (fun z => by cases z.2.2)]
        exact tkc_no rfl rfl
      | true =>
        have e1 : (aS τ 14 (L.1 3) (nI kd)).1 11 3 = nI (L.1 3) := l3
        have e2 : (aS (aS τ 14 (L.1 3) (nI kd)) 15 (L.1 3) (nI x1)).1 11 3 = nI (L.1 3) := l3
        have e3 : (aS (aS (aS τ 14 (L.1 3) (nI kd)) 15 (L.1 3) (nI x1)) 16 (L.1 3) (nI x3)).1 11 3 = nI (L.1 3) := l3
        have e4 : (aS (aS (aS (aS τ 14 (L.1 3) (nI kd)) 15 (L.1 3) (nI x1)) 16 (L.1 3) (nI x3)) 17 (L.1 3) (nI x4)).1 11 3 = nI (L.1 3) := l3
        rw [if_neg (show ¬ b2i true = 0 from hne), if_pos ⟨h1, h2, rfl⟩]
        simp only [c_S, h2, o_b, c_R, c_I, e1, e2, e3, e4, c_P, nI_1]
        refine ⟨fS (aS (aS (aS (aS τ 14 (L.1 3) (nI kd)) 15 (L.1 3) (nI x1)) 16 (L.1 3) (nI x3)) 17 (L.1 3) (nI x4)) 11 3 (nI (L.1 3 + 1)), rfl, DS_t (DS_t (DS_t (DS_t (DS_a _ (by decide) (by decide) _ _) (DS_a _ (by decide) (by decide) _ _)) (DS_a _ (by decide) (by decide) _ _)) (DS_a _ (by decide) (by decide) _ _)) (DS_f _ _ _), fun L' h' => ?_⟩
        cases h'
        obtain ⟨l0, l1, l2, l3, l4, l5, l6, l7, l8, l9, l10⟩ := hL
        refine ⟨⟨l0, l1, l2, rfl, l4, l5, ?_, ?_, ?_, ?_, l10⟩, hN⟩
        · exact lda_u (b := 2) l6
        · exact lda_u (b := 3) l7
        · exact lda_u (b := 4) l8
        · exact lda_u (b := 5) l9
    · rw [if_pos (show (6 : Int32) ≤ nI (L.1 3) from nI_le (a := 6) (by omega) (by omega)), if_neg (fun z => h2 z.2.1)]
      exact tkc_no rfl rfl
  · rw [decide_eq_false h1, if_pos b2i_f, if_neg (fun z => h1 z.1)]
    exact tkc_no rfl rfl
end TK
