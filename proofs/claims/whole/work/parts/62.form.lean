/-! ===== 62: land: the form; what a statement does to a land ===== -/
theorem lp_r {σ ρ β : Type} {body : σ → Option (σ ⊕ ρ)} {s : σ} {k : ρ → Option β} {x : Option β} {r : ρ} (h : qv_loop body s = some r) (hk : k r = x) : Option.bind (qv_loop body s) k = x := by
  rw [h]
  exact hk
section ST
variable {σ : St} {c : Nat → Nat} {t : Nat}
theorem m_form (hz : σ.2.2 = true) (hT : TxB (σ.1 45 25) (σ.2.1 56) c t) (A : Nat → Nat → Int32) : ∃ A', (∀ i, i < KK_ c t → ent c A' i (ss c i)) ∧ qv_loop (σ := Int32 × qv_H) (ρ := Int32 × qv_H) (fun (x3, h4) =>
      if x3 = 0 then
        some (.inr (x3, h4))
      else
        (qv_gI h4 8 45 26).bind fun v5 =>
        (qv_gI h4 8 45 25).bind fun v6 =>
        if v5 < v6 then
          (qv_ob h4 8 45).bind fun _ =>
          (fX9_statement 45 h4).bind fun (v8, h9) =>
          (qv_gI h9 8 45 27).bind fun v10 =>
          Option.bind (α := Int32) (
              if v8 = 0 then
                some (0 : Int32)
              else
                some (1 : Int32)
            ) fun m11 =>
          (qv_pI h9 8 45 27 (v10 + m11)).bind fun h12 =>
          some (.inl (v8, h12))
        else
          (qv_gI h4 8 45 27).bind fun v13 =>
          if v13 = 0 then
            (qv_ob h4 8 45).bind fun _ =>
            (fX9_statement 45 h4).bind fun (v15, h16) =>
            (qv_gI h16 8 45 27).bind fun v17 =>
            Option.bind (α := Int32) (
                if v15 = 0 then
                  some (0 : Int32)
                else
                  some (1 : Int32)
              ) fun m18 =>
            (qv_pI h16 8 45 27 (v17 + m18)).bind fun h19 =>
            some (.inl (v15, h19))
          else
            some (.inr (x3, h4))
    ) ((1 : Int32), mk (pst σ (nI 0) (nI 0) A)) = some (if ss c (KK_ c t) = t ∧ 0 < KK_ c t then (1, mk (pst σ (nI t) (nI (KK_ c t)) A')) else (0, mk (pst σ (nI (ss c (KK_ c t) + mt c t (ss c (KK_ c t)))) (nI (KK_ c t)) A'))) := by
  obtain ⟨h4, h0⟩ := txb_l hT
  have ht := hT.2.1
  have hK := KK_41 ht h4
  have hb := KK_bad hK
  have hgood : ∀ k, k < KK_ c t → gd c t (ss c k) = true := fun k hk => KK_good hk
  have hsk : ∀ k, k ≤ KK_ c t → ss c k ≤ t ∧ 2 * k ≤ ss c k := fun k hk => by
    have := ss_ok h4 k (fun i hi => KK_good (by omega))
    exact ⟨this.1, this.2.1⟩
  generalize hbody : (fun (x : Int32 × qv_H) => (match x with
    | (x3, h4) =>
      if x3 = 0 then
        some (.inr (x3, h4))
      else
        (qv_gI h4 8 45 26).bind fun v5 =>
        (qv_gI h4 8 45 25).bind fun v6 =>
        if v5 < v6 then
          (qv_ob h4 8 45).bind fun _ =>
          (fX9_statement 45 h4).bind fun (v8, h9) =>
          (qv_gI h9 8 45 27).bind fun v10 =>
          Option.bind (α := Int32) (
              if v8 = 0 then
                some (0 : Int32)
              else
                some (1 : Int32)
            ) fun m11 =>
          (qv_pI h9 8 45 27 (v10 + m11)).bind fun h12 =>
          some (.inl (v8, h12))
        else
          (qv_gI h4 8 45 27).bind fun v13 =>
          if v13 = 0 then
            (qv_ob h4 8 45).bind fun _ =>
            (fX9_statement 45 h4).bind fun (v15, h16) =>
            (qv_gI h16 8 45 27).bind fun v17 =>
            Option.bind (α := Int32) (
                if v15 = 0 then
                  some (0 : Int32)
                else
                  some (1 : Int32)
              ) fun m18 =>
            (qv_pI h16 8 45 27 (v17 + m18)).bind fun h19 =>
            some (.inl (v15, h19))
          else
            some (.inr (x3, h4)) : Option ((Int32 × qv_H) ⊕ (Int32 × qv_H)))) = body
  have h00 : ∀ h, body (0, h) = some (.inr (0, h)) := fun h => by
    rw [← hbody]
    rfl
  have hend : ∀ k A, 0 < k → k < 41 → body (1, mk (pst σ (nI t) (nI k) A)) = some (.inr (1, mk (pst σ (nI t) (nI k) A))) := fun k A hk0 hk => by
    rw [← hbody]
    dsimp only
    rw [if_neg hne]
    simp only [pz_I hz, o_b, hT.1]
    rw [if_neg (nI_nlt (Nat.le_refl t) (by omega)), if_neg (show ¬ nI k = 0 from nI_ne0 hk0 (by omega))]
  have hstep : ∀ k a A, k < 41 → a ≤ t → (a < t ∨ k = 0) → ∃ A', body (1, mk (pst σ (nI a) (nI k) A)) = some (.inl (b2i (gd c t a), mk (pst σ (nI (a + mt c t a)) (nI k + b2i (gd c t a)) A'))) ∧ (∀ p i, i ≠ k → A' p i = A p i) ∧ (gd c t a = true → ent c A' k a) := fun k a A hk ha hor => by
    obtain ⟨A', e, f1, f2⟩ := m_stmt (A := A) hz hT hk ha
    refine ⟨A', ?_, f1, f2⟩
    have eb : (if b2i (gd c t a) = 0 then some (0 : Int32) else some 1) = some (b2i (gd c t a)) := by cases gd c t a <;> rfl
    rw [← hbody]
    dsimp only
    rw [if_neg hne]
    simp only [pz_I hz, o_b, hT.1, pz_O hz, e, eb, pz_P hz]
    by_cases hat : a < t
    · rw [if_pos (nI_lt hat (by omega))]
    · have hk0 : k = 0 := by omega
      rw [if_neg (nI_nlt (by omega) (by omega)), if_pos (show nI k = 0 by rw [hk0]; rfl)]
  have main : ∀ d k A, KK_ c t - k = d → k ≤ KK_ c t → (∀ i, i < k → ent c A i (ss c i)) → ∃ A', (∀ i, i < KK_ c t → ent c A' i (ss c i)) ∧ qv_loop body ((1 : Int32), mk (pst σ (nI (ss c k)) (nI k) A)) = some (if ss c (KK_ c t) = t ∧ 0 < KK_ c t then (1, mk (pst σ (nI t) (nI (KK_ c t)) A')) else (0, mk (pst σ (nI (ss c (KK_ c t) + mt c t (ss c (KK_ c t)))) (nI (KK_ c t)) A'))) := by
    intro d
    induction d with
    | zero =>
      intro k A hd hk hE
      have hkK : k = KK_ c t := by omega
      rw [← hkK] at hb ⊢
      have hs := hsk k hk
      by_cases hfin : ss c k = t ∧ 0 < k
      · refine ⟨A, hE, ?_⟩
        rw [if_pos hfin, hfin.1]
        exact qv_loop_r (hend k A hfin.2 (by omega))
      · obtain ⟨A', e, f1, f2⟩ := hstep k (ss c k) A (by omega) hs.1 (by omega)
        refine ⟨A', fun i hi => ?_, ?_⟩
        · have := hE i hi
          unfold ent at this ⊢
          simp only [f1 _ i (show i ≠ k by omega)]
          exact this
        · rw [if_neg hfin]
          rw [hb] at e
          rw [qv_loop_l e]
          have e0 : nI k + b2i false = nI k := add_0 _
          rw [e0]
          exact qv_loop_r (h00 _)
    | succ d ih =>
      intro k A hd hk hE
      have hs := hsk k hk
      have hs1 := hsk (k + 1) (by omega)
      have hg := hgood k (by omega)
      have hgl := (gd_tok hg).1
      have e1 : ss c (k + 1) = ss c k + lnn (c (ss c k)) := rfl
      obtain ⟨A', e, f1, f2⟩ := hstep k (ss c k) A (by omega) hs.1 (Or.inl (by omega))
      have hm : mt c t (ss c k) = lnn (c (ss c k)) := by
        unfold gd at hg
        rw [decide_eq_true_iff] at hg
        exact hg.2
      have fe := f2 hg
      rw [hg, hm, show nI k + b2i true = nI (k + 1) from nI_1 k, ← e1] at e
      obtain ⟨A'', g1, g2⟩ := ih (k + 1) A' (by omega) (by omega) (fun i hi => by
        by_cases hik : i = k
        · rw [hik]; exact fe
        · have := hE i (by omega)
          unfold ent at this ⊢
          simp only [f1 _ i hik]
          exact this)
      refine ⟨A'', g1, ?_⟩
      have e2 : body (1, mk (pst σ (nI (ss c k)) (nI k) A)) = some (Sum.inl (1, mk (pst σ (nI (ss c (k + 1))) (nI (k + 1)) A'))) := e
      rw [qv_loop_l e2]
      exact g2
  exact main (KK_ c t - 0) 0 A rfl (Nat.zero_le _) (fun i hi => absurd hi (Nat.not_lt_zero i))
end ST
def uF (L : Ld) (k v : Nat) : Ld := (fun j => if j = k then v else L.1 j, L.2)
def uL (L : Ld) (a i v : Nat) : Ld := (L.1, fun b j => if b = a ∧ j = i then v else L.2 b j)
def tpR (L : Ld) : Nat → Nat
  | 0 => 0
  | r + 1 => max (tpR L r) (max (L.2 0 r) (L.2 1 r) + 1)
def tpS (L : Ld) : Nat → Nat
  | 0 => 0
  | p + 1 => if L.2 6 p = 0 then tpS L p else max (tpS L p) (p + 1)
def tpI (L : Ld) : Nat := if L.1 4 = 1 then max (L.1 5) (L.1 6) + 1 else 0
/-- places told of -/
def tp (L : Ld) : Nat := max (tpI L) (max (tpR L (L.1 1)) (tpS L 6))
def may (L : Ld) (kd a b : Nat) : Bool := decide ((kd < 5 → a < L.1 2) ∧ (2 ≤ kd → kd < 5 → b < L.1 2) ∧ (kd = 5 → a ≤ L.1 3))
/-- what a statement makes of a land -/
def tk (L : Ld) (y x1 x2 x3 x4 kd : Nat) : Option Ld := if y = 102 then (if L.1 2 < 4 then some (uF L 2 (L.1 2 + 1)) else none) else if y = 105 then (if x1 < L.1 0 ∧ x2 < L.1 0 ∧ x1 ≠ x2 ∧ x3 < L.1 2 then some (uF (uF (uF (uF L 4 1) 5 x1) 6 x2) 7 x3) else none) else if y = 108 then (if x1 < L.1 0 ∧ x2 < L.1 2 then some (uL L 6 x1 (L.2 6 x1 ||| 2 ^ x2)) else none) else if y = 110 then (if 2 ≤ x1 ∧ x1 ≤ 6 ∧ tp L ≤ x1 then some (uF L 0 x1) else none) else if y = 114 then (if x1 < L.1 0 ∧ x2 < L.1 0 ∧ x1 ≠ x2 ∧ L.1 1 < 8 then some (uF (uL (uL L 0 (L.1 1) x1) 1 (L.1 1) x2) 1 (L.1 1 + 1)) else none) else (if x1 < L.1 1 ∧ L.1 3 < 6 ∧ may L kd x3 x4 = true then some (uF (uL (uL (uL (uL L 2 (L.1 3) kd) 3 (L.1 3) x1) 4 (L.1 3) x3) 5 (L.1 3) x4) 3 (L.1 3 + 1)) else none)
section OKS
variable {L : Ld}
theorem tpR_le : ∀ {n r : Nat}, r < n → L.2 0 r < tpR L n ∧ L.2 1 r < tpR L n
  | 0, r, h => absurd h (Nat.not_lt_zero r)
  | n + 1, r, h => by
    show L.2 0 r < max (tpR L n) (max (L.2 0 n) (L.2 1 n) + 1) ∧ L.2 1 r < max (tpR L n) (max (L.2 0 n) (L.2 1 n) + 1)
    by_cases hr : r = n
    · subst hr; omega
    · have := tpR_le (n := n) (r := r) (by omega)
      omega
theorem tpS_le : ∀ {n p : Nat}, p < n → L.2 6 p ≠ 0 → p < tpS L n
  | 0, p, h, _ => absurd h (Nat.not_lt_zero p)
  | n + 1, p, h, hp => by
    show p < (if L.2 6 n = 0 then tpS L n else max (tpS L n) (n + 1))
    by_cases hr : p = n
    · subst hr
      rw [if_neg hp]
      omega
    · have := tpS_le (n := n) (p := p) (by omega) hp
      split <;> omega
theorem ok_fact (ok : LdOK L) (h : L.1 2 < 4) : LdOK (uF L 2 (L.1 2 + 1)) := by
  obtain ⟨o1, o2, o3, o4, o5, o6, o7, o8, o9⟩ := ok
  refine ⟨o1, o2, show L.1 2 + 1 ≤ 4 by omega, o4, o5, fun k hk => ?_, fun p hp => ?_, o8, ?_⟩
  · obtain ⟨k1, k2, k3, k4, k5, k6, k7⟩ := o6 k hk
    exact ⟨k1, k2, k3, k4, fun z => show L.2 4 k < L.1 2 + 1 by have := k5 z; omega, fun z z2 => show L.2 5 k < L.1 2 + 1 by have := k6 z z2; omega, k7⟩
  · have := o7 p hp
    show L.2 6 p < 2 ^ (L.1 2 + 1)
    rw [Nat.pow_succ]
    omega
  · rcases o9 with h | ⟨q1, q2, q3, q4, q5⟩
    · exact Or.inl h
    · exact Or.inr ⟨q1, q2, q3, q4, show L.1 7 < L.1 2 + 1 by omega⟩
theorem ok_inn (ok : LdOK L) {x1 x2 x3 : Nat} (h : x1 < L.1 0 ∧ x2 < L.1 0 ∧ x1 ≠ x2 ∧ x3 < L.1 2) : LdOK (uF (uF (uF (uF L 4 1) 5 x1) 6 x2) 7 x3) := by
  obtain ⟨o1, o2, o3, o4, o5, o6, o7, o8, o9⟩ := ok
  exact ⟨o1, o2, o3, o4, o5, o6, o7, o8, Or.inr ⟨rfl, h.1, h.2.1, h.2.2.1, h.2.2.2⟩⟩
theorem ok_shown (ok : LdOK L) {x1 x2 : Nat} (h : x1 < L.1 0 ∧ x2 < L.1 2) : LdOK (uL L 6 x1 (L.2 6 x1 ||| 2 ^ x2)) := by
  obtain ⟨o1, o2, o3, o4, o5, o6, o7, o8, o9⟩ := ok
  refine ⟨o1, o2, o3, o4, o5, o6, fun p hp => ?_, fun p hp hp2 => ?_, o9⟩
  · show (if 6 = 6 ∧ p = x1 then L.2 6 x1 ||| 2 ^ x2 else L.2 6 p) < 2 ^ L.1 2
    by_cases hq : p = x1
    · rw [if_pos ⟨rfl, hq⟩]
      exact Nat.or_lt_two_pow (o7 x1 (by omega)) (Nat.pow_lt_pow_right (by decide) h.2)
    · rw [if_neg (fun z => hq z.2)]
      exact o7 p hp
  · show (if 6 = 6 ∧ p = x1 then L.2 6 x1 ||| 2 ^ x2 else L.2 6 p) = 0
    have hp3 : L.1 0 ≤ p := hp2
    rw [if_neg (fun z => by omega)]
    exact o8 p hp hp2
theorem ok_places (ok : LdOK L) {x1 : Nat} (h : 2 ≤ x1 ∧ x1 ≤ 6 ∧ tp L ≤ x1) : LdOK (uF L 0 x1) := by
  obtain ⟨o1, o2, o3, o4, o5, o6, o7, o8, o9⟩ := ok
  have ht := h.2.2
  unfold tp at ht
  refine ⟨⟨h.1, h.2.1⟩, o2, o3, o4, fun k hk => ?_, o6, o7, fun p hp hp2 => ?_, ?_⟩
  · have hk2 : k < L.1 1 := hk
    obtain ⟨k1, k2, k3⟩ := o5 k hk2
    obtain ⟨t1, t2⟩ := tpR_le (L := L) hk2
    exact ⟨show L.2 0 k < x1 by omega, show L.2 1 k < x1 by omega, k3⟩
  · have hp3 : x1 ≤ p := hp2
    show L.2 6 p = 0
    rcases Nat.eq_zero_or_pos (L.2 6 p) with q | q
    · exact q
    · have := tpS_le (L := L) hp (by omega)
      omega
  · rcases o9 with q | ⟨q1, q2, q3, q4, q5⟩
    · exact Or.inl q
    · have e : tpI L = max (L.1 5) (L.1 6) + 1 := if_pos q1
      exact Or.inr ⟨q1, show L.1 5 < x1 by omega, show L.1 6 < x1 by omega, q4, q5⟩
theorem ok_road (ok : LdOK L) {x1 x2 : Nat} (h : x1 < L.1 0 ∧ x2 < L.1 0 ∧ x1 ≠ x2 ∧ L.1 1 < 8) : LdOK (uF (uL (uL L 0 (L.1 1) x1) 1 (L.1 1) x2) 1 (L.1 1 + 1)) := by
  obtain ⟨o1, o2, o3, o4, o5, o6, o7, o8, o9⟩ := ok
  refine ⟨o1, show L.1 1 + 1 ≤ 8 by omega, o3, o4, fun k hk => ?_, fun k hk => ?_, o7, o8, o9⟩
  · have hk2 : k < L.1 1 + 1 := hk
    show (if 0 = 1 ∧ k = L.1 1 then x2 else if 0 = 0 ∧ k = L.1 1 then x1 else L.2 0 k) < L.1 0 ∧ (if 1 = 1 ∧ k = L.1 1 then x2 else if 1 = 0 ∧ k = L.1 1 then x1 else L.2 1 k) < L.1 0 ∧ (if 0 = 1 ∧ k = L.1 1 then x2 else if 0 = 0 ∧ k = L.1 1 then x1 else L.2 0 k) ≠ (if 1 = 1 ∧ k = L.1 1 then x2 else if 1 = 0 ∧ k = L.1 1 then x1 else L.2 1 k)
    by_cases hq : k = L.1 1
    · simp only [hq, and_true, show ¬ (0 = 1) by decide, show ¬ (1 = 0) by decide, if_true, if_false]
      exact ⟨h.1, h.2.1, h.2.2.1⟩
    · simp only [hq, and_false, if_false]
      exact o5 k (by omega)
  · obtain ⟨k1, k2, k3, k4, k5, k6, k7⟩ := o6 k hk
    exact ⟨k1, show L.2 3 k < L.1 1 + 1 by omega, k3, k4, k5, k6, k7⟩
theorem ok_sign (ok : LdOK L) {x1 x3 x4 kd : Nat} (h : x1 < L.1 1 ∧ L.1 3 < 6 ∧ may L kd x3 x4 = true) (h3 : x3 ≤ 9) (h4 : x4 ≤ 9) (hk : kd ≤ 6) : LdOK (uF (uL (uL (uL (uL L 2 (L.1 3) kd) 3 (L.1 3) x1) 4 (L.1 3) x3) 5 (L.1 3) x4) 3 (L.1 3 + 1)) := by
  obtain ⟨o1, o2, o3, o4, o5, o6, o7, o8, o9⟩ := ok
  obtain ⟨g1, g2, g3⟩ := h
  unfold may at g3
  rw [decide_eq_true_iff] at g3
  refine ⟨o1, o2, o3, show L.1 3 + 1 ≤ 6 by omega, o5, fun k hk => ?_, o7, o8, o9⟩
  have hk2 : k < L.1 3 + 1 := hk
  have e : ∀ b, b = 2 ∨ b = 3 ∨ b = 4 ∨ b = 5 → (uF (uL (uL (uL (uL L 2 (L.1 3) kd) 3 (L.1 3) x1) 4 (L.1 3) x3) 5 (L.1 3) x4) 3 (L.1 3 + 1)).2 b k = if k = L.1 3 then (if b = 2 then kd else if b = 3 then x1 else if b = 4 then x3 else x4) else L.2 b k := by
    intro b hb
    show (if b = 5 ∧ k = L.1 3 then x4 else if b = 4 ∧ k = L.1 3 then x3 else if b = 3 ∧ k = L.1 3 then x1 else if b = 2 ∧ k = L.1 3 then kd else L.2 b k) = _
    by_cases hq : k = L.1 3
    · rcases hb with rfl | rfl | rfl | rfl <;> simp [hq]
    · simp [hq]
  rw [e 2 (by decide), e 3 (by decide), e 4 (by decide), e 5 (by decide)]
  by_cases hq : k = L.1 3
  · simp only [hq, if_true, show ¬ (3 = 2) by decide, show ¬ (4 = 2) by decide, show ¬ (4 = 3) by decide, show ¬ (5 = 2) by decide, show ¬ (5 = 3) by decide, show ¬ (5 = 4) by decide, if_false]
    exact ⟨‹kd ≤ 6›, g1, h3, h4, g3.1, g3.2.1, g3.2.2⟩
  · simp only [hq, if_false]
    exact o6 k (by omega)
theorem ok_tk (ok : LdOK L) {y x1 x2 x3 x4 kd : Nat} {L' : Ld} (h3 : x3 ≤ 9) (h4 : x4 ≤ 9) (hk : y = 115 → kd ≤ 6) (hy : y = 102 ∨ y = 105 ∨ y = 108 ∨ y = 110 ∨ y = 114 ∨ y = 115) (h : tk L y x1 x2 x3 x4 kd = some L') : LdOK L' := by
  unfold tk at h
  rcases hy with rfl | rfl | rfl | rfl | rfl | rfl
  · simp only [if_true] at h
    split at h
    · cases h; exact ok_fact ok ‹_›
    · cases h
  · simp only [show ¬ (105 = 102) by decide, if_true, if_false] at h
    split at h
    · cases h; exact ok_inn ok ‹_›
    · cases h
  · simp only [show ¬ (108 = 102) by decide, show ¬ (108 = 105) by decide, if_true, if_false] at h
    split at h
    · cases h; exact ok_shown ok ‹_›
    · cases h
  · simp only [show ¬ (110 = 102) by decide, show ¬ (110 = 105) by decide, show ¬ (110 = 108) by decide, if_true, if_false] at h
    split at h
    · cases h; exact ok_places ok ‹_›
    · cases h
  · simp only [show ¬ (114 = 102) by decide, show ¬ (114 = 105) by decide, show ¬ (114 = 108) by decide, show ¬ (114 = 110) by decide, if_true, if_false] at h
    split at h
    · cases h; exact ok_road ok ‹_›
    · cases h
  · simp only [show ¬ (115 = 102) by decide, show ¬ (115 = 105) by decide, show ¬ (115 = 108) by decide, show ¬ (115 = 110) by decide, show ¬ (115 = 114) by decide, if_false] at h
    split at h
    · cases h; exact ok_sign ok ‹_› h3 h4 (hk rfl)
    · cases h
end OKS
