/-! ===== 51: obligation: fewest ===== -/
/-- the best so far, and that it is so -/
def fw (P : Nat → Bool) (n : Nat) (o : Option Nat) : Prop := match o with
  | none => ∀ q, q < n → pc q ≤ 3 → P q = false
  | some b => b < n ∧ P b = true ∧ pc b ≤ 3 ∧ ∀ q, q < n → pc q ≤ 3 → P q = true → pc b < pc q ∨ (pc b = pc q ∧ b ≤ q)
theorem fw_un {P : Nat → Bool} {n : Nat} {o o' : Option Nat} (h : fw P n o) (h' : fw P n o') : o = o' := by
  cases o with
  | none =>
    cases o' with
    | none => rfl
    | some b =>
      have := h b h'.1 h'.2.2.1
      rw [h'.2.1] at this
      cases this
  | some a =>
    cases o' with
    | none =>
      have := h' a h.1 h.2.2.1
      rw [h.2.1] at this
      cases this
    | some b =>
      have h1 := h.2.2.2 b h'.1 h'.2.2.1 h'.2.1
      have h2 := h'.2.2.2 a h.1 h.2.2.1 h.2.1
      exact congrArg some (by omega)
def bsN (P : Nat → Bool) : Nat → Option Nat
  | 0 => none
  | j + 1 => if 3 < pc j then bsN P j else (match bsN P j with
    | none => if P j = true then some j else none
    | some b => if pc j < pc b then (if P j = true then some j else some b) else some b)
theorem bs_fw (P : Nat → Bool) : ∀ n, fw P n (bsN P n)
  | 0 => fun q hq => absurd hq (Nat.not_lt_zero q)
  | j + 1 => by
    have ih := bs_fw P j
    show fw P (j + 1) (if 3 < pc j then bsN P j else (match bsN P j with
    | none => if P j = true then some j else none
    | some b => if pc j < pc b then (if P j = true then some j else some b) else some b))
    generalize bsN P j = o at ih
    by_cases h : 3 < pc j
    · rw [if_pos h]
      cases o with
      | none =>
        intro q hq hp
        by_cases hqj : q = j
        · subst hqj; omega
        · exact ih q (by omega) hp
      | some b =>
        refine ⟨by have := ih.1; omega, ih.2.1, ih.2.2.1, fun q hq hp hP => ?_⟩
        by_cases hqj : q = j
        · subst hqj; omega
        · exact ih.2.2.2 q (by omega) hp hP
    · rw [if_neg h]
      cases o with
      | none =>
        dsimp only
        by_cases hP : P j = true
        · rw [if_pos hP]
          refine ⟨by omega, hP, by omega, fun q hq hp hPq => ?_⟩
          by_cases hqj : q = j
          · subst hqj; right; exact ⟨rfl, Nat.le_refl _⟩
          · have := ih q (by omega) hp
            rw [hPq] at this
            cases this
        · rw [if_neg hP]
          intro q hq hp
          by_cases hqj : q = j
          · subst hqj; simpa using hP
          · exact ih q (by omega) hp
      | some b =>
        dsimp only
        by_cases hc : pc j < pc b
        · rw [if_pos hc]
          by_cases hP : P j = true
          · rw [if_pos hP]
            refine ⟨by omega, hP, by omega, fun q hq hp hPq => ?_⟩
            by_cases hqj : q = j
            · subst hqj; right; exact ⟨rfl, Nat.le_refl _⟩
            · have := ih.2.2.2 q (by omega) hp hPq
              omega
          · rw [if_neg hP]
            refine ⟨by have := ih.1; omega, ih.2.1, ih.2.2.1, fun q hq hp hPq => ?_⟩
            by_cases hqj : q = j
            · subst hqj; exact absurd hPq hP
            · exact ih.2.2.2 q (by omega) hp hPq
        · rw [if_neg hc]
          refine ⟨by have := ih.1; omega, ih.2.1, ih.2.2.1, fun q hq hp hPq => ?_⟩
          by_cases hqj : q = j
          · subst hqj; have := ih.1; omega
          · exact ih.2.2.2 q (by omega) hp hPq
/-- the class's way: by how many -/
def g_c (P : Nat → Bool) (n c : Nat) : Nat := fi (fun q => (pc q == c) && P q) n
def oc (P : Nat → Bool) (n : Nat) : Option Nat := if fi (fun c => decide (g_c P n c < n)) 4 < 4 then some (g_c P n (fi (fun c => decide (g_c P n c < n)) 4)) else none
theorem oc_fw (P : Nat → Bool) (n : Nat) : fw P n (oc P n) := by
  unfold oc
  have hno := fi_no (fun c => decide (g_c P n c < n)) 4
  have hyes := fi_yes (fun c => decide (g_c P n c < n)) 4
  have hall : ∀ c q, q < n → pc q = c → P q = true → g_c P n c < n := fun c q hq h1 h2 => fi_all.mpr ⟨q, hq, by rw [h1, h2]; simp⟩
  generalize fi (fun c => decide (g_c P n c < n)) 4 = C at hno hyes
  by_cases h : C < 4
  · rw [if_pos h]
    have hg : g_c P n C < n := of_decide_eq_true (hyes h)
    have hy : (pc (g_c P n C) == C && P (g_c P n C)) = true := fi_yes (fun q => (pc q == C) && P q) n hg
    rw [Bool.and_eq_true, beq_iff_eq] at hy
    refine ⟨hg, hy.2, by omega, fun q hq hp hP => ?_⟩
    have h1 : C ≤ pc q := by
      rcases Nat.lt_or_ge (pc q) C with h2 | h2
      · exact absurd (hall (pc q) q hq rfl hP) (of_decide_eq_false (hno (pc q) h2))
      · exact h2
    by_cases h3 : pc q = C
    · right
      refine ⟨by omega, ?_⟩
      rcases Nat.lt_or_ge q (g_c P n C) with h4 | h4
      · have h5 : (pc q == C && P q) = false := fi_no (fun q => (pc q == C) && P q) n q h4
        rw [h3, hP] at h5
        simp at h5
      · exact h4
    · left
      omega
  · rw [if_neg h]
    intro q hq hp
    cases hP : P q with
    | false => rfl
    | true => exact absurd (hall (pc q) q hq rfl hP) (of_decide_eq_false (hno (pc q) (by omega)))
theorem oc_bs (P : Nat → Bool) (n : Nat) : oc P n = bsN P n := fw_un (oc_fw P n) (bs_fw P n)
theorem c_few {σ : St} {l : List Nat} (h : CA σ l) {f M : Nat} (hf : f < 4) (hM : M < 64) : fX7_fewestTelling 33 (nI f) (nI M) (mk σ) = some (rp (oc (alk l f) (M + 1))) := by
  have kc := fun q (hq : q < 64) => c_alike h hf hq
  unfold fX7_fewestTelling
  have inner : ∀ c, qv_loop (σ := Int32) (ρ := (Unit) ⊕ (Int32)) (fun x2 =>
            if nI M < x2 then
              some (.inr (.inl ()))
            else
              (fJ6_bitCount_0f7a4 x2).bind fun v3 =>
              if v3 = nI c then
                (qv_ob (mk σ) 6 33).bind fun _ =>
                (fX7_isAlikeBy 33 (nI f) x2 (mk σ)).bind fun v5 =>
                if v5 = 0 then
                  some (.inl (x2 + (1 : Int32)))
                else
                  some (.inr (.inr x2))
              else
                some (.inl (x2 + (1 : Int32)))
          ) (0 : Int32) = some (if g_c (alk l f) (M + 1) c < M + 1 then .inr (nI (g_c (alk l f) (M + 1) c)) else .inl ()) ∨ 31 < c := by
    intro c
    by_cases hc : 31 < c
    · exact Or.inr hc
    · refine Or.inl (lp_f (fun q => nI q) (M + 1) (fun q => (pc q == c) && alk l f q) (fun q => Sum.inr (nI q)) (Sum.inl ()) rfl ?_ ?_ ?_)
      · intro q hq hp
        have hpl := pc_le q
        simp only [pc_c (show q < 4096 by omega), o_b, c_O, kc q (by omega)]
        rw [if_neg (nI_nlt (by omega) (by omega)), show nI q + 1 = nI (q + 1) from nI_1 q]
        by_cases h1 : pc q = c
        · have h2 : alk l f q = false := by rw [h1] at hp; simpa using hp
          rw [if_pos (by rw [h1]), h2, if_pos b2i_f]
        · rw [if_neg (fun z => h1 ((nI_eq (by omega) (by omega)).mp z))]
      · intro q hq hp
        have hpl := pc_le q
        rw [Bool.and_eq_true, beq_iff_eq] at hp
        simp only [pc_c (show q < 4096 by omega), o_b, c_O, kc q (by omega)]
        rw [if_neg (nI_nlt (by omega) (by omega)), if_pos (by rw [hp.1]), hp.2, if_neg (show ¬ b2i true = 0 from hne)]
      · rw [if_pos (nI_lt (by omega) (by omega))]
  refine lp_fb (fun c => nI c) 4 (fun c => decide (g_c (alk l f) (M + 1) c < M + 1)) (fun c => .inr (nI (g_c (alk l f) (M + 1) c))) (.inl ()) rfl ?_ ?_ ?_ ?_
  · intro c hc hp
    have hi := (inner c).resolve_right (by omega)
    have hp2 := of_decide_eq_false hp
    rw [if_neg (show ¬ (3 : Int32) < nI c from nI_nlt (b := c) (a := 3) (by omega) (by decide)), hi, if_neg hp2, o_b, show nI c + 1 = nI (c + 1) from nI_1 c]
  · intro c hc hp
    have hi := (inner c).resolve_right (by omega)
    have hp2 := of_decide_eq_true hp
    rw [if_neg (show ¬ (3 : Int32) < nI c from nI_nlt (b := c) (a := 3) (by omega) (by decide)), hi, if_pos hp2, o_b]
  · rw [if_pos (show (3 : Int32) < nI 4 by decide)]
  · unfold oc
    by_cases hh : fi (fun c => decide (g_c (alk l f) (M + 1) c < M + 1)) 4 < 4
    · rw [if_pos hh, if_pos hh]
      rfl
    · rw [if_neg hh, if_neg hh]
      rfl
theorem m_few {τ : St} (hz : τ.2.2 = true) {L : Ld} {l : List Nat} (hL : LM τ L) (ok : LdOK L) (hG : GA τ l) (hb : ∀ i, i < l.length → l.getD i 0 < 1024) {f : Nat} (hf : f < L.1 2) : fX9_fewestFor 45 (nI f) (mk τ) = some (rp (bsN (alk l f) (2 ^ L.1 3 - 1 + 1))) := by
  have hfc := ok.2.2.1
  have hM := pw6 ok.2.2.2.1
  have mS := m_allS hz hL ok
  have km : ∀ q, q < 64 → ∃ x, fX9_alikeBy 45 (nI q) (mk τ) = some x ∧ (x >>> (nI f &&& 31)) &&& 1 = b2i (alk l f q) := fun q hq => ⟨_, m_alike hz hL ok hG hb hq, by rw [b_bit (by omega), zX_alk _ _ _ (by omega), decide_eq_true hf]; rfl⟩
  generalize 2 ^ L.1 3 - 1 = M at hM mS
  unfold fX9_fewestFor
  refine lp_b (fun j => (rp (bsN (alk l f) j), nI j)) (M + 1) (r := rp (bsN (alk l f) (M + 1))) rfl ?_ ?_ rfl
  · intro j hj
    have hfw := bs_fw (alk l f) j
    have hpj := pc_le j
    obtain ⟨x, x1, x2⟩ := km j (by omega)
    dsimp only
    simp only [m_O hz, mS, o_b, m_bits (show j < 2 ^ 31 by omega), x1]
    rw [if_neg (nI_nlt (by omega) (by omega)), show nI j + 1 = nI (j + 1) from nI_1 j]
    show _ = some (Sum.inl (rp (if 3 < pc j then bsN (alk l f) j else (match bsN (alk l f) j with
      | none => if alk l f j = true then some j else none
      | some b => if pc j < pc b then (if alk l f j = true then some j else some b) else some b)), nI (j + 1)))
    generalize bsN (alk l f) j = o at hfw
    by_cases h3 : 3 < pc j
    · rw [if_pos (show (3 : Int32) < nI (pc j) from nI_lt (a := 3) h3 (by omega)), if_pos h3]
      rfl
    · rw [if_neg (show ¬ (3 : Int32) < nI (pc j) from nI_nlt (a := 3) (by omega) (by decide)), if_neg h3]
      cases o with
      | none =>
        rw [if_pos (show rp none < 0 by decide), x2]
        cases alk l f j <;> rfl
      | some b =>
        have hbj := hfw.1
        have hpb := pc_le b
        dsimp only
        rw [if_neg (show ¬ rp (some b) < 0 from nI_pos (by omega)), show fX9_bits (rp (some b)) = some (nI (pc b)) from m_bits (show b < 2 ^ 31 by omega), o_b]
        by_cases hc : pc j < pc b
        · rw [if_pos (nI_lt hc (by omega)), if_pos hc, x2]
          cases alk l f j <;> rfl
        · rw [if_neg (nI_nlt (by omega) (by omega)), if_neg hc]
          rfl
  · dsimp only
    simp only [m_O hz, mS, o_b]
    rw [if_pos (nI_lt (by omega) (by omega))]
theorem ok18 : ql_o18 Inv := by
  rintro a1 a2 h ⟨σ, rfl, L, k, B, S, hI⟩
  have hz := iw_z hI
  obtain ⟨h1, h2, h3, h4, h5, h6, h7, h8, h9, h10, h11, h12, h13, h14⟩ := id hI
  have c3 : σ.1 3 2 = nI (L.1 2) := h2.2.2.1
  have m3 : σ.1 45 10 = nI (L.1 2) := h4.2.2.1
  have hfc := h1.2.2.1
  cases hs : inr_ a1 (nI (L.1 2)) with
  | false =>
    have hz1 : (aS σ 44 1 (σ.2.1 44 1 + 1)).2.2 = true := hz
    refine fin_r (f9 := fun h => fX9_fewest 45 a1 a2 h) hI 1 (x := -1) ?_ ?_
    · unfold fX8_fewest
      simp only [c_R, c_O, o_b, c_fact, c3, hs, b2i_f, if_true, c_ref1]
    · show fX9_fewest 45 a1 a2 _ = _
      unfold fX9_fewest
      simp only [m_O hz1, o_b, m_fact hz1, aS_f, m3, hs, b2i_f, if_true, m_no1 hz1]
      rfl
  | true =>
    obtain ⟨f, hf, rfl⟩ := inr_of (by omega) hs
    have e01 : (∃ b : Bool, a2 = b2i b) ∨ (¬ a2 = 0 ∧ ¬ a2 = 1) := by
      by_cases q0 : a2 = 0
      · exact Or.inl ⟨false, q0⟩
      · by_cases q1 : a2 = 1
        · exact Or.inl ⟨true, q1⟩
        · exact Or.inr ⟨q0, q1⟩
    rcases e01 with ⟨b, rfl⟩ | ⟨n0, n1⟩
    · have hM := pw6 h1.2.2.2.1
      have kc := c_few (ca_of h9) (f := f) (M := 2 ^ L.1 3 - 1) (by omega) hM
      have hfw : fX9_findWorlds 45 0 (mk σ) = _ := m_findWorlds hz h4 h1 h7 (m := 0) (by decide)
      have hGA := ga_of (σ := σ) (gl_le L k B S 0 1024)
      generalize hT : fS (wS σ 64 (lA (gl L k B S 0 1024) (σ.2.1 64))) 45 33 (nI (gl L k B S 0 1024).length) = τ at hfw hGA
      have hzT : τ.2.2 = true := by rw [← hT]; exact hz
      have hLT : LM τ L := by rw [← hT]; exact h4
      have hIT : Iw τ L k B S := by rw [← hT]; exact iw_goods hI _ _
      have km := m_few hzT hLT h1 hGA g_lt hf
      rw [oc_bs] at kc
      have hbf := bs_fw (alk (gl L k B S 0 1024) f) (2 ^ L.1 3 - 1 + 1)
      have ksm := c_sm h2 h1
      generalize 2 ^ L.1 3 - 1 = M at hM kc km hbf ksm
      generalize bsN (alk (gl L k B S 0 1024) f) (M + 1) = o at kc km hbf
      have hin : fX9_isIn (b2i b) 0 1 = some 1 := by cases b <;> rfl
      cases o with
      | none =>
        refine fin (f9 := fun h => fX9_fewest 45 (nI f) (b2i b) h) (σ1 := σ) (σ2 := τ) (r := -9) ?_ hz ?_ ⟨L, k, B, S, hIT⟩
        · unfold fX8_fewest
          simp only [c_R, c_O, o_b, c_fact, c3, hs, b2i_t, hne, if_false, ksm, kc, show rp none = -9 from rfl, if_true]
          cases b
          · rfl
          · rfl
        · show fX9_fewest 45 (nI f) (b2i b) _ = _
          unfold fX9_fewest
          simp only [m_O hz, o_b, m_fact hz, m3, hs, b2i_t, hne, if_false, hin, hfw, m_O hzT, km]
          rw [if_neg (show ¬ 0 ≤ rp none by decide)]
          rfl
      | some c =>
        have hc64 : c < 64 := by have := hbf.1; omega
        have h9n : ¬ rp (some c) = -9 := fun z => absurd (show rp (some c) < 0 by rw [z]; decide) (nI_pos (show c < 2 ^ 31 by omega))
        refine fin (f9 := fun h => fX9_fewest 45 (nI f) (b2i b) h) (σ1 := σ) (σ2 := τ) (r := cond b (nI c) (nI (pc c))) ?_ hz ?_ ⟨L, k, B, S, hIT⟩
        · unfold fX8_fewest
          simp only [c_R, c_O, o_b, c_fact, c3, hs, b2i_t, hne, if_false, ksm, kc, h9n]
          cases b
          · simp only [show b2i false = 0 from rfl, if_true, show fJ6_bitCount_0f7a4 (rp (some c)) = some (nI (pc c)) from pc_c (show c < 4096 by omega), o_b]
            rfl
          · simp only [show b2i true = 1 from rfl, hne, if_true, if_false, o_b]
            rfl
        · show fX9_fewest 45 (nI f) (b2i b) _ = _
          unfold fX9_fewest
          simp only [m_O hz, o_b, m_fact hz, m3, hs, b2i_t, hne, if_false, hin, hfw, m_O hzT, km]
          rw [if_pos (show 0 ≤ rp (some c) from nI_pos' (show c < 2 ^ 31 by omega))]
          cases b
          · simp only [show b2i false = 0 from rfl, if_true, show fX9_bits (rp (some c)) = some (nI (pc c)) from m_bits (show c < 2 ^ 31 by omega), o_b]
            rfl
          · simp only [show b2i true = 1 from rfl, hne, if_false, o_b]
            rfl
    · have hz1 : (aS σ 44 2 (σ.2.1 44 2 + 1)).2.2 = true := hz
      have hin : fX9_isIn a2 0 1 = some 0 := by
        rw [n_in]
        have : decide (¬ a2 < 0 ∧ ¬ (1 : Int32) < a2) = false := by
          cases hd : decide (¬ a2 < 0 ∧ ¬ (1 : Int32) < a2) with
          | false => rfl
          | true =>
            obtain ⟨j, hj, rfl⟩ := (in_few (n := 1) (by decide)).mp hd
            rcases (show j = 0 ∨ j = 1 by omega) with rfl | rfl
            · exact absurd rfl n0
            · exact absurd rfl n1
        rw [this]; rfl
      refine fin_r (f9 := fun h => fX9_fewest 45 (nI f) a2 h) hI 2 (x := -2) ?_ ?_
      · unfold fX8_fewest
        simp only [c_R, c_O, o_b, c_fact, c3, hs, b2i_t, hne, if_false, n0, n1, c_ref2]
      · show fX9_fewest 45 (nI f) a2 _ = _
        unfold fX9_fewest
        simp only [m_O hz1, o_b, m_fact hz1, aS_f, m3, hs, b2i_t, hne, if_false, hin, if_true, m_no2 hz1]
        rfl
