/-! ===== 75: go: the reference's answer ===== -/
set_option maxRecDepth 100000 in
theorem m_go {σ : St} (hz : σ.2.2 = true) {L : Ld} (ok : LdOK L) (h4 : L.1 4 = 1) {k : Nat} {B : Nat → Nat} {S : Nat → Bool} (hI : Iw σ L k B S) {l : List Nat} (hl : gl L k B S 0 1024 = l) {p : Nat} (hp : p < L.1 0) (b : Bool) : ∃ ω, Iw ω L k B S ∧ fX9_go 45 (nI p) (b2i b) (mk σ) = some (cond b (if 1000 ≤ wv L (cM l l.length) (Wi L (cM l l.length) 20) 0 0 p then -9 else if l.length = 0 then -9 else if Wi L (cM l l.length) 20 (81 * p + tc (L.2 6 p) (l.getD 0 0 &&& L.2 6 p)) = 0 then -9 else rp (bnS L (wv L (cM l l.length) (Wi L (cM l l.length) 20) (L.2 6 p) (l.getD 0 0 &&& L.2 6 p)) p (L.1 0)).1) (if wv L (cM l l.length) (Wi L (cM l l.length) 20) 0 0 p < 1000 then nI (wv L (cM l l.length) (Wi L (cM l l.length) 20) 0 0 p) else -9), mk ω) := by
  obtain ⟨h1, h2, h3, h4', h5, h6, h7, h8, h9, h10, h11, h12, h13, h14⟩ := id hI
  have hpc := ok.1.2
  have hfc := ok.2.2.1
  have h16 := pF_16 ok
  have hp6 : p < 6 := by omega
  have hsh := sh_16 ok hp6
  have m0 : σ.1 45 8 = nI (L.1 0) := h4'.1
  have hin : fX9_isIn (b2i b) 0 1 = some 1 := by cases b <;> rfl
  have e14 : σ.1 45 14 = nI (L.1 7) := by
    rcases h5 with ⟨q, -⟩ | ⟨q, _, _, r3⟩
    · omega
    · exact r3
  have h7lt : L.1 7 < 2 ^ 31 := by
    rcases ok.2.2.2.2.2.2.2.2 with z | ⟨z1, z2, z3, z4, z5⟩ <;> omega
  have epl : inr_ (nI p) (nI (L.1 0)) = true := by rw [inr_n (by omega) (by omega)]; simpa using hp
  have hfw : fX9_findWorlds 45 0 (mk σ) = _ := m_findWorlds hz h4' h1 h7 (m := 0) (by decide)
  have hGA := ga_of (σ := σ) (gl_le L k B S 0 1024)
  have hlt := g_lt (L := L) (k := k) (B := B) (S := S) (m := 0)
  have hIT : Iw (fS (wS σ 64 (lA (gl L k B S 0 1024) (σ.2.1 64))) 45 33 (nI (gl L k B S 0 1024).length)) L k B S := iw_goods hI _ _
  generalize fS (wS σ 64 (lA (gl L k B S 0 1024) (σ.2.1 64))) 45 33 (nI (gl L k B S 0 1024).length) = τ at hfw hGA hIT
  rw [hl] at hGA hlt
  have tz : τ.2.2 = true := iw_z hIT
  have hff := m_ffs hz tz hfw hGA hlt
  have hIO : Iw (wS τ 65 (cA (cM l l.length) 16 (τ.2.1 65))) L k B S := hIT
  have hoC : ∀ f, f < 16 → (wS τ 65 (cA (cM l l.length) 16 (τ.2.1 65))).2.1 65 f = b2i (cM l l.length f) := fun f hf => by
    rw [wS_a, if_pos rfl]
    unfold cA
    rw [if_pos hf]
  have o33 : (wS τ 65 (cA (cM l l.length) 16 (τ.2.1 65))).1 45 33 = nI l.length := hGA.1
  have o64 : ∀ i, i < l.length → (wS τ 65 (cA (cM l l.length) 16 (τ.2.1 65))).2.1 64 i = nI (l.getD i 0) := hGA.2.2
  generalize wS τ 65 (cA (cM l l.length) 16 (τ.2.1 65)) = ω at hff hIO hoC o33 o64
  obtain ⟨q1, q2, q3, q4, q5, q6, q7, q8, q9, q10, q11, q12, q13, q14⟩ := id hIO
  obtain ⟨g, hg⟩ := m_fw (C := cM l l.length) hz q14 hff q4 q5 ok h4 hoC
  have hIN : Iw (wS (wS ω 66 (cpj (fun i => nI (Wi L (cM l l.length) 20 i)) (ω.2.1 66) 486)) 67 g) L k B S := hIO
  have nC : ∀ f, f < 16 → (wS (wS ω 66 (cpj (fun i => nI (Wi L (cM l l.length) 20 i)) (ω.2.1 66) 486)) 67 g).2.1 65 f = b2i (cM l l.length f) := hoC
  have n33 : (wS (wS ω 66 (cpj (fun i => nI (Wi L (cM l l.length) 20 i)) (ω.2.1 66) 486)) 67 g).1 45 33 = nI l.length := o33
  have n64 : ∀ i, i < l.length → (wS (wS ω 66 (cpj (fun i => nI (Wi L (cM l l.length) 20 i)) (ω.2.1 66) 486)) 67 g).2.1 64 i = nI (l.getD i 0) := o64
  have nW : ∀ i, i < 486 → (wS (wS ω 66 (cpj (fun i => nI (Wi L (cM l l.length) 20 i)) (ω.2.1 66) 486)) 67 g).2.1 66 i = nI (Wi L (cM l l.length) 20 i) := fun i hi => by
    rw [wS_a, if_neg (by decide), wS_a, if_pos rfl]
    exact cpj_at (f := fun i => nI (Wi L (cM l l.length) 20 i)) hi
  generalize wS (wS ω 66 (cpj (fun i => nI (Wi L (cM l l.length) 20 i)) (ω.2.1 66) 486)) 67 g = ν at hg hIN nC n33 n64 nW
  have hbW : ∀ i, i < 486 → Wi L (cM l l.length) 20 i ≤ 1000 := fun i _ => Wi_le 20 i
  have hlen := hGA.2.1
  generalize Wi L (cM l l.length) 20 = W at nW hbW ⊢
  generalize cM l l.length = C at nC ⊢
  obtain ⟨v1, v2, v3, v4, v5, v6, v7, v8, v9, v10, v11, v12, v13, v14⟩ := id hIN
  have hwo : fX9_worstAt 45 (nI p) 0 (mk ν) = some (nI (wv L C W 0 0 p)) := m_worst (kn := 0) (so := 0) v14 v4 ok nC nW hbW hp6 (by decide) rfl
  have hwle := wv_le (C := C) (so := 0) ok hbW hp6 (show 0 < 16 by decide)
  refine ⟨ν, hIN, ?_⟩
  unfold fX9_go
  simp only [m_O hz, o_b, m_place hz, m0, epl, b2i_t, hne, if_false, hin, m_I hz, e14]
  rw [if_pos (nI_pos' h7lt)]
  simp only [hg, o_b, m_O v14, hwo]
  cases b
  · rw [if_pos b2i_f]
    show _ = some ((if wv L C W 0 0 p < 1000 then nI (wv L C W 0 0 p) else -9), mk ν)
    by_cases hw : wv L C W 0 0 p < 1000
    · rw [if_pos (show nI (wv L C W 0 0 p) < 1000 from nI_lt (b := 1000) hw (by decide)), if_pos hw]
      rfl
    · rw [if_neg (show ¬ nI (wv L C W 0 0 p) < 1000 from nI_nlt (b := 1000) (by omega) (by omega)), if_neg hw]
      rfl
  · rw [if_neg (show ¬ b2i true = 0 from hne)]
    show _ = some ((if 1000 ≤ wv L C W 0 0 p then -9 else if l.length = 0 then -9 else if W (81 * p + tc (L.2 6 p) (l.getD 0 0 &&& L.2 6 p)) = 0 then -9 else rp (bnS L (wv L C W (L.2 6 p) (l.getD 0 0 &&& L.2 6 p)) p (L.1 0)).1), mk ν)
    by_cases hw : 1000 ≤ wv L C W 0 0 p
    · rw [if_pos (show (1000 : Int32) ≤ nI (wv L C W 0 0 p) from nI_le (a := 1000) hw (by omega)), if_pos hw]
    · rw [if_neg (show ¬ (1000 : Int32) ≤ nI (wv L C W 0 0 p) from nI_ge (b := 1000) (by omega) (by decide)), if_neg hw]
      simp only [m_I v14, n33, o_b]
      by_cases h0 : l.length = 0
      · rw [if_pos (show nI l.length = 0 by rw [h0]; rfl), if_pos h0]
      · have hw0 := hlt 0 (by omega)
        have e64 : qv_aI (mk ν) false 64 0 = some (nI (l.getD 0 0)) := by
          have h := n64 0 (by omega)
          rw [← h]
          exact a_I (k := 0) (Or.inr v14) (show tb[64]? = some (.inl (false, 1024)) from rfl) (by decide) rfl (by decide)
        have e15 : nI (l.getD 0 0) &&& (15 : Int32) = nI (l.getD 0 0 % 16) := pk_andN (by omega) 4 (by decide)
        have hkn := m_known v14 v4 ok (k := 0) (f := l.getD 0 0 % 16) (by decide) hp6 (Nat.mod_lt _ (by decide))
        have hka := t_ka 0 (by decide) (L.2 6 p) (by omega) (l.getD 0 0 % 16) (Nat.mod_lt _ (by decide))
        rw [Nat.and_zero, show tc 0 0 = 0 by decide, Nat.zero_or, and_mod (by omega)] at hka
        rw [hka] at hkn
        have hkn2 : fX9_knownAt 45 0 (nI p) (nI (l.getD 0 0 % 16)) (mk ν) = some (nI (tc (L.2 6 p) (l.getD 0 0 &&& L.2 6 p))) := hkn
        have hso16 : l.getD 0 0 &&& L.2 6 p < 16 := Nat.lt_of_le_of_lt Nat.and_le_right (by omega)
        have ht81 := (t_enc (L.2 6 p) (by omega) _ hso16 (and_sub _ _)).2.2
        have e81 : (81 : Int32) * nI p = nI (81 * p) := pk_mul 81 p
        have hidx : 81 * p + tc (L.2 6 p) (l.getD 0 0 &&& L.2 6 p) < 486 := by omega
        have hbn := m_best v14 v4 ok nC nW hbW hp6 (kn := L.2 6 p) (so := l.getD 0 0 &&& L.2 6 p) (by omega) (and_sub _ _)
        have hWb := hbW _ hidx
        rw [if_neg (show ¬ nI l.length = 0 from nI_ne0 (by omega) (by omega)), if_neg h0]
        simp only [m_R v14, o_b, e64, e15, m_O v14, hkn2, e81, nI_add, m_A v14, hidx, nW _ hidx, hbn]
        by_cases hw2 : W (81 * p + tc (L.2 6 p) (l.getD 0 0 &&& L.2 6 p)) = 0
        · rw [if_pos (show nI (W (81 * p + tc (L.2 6 p) (l.getD 0 0 &&& L.2 6 p))) = 0 by rw [hw2]; rfl), if_pos hw2]
          rfl
        · rw [if_neg (show ¬ nI (W (81 * p + tc (L.2 6 p) (l.getD 0 0 &&& L.2 6 p))) = 0 from nI_ne0 (by omega) (by omega)), if_neg hw2]
          rfl
