/-! ===== 35: the good worlds of both sides ===== -/
theorem fS_fS (σ : St) (o k : Nat) (v v' : Int32) : fS (fS σ o k v) o k v' = fS σ o k v' := by
  unfold fS
  congr 1
  funext j
  unfold va_up
  by_cases h : j = o
  · subst h
    simp
    funext i
    unfold upd
    by_cases hi : i = k <;> simp [hi]
  · simp [h]
theorem aS_fS (σ : St) (o k o' k' : Nat) (v v' : Int32) : aS (fS σ o k v) o' k' v' = fS (aS σ o' k' v') o k v := rfl
theorem wS_fS (σ : St) (o k o' : Nat) (v : Int32) (a : Nat → Int32) : wS (fS σ o k v) o' a = fS (wS σ o' a) o k v := rfl
theorem wS_wS (σ : St) (o : Nat) (a b : Nat → Int32) : wS (wS σ o a) o b = wS σ o b := by
  unfold wS
  congr 1
  congr 1
  funext j
  unfold va_up
  by_cases h : j = o <;> simp [h]
theorem aS_wS (σ : St) (o k : Nat) (a : Nat → Int32) (v : Int32) : aS (wS σ o a) o k v = wS σ o (upd a k v) := by
  have e : aS (wS σ o a) o k v = wS (wS σ o a) o (upd a k v) := by
    unfold aS wS
    congr 2
    funext j
    unfold va_up
    by_cases h : j = o <;> simp [h]
  rw [e, wS_wS]
theorem wS_self (σ : St) (o : Nat) : wS σ o (σ.2.1 o) = σ := by
  unfold wS
  have : va_up σ.2.1 o (σ.2.1 o) = σ.2.1 := by
    funext j
    unfold va_up
    by_cases h : j = o <;> simp [h]
  rw [this]
theorem fS_self (σ : St) (o k : Nat) : fS σ o k (σ.1 o k) = σ := by
  unfold fS
  have : va_up σ.1 o (upd (σ.1 o) k (σ.1 o k)) = σ.1 := by
    funext j
    unfold va_up upd
    by_cases h : j = o
    · subst h
      simp
      funext i
      by_cases hi : i = k <;> simp [hi]
    · simp [h]
  rw [this]
/-- a list at the head of an array -/
def lA (l : List Nat) (a : Nat → Int32) : Nat → Int32 := fun i => match l[i]? with
  | some x => nI x
  | none => a i
theorem lA_nil (a : Nat → Int32) : lA [] a = a := by funext i; simp [lA]
theorem lA_at {l : List Nat} {a : Nat → Int32} {i : Nat} (h : i < l.length) : lA l a i = nI (l.getD i 0) := by
  unfold lA
  rw [List.getD_eq_getElem?_getD, List.getElem?_eq_getElem h]
  rfl
theorem lA_push (l : List Nat) (a : Nat → Int32) (x : Nat) : upd (lA l a) l.length (nI x) = lA (l ++ [x]) a := by
  funext i
  unfold upd lA
  by_cases h : i = l.length
  · subst h
    simp
  · rw [if_neg h]
    by_cases h2 : i < l.length
    · rw [List.getElem?_append_left h2]
    · rw [List.getElem?_eq_none (by omega), List.getElem?_eq_none (by simp; omega)]
def gq (L : Ld) (k : Nat) (B : Nat → Nat) (S : Nat → Bool) (m w : Nat) : Bool := isW L w && (decide (wr L w ≤ m) && fok k B S w)
def gl (L : Ld) (k : Nat) (B : Nat → Nat) (S : Nat → Bool) (m n : Nat) : List Nat := (List.range n).filter (gq L k B S m)
theorem gl_0 (L : Ld) (k : Nat) (B : Nat → Nat) (S : Nat → Bool) (m : Nat) : gl L k B S m 0 = [] := rfl
theorem gl_s (L : Ld) (k : Nat) (B : Nat → Nat) (S : Nat → Bool) (m n : Nat) : gl L k B S m (n + 1) = gl L k B S m n ++ (if gq L k B S m n then [n] else []) := by
  unfold gl
  rw [List.range_succ, List.filter_append]
  congr 1
  by_cases h : gq L k B S m n = true <;> simp [h]
theorem gl_le (L : Ld) (k : Nat) (B : Nat → Nat) (S : Nat → Bool) (m n : Nat) : (gl L k B S m n).length ≤ n := by
  unfold gl
  exact Nat.le_trans (List.length_filter_le _ _) (by simp)
theorem gl_mem {L : Ld} {k : Nat} {B : Nat → Nat} {S : Nat → Bool} {m n w : Nat} : w ∈ gl L k B S m n ↔ w < n ∧ gq L k B S m w = true := by
  unfold gl
  rw [List.mem_filter, List.mem_range]
theorem m_findWorlds {σ : St} (hz : σ.2.2 = true) {L : Ld} (hL : LM σ L) (ok : LdOK L) {k : Nat} {B : Nat → Nat} {S : Nat → Bool} (hF : FM σ k B S) {m : Nat} (hm : m ≤ 6) : fX9_findWorlds 45 (nI m) (mk σ) = some (mk (fS (wS σ 64 (lA (gl L k B S m 1024) (σ.2.1 64))) 45 33 (nI (gl L k B S m 1024).length))) := by
  unfold fX9_findWorlds
  simp only [m_P hz, o_b]
  refine lp_b (fun j => (nI j, mk (fS (wS σ 64 (lA (gl L k B S m j) (σ.2.1 64))) 45 33 (nI (gl L k B S m j).length)))) 1024 (r := mk (fS (wS σ 64 (lA (gl L k B S m 1024) (σ.2.1 64))) 45 33 (nI (gl L k B S m 1024).length))) ?_ ?_ ?_ rfl
  · rw [gl_0, lA_nil, wS_self]; rfl
  · intro j hj
    dsimp only
    have hlen := gl_le L k B S m j
    generalize hT : fS (wS σ 64 (lA (gl L k B S m j) (σ.2.1 64))) 45 33 (nI (gl L k B S m j).length) = τ
    have hzT : τ.2.2 = true := by rw [← hT]; exact hz
    have hLT : LM τ L := by rw [← hT]; exact hL
    have hFT : FM τ k B S := by rw [← hT]; exact hF
    have h33 : τ.1 45 33 = nI (gl L k B S m j).length := by rw [← hT]; rfl
    have hl1024 : (gl L k B S m j).length < 1024 := by omega
    rw [if_neg (show ¬ (1024 : Int32) ≤ nI j from nI_ge hj (by decide)), gl_s]
    simp only [m_O hzT, o_b, m_isW hzT hLT ok, isWx_n (show j < 2 ^ 31 by omega), m_wr hzT hLT ok (show j < 2 ^ 31 by omega), m_allFound hzT hFT, m_fok hzT hFT (show j < 2 ^ 31 by omega), m_R hzT, m_I hzT, h33, m_S hzT, hl1024]
    have e1 : nI j + 1 = nI (j + 1) := nI_1 j
    rw [e1]
    unfold gq
    have hwl := wr_le L j
    have hsc := ok.2.2.2.1
    cases h1 : isW L j with
    | false => rw [if_pos (by decide)]; simp [hT]
    | true =>
      rw [if_neg (by decide)]
      by_cases h2 : wr L j ≤ m
      · rw [if_neg (show ¬ nI m < nI (wr L j) from nI_nlt h2 (by omega))]
        cases h3 : fok k B S j with
        | false => rw [if_pos (by decide)]; simp [hT]
        | true =>
          rw [if_neg (by decide)]
          have hz2 : (aS τ 64 (gl L k B S m j).length (nI j)).2.2 = true := hzT
          have h332 : (aS τ 64 (gl L k B S m j).length (nI j)).1 45 33 = nI (gl L k B S m j).length := h33
          simp only [m_I hz2, m_P hz2, o_b, h332]
          rw [← hT, aS_fS, fS_fS, aS_wS, lA_push]
          simp [h2, nI_1]
      · rw [if_pos (show nI m < nI (wr L j) from nI_lt (by omega) (by omega))]
        simp [h2, hT]
  · dsimp only
    rw [if_pos (show (1024 : Int32) ≤ nI 1024 from by decide)]
/-- how many worlds fit, below n -/
def fq (L : Ld) (w : Nat) : Bool := isW L w && decide (wr L w = 0)
def RkA (m0 m1 : Int32) (ms : Nat → Int32) (L : Ld) : Prop := m0 = nI (msk L) ∧ m1 = nI (ct (fq L) (msk L + 1)) ∧ ∀ w, w ≤ msk L → ms w = if isW L w then nI (wr L w) else 7
def SfA (m2 m4 m5 : Int32) (g : Nat → Int32) (L : Ld) (k : Nat) (B : Nat → Nat) (S : Nat → Bool) : Prop := m2 = nI (gl L k B S 0 1024).length ∧ m4 = nI (orb (fun i => S i == true) B k) ∧ m5 = nI (orb (fun i => S i == false) B k) ∧ ∀ i, i < (gl L k B S 0 1024).length → g i = nI ((gl L k B S 0 1024).getD i 0)
abbrev RK (σ : St) (L : Ld) : Prop := RkA (σ.1 33 0) (σ.1 33 1) (σ.2.1 35) L
abbrev SF (σ : St) (L : Ld) (k : Nat) (B : Nat → Nat) (S : Nat → Bool) : Prop := SfA (σ.1 33 2) (σ.1 33 4) (σ.1 33 5) (σ.2.1 34) L k B S
def rA (L : Ld) (a : Nat → Int32) (j : Nat) : Nat → Int32 := fun w => if w < j then (if isW L w then nI (wr L w) else 7) else a w
theorem rA_s (L : Ld) (a : Nat → Int32) (j : Nat) : upd (rA L a j) j (if isW L j then nI (wr L j) else 7) = rA L a (j + 1) := by
  funext w
  unfold upd rA
  by_cases h : w = j
  · subst h; simp
  · by_cases h2 : w < j
    · simp [h, h2, show w < j + 1 by omega]
    · simp [h, h2, show ¬ w < j + 1 by omega]
theorem c_reckon {σ : St} {L : Ld} (hL : LC σ L) (ok : LdOK L) : fX7_reckon 33 3 (mk σ) = some (mk (fS (fS (wS σ 35 (rA L (σ.2.1 35) (msk L + 1))) 33 0 (nI (msk L))) 33 1 (nI (ct (fq L) (msk L + 1))))) := by
  have hml := msk_lt ok
  have e1023 : nI (msk L) &&& (1023 : Int32) = nI (msk L) := by
    rw [pk_andN (by omega) 10 (by decide), Nat.mod_eq_of_lt hml]
  unfold fX7_reckon
  simp only [c_O, c_mask hL ok, c_P, o_b, e1023]
  refine lp_b (fun j => (nI j, mk (fS (fS (wS σ 35 (rA L (σ.2.1 35) j)) 33 0 (nI (msk L))) 33 1 (nI (ct (fq L) j))))) (msk L + 1) (r := mk (fS (fS (wS σ 35 (rA L (σ.2.1 35) (msk L + 1))) 33 0 (nI (msk L))) 33 1 (nI (ct (fq L) (msk L + 1))))) ?_ ?_ ?_ rfl
  · have : rA L (σ.2.1 35) 0 = σ.2.1 35 := by funext w; simp [rA]
    rw [this, wS_self]; rfl
  · intro j hj
    dsimp only
    generalize hT : fS (fS (wS σ 35 (rA L (σ.2.1 35) j)) 33 0 (nI (msk L))) 33 1 (nI (ct (fq L) j)) = τ
    have hLT : LC τ L := by rw [← hT]; exact hL
    have h0 : τ.1 33 0 = nI (msk L) := by rw [← hT]; rfl
    have hj2 : j < 1024 := by omega
    simp only [c_I, c_O, c_R, o_b, h0, c_hasw ok h0, isWx_n (show j < 2 ^ 31 by omega), c_wr hLT ok (show j < 2 ^ 31 by omega)]
    rw [if_neg (show ¬ nI (msk L) < nI j from nI_nlt (by omega) (by omega))]
    have hcl := ct_le (fq L) j
    have e1 : nI j + 1 = nI (j + 1) := nI_1 j
    rw [e1]
    have em : ∀ v, (v = if isW L j then nI (wr L j) else 7) → ((qv_sI (mk τ) false 35 (nI j) v).bind fun h14 => (qv_gR h14 6 33 6).bind fun v15 => (qv_aI h14 false v15 (nI j)).bind fun v16 => Option.bind (α := qv_H) (if v16 = 0 then (qv_gI h14 6 33 1).bind fun v17 => (qv_pI h14 6 33 1 (v17 + (1 : Int32))).bind fun h18 => some h18 else some h14) fun h19 => some (Sum.inl (nI (j + 1), h19))) = some (Sum.inl (β := qv_H) (nI (j + 1), mk (fS (fS (wS σ 35 (rA L (σ.2.1 35) (j + 1))) 33 0 (nI (msk L))) 33 1 (nI (ct (fq L) (j + 1))))) : (Int32 × qv_H) ⊕ qv_H) := by
      intro v hv
      have h351 : (aS τ 35 j v).2.1 35 j = v := by rw [aS_a]; simp
      have h1 : (aS τ 35 j v).1 33 1 = nI (ct (fq L) j) := by rw [← hT]; rfl
      simp only [c_S, hj2, o_b, c_R, c_A, h351, c_I, h1, c_P]
      have e3 : aS τ 35 j v = fS (fS (wS σ 35 (rA L (σ.2.1 35) (j + 1))) 33 0 (nI (msk L))) 33 1 (nI (ct (fq L) j)) := by
        rw [← hT, aS_fS, aS_fS, aS_wS, hv, rA_s]
      rw [e3]
      have e4 : ct (fq L) (j + 1) = ct (fq L) j + (fq L j).toNat := rfl
      by_cases hv0 : v = 0
      · have : fq L j = true := by
          unfold fq
          cases h5 : isW L j with
          | false => rw [h5, hv0] at hv; exact absurd (show (0 : Int32) = 7 from hv) (by decide)
          | true =>
            rw [h5, hv0] at hv
            have hv2 : (0 : Int32) = nI (wr L j) := hv
            have hwl := wr_le L j
            have hsc := ok.2.2.2.1
            have : 0 = wr L j := (nI_eq (by decide) (by omega)).mp hv2
            simp [← this]
        rw [if_pos hv0, e4, this]
        show some (Sum.inl (_, mk (fS (fS _ 33 1 (nI (ct (fq L) j))) 33 1 (nI (ct (fq L) j) + 1)))) = _
        rw [fS_fS, nI_1]
        rfl
      · have : fq L j = false := by
          unfold fq
          cases h5 : isW L j with
          | false => rfl
          | true =>
            rw [h5] at hv
            have hv2 : v = nI (wr L j) := hv
            by_cases h6 : wr L j = 0
            · rw [h6] at hv2; exact absurd hv2 hv0
            · simp [h6]
        rw [if_neg hv0, e4, this]
        rfl
    cases h5 : isW L j with
    | false =>
      rw [if_pos (by decide)]
      exact em 7 (by rw [h5]; rfl)
    | true =>
      rw [if_neg (by decide)]
      exact em (nI (wr L j)) (by rw [h5]; rfl)
  · dsimp only
    have h0 : (fS (fS (wS σ 35 (rA L (σ.2.1 35) (msk L + 1))) 33 0 (nI (msk L))) 33 1 (nI (ct (fq L) (msk L + 1)))).1 33 0 = nI (msk L) := rfl
    simp only [c_I, o_b, h0]
    rw [if_pos (show nI (msk L) < nI (msk L + 1) from nI_lt (by omega) (by omega))]
theorem rk_of {σ : St} {L : Ld} : RK (fS (fS (wS σ 35 (rA L (σ.2.1 35) (msk L + 1))) 33 0 (nI (msk L))) 33 1 (nI (ct (fq L) (msk L + 1)))) L := by
  refine ⟨rfl, rfl, fun w hw => ?_⟩
  show rA L (σ.2.1 35) (msk L + 1) w = _
  unfold rA
  rw [if_pos (by omega)]
theorem c_fit {σ : St} {L : Ld} (ok : LdOK L) (hR : RK σ L) (x : Int32) : fX7_isFitting 33 x (mk σ) = some (b2i (isWx L x && decide (wr L x.toNatClampNeg = 0))) := by
  obtain ⟨r1, r2, r3⟩ := hR
  unfold fX7_isFitting
  simp only [c_O, c_R, o_b, c_hasw ok r1]
  cases h1 : isWx L x with
  | false => rw [if_pos (by decide)]; rfl
  | true =>
    obtain ⟨w, hw, rfl, h2⟩ := isWx_of ok h1
    rw [if_neg (by decide), nI_clamp (by omega)]
    have hwl := wr_le L w
    have hsc := ok.2.2.2.1
    simp only [c_A, hw, o_b, r3 w (isW_lt h2), h2, if_true]
    by_cases h3 : wr L w = 0
    · rw [h3, if_pos (by decide)]; rfl
    · rw [if_neg (show ¬ nI (wr L w) = 0 from nI_ne0 (by omega) (by omega))]
      simp [h3]; rfl
theorem c_good {σ : St} {L : Ld} (ok : LdOK L) (hR : RK σ L) {k : Nat} {B : Nat → Nat} {S : Nat → Bool} (hB : ∀ i, i < k → B i < 10) (h4 : σ.1 33 4 = nI (orb (fun i => S i == true) B k)) (h5 : σ.1 33 5 = nI (orb (fun i => S i == false) B k)) (x : Int32) : fX7_isGood 33 x (mk σ) = some (b2i (isWx L x && gq L k B S 0 x.toNatClampNeg)) := by
  unfold fX7_isGood
  simp only [c_O, o_b, c_fit ok hR]
  cases h1 : isWx L x with
  | false => simp only [Bool.false_and]; rfl
  | true =>
    obtain ⟨w, hw, rfl, h2⟩ := isWx_of ok h1
    rw [nI_clamp (by omega)]
    unfold gq
    rw [h2]
    by_cases h3 : wr L w = 0
    · simp only [h3, decide_true, Bool.true_and, Nat.le_refl]
      rw [if_neg (by decide)]
      simp only [c_asFound hB h4 h5 (show w < 2 ^ 31 by omega), o_b]
      cases fok k B S w <;> rfl
    · have h4 : ¬ wr L w ≤ 0 := by omega
      simp [h3]
      rfl
theorem gl_cut {L : Ld} (ok : LdOK L) (k : Nat) (B : Nat → Nat) (S : Nat → Bool) (m : Nat) : gl L k B S m (msk L + 1) = gl L k B S m 1024 := by
  have hml := msk_lt ok
  have key : ∀ d, gl L k B S m (msk L + 1 + d) = gl L k B S m (msk L + 1) := by
    intro d
    induction d with
    | zero => rfl
    | succ d ih =>
      rw [show msk L + 1 + (d + 1) = msk L + 1 + d + 1 by omega, gl_s, ih]
      have : gq L k B S m (msk L + 1 + d) = false := by
        unfold gq
        cases h : isW L (msk L + 1 + d) with
        | false => rfl
        | true => have := isW_lt h; omega
      simp [this]
  have := key (1024 - (msk L + 1))
  rw [show msk L + 1 + (1024 - (msk L + 1)) = 1024 by omega] at this
  exact this.symm
theorem c_sift {σ : St} {L : Ld} (ok : LdOK L) (hR : RK σ L) {k : Nat} {B : Nat → Nat} {S : Nat → Bool} (hF : FC σ k B S) : fX7_sift 33 27 (mk σ) = some (mk (fS (wS (fS (fS σ 33 4 (nI (orb (fun i => S i == true) B k))) 33 5 (nI (orb (fun i => S i == false) B k))) 34 (lA (gl L k B S 0 1024) (σ.2.1 34))) 33 2 (nI (gl L k B S 0 1024).length))) := by
  have hml := msk_lt ok
  have hB : ∀ i, i < k → B i < 10 := fun i hi => (hF.2.2 i hi).2.2
  unfold fX7_sift
  have e1 : fX2_bitsFound 27 (1 : Int32) (mk σ) = some (nI (orb (fun i => S i == true) B k)) := c_bits hF true
  have hF2 : FC (fS σ 33 4 (nI (orb (fun i => S i == true) B k))) k B S := hF
  have e2 : fX2_bitsFound 27 (0 : Int32) (mk (fS σ 33 4 (nI (orb (fun i => S i == true) B k)))) = some (nI (orb (fun i => S i == false) B k)) := c_bits hF2 false
  simp only [c_O, e1, c_P, o_b, e2]
  generalize hτ : fS (fS σ 33 4 (nI (orb (fun i => S i == true) B k))) 33 5 (nI (orb (fun i => S i == false) B k)) = τ
  have a34 : τ.2.1 34 = σ.2.1 34 := by rw [← hτ]; rfl
  rw [← a34]
  have rR : RK τ L := by rw [← hτ]; exact hR
  have r4 : τ.1 33 4 = nI (orb (fun i => S i == true) B k) := by rw [← hτ]; rfl
  have r5 : τ.1 33 5 = nI (orb (fun i => S i == false) B k) := by rw [← hτ]; rfl
  refine lp_b (fun j => (nI j, mk (fS (wS τ 34 (lA (gl L k B S 0 j) (τ.2.1 34))) 33 2 (nI (gl L k B S 0 j).length)))) (msk L + 1) (r := mk (fS (wS τ 34 (lA (gl L k B S 0 1024) (τ.2.1 34))) 33 2 (nI (gl L k B S 0 1024).length))) ?_ ?_ ?_ rfl
  · rw [gl_0, lA_nil, wS_self]; rfl
  · intro j hj
    dsimp only
    have hlen := gl_le L k B S 0 j
    generalize hT : fS (wS τ 34 (lA (gl L k B S 0 j) (τ.2.1 34))) 33 2 (nI (gl L k B S 0 j).length) = υ
    have uR : RK υ L := by rw [← hT]; exact rR
    have u4 : υ.1 33 4 = nI (orb (fun i => S i == true) B k) := by rw [← hT]; exact r4
    have u5 : υ.1 33 5 = nI (orb (fun i => S i == false) B k) := by rw [← hT]; exact r5
    have u2 : υ.1 33 2 = nI (gl L k B S 0 j).length := by rw [← hT]; rfl
    have hl1024 : (gl L k B S 0 j).length < 1024 := by omega
    simp only [c_I, c_O, c_R, o_b, uR.1, c_good ok uR hB u4 u5, isWx_n (show j < 2 ^ 31 by omega), nI_clamp (show j < 2 ^ 31 by omega), u2, c_S, hl1024]
    rw [if_neg (show ¬ nI (msk L) < nI j from nI_nlt (by omega) (by omega)), gl_s]
    have e1 : nI j + 1 = nI (j + 1) := nI_1 j
    rw [e1]
    have eg : (isW L j && gq L k B S 0 j) = gq L k B S 0 j := by unfold gq; cases isW L j <;> rfl
    rw [eg]
    cases h3 : gq L k B S 0 j with
    | false => rw [if_pos (by decide)]; simp [hT]
    | true =>
      rw [if_neg (by decide)]
      have u22 : (aS υ 34 (gl L k B S 0 j).length (nI j)).1 33 2 = nI (gl L k B S 0 j).length := u2
      simp only [u22, o_b, c_P]
      rw [← hT, aS_fS, fS_fS, aS_wS, lA_push]
      simp [nI_1]
  · dsimp only
    have h0 : (fS (wS τ 34 (lA (gl L k B S 0 (msk L + 1)) (τ.2.1 34))) 33 2 (nI (gl L k B S 0 (msk L + 1)).length)).1 33 0 = nI (msk L) := rR.1
    simp only [c_I, o_b, h0]
    rw [if_pos (show nI (msk L) < nI (msk L + 1) from nI_lt (by omega) (by omega)), gl_cut ok]
theorem sf_of {σ : St} {L : Ld} {k : Nat} {B : Nat → Nat} {S : Nat → Bool} : SF (fS (wS (fS (fS σ 33 4 (nI (orb (fun i => S i == true) B k))) 33 5 (nI (orb (fun i => S i == false) B k))) 34 (lA (gl L k B S 0 1024) (σ.2.1 34))) 33 2 (nI (gl L k B S 0 1024).length)) L k B S :=
  ⟨rfl, rfl, rfl, fun i h => by
    rw [fS_a, wS_a, if_pos rfl]
    exact lA_at h⟩
