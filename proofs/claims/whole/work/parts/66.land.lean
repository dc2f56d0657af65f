/-! ===== 66: obligation: land ===== -/
theorem DS_w (σ : St) {o : Nat} (h1 : 12 ≤ o) (h2 : o ≤ 18) (a : Nat → Int32) : DS σ (wS σ o a) := ⟨fun _ _ => rfl, fun p hp => by
  rw [wS_a, if_neg (by omega)], rfl⟩
theorem DS_bec (σ : St) : DS σ (bec_11_3 σ) := by
  unfold bec_11_3
  refine DS_t ?_ (DS_f _ _ _)
  refine DS_t ?_ (DS_f _ _ _)
  refine DS_t ?_ (DS_f _ _ _)
  refine DS_t ?_ (DS_w _ (by decide) (by decide) _)
  refine DS_t ?_ (DS_w _ (by decide) (by decide) _)
  refine DS_t ?_ (DS_w _ (by decide) (by decide) _)
  refine DS_t ?_ (DS_w _ (by decide) (by decide) _)
  refine DS_t ?_ (DS_w _ (by decide) (by decide) _)
  refine DS_t ?_ (DS_w _ (by decide) (by decide) _)
  refine DS_t ?_ (DS_w _ (by decide) (by decide) _)
  refine DS_t ?_ (DS_f _ _ _)
  refine DS_t ?_ (DS_f _ _ _)
  refine DS_t ?_ (DS_f _ _ _)
  exact DS_f _ _ _
theorem txb_of {a b : Int32} {x y : Nat → Int32} (h : TxA a b x y) : ∃ (c : Nat → Nat) (t : Nat), TxB a x c t ∧ TxB b y c t := by
  obtain ⟨t, t1, t2, t3, t4⟩ := h
  have hex : ∃ c : Nat → Nat, ∀ i, (i < t → c i < 256 ∧ x i = nI (c i) ∧ y i = nI (c i)) ∧ (t ≤ i → c i = 0) := by
    refine ⟨fun i => if hi : i < t then Classical.choose (t4 i hi) else 0, fun i => ⟨fun hi => ?_, fun hi => ?_⟩⟩
    · simp only [hi, dif_pos]
      exact Classical.choose_spec (t4 i hi)
    · exact dif_neg (by omega)
  obtain ⟨c, hc⟩ := hex
  have h256 : ∀ i, c i < 256 := fun i => by
    by_cases hi : i < t
    · exact ((hc i).1 hi).1
    · rw [(hc i).2 (by omega)]
      decide
  exact ⟨c, t, ⟨t2, t1, fun i hi => ((hc i).1 hi).2.1, h256, fun i hi => (hc i).2 hi⟩, ⟨t3, t1, fun i hi => ((hc i).1 hi).2.2, h256, fun i hi => (hc i).2 hi⟩⟩
theorem txb_ds {σ τ : St} {c : Nat → Nat} {t : Nat} (h : DS σ τ) (hT : TxB (σ.1 1 0) (σ.2.1 2) c t) : TxB (τ.1 1 0) (τ.2.1 2) c t := by
  rw [h.1 1 (by decide), h.2.1 2 (by decide)]
  exact hT
section LN
variable {σ : St} {c : Nat → Nat} {t : Nat}
theorem c_tloop (hT : TxB (σ.1 1 0) (σ.2.1 2) c t) {K : Nat} (hgd : ∀ i, i < K → gd c t (ss c i) = true) (hend : ss c K = t) : ∀ d k (δ : St) (L : Ld), K - k = d → k ≤ K → LdOK L → LT δ L → InnC (δ.1 11 11) (δ.1 11 12) (δ.1 11 13) L → DS σ δ → ∃ δ', DS σ δ' ∧ (match rn c d k L with
    | .inl L' => LdOK L' ∧ LT δ' L' ∧ InnC (δ'.1 11 11) (δ'.1 11 12) (δ'.1 11 13) L'
    | .inr _ => True) ∧ qv_loop (σ := Int32 × Int32 × qv_H) (ρ := (Int32 × qv_H) ⊕ (Int32 × qv_H)) (fun (x8, x9, h10) =>
        (qv_gR h10 7 0 0).bind fun v11 =>
        (qv_gI h10 4 v11 0).bind fun v12 =>
        if v12 ≤ x9 then
          some (.inr (.inl (x8, h10)))
        else
          (qv_gR h10 7 0 2).bind fun v13 =>
          (qv_gR h10 7 0 0).bind fun v14 =>
          (qv_ob h10 2 v13).bind fun _ =>
          (fX3_take v13 v14 x9 h10).bind fun (v16, h17) =>
          if v16 = 0 then
            some (.inr (.inr ((-2000 : Int32) - x9, h17)))
          else
            (qv_gR h17 7 0 0).bind fun v18 =>
            (qv_ob h17 4 v18).bind fun _ =>
            (fX5_lengthAt v18 x9 h17).bind fun v20 =>
            some (.inl (x8 + (1 : Int32), x9 + (qv_mx (1 : Int32) v20), h17))
      ) (nI k, nI (ss c k), mk δ) = some (match rn c d k L with
    | .inl _ => .inl (nI (K), mk δ')
    | .inr s => .inr ((-2000 : Int32) - nI s, mk δ')) := by
  have ht := hT.2.1
  have hsk : ∀ k, k ≤ K → ss c k ≤ t := fun k hk => (ss_ok (txb_l hT).1 k (fun i hi => hgd _ (by omega))).1
  intro d
  induction d with
  | zero =>
    intro k δ L hd hk ok hL hN hD
    have hkK : k = K := by omega
    refine ⟨δ, hD, ⟨ok, hL, hN⟩, ?_⟩
    have t0 := (txb_ds hD hT).1
    refine qv_loop_r ?_
    dsimp only
    simp only [c_R, c_I, o_b, t0]
    rw [hkK, hend, if_pos (nI_le (Nat.le_refl _) (by omega))]
    rfl
  | succ d ih =>
    intro k δ L hd hk ok hL hN hD
    have hg : gd c t (ss c k) = true := hgd _ (by omega)
    have hgl := gd_tok hg
    have hge := gd_le hg
    have hδ := txb_ds hD hT
    have t0 := hδ.1
    obtain ⟨δ1, e1, e2, e3⟩ := c_take hδ hL hN ok hg (by omega)
    have hδ1 := txb_ds (DS_t hD e2) hT
    have kf := k_form (c (ss c k)) (hT.2.2.2.1 _)
    have elen : fX5_lengthAt 1 (nI (ss c k)) (mk δ1) = some (nI (lnn (c (ss c k)))) := by
      unfold fX5_lengthAt
      simp only [c_O, c_at hδ1 (show ss c k ≤ 1000 by omega), o_b, kf.1, kf.2.1]
    have es : rn c (d + 1) k L = (match tkk c L (ss c k) with
      | none => .inr (ss c k)
      | some L' => rn c d (k + 1) L') := rfl
    rw [es]
    cases hk2 : tkk c L (ss c k) with
    | none =>
      rw [hk2] at e1
      refine ⟨δ1, DS_t hD e2, trivial, ?_⟩
      refine qv_loop_r ?_
      dsimp only
      simp only [c_R, c_I, c_O, o_b, t0, e1]
      rw [if_neg (nI_ge (by omega) (by omega)), if_pos (show b2i (Option.isSome (none : Option Ld)) = 0 from rfl)]
    | some L1 =>
      rw [hk2] at e1
      obtain ⟨g1, g2⟩ := e3 L1 hk2
      have ok1 := ok_tkk hT.2.2.2.1 ok hg hk2
      obtain ⟨δ', f1, f2, f3⟩ := ih (k + 1) δ1 L1 (by omega) (by omega) ok1 g1 g2 (DS_t hD e2)
      refine ⟨δ', f1, f2, ?_⟩
      refine Eq.trans (qv_loop_l ?_) f3
      dsimp only
      simp only [c_R, c_I, c_O, o_b, t0, e1, elen]
      have e4 : qv_mx 1 (nI (lnn (c (ss c k)))) = nI (lnn (c (ss c k))) := by
        have := mx_n (a := 1) (b := lnn (c (ss c k))) (by decide) (by omega)
        rw [Nat.max_eq_right (by omega)] at this
        exact this
      rw [if_neg (nI_ge (by omega) (by omega)), if_neg (show ¬ b2i (Option.isSome (some L1)) = 0 from hne), e4, nI_1, nI_add]
      rfl
theorem m_cloop {κ : St} (hz : κ.2.2 = true) (hc : ∀ i, c i < 256) {K : Nat} (hgd : ∀ i, i < K → gd c t (ss c i) = true) (hK : K < 41) (e27 : κ.1 45 27 = nI (K)) (hE : ∀ i, i < K → ent c κ.2.1 i (ss c i)) : ∀ d k (τ : St) (L : Ld), K - k = d → k ≤ K → LdOK L → LM τ L → InnM (τ.1 45 12) (τ.1 45 13) (τ.1 45 14) L → MS κ τ → ∃ τ', MS κ τ' ∧ (match rn c d k L with
    | .inl L' => LdOK L' ∧ LM τ' L' ∧ InnM (τ'.1 45 12) (τ'.1 45 13) (τ'.1 45 14) L'
    | .inr _ => True) ∧ qv_loop (σ := Int32 × qv_H) (ρ := (qv_H) ⊕ (Int32 × qv_H)) (fun (x25, h26) =>
        (qv_gI h26 8 45 27).bind fun v27 =>
        if v27 ≤ x25 then
          some (.inr (.inl h26))
        else
          (qv_ob h26 8 45).bind fun _ =>
          (fX9_comes 45 x25 h26).bind fun (v29, h30) =>
          if v29 = 0 then
            (qv_ob h30 8 45).bind fun _ =>
            (fX9_passesAll 45 (1 : Int32) (0 : Int32) h30).bind fun h32 =>
            (qv_gR h32 8 45 20).bind fun v33 =>
            (qv_aI h32 false v33 x25).bind fun v34 =>
            some (.inr (.inr ((-2000 : Int32) - v34, h32)))
          else
            some (.inl (x25 + (1 : Int32), h30))
      ) (nI k, mk τ) = some (match rn c d k L with
    | .inl _ => .inl (mk τ')
    | .inr s => .inr ((-2000 : Int32) - nI s, mk (bst τ' (100 * 1) 78))) := by
  intro d
  induction d with
  | zero =>
    intro k τ L hd hk ok hL hN hM
    have hkK : k = K := by omega
    have tz : τ.2.2 = true := by rw [hM.2.2.2]; exact hz
    have t27 : τ.1 45 27 = nI (K) := by rw [hM.2.1 27 (by decide)]; exact e27
    refine ⟨τ, hM, ⟨ok, hL, hN⟩, ?_⟩
    refine qv_loop_r ?_
    dsimp only
    simp only [m_I tz, o_b, t27]
    rw [hkK, if_pos (nI_le (Nat.le_refl _) (by omega))]
    rfl
  | succ d ih =>
    intro k τ L hd hk ok hL hN hM
    have hg : gd c t (ss c k) = true := hgd _ (by omega)
    have tz : τ.2.2 = true := by rw [hM.2.2.2]; exact hz
    have t27 : τ.1 45 27 = nI (K) := by rw [hM.2.1 27 (by decide)]; exact e27
    have hk41 : k < 41 := by omega
    have hent : ent c τ.2.1 k (ss c k) := by
      have h := hE k (by omega)
      unfold ent at h ⊢
      rw [hM.2.2.1 57 (by decide), hM.2.2.1 58 (by decide), hM.2.2.1 59 (by decide), hM.2.2.1 60 (by decide), hM.2.2.1 61 (by decide), hM.2.2.1 62 (by decide)]
      exact h
    obtain ⟨τ1, e1, e2, e3⟩ := m_come hc tz hL hN ok hg hk41 hent
    have z1 : τ1.2.2 = true := by rw [e2.2.2.2]; exact tz
    have es : rn c (d + 1) k L = (match tkk c L (ss c k) with
      | none => .inr (ss c k)
      | some L' => rn c d (k + 1) L') := rfl
    rw [es]
    cases hk2 : tkk c L (ss c k) with
    | none =>
      rw [hk2] at e1
      have eb : fX9_passesAll 45 1 0 (mk τ1) = _ := m_backAll z1 (w := 1) (by decide)
      have z2 : (bst τ1 (100 * 1) 78).2.2 = true := z1
      have e58 : (bst τ1 (100 * 1) 78).2.1 58 k = nI (ss c k) := by
        show τ1.2.1 58 k = _
        rw [e2.2.2.1 58 (by decide)]
        exact hent.2.1
      refine ⟨τ1, MS_t hM e2, trivial, ?_⟩
      refine qv_loop_r ?_
      dsimp only
      simp only [m_I tz, m_O tz, o_b, t27, e1]
      rw [if_neg (nI_ge (by omega) (by omega)), if_pos (show b2i (Option.isSome (none : Option Ld)) = 0 from rfl)]
      simp only [m_O z1, o_b, eb, m_R z2, m_A z2, hk41, e58]
    | some L1 =>
      rw [hk2] at e1
      obtain ⟨g1, g2⟩ := e3 L1 hk2
      have ok1 := ok_tkk hc ok hg hk2
      obtain ⟨τ', f1, f2, f3⟩ := ih (k + 1) τ1 L1 (by omega) (by omega) ok1 g1 g2 (MS_t hM e2)
      refine ⟨τ', f1, f2, ?_⟩
      refine Eq.trans (qv_loop_l ?_) f3
      dsimp only
      simp only [m_I tz, m_O tz, o_b, t27, e1]
      rw [if_neg (nI_ge (by omega) (by omega)), if_neg (show ¬ b2i (Option.isSome (some L1)) = 0 from hne), nI_1]
end LN
theorem pst_self (σ : St) : pst σ (σ.1 45 26) (σ.1 45 27) σ.2.1 = σ := by
  have e1 : (pst σ (σ.1 45 26) (σ.1 45 27) σ.2.1).1 = σ.1 := by
    funext o k
    unfold pst
    by_cases h1 : o = 45
    · subst h1
      simp only [if_true]
      by_cases h2 : k = 26
      · subst h2; simp
      · simp only [h2, if_false]
        by_cases h3 : k = 27
        · subst h3; simp
        · simp only [h3, if_false]
    · simp only [h1, if_false]
  have e2 : (pst σ (σ.1 45 26) (σ.1 45 27) σ.2.1).2.1 = σ.2.1 := by
    funext o
    unfold pst
    dsimp only
    split <;> rfl
  exact Prod.ext e1 (Prod.ext e2 rfl)
theorem pst_00 (σ : St) : fS (fS σ 45 26 0) 45 27 0 = pst σ (nI 0) (nI 0) σ.2.1 := by
  have e := pst_26 (σ := σ) (a := σ.1 45 26) (s := σ.1 45 27) (A := σ.2.1) 0
  rw [pst_self] at e
  rw [e, pst_27]
  rfl
/-- what the reference's land leaves as it is -/
def NS (σ τ : St) : Prop := (∀ o, o ≠ 45 → τ.1 o = σ.1 o) ∧ τ.1 45 29 = σ.1 45 29 ∧ τ.1 45 39 = σ.1 45 39 ∧ τ.1 45 25 = 0 ∧ (∀ o, (o < 45 ∨ o = 46 ∨ o = 68) → τ.2.1 o = σ.2.1 o) ∧ (∀ i, i < 78 → τ.2.1 63 i = σ.2.1 63 i) ∧ τ.2.2 = σ.2.2
theorem kpa_c {a b : Nat → Int32} {L : Ld} {k : Nat} {B : Nat → Nat} {S : Nat → Bool} (h : ∀ i, i < 78 → a i = b i) (hk : k ≤ 12) (hb : KpA b L k B S) : KpA a L k B S := by
  obtain ⟨k0, k1, k2, k3, k4, k5, k6, k7, k8, k9, k10, k11, k12, k13⟩ := hb
  refine ⟨fun i hi => ?_, fun i hi => ?_, fun i hi => ?_, fun i hi => ?_, fun i hi => ?_, fun i hi => ?_, fun i hi => ?_, fun i hi => ⟨?_, ?_⟩, ?_, ?_, ?_, ?_, ?_, ?_⟩
  · rw [h _ (by omega)]; exact k0 i hi
  · rw [h _ (by omega)]; exact k1 i hi
  · rw [h _ (by omega)]; exact k2 i hi
  · rw [h _ (by omega)]; exact k3 i hi
  · rw [h _ (by omega)]; exact k4 i hi
  · rw [h _ (by omega)]; exact k5 i hi
  · rw [h _ (by omega)]; exact k6 i hi
  · rw [h _ (by omega)]; exact (k7 i hi).1
  · rw [h _ (by omega)]; exact (k7 i hi).2
  · rw [h 70 (by omega)]; exact k8
  · rw [h 71 (by omega)]; exact k9
  · rw [h 72 (by omega)]; exact k10
  · rw [h 73 (by omega)]; exact k11
  · rw [h 74 (by omega), h 75 (by omega), h 76 (by omega)]; exact k12
  · rw [h 77 (by omega)]; exact k13
theorem iw_ns {σ τ : St} {L : Ld} {k : Nat} {B : Nat → Nat} {S : Nat → Bool} (hz : σ.2.2 = true) (n : NS σ τ) (h1 : LdOK L) (h2 : LC σ L) (h3 : InnC (σ.1 3 11) (σ.1 3 12) (σ.1 3 13) L) (h4 : LM τ L) (h5 : InnM (τ.1 45 12) (τ.1 45 13) (τ.1 45 14) L) (h6 : FC σ k B S) (h7 : FM τ k B S) (h8 : RK σ L) (h9 : SF σ L k B S) (h10 : σ.1 1 0 = 0) (h11 : RdA (σ.1 41 0) (σ.1 45 39) (σ.2.1 42) (σ.2.1 68)) (h12 : RfA (σ.2.1 44) (σ.2.1 46)) (h13 : IM σ) : Iw τ L k B S := by
  obtain ⟨n1, n2, n3, n4, n5, n6, n7⟩ := n
  refine ⟨h1, ?_, ?_, h4, h5, ?_, h7, ?_, ?_, ⟨0, by decide, ?_, n4, fun i hi => absurd hi (Nat.not_lt_zero i)⟩, ?_, ?_, ?_, n7.trans hz⟩
  · show LdA (τ.1 3 0) (τ.1 3 1) (τ.1 3 2) (τ.1 3 3) (τ.2.1 4) (τ.2.1 5) (τ.2.1 6) (τ.2.1 7) (τ.2.1 8) (τ.2.1 9) (τ.2.1 10) L
    rw [n1 3 (by decide), n5 4 (by decide), n5 5 (by decide), n5 6 (by decide), n5 7 (by decide), n5 8 (by decide), n5 9 (by decide), n5 10 (by decide)]
    exact h2
  · rw [n1 3 (by decide)]
    exact h3
  · show FdA (τ.1 27 0) (τ.2.1 28) (τ.2.1 29) k B S
    rw [n1 27 (by decide), n5 28 (by decide), n5 29 (by decide)]
    exact h6
  · show RkA (τ.1 33 0) (τ.1 33 1) (τ.2.1 35) L
    rw [n1 33 (by decide), n5 35 (by decide)]
    exact h8
  · show SfA (τ.1 33 2) (τ.1 33 4) (τ.1 33 5) (τ.2.1 34) L k B S
    rw [n1 33 (by decide), n5 34 (by decide)]
    exact h9
  · rw [n1 1 (by decide)]
    exact h10
  · rw [n1 41 (by decide), n3, n5 42 (by decide), n5 68 (by decide)]
    exact h11
  · rw [n5 44 (by decide), n5 46 (by decide)]
    exact h12
  · show ImA (τ.1 0 11) (τ.1 45 29) (τ.1 19 0) (τ.1 19 1) (τ.1 19 2) (τ.1 19 3) (τ.1 19 11) (τ.1 19 12) (τ.1 19 13) (τ.1 30 0) (τ.2.1 20) (τ.2.1 21) (τ.2.1 22) (τ.2.1 23) (τ.2.1 24) (τ.2.1 25) (τ.2.1 26) (τ.2.1 31) (τ.2.1 32) (τ.2.1 63)
    rw [n1 0 (by decide), n2, n1 19 (by decide), n1 30 (by decide), n5 20 (by decide), n5 21 (by decide), n5 22 (by decide), n5 23 (by decide), n5 24 (by decide), n5 25 (by decide), n5 26 (by decide), n5 31 (by decide), n5 32 (by decide)]
    rcases h13 with h | ⟨t1, u1, M, n, C, T, i1, i2, i3, i4, i5⟩
    · exact Or.inl h
    · exact Or.inr ⟨t1, u1, M, n, C, T, i1, i2, i3, i4, kpa_c n6 i4.2.1 i5⟩
/-- the reference's land -/
theorem m_land {σ : St} (hz : σ.2.2 = true) {L : Ld} (ok : LdOK L) (hL : LM σ L) (hN : InnM (σ.1 45 12) (σ.1 45 13) (σ.1 45 14) L) {k : Nat} {B : Nat → Nat} {S : Nat → Bool} (hF : FM σ k B S) {c : Nat → Nat} {t : Nat} (hT : TxB (σ.1 45 25) (σ.2.1 56) c t) {K : Nat} (hKe : KK_ c t = K) : ∃ τ, NS σ τ ∧ FM τ k B S ∧ fX9_land 45 (mk σ) = some (if ss c (K) = t ∧ 0 < K then (match rn c (K) 0 L with
    | .inl _ => nI (K)
    | .inr s => -2000 - nI s) else -1000 - nI (ss c (K) + mt c t (ss c (K))), mk τ) ∧ (if ss c (K) = t ∧ 0 < K then (match rn c (K) 0 L with
    | .inl L' => LdOK L' ∧ LM τ L' ∧ InnM (τ.1 45 12) (τ.1 45 13) (τ.1 45 14) L'
    | .inr _ => LM τ L ∧ InnM (τ.1 45 12) (τ.1 45 13) (τ.1 45 14) L) else LM τ L ∧ InnM (τ.1 45 12) (τ.1 45 13) (τ.1 45 14) L) := by
  have hK := KK_41 hT.2.1 (txb_l hT).1
  have hgd : ∀ i, i < KK_ c t → gd c t (ss c i) = true := fun i hi => KK_good hi
  obtain ⟨A', hE, hl⟩ := m_form hz hT σ.2.1
  rw [hKe] at hK hgd hE hl
  clear hKe
  have za : (fS σ 45 26 0).2.2 = true := hz
  by_cases hW : ss c (K) = t ∧ 0 < K
  · rw [if_pos hW] at hl
    have z0 : (fS (pst σ (nI t) (nI (K)) A') 45 25 0).2.2 = true := hz
    have zp : (pst σ (nI t) (nI (K)) A').2.2 = true := hz
    have ek : fX9_passesAll 45 1 1 (mk (fS (pst σ (nI t) (nI (K)) A') 45 25 0)) = _ := m_keepAll z0 (w := 1) (by decide)
    have kz : (kst (fS (pst σ (nI t) (nI (K)) A') 45 25 0) (100 * 1) 78).2.2 = true := hz
    have k27 : (kst (fS (pst σ (nI t) (nI (K)) A') 45 25 0) (100 * 1) 78).1 45 27 = nI (K) := rfl
    have kE : ∀ i, i < K → ent c (kst (fS (pst σ (nI t) (nI (K)) A') 45 25 0) (100 * 1) 78).2.1 i (ss c i) := fun i hi => hE i hi
    have kL : LM (kst (fS (pst σ (nI t) (nI (K)) A') 45 25 0) (100 * 1) 78) L := hL
    have kN : InnM ((kst (fS (pst σ (nI t) (nI (K)) A') 45 25 0) (100 * 1) 78).1 45 12) ((kst (fS (pst σ (nI t) (nI (K)) A') 45 25 0) (100 * 1) 78).1 45 13) ((kst (fS (pst σ (nI t) (nI (K)) A') 45 25 0) (100 * 1) 78).1 45 14) L := hN
    have kF : FM (kst (fS (pst σ (nI t) (nI (K)) A') 45 25 0) (100 * 1) 78) k B S := hF
    have kn1 : ∀ o, o ≠ 45 → (kst (fS (pst σ (nI t) (nI (K)) A') 45 25 0) (100 * 1) 78).1 o = σ.1 o := fun o ho => by
      funext j
      show (fS (fS (fS (pst σ (nI t) (nI (K)) A') 45 25 0) 45 30 1) 45 31 (nI (100 * 1 + 78))).1 o j = σ.1 o j
      rw [fS_f, if_neg ho, fS_f, if_neg ho, fS_f, if_neg ho]
      show (if o = 45 then _ else σ.1 o j) = _
      rw [if_neg ho]
    have kn29 : (kst (fS (pst σ (nI t) (nI (K)) A') 45 25 0) (100 * 1) 78).1 45 29 = σ.1 45 29 := rfl
    have kn39 : (kst (fS (pst σ (nI t) (nI (K)) A') 45 25 0) (100 * 1) 78).1 45 39 = σ.1 45 39 := rfl
    have kn25 : (kst (fS (pst σ (nI t) (nI (K)) A') 45 25 0) (100 * 1) 78).1 45 25 = 0 := rfl
    have kn5 : ∀ o, (o < 45 ∨ o = 46 ∨ o = 68) → (kst (fS (pst σ (nI t) (nI (K)) A') 45 25 0) (100 * 1) 78).2.1 o = σ.2.1 o := fun o ho => by
      show (if o = 63 then _ else (if 57 ≤ o ∧ o ≤ 62 then A' o else σ.2.1 o)) = _
      rw [if_neg (by omega), if_neg (by omega)]
    have kK : ∀ i, i < 78 → (kst (fS (pst σ (nI t) (nI (K)) A') 45 25 0) (100 * 1) 78).2.1 63 (100 * 1 + i) = KK (fS (pst σ (nI t) (nI (K)) A') 45 25 0) i := fun i hi => mx_at hi
    have kO : ∀ i, i < 78 → (kst (fS (pst σ (nI t) (nI (K)) A') 45 25 0) (100 * 1) 78).2.1 63 i = σ.2.1 63 i := fun i hi => mx_out (by omega)
    have kk : KpA (fun i => (kst (fS (pst σ (nI t) (nI (K)) A') 45 25 0) (100 * 1) 78).2.1 63 (100 * 1 + i)) L k B S := KK_kp (σ := fS (pst σ (nI t) (nI (K)) A') 45 25 0) kK hL hN hF
    have kz2 : (kst (fS (pst σ (nI t) (nI (K)) A') 45 25 0) (100 * 1) 78).2.2 = σ.2.2 := rfl
    have e9 : ∀ (r : qv_H ⊕ (Int32 × qv_H)) (x : Option (Int32 × qv_H)), qv_loop (σ := Int32 × qv_H) (ρ := (qv_H) ⊕ (Int32 × qv_H)) (fun (x25, h26) =>
        (qv_gI h26 8 45 27).bind fun v27 =>
        if v27 ≤ x25 then
          some (.inr (.inl h26))
        else
          (qv_ob h26 8 45).bind fun _ =>
          (fX9_comes 45 x25 h26).bind fun (v29, h30) =>
          if v29 = 0 then
            (qv_ob h30 8 45).bind fun _ =>
            (fX9_passesAll 45 (1 : Int32) (0 : Int32) h30).bind fun h32 =>
            (qv_gR h32 8 45 20).bind fun v33 =>
            (qv_aI h32 false v33 x25).bind fun v34 =>
            some (.inr (.inr ((-2000 : Int32) - v34, h32)))
          else
            some (.inl (x25 + (1 : Int32), h30))
      ) (nI 0, mk (kst (fS (pst σ (nI t) (nI (K)) A') 45 25 0) (100 * 1) 78)) = some r → (match r with
      | .inl h35 => (qv_gI h35 8 45 27).bind fun v36 => some (v36, h35)
      | .inr q => some q) = x → fX9_land 45 (mk σ) = x := by
      intro r x q1 q2
      unfold fX9_land
      rw [show qv_pI (mk σ) 8 45 26 0 = some (mk (fS σ 45 26 0)) by simp only [m_P hz], o_b, show qv_pI (mk (fS σ 45 26 0)) 8 45 27 0 = some (mk (fS (fS σ 45 26 0) 45 27 0)) by simp only [m_P za], o_b, pst_00]
      refine lp_r hl ?_
      dsimp only
      rw [show qv_pI (mk (pst σ (nI t) (nI (K)) A')) 8 45 25 0 = some (mk (fS (pst σ (nI t) (nI (K)) A') 45 25 0)) by simp only [m_P zp], o_b, if_neg hne, m_O z0, o_b, ek, o_b]
      exact lp_r q1 q2
    generalize kst (fS (pst σ (nI t) (nI (K)) A') 45 25 0) (100 * 1) 78 = κ at *
    obtain ⟨τ', f1, f2, f3⟩ := m_cloop kz hT.2.2.2.1 hgd hK k27 kE (K) 0 κ L (by omega) (Nat.zero_le _) ok kL kN (MS_r κ)
    have mz : τ'.2.2 = true := f1.2.2.2.trans kz
    simp only [if_pos hW]
    cases hr : rn c (K) 0 L with
    | inl L' =>
      rw [hr] at f2 f3
      have m27 : τ'.1 45 27 = nI (K) := by rw [f1.2.1 27 (by decide)]; exact k27
      refine ⟨τ', ⟨fun o ho => (f1.1 o ho).trans (kn1 o ho), (f1.2.1 29 (by decide)).trans kn29, (f1.2.1 39 (by decide)).trans kn39, (f1.2.1 25 (by decide)).trans kn25, fun o ho => (f1.2.2.1 o (by omega)).trans (kn5 o ho), fun i hi => by rw [f1.2.2.1 63 (by decide)]; exact kO i hi, f1.2.2.2.trans kz2⟩, ?_, ?_, f2⟩
      · show FdA (τ'.1 45 17) (τ'.2.1 54) (τ'.2.1 55) k B S
        rw [f1.2.1 17 (by decide), f1.2.2.1 54 (by decide), f1.2.2.1 55 (by decide)]
        exact kF
      · refine e9 _ _ f3 ?_
        dsimp only
        simp only [m_I mz, m27, o_b]
    | inr s =>
      rw [hr] at f2 f3
      have hB : ∀ i, i < k → B i < 10 := fun i hi => (hF.2.2 i hi).2.2
      have kk2 : KpA (fun i => τ'.2.1 63 (100 * 1 + i)) L k B S := by
        rw [f1.2.2.1 63 (by decide)]
        exact kk
      obtain ⟨w4, w5, w7⟩ := bst_L kk2 hF.2.1 hB
      refine ⟨bst τ' (100 * 1) 78, ⟨fun o ho => ?_, (f1.2.1 29 (by decide)).trans kn29, (f1.2.1 39 (by decide)).trans kn39, (f1.2.1 25 (by decide)).trans kn25, fun o ho => ?_, fun i hi => ?_, f1.2.2.2.trans kz2⟩, w7, e9 _ _ f3 rfl, w4, w5⟩
      · have : (bst τ' (100 * 1) 78).1 o = τ'.1 o := by
          funext j
          show (if o = 45 then _ else τ'.1 o j) = _
          rw [if_neg ho]
        rw [this]
        exact (f1.1 o ho).trans (kn1 o ho)
      · have : (bst τ' (100 * 1) 78).2.1 o = τ'.2.1 o := by
          funext j
          show (if 47 ≤ o ∧ o ≤ 55 ∧ j < ln_ o ∧ of_ o + j < 78 then _ else τ'.2.1 o j) = _
          rw [if_neg (fun z => by omega)]
        rw [this]
        exact (f1.2.2.1 o (by omega)).trans (kn5 o ho)
      · show τ'.2.1 63 i = _
        rw [f1.2.2.1 63 (by decide)]
        exact kO i hi
  · rw [if_neg hW] at hl
    have zp : (pst σ (nI (ss c (K) + mt c t (ss c (K)))) (nI (K)) A').2.2 = true := hz
    have z0 : (fS (pst σ (nI (ss c (K) + mt c t (ss c (K)))) (nI (K)) A') 45 25 0).2.2 = true := hz
    have e26 : (fS (pst σ (nI (ss c (K) + mt c t (ss c (K)))) (nI (K)) A') 45 25 0).1 45 26 = nI (ss c (K) + mt c t (ss c (K))) := rfl
    simp only [if_neg hW]
    refine ⟨fS (pst σ (nI (ss c (K) + mt c t (ss c (K)))) (nI (K)) A') 45 25 0, ⟨fun o ho => ?_, rfl, rfl, rfl, fun o ho => ?_, fun i hi => rfl, rfl⟩, hF, ?_, hL, hN⟩
    · funext j
      rw [fS_f, if_neg ho]
      show (if o = 45 then _ else σ.1 o j) = _
      rw [if_neg ho]
    · show (if 57 ≤ o ∧ o ≤ 62 then A' o else σ.2.1 o) = _
      rw [if_neg (by omega)]
    · unfold fX9_land
      rw [show qv_pI (mk σ) 8 45 26 0 = some (mk (fS σ 45 26 0)) by simp only [m_P hz], o_b, show qv_pI (mk (fS σ 45 26 0)) 8 45 27 0 = some (mk (fS (fS σ 45 26 0) 45 27 0)) by simp only [m_P za], o_b, pst_00]
      refine lp_r hl ?_
      dsimp only
      simp only [m_P zp, o_b, if_true, m_I z0, e26]
theorem ok1 : ql_o1 Inv := by
  rintro h ⟨σ, rfl, L, k, B, S, hI⟩
  have hz := iw_z hI
  obtain ⟨h1, h2, h3, h4, h5, h6, h7, h8, h9, h10, h11, h12, h13, h14⟩ := id hI
  obtain ⟨c, t, hTc, hTm⟩ := txb_of h10
  have hK := KK_41 hTc.2.1 (txb_l hTc).1
  have hod := od_eq hTc.2.1 (txb_l hTc).1 (txb_l hTc).2
  have eod := c_odd hTc
  have hgd : ∀ i, i < KK_ c t → gd c t (ss c i) = true := fun i hi => KK_good hi
  have hml := fun (ν : St) (z : ν.2.2 = true) (a1 : LM ν L) (a2 : InnM (ν.1 45 12) (ν.1 45 13) (ν.1 45 14) L) (a3 : FM ν k B S) (a4 : TxB (ν.1 45 25) (ν.2.1 56) c t) => m_land z h1 a1 a2 a3 a4 (rfl : KK_ c t = KK_ c t)
  generalize KK_ c t = K at hK hod hgd hml
  have ecl : ∀ τ : St, fX5_clear 1 (mk τ) = some (mk (fS τ 1 0 0)) := fun τ => by
    unfold fX5_clear
    simp only [c_P, o_b]
  by_cases hW : ss c (K) = t ∧ 0 < K
  · rw [if_pos hW] at hod
    rw [hod] at eod
    have eb := c_bec_11_3 (σ := σ)
    have bL : LT (bec_11_3 σ) L := lda_cpy (σ := σ) (b0 := σ.2.1 12) (b1 := σ.2.1 13) (b2 := σ.2.1 14) (b3 := σ.2.1 15) (b4 := σ.2.1 16) (b5 := σ.2.1 17) (b6 := σ.2.1 18) h2
    have bN : InnC ((bec_11_3 σ).1 11 11) ((bec_11_3 σ).1 11 12) ((bec_11_3 σ).1 11 13) L := h3
    obtain ⟨δ, f1, f2, f3⟩ := c_tloop hTc hgd hW.1 (K) 0 (bec_11_3 σ) L (by omega) (Nat.zero_le _) h1 bL bN (DS_bec σ)
    have e8 : ∀ (q : (Int32 × qv_H) ⊕ (Int32 × qv_H)) (x : Int32 × St), qv_loop (σ := Int32 × Int32 × qv_H) (ρ := (Int32 × qv_H) ⊕ (Int32 × qv_H)) (fun (x8, x9, h10) =>
        (qv_gR h10 7 0 0).bind fun v11 =>
        (qv_gI h10 4 v11 0).bind fun v12 =>
        if v12 ≤ x9 then
          some (.inr (.inl (x8, h10)))
        else
          (qv_gR h10 7 0 2).bind fun v13 =>
          (qv_gR h10 7 0 0).bind fun v14 =>
          (qv_ob h10 2 v13).bind fun _ =>
          (fX3_take v13 v14 x9 h10).bind fun (v16, h17) =>
          if v16 = 0 then
            some (.inr (.inr ((-2000 : Int32) - x9, h17)))
          else
            (qv_gR h17 7 0 0).bind fun v18 =>
            (qv_ob h17 4 v18).bind fun _ =>
            (fX5_lengthAt v18 x9 h17).bind fun v20 =>
            some (.inl (x8 + (1 : Int32), x9 + (qv_mx (1 : Int32) v20), h17))
      ) (nI 0, nI (ss c 0), mk (bec_11_3 σ)) = some q → (match q with
      | .inl (y21, h22) =>
        (qv_gR h22 7 0 1).bind fun v23 =>
        (qv_gR h22 7 0 2).bind fun v24 =>
        (qv_ob h22 2 v23).bind fun _ =>
        (fX3_become v23 v24 h22).bind fun h26 =>
        (qv_gR h26 7 0 6).bind fun v27 =>
        (qv_gR h26 7 0 1).bind fun v28 =>
        (qv_ob h26 6 v27).bind fun _ =>
        (fX7_reckon v27 v28 h26).bind fun h30 =>
        (qv_gR h30 7 0 6).bind fun v31 =>
        (qv_gR h30 7 0 4).bind fun v32 =>
        (qv_ob h30 6 v31).bind fun _ =>
        (fX7_sift v31 v32 h30).bind fun h34 =>
        some (y21, h34)
      | .inr q => some q) = some (x.1, mk x.2) → fX8_land 0 (mk σ) = some (x.1, mk (fS x.2 1 0 0)) := by
      intro q x q1 q2
      have e1 : fX8_readText 0 (mk σ) = some (x.1, mk x.2) := by
        unfold fX8_readText
        rw [show qv_gR (mk σ) 7 0 0 = some 1 by simp only [c_R], o_b, show qv_ob (mk σ) 4 1 = some () by simp only [c_O], o_b, eod, o_b, if_pos (show (-1 : Int32) < 0 by decide), show qv_gR (mk σ) 7 0 2 = some 11 by simp only [c_R], o_b, show qv_gR (mk σ) 7 0 1 = some 3 by simp only [c_R], o_b, show qv_ob (mk σ) 2 11 = some () by simp only [c_O], o_b, eb, o_b]
        exact lp_r q1 q2
      unfold fX8_land
      simp only [c_O, o_b, e1, c_R, ecl]
    cases hr : rn c (K) 0 L with
    | inl M =>
      rw [hr] at f2 f3
      obtain ⟨okM, gL, gN⟩ := f2
      -- the class: told becomes the draft
      have c2 : LC (bec_3_11 δ) M := lda_cpy (σ := δ) (b0 := δ.2.1 4) (b1 := δ.2.1 5) (b2 := δ.2.1 6) (b3 := δ.2.1 7) (b4 := δ.2.1 8) (b5 := δ.2.1 9) (b6 := δ.2.1 10) gL
      have c3 : InnC ((bec_3_11 δ).1 3 11) ((bec_3_11 δ).1 3 12) ((bec_3_11 δ).1 3 13) M := gN
      have gf : ∀ o, o ≠ 11 → δ.1 o = σ.1 o := f1.1
      have ga : ∀ o, (o < 12 ∨ 18 < o) → δ.2.1 o = σ.2.1 o := f1.2.1
      have cz : (bec_3_11 δ).2.2 = true := f1.2.2.trans hz
      have c6 : FC (bec_3_11 δ) k B S := by
        show FdA (δ.1 27 0) (δ.2.1 28) (δ.2.1 29) k B S
        rw [gf 27 (by decide), ga 28 (by decide), ga 29 (by decide)]
        exact h6
      have c4 : LM (bec_3_11 δ) L := by
        show LdA (δ.1 45 8) (δ.1 45 9) (δ.1 45 10) (δ.1 45 11) (δ.2.1 47) (δ.2.1 48) (δ.2.1 49) (δ.2.1 50) (δ.2.1 51) (δ.2.1 52) (δ.2.1 53) L
        rw [gf 45 (by decide), ga 47 (by decide), ga 48 (by decide), ga 49 (by decide), ga 50 (by decide), ga 51 (by decide), ga 52 (by decide), ga 53 (by decide)]
        exact h4
      have c5 : InnM ((bec_3_11 δ).1 45 12) ((bec_3_11 δ).1 45 13) ((bec_3_11 δ).1 45 14) L := by
        show InnM (δ.1 45 12) (δ.1 45 13) (δ.1 45 14) L
        rw [gf 45 (by decide)]
        exact h5
      have c7 : FM (bec_3_11 δ) k B S := by
        show FdA (δ.1 45 17) (δ.2.1 54) (δ.2.1 55) k B S
        rw [gf 45 (by decide), ga 54 (by decide), ga 55 (by decide)]
        exact h7
      have c10 : TxB ((bec_3_11 δ).1 45 25) ((bec_3_11 δ).2.1 56) c t := by
        show TxB (δ.1 45 25) (δ.2.1 56) c t
        rw [gf 45 (by decide), ga 56 (by decide)]
        exact hTm
      have c11 : RdA ((bec_3_11 δ).1 41 0) ((bec_3_11 δ).1 45 39) ((bec_3_11 δ).2.1 42) ((bec_3_11 δ).2.1 68) := by
        show RdA (δ.1 41 0) (δ.1 45 39) (δ.2.1 42) (δ.2.1 68)
        rw [gf 41 (by decide), gf 45 (by decide), ga 42 (by decide), ga 68 (by decide)]
        exact h11
      have c12 : RfA ((bec_3_11 δ).2.1 44) ((bec_3_11 δ).2.1 46) := by
        show RfA (δ.2.1 44) (δ.2.1 46)
        rw [ga 44 (by decide), ga 46 (by decide)]
        exact h12
      have c13 : IM (bec_3_11 δ) := by
        show ImA (δ.1 0 11) (δ.1 45 29) (δ.1 19 0) (δ.1 19 1) (δ.1 19 2) (δ.1 19 3) (δ.1 19 11) (δ.1 19 12) (δ.1 19 13) (δ.1 30 0) (δ.2.1 20) (δ.2.1 21) (δ.2.1 22) (δ.2.1 23) (δ.2.1 24) (δ.2.1 25) (δ.2.1 26) (δ.2.1 31) (δ.2.1 32) (δ.2.1 63)
        rw [gf 0 (by decide), gf 45 (by decide), gf 19 (by decide), gf 30 (by decide), ga 20 (by decide), ga 21 (by decide), ga 22 (by decide), ga 23 (by decide), ga 24 (by decide), ga 25 (by decide), ga 26 (by decide), ga 31 (by decide), ga 32 (by decide), ga 63 (by decide)]
        exact h13
      have ebk := c_bec_3_11 (σ := δ)
      have e8f := fun (ν : St) (q : _) => e8 _ (nI (K), ν) f3 q
      clear e8
      have pre : ∀ υ ν : St, fX7_reckon 33 3 (mk (bec_3_11 δ)) = some (mk υ) → fX7_sift 33 27 (mk υ) = some (mk ν) → fX8_land 0 (mk σ) = some (nI (K), mk (fS ν 1 0 0)) := by
        intro υ ν q1 q2
        refine e8f ν ?_
        dsimp only
        simp only [c_R, c_O, o_b, ebk, q1, q2]
      clear e8f
      generalize bec_3_11 δ = τ at *
      have er := c_reckon c2 okM
      have rr := rk_of (σ := τ) (L := M)
      generalize hU : fS (fS (wS τ 35 (rA M (τ.2.1 35) (msk M + 1))) 33 0 (nI (msk M))) 33 1 (nI (ct (fq M) (msk M + 1))) = υ at er rr
      have u6 : FC υ k B S := by rw [← hU]; exact c6
      have es := c_sift okM rr u6
      have rs := sf_of (σ := υ) (L := M) (k := k) (B := B) (S := S)
      generalize hV : fS (wS (fS (fS υ 33 4 (nI (orb (fun i => S i == true) B k))) 33 5 (nI (orb (fun i => S i == false) B k))) 34 (lA (gl M k B S 0 1024) (υ.2.1 34))) 33 2 (nI (gl M k B S 0 1024).length) = ν at es rs
      have v2 : LC ν M := by rw [← hV, ← hU]; exact c2
      have v3 : InnC (ν.1 3 11) (ν.1 3 12) (ν.1 3 13) M := by rw [← hV, ← hU]; exact c3
      have v4 : LM ν L := by rw [← hV, ← hU]; exact c4
      have v5 : InnM (ν.1 45 12) (ν.1 45 13) (ν.1 45 14) L := by rw [← hV, ← hU]; exact c5
      have v6 : FC ν k B S := by rw [← hV, ← hU]; exact c6
      have v7 : FM ν k B S := by rw [← hV, ← hU]; exact c7
      have v8 : RK ν M := by rw [← hV]; exact rr
      have v10 : TxB (ν.1 45 25) (ν.2.1 56) c t := by rw [← hV, ← hU]; exact c10
      have v11 : RdA (ν.1 41 0) (ν.1 45 39) (ν.2.1 42) (ν.2.1 68) := by rw [← hV, ← hU]; exact c11
      have v12 : RfA (ν.2.1 44) (ν.2.1 46) := by rw [← hV, ← hU]; exact c12
      have v13 : IM ν := by rw [← hV, ← hU]; exact c13
      have v14 : ν.2.2 = true := by rw [← hV, ← hU]; exact cz
      have e8 := pre υ ν er es
      obtain ⟨ρ, n, g7, e9, gg⟩ := hml (fS ν 1 0 0) v14 v4 v5 v7 v10
      simp only [if_pos hW, hr] at e9 gg
      exact fin (f9 := fun h => fX9_land 45 h) (σ1 := fS ν 1 0 0) e8 v14 e9 ⟨M, k, B, S, iw_ns (σ := fS ν 1 0 0) v14 n okM v2 v3 gg.2.1 gg.2.2 v6 g7 v8 rs rfl v11 v12 v13⟩
    | inr s =>
      rw [hr] at f2 f3
      have e8 := e8 _ ((-2000 : Int32) - nI s, δ) f3 rfl
      have gf : ∀ o, o ≠ 11 → δ.1 o = σ.1 o := f1.1
      have ga : ∀ o, (o < 12 ∨ 18 < o) → δ.2.1 o = σ.2.1 o := f1.2.1
      have v14 : δ.2.2 = true := f1.2.2.trans hz
      have v2 : LC δ L := by
        show LdA (δ.1 3 0) (δ.1 3 1) (δ.1 3 2) (δ.1 3 3) (δ.2.1 4) (δ.2.1 5) (δ.2.1 6) (δ.2.1 7) (δ.2.1 8) (δ.2.1 9) (δ.2.1 10) L
        rw [gf 3 (by decide), ga 4 (by decide), ga 5 (by decide), ga 6 (by decide), ga 7 (by decide), ga 8 (by decide), ga 9 (by decide), ga 10 (by decide)]
        exact h2
      have v3 : InnC (δ.1 3 11) (δ.1 3 12) (δ.1 3 13) L := by
        rw [gf 3 (by decide)]
        exact h3
      have v4 : LM δ L := by
        show LdA (δ.1 45 8) (δ.1 45 9) (δ.1 45 10) (δ.1 45 11) (δ.2.1 47) (δ.2.1 48) (δ.2.1 49) (δ.2.1 50) (δ.2.1 51) (δ.2.1 52) (δ.2.1 53) L
        rw [gf 45 (by decide), ga 47 (by decide), ga 48 (by decide), ga 49 (by decide), ga 50 (by decide), ga 51 (by decide), ga 52 (by decide), ga 53 (by decide)]
        exact h4
      have v5 : InnM (δ.1 45 12) (δ.1 45 13) (δ.1 45 14) L := by
        rw [gf 45 (by decide)]
        exact h5
      have v6 : FC δ k B S := by
        show FdA (δ.1 27 0) (δ.2.1 28) (δ.2.1 29) k B S
        rw [gf 27 (by decide), ga 28 (by decide), ga 29 (by decide)]
        exact h6
      have v7 : FM δ k B S := by
        show FdA (δ.1 45 17) (δ.2.1 54) (δ.2.1 55) k B S
        rw [gf 45 (by decide), ga 54 (by decide), ga 55 (by decide)]
        exact h7
      have v8 : RK δ L := by
        show RkA (δ.1 33 0) (δ.1 33 1) (δ.2.1 35) L
        rw [gf 33 (by decide), ga 35 (by decide)]
        exact h8
      have v9 : SF δ L k B S := by
        show SfA (δ.1 33 2) (δ.1 33 4) (δ.1 33 5) (δ.2.1 34) L k B S
        rw [gf 33 (by decide), ga 34 (by decide)]
        exact h9
      have v10 : TxB (δ.1 45 25) (δ.2.1 56) c t := by
        rw [gf 45 (by decide), ga 56 (by decide)]
        exact hTm
      have v11 : RdA (δ.1 41 0) (δ.1 45 39) (δ.2.1 42) (δ.2.1 68) := by
        rw [gf 41 (by decide), gf 45 (by decide), ga 42 (by decide), ga 68 (by decide)]
        exact h11
      have v12 : RfA (δ.2.1 44) (δ.2.1 46) := by
        rw [ga 44 (by decide), ga 46 (by decide)]
        exact h12
      have v13 : IM δ := by
        show ImA (δ.1 0 11) (δ.1 45 29) (δ.1 19 0) (δ.1 19 1) (δ.1 19 2) (δ.1 19 3) (δ.1 19 11) (δ.1 19 12) (δ.1 19 13) (δ.1 30 0) (δ.2.1 20) (δ.2.1 21) (δ.2.1 22) (δ.2.1 23) (δ.2.1 24) (δ.2.1 25) (δ.2.1 26) (δ.2.1 31) (δ.2.1 32) (δ.2.1 63)
        rw [gf 0 (by decide), gf 45 (by decide), gf 19 (by decide), gf 30 (by decide), ga 20 (by decide), ga 21 (by decide), ga 22 (by decide), ga 23 (by decide), ga 24 (by decide), ga 25 (by decide), ga 26 (by decide), ga 31 (by decide), ga 32 (by decide), ga 63 (by decide)]
        exact h13
      obtain ⟨ρ, n, g7, e9, gg⟩ := hml (fS δ 1 0 0) v14 v4 v5 v7 v10
      simp only [if_pos hW, hr] at e9 gg
      exact fin (f9 := fun h => fX9_land 45 h) (σ1 := fS δ 1 0 0) e8 v14 e9 ⟨L, k, B, S, iw_ns (σ := fS δ 1 0 0) v14 n h1 v2 v3 gg.1 gg.2 v6 g7 v8 v9 rfl v11 v12 v13⟩
  · rw [if_neg hW] at hod
    rw [hod] at eod
    have hsk : ss c (K) ≤ t := (ss_ok (txb_l hTc).1 _ (fun i hi => hgd i hi)).1
    have hmt : mt c t (ss c (K)) ≤ 6 := by
      have h1 : mt c t (ss c (K)) ≤ lnn (c (ss c (K))) := fi_le _ _
      have h2 := (k_form (c (ss c (K))) (hTc.2.2.2.1 _)).2.2.1
      omega
    have ht80 := hTc.2.1
    have e1 : fX8_readText 0 (mk σ) = some ((-1000 : Int32) - nI (ss c (K) + mt c t (ss c (K))), mk σ) := by
      unfold fX8_readText
      rw [show qv_gR (mk σ) 7 0 0 = some 1 by simp only [c_R], o_b, show qv_ob (mk σ) 4 1 = some () by simp only [c_O], o_b, eod, o_b, if_neg (nI_pos (by omega))]
    have e8 : fX8_land 0 (mk σ) = some ((-1000 : Int32) - nI (ss c (K) + mt c t (ss c (K))), mk (fS σ 1 0 0)) := by
      unfold fX8_land
      simp only [c_O, o_b, e1, c_R, ecl]
    obtain ⟨ρ, n, g7, e9, gg⟩ := hml (fS σ 1 0 0) hz h4 h5 h7 hTm
    simp only [if_neg hW] at e9 gg
    exact fin (f9 := fun h => fX9_land 45 h) (σ1 := fS σ 1 0 0) e8 hz e9 ⟨L, k, B, S, iw_ns (σ := fS σ 1 0 0) hz n h1 h2 h3 gg.1 gg.2 h6 g7 h8 h9 rfl h11 h12 h13⟩
