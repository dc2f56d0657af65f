/-! ===== 41: obligations: count, joking, lands ===== -/
theorem n_self (x : Int32) : x = nI x.toBitVec.toNat := by
  apply Int32.toBitVec_inj.mp
  show x.toBitVec = BitVec.ofNat 32 x.toBitVec.toNat
  apply BitVec.eq_of_toNat_eq
  rw [BitVec.toNat_ofNat, Nat.mod_eq_of_lt x.toBitVec.isLt]
theorem nI_subn {a b : Nat} (h : b ≤ a) : nI a - nI b = nI (a - b) := by
  have : nI a = nI (a - b) + nI b := by rw [nI_add]; congr 1; omega
  rw [this, Int32.add_sub_cancel]
theorem fq_cut {L : Ld} (ok : LdOK L) : ct (fq L) 1024 = ct (fq L) (msk L + 1) := by
  have hml := msk_lt ok
  have key : ∀ d, ct (fq L) (msk L + 1 + d) = ct (fq L) (msk L + 1) := by
    intro d
    induction d with
    | zero => rfl
    | succ d ih =>
      have e : ct (fq L) (msk L + 1 + d + 1) = ct (fq L) (msk L + 1 + d) + (fq L (msk L + 1 + d)).toNat := rfl
      have : fq L (msk L + 1 + d) = false := by
        unfold fq
        cases h : isW L (msk L + 1 + d) with
        | false => rfl
        | true => have := isW_lt h; omega
      rw [show msk L + 1 + (d + 1) = msk L + 1 + d + 1 by omega, e, ih, this]
      rfl
  have := key (1024 - (msk L + 1))
  rw [show msk L + 1 + (1024 - (msk L + 1)) = 1024 by omega] at this
  exact this
theorem m_fitMany {σ : St} (hz : σ.2.2 = true) {L : Ld} (hL : LM σ L) (ok : LdOK L) : fX9_fitMany 45 (mk σ) = some (nI (ct (fq L) (msk L + 1))) := by
  unfold fX9_fitMany
  refine lp_b (fun j => (nI (ct (fq L) j), nI j)) 1024 (r := nI (ct (fq L) (msk L + 1))) rfl ?_ ?_ rfl
  · intro j hj
    have hwl := wr_le L j
    have hsc := ok.2.2.2.1
    dsimp only
    simp only [m_O hz, o_b, m_isW hz hL ok, isWx_n (show j < 2 ^ 31 by omega), m_wr hz hL ok (show j < 2 ^ 31 by omega)]
    rw [if_neg (show ¬ (1024 : Int32) ≤ nI j from nI_ge (b := 1024) hj (by decide)), show nI j + 1 = nI (j + 1) from nI_1 j]
    have e4 : ct (fq L) (j + 1) = ct (fq L) j + (fq L j).toNat := rfl
    rw [e4, show nI (ct (fq L) j + (fq L j).toNat) = nI (ct (fq L) j) + nI (fq L j).toNat from (nI_add _ _).symm]
    have e5 : fq L j = (isW L j && decide (wr L j = 0)) := rfl
    cases h5 : isW L j with
    | false =>
      rw [if_pos (by decide), e5, h5]
      rfl
    | true =>
      rw [if_neg (by decide), e5, h5]
      by_cases q : wr L j = 0
      · rw [q]; rfl
      · rw [if_neg (show ¬ nI (wr L j) = 0 from nI_ne0 (by omega) (by omega))]
        rw [show decide (wr L j = 0) = false from decide_eq_false q]
        rfl
  · dsimp only
    rw [if_pos (show (1024 : Int32) ≤ nI 1024 from nI_le (a := 1024) (Nat.le_refl _) (by decide))]
    exact congrArg (fun z => some (Sum.inr (nI z))) (fq_cut ok)
