/-! ===== 76: obligation: go ===== -/
section GG
variable {L : Ld} {a : Nat → Int32} {l : List Nat}
theorem go_less (ok : LdOK L) (hP : ∀ k s, k < 2 ^ L.1 2 → s &&& k = s → PR L (cM l l.length) a k s) (hl : 0 < l.length) {p : Nat} (hp : p < L.1 0) : vA a p (L.2 6 p) (l.getD 0 0 &&& L.2 6 p) ≤ vA a p 0 0 := by
  have hp6 := ok.1.2
  have h16 := pF_16 ok
  have hsh := sh_16 ok (show p < 6 by omega)
  obtain ⟨p1, p2, p3, p4⟩ := hP 0 0 (Nat.two_pow_pos _) rfl p hp
  cases ho : okp L 0 p with
  | true =>
    have h0 : L.2 6 p &&& 0 = L.2 6 p := of_decide_eq_true ho
    rw [Nat.and_zero] at h0
    rw [← h0, Nat.and_zero]
    exact Nat.le_refl _
  | false =>
    have hw : l.getD 0 0 % 16 < 16 := Nat.mod_lt _ (by decide)
    have hc : cM l l.length (l.getD 0 0 % 16) = true := cM_t ⟨0, hl, rfl⟩
    have hg := wmx_ge (kn := 0) (so := 0) (v := fun f => vA a p (0 ||| L.2 6 p) (f &&& (0 ||| L.2 6 p))) hw hc (Nat.and_zero _)
    rw [← p2 ho] at hg
    rw [Nat.zero_or] at hg
    rw [and_mod (by omega)] at hg
    exact hg
theorem go_goal (ok : LdOK L) (hP : ∀ k s, k < 2 ^ L.1 2 → s &&& k = s → PR L (cM l l.length) a k s) (hl : 0 < l.length) {p : Nat} (hp : p < L.1 0) {W : Nat → Nat} (hW : ∀ q kn so, q < L.1 0 → kn < 2 ^ L.1 2 → so &&& kn = so → okp L kn q = true → W (81 * q + tc kn so) = cap 20 (vA a q kn so)) : (if 1000 ≤ wv L (cM l l.length) W 0 0 p then (-9 : Int32) else if l.length = 0 then -9 else if W (81 * p + tc (L.2 6 p) (l.getD 0 0 &&& L.2 6 p)) = 0 then -9 else rp (bnS L (wv L (cM l l.length) W (L.2 6 p) (l.getD 0 0 &&& L.2 6 p)) p (L.1 0)).1) = (if vA a p (L.2 6 p) (l.getD 0 0 &&& L.2 6 p) = 0 then -9 else if vA a p 0 0 ≤ 20 then (if fi (gqf L a p (L.2 6 p) (l.getD 0 0 &&& L.2 6 p)) (L.1 0) < L.1 0 then nI (fi (gqf L a p (L.2 6 p) (l.getD 0 0 &&& L.2 6 p)) (L.1 0)) else -9) else -9) := by
  have hp6 := ok.1.2
  have hsh := sh_16 ok (show p < 6 by omega)
  have hle := go_less ok hP hl hp
  have hV : wv L (cM l l.length) W 0 0 p = cap 20 (vA a p 0 0) := wv_cap ok hP (by decide) hW hp (Nat.two_pow_pos _) rfl
  have hoks : okp L (L.2 6 p) p = true := decide_eq_true (Nat.and_self _)
  have hsub := and_sub (l.getD 0 0) (L.2 6 p)
  have hE := hW p (L.2 6 p) (l.getD 0 0 &&& L.2 6 p) hp hsh hsub hoks
  have hv : ∀ q, q < L.1 0 → wv L (cM l l.length) W (L.2 6 p) (l.getD 0 0 &&& L.2 6 p) q = cap 20 (vA a q (L.2 6 p) (l.getD 0 0 &&& L.2 6 p)) := fun q hq => wv_cap ok hP (by decide) hW hq hsh hsub
  have hPR := hP (L.2 6 p) (l.getD 0 0 &&& L.2 6 p) hsh hsub
  rw [hV, hE]
  by_cases h20 : vA a p 0 0 ≤ 20
  · have e1 : cap 20 (vA a p 0 0) = vA a p 0 0 := if_pos h20
    have e2 : cap 20 (vA a p (L.2 6 p) (l.getD 0 0 &&& L.2 6 p)) = vA a p (L.2 6 p) (l.getD 0 0 &&& L.2 6 p) := if_pos (by omega)
    rw [e1, e2, if_neg (show ¬ 1000 ≤ vA a p 0 0 by omega), if_neg (show ¬ l.length = 0 by omega), if_pos h20]
    by_cases h0 : vA a p (L.2 6 p) (l.getD 0 0 &&& L.2 6 p) = 0
    · rw [if_pos h0, if_pos h0]
    · rw [if_neg h0, if_neg h0]
      have hd : dne L (cM l l.length) p (L.2 6 p) (l.getD 0 0 &&& L.2 6 p) = false := by
        rcases pr_min hPR hp hoks with ⟨_, z⟩ | ⟨z, _⟩
        · exact absurd z h0
        · exact z
      rcases bn_cap ok hp hPR hoks hd (m := 20) (by decide) hv with ⟨_, b2⟩ | ⟨b, b1, b2, b3, b4, b5, b6, b7⟩
      · omega
      · have hgb : gqf L a p (L.2 6 p) (l.getD 0 0 &&& L.2 6 p) b = true := by
          unfold gqf
          rw [b6, decide_eq_true b3.symm]
          rfl
        have hfl : fi (gqf L a p (L.2 6 p) (l.getD 0 0 &&& L.2 6 p)) (L.1 0) < L.1 0 := fi_all.mpr ⟨b, b5, hgb⟩
        have hfy := fi_yes _ _ hfl
        have hfn := fi_no (gqf L a p (L.2 6 p) (l.getD 0 0 &&& L.2 6 p)) (L.1 0) b
        rw [if_pos hfl, b1]
        generalize fi (gqf L a p (L.2 6 p) (l.getD 0 0 &&& L.2 6 p)) (L.1 0) = z at hfl hfy hfn ⊢
        have hz : z = b := by
          unfold gqf at hfy
          rw [Bool.and_eq_true, decide_eq_true_iff] at hfy
          rcases Nat.lt_trichotomy z b with q | q | q
          · have := b7 z q hfy.1
            omega
          · exact q
          · have := hfn q
            rw [hgb] at this
            cases this
        rw [hz]
        rfl
  · have e1 : cap 20 (vA a p 0 0) = 1000 := if_neg h20
    rw [e1, if_pos (Nat.le_refl _), if_neg h20]
    split <;> rfl
theorem go_least (ok : LdOK L) (hP : ∀ k s, k < 2 ^ L.1 2 → s &&& k = s → PR L (cM l l.length) a k s) {p : Nat} (hp : p < L.1 0) {W : Nat → Nat} (hW : ∀ q kn so, q < L.1 0 → kn < 2 ^ L.1 2 → so &&& kn = so → okp L kn q = true → W (81 * q + tc kn so) = cap 20 (vA a q kn so)) : (if wv L (cM l l.length) W 0 0 p < 1000 then nI (wv L (cM l l.length) W 0 0 p) else (-9 : Int32)) = (if vA a p 0 0 ≤ 20 then nI (vA a p 0 0) else -9) := by
  have hV : wv L (cM l l.length) W 0 0 p = cap 20 (vA a p 0 0) := wv_cap ok hP (by decide) hW hp (Nat.two_pow_pos _) rfl
  rw [hV]
  by_cases h20 : vA a p 0 0 ≤ 20
  · have e1 : cap 20 (vA a p 0 0) = vA a p 0 0 := if_pos h20
    rw [e1, if_pos (show vA a p 0 0 < 1000 by omega), if_pos h20]
  · have e1 : cap 20 (vA a p 0 0) = 1000 := if_neg h20
    rw [e1, if_neg (by decide), if_neg h20]
end GG
theorem c_inn {σ : St} : fX3_hasInn 3 (mk σ) = some (if σ.1 3 13 < 0 then 0 else 1) := by
  unfold fX3_hasInn
  simp only [c_I, o_b]
  by_cases q : σ.1 3 13 < 0
  · simp [q]; rfl
  · simp [q]; rfl
