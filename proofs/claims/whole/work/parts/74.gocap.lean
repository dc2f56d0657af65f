/-! ===== 74: obligation: go ===== -/
section CP
variable {L : Ld} {C : Nat → Bool} {a : Nat → Int32}
/-- going to a place and looking around there is as bad as the table says -/
theorem wv_cap (ok : LdOK L) (hP : ∀ k s, k < 2 ^ L.1 2 → s &&& k = s → PR L C a k s) {W : Nat → Nat} {m : Nat} (hm : m ≤ 1000) (ih : ∀ p kn so, p < L.1 0 → kn < 2 ^ L.1 2 → so &&& kn = so → okp L kn p = true → W (81 * p + tc kn so) = cap m (vA a p kn so)) {kn so q : Nat} (hq : q < L.1 0) (hk : kn < 2 ^ L.1 2) (hs : so &&& kn = so) : wv L C W kn so q = cap m (vA a q kn so) := by
  have hp6 := ok.1.2
  have hsh := sh_16 ok (show q < 6 by omega)
  have hor : kn ||| L.2 6 q < 2 ^ L.1 2 := Nat.or_lt_two_pow hk hsh
  have hokq : okp L (kn ||| L.2 6 q) q = true := by
    unfold okp
    refine decide_eq_true ?_
    rw [sub_iff]
    intro i hi
    rw [Nat.testBit_or, hi, Bool.or_true]
  have e1 : wv L C W kn so q = wmx C kn so (fun f => cap m (vA a q (kn ||| L.2 6 q) (f &&& (kn ||| L.2 6 q)))) 16 := wmx_cong (fun f _ _ _ => ih q _ _ hq hor (and_sub _ _) hokq)
  have e2 : wmx C kn so (fun f => cap m (vA a q (kn ||| L.2 6 q) (f &&& (kn ||| L.2 6 q)))) 16 = cap m (wmx C kn so (fun f => vA a q (kn ||| L.2 6 q) (f &&& (kn ||| L.2 6 q))) 16) := wmx_cap hm 16
  rw [e1, e2]
  refine congrArg (cap m) ?_
  obtain ⟨p1, p2, p3, p4⟩ := hP kn so hk hs q hq
  cases hok : okp L kn q with
  | false => exact (p2 hok).symm
  | true =>
    have hsub : L.2 6 q &&& kn = L.2 6 q := of_decide_eq_true hok
    have hkk : kn ||| L.2 6 q = kn := by
      apply Nat.eq_of_testBit_eq
      intro i
      rw [Nat.testBit_or]
      cases h1 : (L.2 6 q).testBit i with
      | false => simp
      | true => rw [(sub_iff _ _).mp hsub i h1]; rfl
    rw [hkk]
    have e3 : wmx C kn so (fun f => vA a q kn (f &&& kn)) 16 = wmx C kn so (fun _ => vA a q kn so) 16 := wmx_cong (fun f _ _ h2 => by rw [h2])
    rw [e3]
    have hle : wmx C kn so (fun _ => vA a q kn so) 16 ≤ vA a q kn so := wmx_le (fun _ _ _ _ => Nat.le_refl _)
    by_cases hex : ∃ f, f < 16 ∧ C f = true ∧ f &&& kn = so
    · obtain ⟨f, f1, f2, f3⟩ := hex
      have hge : vA a q kn so ≤ wmx C kn so (fun _ => vA a q kn so) 16 := wmx_ge (v := fun _ => vA a q kn so) f1 f2 f3
      omega
    · have hd : dne L C q kn so = true := dne_t.mpr (fun f f1 f2 f3 => absurd ⟨f, f1, f2, f3⟩ hex)
      have := p3 hok hd
      omega
theorem pr_min {kn so : Nat} (hP : PR L C a kn so) {p : Nat} (hp : p < L.1 0) (ho : okp L kn p = true) : (dne L C p kn so = true ∧ vA a p kn so = 0) ∨ (dne L C p kn so = false ∧ (∀ q, adjL L p q → vA a p kn so ≤ vA a q kn so + 1) ∧ (vA a p kn so = 99 ∨ ∃ q, adjL L p q ∧ vA a p kn so = vA a q kn so + 1)) := by
  obtain ⟨p1, p2, p3, p4⟩ := hP p hp
  cases hd : dne L C p kn so with
  | true => exact Or.inl ⟨rfl, p3 ho hd⟩
  | false => exact Or.inr ⟨rfl, p4 ho hd⟩
theorem adjL_lt (ok : LdOK L) {p q : Nat} (h : adjL L p q) : p < L.1 0 ∧ q < L.1 0 := by
  obtain ⟨r, hr, h⟩ := h
  have := ok.2.2.2.2.1 r hr
  omega
/-- where one goes next -/
theorem bn_cap (ok : LdOK L) {kn so p m : Nat} (hp : p < L.1 0) (hP : PR L C a kn so) (ho : okp L kn p = true) (hd : dne L C p kn so = false) {v : Nat → Nat} (hm : m ≤ 90) (hv : ∀ q, q < L.1 0 → v q = cap m (vA a q kn so)) : ((bnS L v p (L.1 0)).1 = none ∧ m + 1 < vA a p kn so) ∨ ∃ b, (bnS L v p (L.1 0)).1 = some b ∧ v b = vA a b kn so ∧ vA a p kn so = vA a b kn so + 1 ∧ vA a b kn so ≤ m ∧ b < L.1 0 ∧ ajb L p b = true ∧ ∀ q, q < b → ajb L p q = true → vA a q kn so ≠ vA a b kn so := by
  rcases pr_min hP hp ho with ⟨z, _⟩ | ⟨_, c1, c2⟩
  · rw [z] at hd; cases hd
  · rcases bnS_sp L v p (L.1 0) with ⟨h1, _, h3⟩ | ⟨b, h1, _, h3, h4, h5, h6, h7⟩
    · left
      refine ⟨h1, ?_⟩
      rcases c2 with c2 | ⟨q, q1, q2⟩
      · omega
      · have hq := adjL_lt ok q1
        have h8 := h3 q hq.2 (ajb_t.mpr q1)
        rw [hv q hq.2] at h8
        unfold cap at h8
        split at h8 <;> omega
    · right
      have hvb := hv b h3
      unfold cap at hvb
      have hbm : vA a b kn so ≤ m ∧ v b = vA a b kn so := by
        split at hvb <;> omega
      have hadj := ajb_t.mp h4
      have c1b := c1 b hadj
      refine ⟨b, h1, hbm.2, ?_, hbm.1, h3, h4, fun q hq ha e => ?_⟩
      · rcases c2 with c2 | ⟨q, q1, q2⟩
        · omega
        · have hq := adjL_lt ok q1
          have h8 := h6 q hq.2 (ajb_t.mpr q1)
          rw [hv q hq.2] at h8
          unfold cap at h8
          split at h8 <;> omega
      · have h8 := h7 q hq ha
        have hq2 := adjL_lt ok (ajb_t.mp ha)
        rw [hv q hq2.2] at h8
        unfold cap at h8
        split at h8 <;> omega
theorem wi_cap (ok : LdOK L) (hP : ∀ k s, k < 2 ^ L.1 2 → s &&& k = s → PR L C a k s) : ∀ n, n ≤ 20 → ∀ p kn so, p < L.1 0 → kn < 2 ^ L.1 2 → so &&& kn = so → okp L kn p = true → Wi L C n (81 * p + tc kn so) = cap n (vA a p kn so)
  | 0, _, p, kn, so, hp, hk, hs, ho => by
    have h16 := pF_16 ok
    have hso := sub_le hs
    obtain ⟨t1, t2, t3⟩ := t_enc kn (by omega) so (by omega) hs
    show (if (81 * p + tc kn so) / 81 < L.1 0 ∧ dne L C ((81 * p + tc kn so) / 81) (knd ((81 * p + tc kn so) % 81)) (sod ((81 * p + tc kn so) % 81)) = true then 0 else 1000) = cap 0 (vA a p kn so)
    rw [show (81 * p + tc kn so) / 81 = p by omega, show (81 * p + tc kn so) % 81 = tc kn so by omega, t1, t2]
    rcases pr_min (hP kn so hk hs) hp ho with ⟨z1, z2⟩ | ⟨z1, c1, c2⟩
    · rw [if_pos ⟨hp, z1⟩, z2]
      rfl
    · rw [if_neg (fun z => by rw [z1] at z; cases z.2)]
      unfold cap
      rw [if_neg]
      rcases c2 with c2 | ⟨q, q1, q2⟩ <;> omega
  | n + 1, hn, p, kn, so, hp, hk, hs, ho => by
    have h16 := pF_16 ok
    have hso := sub_le hs
    have ih := wi_cap ok hP n (by omega)
    obtain ⟨t1, t2, t3⟩ := t_enc kn (by omega) so (by omega) hs
    have hWp := ih p kn so hp hk hs ho
    have hwv : ∀ q, q < L.1 0 → wv L C (Wi L C n) kn so q = cap n (vA a q kn so) := fun q hq => wv_cap ok hP (by omega) ih hq hk hs
    show (if 81 * p + tc kn so < 81 * L.1 0 then Wn L C (Wi L C n) (81 * p + tc kn so) else Wi L C n (81 * p + tc kn so)) = cap (n + 1) (vA a p kn so)
    rw [if_pos (by omega)]
    show (if Wi L C n (81 * p + tc kn so) = 0 then 0 else (match (bnS L (wv L C (Wi L C n) (knd ((81 * p + tc kn so) % 81)) (sod ((81 * p + tc kn so) % 81))) ((81 * p + tc kn so) / 81) (L.1 0)).1 with
      | none => 1000
      | some q => wv L C (Wi L C n) (knd ((81 * p + tc kn so) % 81)) (sod ((81 * p + tc kn so) % 81)) q + 1)) = cap (n + 1) (vA a p kn so)
    rw [show (81 * p + tc kn so) / 81 = p by omega, show (81 * p + tc kn so) % 81 = tc kn so by omega, t1, t2, hWp]
    cases hd : dne L C p kn so with
    | true =>
      rcases pr_min (hP kn so hk hs) hp ho with ⟨_, z2⟩ | ⟨z1, _⟩
      · rw [z2]
        rw [if_pos (show cap n 0 = 0 from if_pos (Nat.zero_le _))]
        exact (if_pos (Nat.zero_le _)).symm
      · rw [hd] at z1; cases z1
    | false =>
      rcases bn_cap ok hp (hP kn so hk hs) ho hd (m := n) (by omega) hwv with ⟨b1, b2⟩ | ⟨b, b1, b2, b3, b4, _⟩
      · have hc : cap n (vA a p kn so) = 1000 := if_neg (by omega)
        rw [hc, if_neg (by decide), b1]
        exact (if_neg (by omega)).symm
      · have hc : ¬ cap n (vA a p kn so) = 0 := by
          unfold cap
          split <;> omega
        rw [if_neg hc, b1]
        show wv L C (Wi L C n) kn so b + 1 = _
        rw [b2, ← b3]
        exact (if_pos (by omega)).symm
end CP
theorem and_mod {w s : Nat} (hs : s < 16) : (w % 16) &&& s = w &&& s := by
  apply Nat.eq_of_testBit_eq
  intro i
  rw [Nat.testBit_and, Nat.testBit_and, show w % 16 = w % 2 ^ 4 from rfl, Nat.testBit_mod_two_pow]
  cases h : s.testBit i with
  | false => simp
  | true =>
    have := bit_lt (n := 4) hs h
    simp [this]
theorem cM_t {l : List Nat} {f : Nat} : ∀ {n : Nat}, (∃ t, t < n ∧ l.getD t 0 % 16 = f) → cM l n f = true
  | 0, h => by obtain ⟨t, h, _⟩ := h; omega
  | n + 1, h => by
    obtain ⟨t, h1, h2⟩ := h
    show (cM l n f || decide (l.getD n 0 % 16 = f)) = true
    by_cases ht : t = n
    · subst ht
      rw [decide_eq_true h2, Bool.or_true]
    · rw [cM_t (n := n) ⟨t, by omega, h2⟩]
      rfl
