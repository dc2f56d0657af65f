/-! ===== 70: go: the class's table ===== -/
section CT
variable {σ : St} {L : Ld} {C : Nat → Bool}
theorem c_short (hL : LC σ L) (ok : LdOK L) {a : Nat → Int32} {kn so : Nat} {e : Nat → Nat} (hk : kn < 16) (hs : so < 16) {x y : Nat} (hx : x < L.1 0) (hy : y < L.1 0) (he : ∀ p, p < L.1 0 → e p ≤ 99) : fX6_shorten 38 3 (nI x) (nI y) (nI kn) (nI so) (mk (wS σ 39 (wr_ a kn so (L.1 0) e))) = some (mk (wS σ 39 (wr_ a kn so (L.1 0) (sho (okp L kn) x y e)))) := by
  have hp6 := ok.1.2
  have hix := ix_lt (p := x) (kn := kn) (so := so) (by omega) hk hs
  have hiy := ix_lt (p := y) (kn := kn) (so := so) (by omega) hk hs
  have hex := he x hx
  have hey := he y hy
  generalize hT : wS σ 39 (wr_ a kn so (L.1 0) e) = τ
  have tL : LC τ L := by rw [← hT]; exact hL
  have tA : ∀ p, p < L.1 0 → τ.2.1 39 (ix p kn so) = nI (e p) := fun p hp => by
    rw [← hT, wS_a, if_pos rfl]
    exact wr_at hk hs hp
  unfold fX6_shorten
  simp only [c_more tL ok (show x < 6 by omega) hk, o_b]
  unfold sho
  cases hok : okp L kn x with
  | false =>
    rw [if_neg (show ¬ b2i (!false) = 0 from hne), if_neg (by decide), hT]
    rfl
  | true =>
    rw [if_pos (show b2i (!true) = 0 from rfl), if_pos rfl]
    simp only [c_ix, o_b, c_R, c_A, hix, hiy, tA x hx, tA y hy, nI_1, mn_n (show e x < 2 ^ 31 by omega) (show e y + 1 < 2 ^ 31 by omega), c_S]
    rw [← hT, aS_wS, wr_up hk hs hx]
def e0_ (L : Ld) (C : Nat → Bool) (a : Nat → Int32) (kn so p : Nat) : Nat := if okp L kn p = true then (if dne L C p kn so = true then 0 else 99) else wmx C kn so (fun f => vA a p (kn ||| L.2 6 p) (f &&& (kn ||| L.2 6 p))) 16
theorem c_rAt (hL : LC σ L) (hN : InnC (σ.1 3 11) (σ.1 3 12) (σ.1 3 13) L) (ok : LdOK L) (h4 : L.1 4 = 1) (hC : ∀ f, f < 16 → σ.2.1 40 f = b2i (C f)) {kn so : Nat} (hk : kn < 2 ^ L.1 2) (hs : so &&& kn = so) (a : Nat → Int32) (hI : ∀ k s, kn < k → k < 2 ^ L.1 2 → s &&& k = s → PR L C a k s) : ∃ a', fX6_reckonAt 38 3 (nI kn) (nI so) (mk (wS σ 39 a)) = some (mk (wS σ 39 a')) ∧ PR L C a' kn so ∧ ∀ p k s, k < 16 → s < 16 → ¬ (k = kn ∧ s = so) → a' (ix p k s) = a (ix p k s) := by
  have hp6 := ok.1.2
  have hp2 := ok.1.1
  have h16 := pF_16 ok
  have hso := sub_le hs
  have hk16 : kn < 16 := by omega
  have hs16 : so < 16 := by omega
  have hR8 := ok.2.1
  have hroad := ok.2.2.2.2.1
  have hup : ∀ p, p < L.1 0 → okp L kn p = false → ∀ f, f < 16 → (kn < kn ||| L.2 6 p ∧ kn ||| L.2 6 p < 2 ^ L.1 2) ∧ f &&& (kn ||| L.2 6 p) < 16 ∧ PR L C a (kn ||| L.2 6 p) (f &&& (kn ||| L.2 6 p)) := fun p hp z f hf => by
    have hgt := or_gt (okp_f z)
    have hlt : kn ||| L.2 6 p < 2 ^ L.1 2 := Nat.or_lt_two_pow hk (sh_16 ok (by omega))
    exact ⟨⟨hgt, hlt⟩, Nat.lt_of_le_of_lt Nat.and_le_left hf, hI _ _ hgt hlt (and_sub _ _)⟩
  have he0 : ∀ p, p < L.1 0 → e0_ L C a kn so p ≤ 99 := fun p hp => by
    unfold e0_
    cases hok : okp L kn p with
    | true => rw [if_pos rfl]; split <;> omega
    | false =>
      rw [if_neg (by decide)]
      exact wmx_le (fun f hf _ _ => ((hup p hp hok f hf).2.2 p hp).1.2)
  have hit : ∀ k p, p < L.1 0 → itr (okp L kn) (L.2 0) (L.2 1) (L.1 1) (e0_ L C a kn so) k p ≤ 99 := fun k p hp => by
    have h := itr_m (ok := okp L kn) (a := L.2 0) (b := L.2 1) (R := L.1 1) (e := e0_ L C a kn so) (k := 0) (p := p) k
    rw [Nat.zero_add] at h
    have h2 : itr (okp L kn) (L.2 0) (L.2 1) (L.1 1) (e0_ L C a kn so) 0 p = e0_ L C a kn so p := rfl
    have := he0 p hp
    omega
  refine ⟨wr_ a kn so (L.1 0) (itr (okp L kn) (L.2 0) (L.2 1) (L.1 1) (e0_ L C a kn so) (L.1 0 - 1)), ?_, ?_, fun p k s hk1 hs1 hn => wr_ne hk1 hs1 hk16 hs16 hn⟩
  · unfold fX6_reckonAt
    refine lp_b (fun j => (nI j, mk (wS σ 39 (wr_ a kn so j (e0_ L C a kn so))))) (L.1 0) (r := (nI so, mk (wS σ 39 (wr_ a kn so (L.1 0) (e0_ L C a kn so))))) ?_ ?_ ?_ ?_
    · have e : wr_ a kn so 0 (e0_ L C a kn so) = a := by
        funext i
        unfold wr_
        rw [if_neg (fun z => Nat.not_lt_zero _ z.2)]
      rw [e]
      rfl
    · intro j hj
      have hix := ix_lt (p := j) (kn := kn) (so := so) (by omega) hk16 hs16
      have hn := wr_in (a := a) (e := e0_ L C a kn so) hk16 hs16 (j := j)
      have hother : ∀ k s, k < 16 → s < 16 → ¬ (k = kn ∧ s = so) → wr_ a kn so j (e0_ L C a kn so) (ix j k s) = a (ix j k s) := fun k s h1 h2 h3 => wr_ne h1 h2 hk16 hs16 h3
      dsimp only
      generalize hT : wS σ 39 (wr_ a kn so j (e0_ L C a kn so)) = τ
      have tL : LC τ L := by rw [← hT]; exact hL
      have tN : InnC (τ.1 3 11) (τ.1 3 12) (τ.1 3 13) L := by rw [← hT]; exact hN
      have tC : ∀ f, f < 16 → τ.2.1 40 f = b2i (C f) := by rw [← hT]; exact hC
      have tA : τ.2.1 39 = wr_ a kn so j (e0_ L C a kn so) := by rw [← hT]; rfl
      have t0 : τ.1 3 0 = nI (L.1 0) := tL.1
      have em : (if b2i (!okp L kn j) = 0 then (qv_ob (mk τ) 5 38).bind fun _ => (fX6_isInnSurelyAt 38 3 (nI j) (nI kn) (nI so) (mk τ)).bind fun v8 => if v8 = 0 then some (99 : Int32) else some (0 : Int32) else (qv_ob (mk τ) 5 38).bind fun _ => (fX6_worstOf 38 3 (nI j) (nI kn) (nI so) (mk τ)).bind fun v10 => some v10) = some (nI (e0_ L C a kn so j)) := by
        unfold e0_
        cases hok : okp L kn j with
        | true =>
          rw [if_pos (show b2i (!true) = 0 from rfl), if_pos rfl]
          simp only [c_O, o_b, c_sure tN ok h4 tC (show j < 6 by omega) hk16 hs16]
          cases dne L C j kn so <;> rfl
        | false =>
          have hw := c_worst tL ok tC (show j < 6 by omega) hk hs16 (fun f hf c1 c2 => by
            obtain ⟨⟨u1, u2⟩, u3, u4⟩ := hup j hj hok f hf
            have h9 := (u4 j hj).1
            unfold vA
            rw [tA, hother _ _ (by omega) u3 (fun z => by omega)]
            exact h9)
          rw [if_neg (show ¬ b2i (!false) = 0 from hne), if_neg (by decide)]
          simp only [c_O, o_b, hw]
          refine congrArg (fun z => some (nI z)) (wmx_cong (fun f hf _ _ => ?_))
          obtain ⟨⟨u1, u2⟩, u3, u4⟩ := hup j hj hok f hf
          unfold vA
          rw [tA, hother _ _ (by omega) u3 (fun z => by omega)]
      simp only [c_I, t0, o_b, c_R, c_ix, c_more tL ok (show j < 6 by omega) hk16]
      rw [if_neg (nI_ge hj (by omega)), show nI j + 1 = nI (j + 1) from nI_1 j, em, o_b]
      simp only [c_S, hix, o_b]
      rw [← hT, aS_wS, hn]
    · have t0 : (wS σ 39 (wr_ a kn so (L.1 0) (e0_ L C a kn so))).1 3 0 = nI (L.1 0) := hL.1
      dsimp only
      simp only [c_I, t0, o_b]
      rw [if_pos (nI_le (Nat.le_refl _) (by omega))]
    · refine lp_b (fun k => (nI (k + 1), mk (wS σ 39 (wr_ a kn so (L.1 0) (itr (okp L kn) (L.2 0) (L.2 1) (L.1 1) (e0_ L C a kn so) k))))) (L.1 0 - 1) (r := mk (wS σ 39 (wr_ a kn so (L.1 0) (itr (okp L kn) (L.2 0) (L.2 1) (L.1 1) (e0_ L C a kn so) (L.1 0 - 1))))) rfl ?_ ?_ rfl
      · intro k hk1
        have t0 : (wS σ 39 (wr_ a kn so (L.1 0) (itr (okp L kn) (L.2 0) (L.2 1) (L.1 1) (e0_ L C a kn so) k))).1 3 0 = nI (L.1 0) := hL.1
        dsimp only
        simp only [c_I, t0, o_b]
        rw [if_neg (nI_ge (by omega) (by omega)), show nI (k + 1) + 1 = nI (k + 1 + 1) from nI_1 _]
        refine lp_b (fun r => (nI r, mk (wS σ 39 (wr_ a kn so (L.1 0) (rdr (okp L kn) (L.2 0) (L.2 1) r (itr (okp L kn) (L.2 0) (L.2 1) (L.1 1) (e0_ L C a kn so) k)))))) (L.1 1) (r := mk (wS σ 39 (wr_ a kn so (L.1 0) (itr (okp L kn) (L.2 0) (L.2 1) (L.1 1) (e0_ L C a kn so) (k + 1))))) rfl ?_ ?_ rfl
        · intro r hr
          have hr8 : r < 8 := by omega
          obtain ⟨k1, k2, k3⟩ := hroad r hr
          have hb1 : ∀ p, p < L.1 0 → rdr (okp L kn) (L.2 0) (L.2 1) r (itr (okp L kn) (L.2 0) (L.2 1) (L.1 1) (e0_ L C a kn so) k) p ≤ 99 := fun p hp => Nat.le_trans (rdr_le r p) (hit k p hp)
          have hsh1 := c_short (σ := σ) (a := a) hL ok hk16 hs16 k1 k2 hb1
          have hb2 : ∀ p, p < L.1 0 → sho (okp L kn) (L.2 0 r) (L.2 1 r) (rdr (okp L kn) (L.2 0) (L.2 1) r (itr (okp L kn) (L.2 0) (L.2 1) (L.1 1) (e0_ L C a kn so) k)) p ≤ 99 := fun p hp => Nat.le_trans (sho_le _ _ _) (hb1 p hp)
          have hsh2 := c_short (σ := σ) (a := a) hL ok hk16 hs16 k2 k1 hb2
          have hLw : ∀ e, LC (wS σ 39 (wr_ a kn so (L.1 0) e)) L := fun _ => hL
          have t1 : ∀ e, (wS σ 39 (wr_ a kn so (L.1 0) e)).1 3 1 = nI (L.1 1) := fun _ => hL.2.1
          have t4 : ∀ e, (wS σ 39 (wr_ a kn so (L.1 0) e)).2.1 4 r = nI (L.2 0 r) := fun _ => hL.2.2.2.2.1 r hr8
          have t5 : ∀ e, (wS σ 39 (wr_ a kn so (L.1 0) e)).2.1 5 r = nI (L.2 1 r) := fun _ => hL.2.2.2.2.2.1 r hr8
          dsimp only
          simp only [c_I, c_R, c_A, c_O, hr8, t1, t4, t5, o_b, hsh1, hsh2]
          rw [if_neg (nI_ge hr (by omega)), show nI r + 1 = nI (r + 1) from nI_1 r]
          rfl
        · have t1 : (wS σ 39 (wr_ a kn so (L.1 0) (rdr (okp L kn) (L.2 0) (L.2 1) (L.1 1) (itr (okp L kn) (L.2 0) (L.2 1) (L.1 1) (e0_ L C a kn so) k)))).1 3 1 = nI (L.1 1) := hL.2.1
          dsimp only
          simp only [c_I, t1, o_b]
          rw [if_pos (nI_le (Nat.le_refl _) (by omega))]
          rfl
      · have t0 : (wS σ 39 (wr_ a kn so (L.1 0) (itr (okp L kn) (L.2 0) (L.2 1) (L.1 1) (e0_ L C a kn so) (L.1 0 - 1)))).1 3 0 = nI (L.1 0) := hL.1
        dsimp only
        simp only [c_I, t0, o_b]
        rw [if_pos (nI_le (by omega) (by omega))]
  · obtain ⟨b1, b2⟩ := bf (ok := okp L kn) (a := L.2 0) (b := L.2 1) (P := L.1 0) (R := L.1 1) hroad (e0_ L C a kn so)
    have hle : ∀ p, itr (okp L kn) (L.2 0) (L.2 1) (L.1 1) (e0_ L C a kn so) (L.1 0 - 1) p ≤ e0_ L C a kn so p := fun p => by
      have h := itr_m (ok := okp L kn) (a := L.2 0) (b := L.2 1) (R := L.1 1) (e := e0_ L C a kn so) (k := 0) (p := p) (L.1 0 - 1)
      rw [Nat.zero_add] at h
      exact h
    have hbd := hit (L.1 0 - 1)
    generalize itr (okp L kn) (L.2 0) (L.2 1) (L.1 1) (e0_ L C a kn so) (L.1 0 - 1) = e at b1 b2 hle hbd
    have hadj : ∀ p q, adjL L p q → p < L.1 0 ∧ q < L.1 0 := by
      rintro p q ⟨r, hr, h⟩
      have := hroad r hr
      omega
    have hv : ∀ p, p < L.1 0 → vA (wr_ a kn so (L.1 0) e) p kn so = e p := fun p hp => by
      unfold vA
      rw [wr_at hk16 hs16 hp, nI_clamp (by have := hbd p hp; omega)]
    intro p hp
    rw [hv p hp]
    refine ⟨⟨wr_at hk16 hs16 hp, hbd p hp⟩, fun z => ?_, fun z z2 => ?_, fun z z2 => ?_⟩
    · have he : e p = e0_ L C a kn so p := by
        rcases b2 p hp with h | ⟨h, _⟩
        · exact h
        · rw [z] at h; cases h
      rw [he]
      unfold e0_
      rw [z, if_neg (by decide)]
      refine wmx_cong (fun f hf _ _ => ?_)
      obtain ⟨⟨u1, u2⟩, u3, u4⟩ := hup p hp z f hf
      unfold vA
      rw [wr_ne (by omega) u3 hk16 hs16 (fun y => by omega)]
    · have := hle p
      have e1 : e0_ L C a kn so p = 0 := by
        unfold e0_
        rw [z, if_pos rfl, z2, if_pos rfl]
      omega
    · have e1 : e0_ L C a kn so p = 99 := by
        unfold e0_
        rw [z, if_pos rfl, z2, if_neg (by decide)]
      refine ⟨fun q hq => ?_, ?_⟩
      · rw [hv q (hadj p q hq).2]
        exact b1 p q hq z
      · rcases b2 p hp with h | ⟨_, q, h2, h3⟩
        · exact Or.inl (by rw [h, e1])
        · exact Or.inr ⟨q, h2, by rw [hv q (hadj p q h2).2]; exact h3⟩
theorem msk_15 (ok : LdOK L) : nI (msk L) &&& (15 : Int32) = nI (2 ^ L.1 2 - 1) := by
  have hml := msk_lt ok
  have e : msk L % 2 ^ 4 = 2 ^ L.1 2 - 1 := fs_cases ok.2.2.1 ok.2.2.2.1 (fun f s => ((2 ^ f - 1) ||| ((2 ^ s - 1) <<< 4)) % 2 ^ 4 = 2 ^ f - 1) (by decide +kernel)
  rw [pk_andN (by omega) 4 (by decide), e]
theorem c_rk (hL : LC σ L) (hN : InnC (σ.1 3 11) (σ.1 3 12) (σ.1 3 13) L) (ok : LdOK L) (h4 : L.1 4 = 1) (hm : σ.1 33 0 = nI (msk L)) {l : List Nat} (hl : CA σ l) : ∃ a, (∀ k s, k < 2 ^ L.1 2 → s &&& k = s → PR L (cM l l.length) a k s) ∧ fX6_reckon 38 3 33 (mk σ) = some (mk (wS (wS σ 40 (cA (cM l l.length) 16 (σ.2.1 40))) 39 a)) := by
  obtain ⟨g1, g2, g3⟩ := hl
  have h16 := pF_16 ok
  have hpos : 0 < 2 ^ L.1 2 := Nat.two_pow_pos _
  -- the table, over the sets that can be
  have hC : ∀ f, f < 16 → (wS σ 40 (cA (cM l l.length) 16 (σ.2.1 40))).2.1 40 f = b2i (cM l l.length f) := fun f hf => by
    rw [wS_a, if_pos rfl]
    unfold cA
    rw [if_pos hf]
  have hL2 : LC (wS σ 40 (cA (cM l l.length) 16 (σ.2.1 40))) L := hL
  have hN2 : InnC ((wS σ 40 (cA (cM l l.length) 16 (σ.2.1 40))).1 3 11) ((wS σ 40 (cA (cM l l.length) 16 (σ.2.1 40))).1 3 12) ((wS σ 40 (cA (cM l l.length) 16 (σ.2.1 40))).1 3 13) L := hN
  have hm2 : (wS σ 40 (cA (cM l l.length) 16 (σ.2.1 40))).1 33 0 = nI (msk L) := hm
  have body : ∀ (ω : St), LC ω L → InnC (ω.1 3 11) (ω.1 3 12) (ω.1 3 13) L → (∀ f, f < 16 → ω.2.1 40 f = b2i (cM l l.length f)) → ∃ a, (∀ k s, k < 2 ^ L.1 2 → s &&& k = s → PR L (cM l l.length) a k s) ∧ qv_loop (σ := Int32 × qv_H) (ρ := qv_H) (fun (x15, h16) =>
      if x15 < 0 then
        some (.inr h16)
      else
        Option.bind (qv_loop (σ := Int32 × qv_H) (ρ := qv_H) (fun (x17, h18) =>
            if x15 < x17 then
              some (.inr h18)
            else
              Option.bind (α := qv_H) (
                  if (x17 &&& (x15 ^^^ (-1 : Int32))) = 0 then
                    (qv_ob h18 5 38).bind fun _ =>
                    (fX6_reckonAt 38 3 x15 x17 h18).bind fun h20 =>
                    some h20
                  else
                    some h18
                ) fun h21 =>
              some (.inl (x17 + (1 : Int32), h21))
          ) ((0 : Int32), h16)) fun h22 =>
        some (.inl (x15 + (-1 : Int32), h22))
    ) (nI (2 ^ L.1 2 - 1), mk ω) = some (mk (wS ω 39 a)) := by
    intro ω oL oN oC
    obtain ⟨a, q1, q2⟩ := lp_inv (body := fun (x : Int32 × qv_H) => match x with
      | (x15, h16) =>
      if x15 < 0 then
        some (.inr h16)
      else
        Option.bind (qv_loop (σ := Int32 × qv_H) (ρ := qv_H) (fun (x17, h18) =>
            if x15 < x17 then
              some (.inr h18)
            else
              Option.bind (α := qv_H) (
                  if (x17 &&& (x15 ^^^ (-1 : Int32))) = 0 then
                    (qv_ob h18 5 38).bind fun _ =>
                    (fX6_reckonAt 38 3 x15 x17 h18).bind fun h20 =>
                    some h20
                  else
                    some h18
                ) fun h21 =>
              some (.inl (x17 + (1 : Int32), h21))
          ) ((0 : Int32), h16)) fun h22 =>
        some (.inl (x15 + (-1 : Int32), h22))) (s := (nI (2 ^ L.1 2 - 1), mk ω)) (fun j (a : Nat → Int32) => (dn (2 ^ L.1 2 - 1) j, mk (wS ω 39 a))) (fun j a => ∀ k s, 2 ^ L.1 2 ≤ k + j → k < 2 ^ L.1 2 → s &&& k = s → PR L (cM l l.length) a k s) (fun a => mk (wS ω 39 a)) (ω.2.1 39) (2 ^ L.1 2) (by rw [wS_self]; rfl) (fun k s h1 h2 _ => by omega) (by
        intro j a hj hI
        have e0 : dn (2 ^ L.1 2 - 1) j = nI (2 ^ L.1 2 - 1 - j) := by unfold dn; rw [if_pos (by omega)]
        have es := dn_s (full := 2 ^ L.1 2 - 1) (t := j) (by omega)
        have hkn : 2 ^ L.1 2 - 1 - j < 2 ^ L.1 2 := by omega
        have hkj : 2 ^ L.1 2 - 1 - j + j + 1 = 2 ^ L.1 2 := by omega
        dsimp only
        rw [← es, e0]
        generalize 2 ^ L.1 2 - 1 - j = kn at hkn hkj
        rw [if_neg (nI_pos (by omega))]
        obtain ⟨a', r1, r2⟩ := lp_inv (body := fun (x : Int32 × qv_H) => match x with
          | (x17, h18) =>
            if nI kn < x17 then
              some (.inr h18)
            else
              Option.bind (α := qv_H) (
                  if (x17 &&& (nI kn ^^^ (-1 : Int32))) = 0 then
                    (qv_ob h18 5 38).bind fun _ =>
                    (fX6_reckonAt 38 3 (nI kn) x17 h18).bind fun h20 =>
                    some h20
                  else
                    some h18
                ) fun h21 =>
              some (.inl (x17 + (1 : Int32), h21))) (s := ((0 : Int32), mk (wS ω 39 a))) (fun i (b : Nat → Int32) => (nI i, mk (wS ω 39 b))) (fun i b => (∀ k s, kn < k → k < 2 ^ L.1 2 → s &&& k = s → PR L (cM l l.length) b k s) ∧ ∀ s, s < i → s &&& kn = s → PR L (cM l l.length) b kn s) (fun b => mk (wS ω 39 b)) a (kn + 1) rfl ⟨fun k s h1 h2 h3 => hI k s (by omega) h2 h3, fun s h1 _ => absurd h1 (Nat.not_lt_zero s)⟩ (by
            rintro i b hi ⟨i1, i2⟩
            have hsub := n_sub (w := i) (m := kn) (by omega) (by omega)
            dsimp only
            rw [if_neg (nI_nlt (by omega) (by omega)), show nI i + 1 = nI (i + 1) from nI_1 i]
            by_cases hs : i &&& kn = i
            · obtain ⟨b', t1, t2, t3⟩ := c_rAt (σ := ω) oL oN ok h4 oC hkn hs b i1
              rw [if_pos (hsub.mpr hs)]
              refine ⟨b', ?_, fun k s u1 u2 u3 => PR_c ok t3 (fun z => by omega) (by omega) u2 (by have := sub_le u3; omega) (i1 k s u1 u2 u3), fun s u1 u2 => ?_⟩
              · simp only [c_O, o_b, t1]
              · by_cases hsi : s = i
                · rw [hsi]; exact t2
                · exact PR_c ok t3 (fun z => hsi z.2) (Nat.le_refl _) hkn (by omega) (i2 s (by omega) u2)
            · rw [if_neg (fun z => hs (hsub.mp z))]
              refine ⟨b, rfl, i1, fun s u1 u2 => ?_⟩
              by_cases hsi : s = i
              · rw [hsi] at u2; exact absurd u2 hs
              · exact i2 s (by omega) u2) (by
            rintro b -
            dsimp only
            rw [if_pos (nI_lt (by omega) (by omega))])
        refine ⟨a', lp_r r2 rfl, fun k s u1 u2 u3 => ?_⟩
        by_cases hk : k = kn
        · rw [hk] at u3 ⊢
          exact r1.2 s (by have := sub_le u3; omega) u3
        · exact r1.1 k s (by omega) u2 u3) (by
        rintro a -
        have e0 : dn (2 ^ L.1 2 - 1) (2 ^ L.1 2) = -1 := by unfold dn; rw [if_neg (by omega)]
        dsimp only
        rw [e0, if_pos (show (-1 : Int32) < 0 by decide)])
    exact ⟨a, fun k s h1 h2 => q1 k s (by omega) h1 h2, q2⟩
  obtain ⟨a, q1, q2⟩ := body _ hL2 hN2 hC
  refine ⟨a, q1, ?_⟩
  unfold fX6_reckon
  refine lp_b (fun j => (nI j, mk (wS σ 40 (fun s => if s < j then 0 else σ.2.1 40 s)))) 16 (r := mk (wS σ 40 (cA (cM l 0) 16 (σ.2.1 40)))) ?_ ?_ ?_ ?_
  · have e : (fun s => if s < 0 then (0 : Int32) else σ.2.1 40 s) = σ.2.1 40 := by funext s; simp
    rw [e, wS_self]
    rfl
  · intro j hj
    dsimp only
    simp only [c_R, c_S, hj, o_b]
    rw [if_neg (show ¬ (16 : Int32) ≤ nI j from nI_ge (b := 16) hj (by decide)), show nI j + 1 = nI (j + 1) from nI_1 j, aS_wS]
    have e : upd (fun s => if s < j then (0 : Int32) else σ.2.1 40 s) j ((0 : Int32) &&& 1) = (fun s => if s < j + 1 then (0 : Int32) else σ.2.1 40 s) := by
      funext s
      unfold upd
      by_cases h1 : s = j
      · subst h1
        rw [if_pos rfl, if_pos (by omega)]
        rfl
      · rw [if_neg h1]
        dsimp only
        by_cases h2 : s < j
        · rw [if_pos h2, if_pos (by omega)]
        · rw [if_neg h2, if_neg (by omega)]
    rw [e]
  · dsimp only
    rw [if_pos (show (16 : Int32) ≤ nI 16 by decide)]
    rfl
  · refine lp_b (fun j => (nI j, mk (wS σ 40 (cA (cM l j) 16 (σ.2.1 40))))) l.length (r := mk (wS σ 40 (cA (cM l l.length) 16 (σ.2.1 40)))) rfl ?_ ?_ ?_
    · intro j hj
      have hj4 : j < 1024 := by omega
      obtain ⟨w1, w2⟩ := g3 j hj
      have hmod : l.getD j 0 % 16 < 16 := Nat.mod_lt _ (by decide)
      have e15 : nI (l.getD j 0) &&& (15 : Int32) = nI (l.getD j 0 % 16) := pk_andN (by omega) 4 (by decide)
      generalize hT : wS σ 40 (cA (cM l j) 16 (σ.2.1 40)) = τ
      have t2 : τ.1 33 2 = nI l.length := by rw [← hT]; exact g1
      have t34 : τ.2.1 34 j = nI (l.getD j 0) := by rw [← hT]; exact w1
      dsimp only
      simp only [c_I, t2, o_b, c_R, c_A, hj4, t34, e15, c_S, hmod]
      rw [if_neg (nI_ge hj (by omega)), show nI j + 1 = nI (j + 1) from nI_1 j, ← hT, aS_wS, show (1 : Int32) &&& 1 = 1 by decide, cA_set hmod]
      rfl
    · have t2 : (wS σ 40 (cA (cM l l.length) 16 (σ.2.1 40))).1 33 2 = nI l.length := g1
      dsimp only
      simp only [c_I, t2, o_b]
      rw [if_pos (nI_le (Nat.le_refl _) (by omega))]
    · dsimp only
      rw [show qv_gI (mk (wS σ 40 (cA (cM l l.length) 16 (σ.2.1 40)))) 6 33 0 = some (nI (msk L)) by simp only [c_I, hm2], o_b, msk_15 ok]
      exact lp_r q2 rfl
end CT
