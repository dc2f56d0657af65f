/-! ===== 73: go: the reference's table ===== -/
def W0g (L : Ld) (C : Nat → Bool) (i : Nat) : Nat := if i / 81 < L.1 0 ∧ dne L C (i / 81) (knd (i % 81)) (sod (i % 81)) = true then 0 else 1000
def Wn (L : Ld) (C : Nat → Bool) (W : Nat → Nat) (i : Nat) : Nat := if W i = 0 then 0 else (match (bnS L (wv L C W (knd (i % 81)) (sod (i % 81))) (i / 81) (L.1 0)).1 with
  | none => 1000
  | some q => wv L C W (knd (i % 81)) (sod (i % 81)) q + 1)
def Wi (L : Ld) (C : Nat → Bool) : Nat → Nat → Nat
  | 0 => W0g L C
  | n + 1 => fun i => if i < 81 * L.1 0 then Wn L C (Wi L C n) i else Wi L C n i
theorem Wn_le {L : Ld} {C : Nat → Bool} {W : Nat → Nat} (i : Nat) : Wn L C W i ≤ 1000 := by
  unfold Wn
  split
  · omega
  · rcases bnS_sp L (wv L C W (knd (i % 81)) (sod (i % 81))) (i / 81) (L.1 0) with ⟨h, _⟩ | ⟨b, h, _, _, _, h5, _⟩
    · rw [h]
      exact Nat.le_refl _
    · rw [h]
      show wv L C W (knd (i % 81)) (sod (i % 81)) b + 1 ≤ 1000
      omega
theorem Wi_le {L : Ld} {C : Nat → Bool} : ∀ n i, Wi L C n i ≤ 1000
  | 0, i => by
    show (if _ then 0 else 1000) ≤ 1000
    split <;> omega
  | n + 1, i => by
    have ih := Wi_le (L := L) (C := C) n i
    show (if i < 81 * L.1 0 then Wn L C (Wi L C n) i else Wi L C n i) ≤ 1000
    split
    · exact Wn_le i
    · exact ih
theorem aS_in (σ : St) (x y : Nat → Int32) (j : Nat) (v : Int32) : aS (wS (wS σ 66 x) 67 y) 66 j v = wS (wS σ 66 (upd x j v)) 67 y := by
  unfold aS wS va_up
  refine congrArg (fun z => (σ.1, z, σ.2.2)) ?_
  funext o
  by_cases h1 : o = 66
  · subst h1; simp
  · simp [h1]
section MF
variable {σ τ : St} {L : Ld} {l : List Nat}
theorem m_ffs (hz : σ.2.2 = true) (tz : τ.2.2 = true) (hfw : fX9_findWorlds 45 0 (mk σ) = some (mk τ)) (hG : GA τ l) (hb : ∀ i, i < l.length → l.getD i 0 < 1024) : fX9_findFactSets 45 (mk σ) = some (mk (wS τ 65 (cA (cM l l.length) 16 (τ.2.1 65)))) := by
  obtain ⟨g1, g2, g3⟩ := hG
  unfold fX9_findFactSets
  simp only [m_O hz, hfw, o_b]
  refine lp_b (fun j => (nI j, mk (wS τ 65 (fun s => if s < j then 0 else τ.2.1 65 s)))) 16 (r := mk (wS τ 65 (cA (cM l 0) 16 (τ.2.1 65)))) ?_ ?_ ?_ ?_
  · have e : (fun s => if s < 0 then (0 : Int32) else τ.2.1 65 s) = τ.2.1 65 := by funext s; simp
    rw [e, wS_self]
    rfl
  · intro j hj
    have z1 : (wS τ 65 (fun s => if s < j then 0 else τ.2.1 65 s)).2.2 = true := tz
    dsimp only
    simp only [m_R z1, m_S z1, hj, o_b]
    rw [if_neg (show ¬ (16 : Int32) ≤ nI j from nI_ge (b := 16) hj (by decide)), show nI j + 1 = nI (j + 1) from nI_1 j, aS_wS]
    have e : upd (fun s => if s < j then (0 : Int32) else τ.2.1 65 s) j (0 : Int32) = (fun s => if s < j + 1 then (0 : Int32) else τ.2.1 65 s) := by
      funext s
      unfold upd
      by_cases h1 : s = j
      · subst h1
        rw [if_pos rfl, if_pos (by omega)]
      · rw [if_neg h1]
        dsimp only
        by_cases h2 : s < j
        · rw [if_pos h2, if_pos (by omega)]
        · rw [if_neg h2, if_neg (by omega)]
    rw [e]
  · dsimp only
    rw [if_pos (show (16 : Int32) ≤ nI 16 by decide)]
    rfl
  · refine lp_b (fun j => (nI j, mk (wS τ 65 (cA (cM l j) 16 (τ.2.1 65))))) l.length (r := mk (wS τ 65 (cA (cM l l.length) 16 (τ.2.1 65)))) rfl ?_ ?_ rfl
    · intro j hj
      have hj4 : j < 1024 := by omega
      have w2 := hb j hj
      have hmod : l.getD j 0 % 16 < 16 := Nat.mod_lt _ (by decide)
      have e15 : nI (l.getD j 0) &&& (15 : Int32) = nI (l.getD j 0 % 16) := pk_andN (by omega) 4 (by decide)
      generalize hT : wS τ 65 (cA (cM l j) 16 (τ.2.1 65)) = υ
      have uz : υ.2.2 = true := by rw [← hT]; exact tz
      have t33 : υ.1 45 33 = nI l.length := by rw [← hT]; exact g1
      have t64 : υ.2.1 64 j = nI (l.getD j 0) := by rw [← hT]; exact g3 j hj
      dsimp only
      simp only [m_I uz, t33, o_b, m_R uz, m_A uz, hj4, t64, e15, m_S uz, hmod]
      rw [if_neg (nI_ge hj (by omega)), show nI j + 1 = nI (j + 1) from nI_1 j, ← hT, aS_wS, cA_set hmod]
      rfl
    · have uz : (wS τ 65 (cA (cM l l.length) 16 (τ.2.1 65))).2.2 = true := tz
      have t33 : (wS τ 65 (cA (cM l l.length) 16 (τ.2.1 65))).1 45 33 = nI l.length := g1
      dsimp only
      simp only [m_I uz, t33, o_b]
      rw [if_pos (nI_le (Nat.le_refl _) (by omega))]
theorem m_fw {ω : St} {C : Nat → Bool} (hz : σ.2.2 = true) (oz : ω.2.2 = true) (hff : fX9_findFactSets 45 (mk σ) = some (mk ω)) (hL : LM ω L) (hN : InnM (ω.1 45 12) (ω.1 45 13) (ω.1 45 14) L) (ok : LdOK L) (h4 : L.1 4 = 1) (hC : ∀ f, f < 16 → ω.2.1 65 f = b2i (C f)) : ∃ g, fX9_findWorths 45 (mk σ) = some (mk (wS (wS ω 66 (cpj (fun i => nI (Wi L C 20 i)) (ω.2.1 66) 486)) 67 g)) := by
  have hpc := ok.1.2
  have kdec : ∀ j, knd (j % 81) < 16 ∧ sod (j % 81) &&& knd (j % 81) = sod (j % 81) ∧ tc (knd (j % 81)) (sod (j % 81)) = j % 81 := fun j => by
    have := t_dec (j % 81) (Nat.mod_lt _ (by decide))
    exact ⟨this.2.1, this.2.2, this.1⟩
  have e_rem : ∀ j, j < 486 → nI j - nI j / (81 : Int32) * (81 : Int32) = nI (j % 81) := fun j hj => pk_rem (by omega) (by decide) (by decide)
  have e_div : ∀ j, j < 486 → nI j / (81 : Int32) = nI (j / 81) := fun j hj => pk_div (by omega) (by decide) (by decide)
  have main := lp_inv (α := Nat → Int32) (body := fun (x : Int32 × qv_H) => match x with
    | (x12, h13) =>
      if (20 : Int32) ≤ x12 then
        some (.inr h13)
      else
        Option.bind (qv_loop (σ := Int32 × qv_H) (ρ := qv_H) (fun (x14, h15) =>
            (qv_gI h15 8 45 8).bind fun v16 =>
            if ((81 : Int32) * v16) ≤ x14 then
              some (.inr h15)
            else
              (qv_gR h15 8 45 35).bind fun v17 =>
              (qv_aI h15 false v17 x14).bind fun v18 =>
              Option.bind (α := Int32) (
                  if v18 = 0 then
                    some (-9 : Int32)
                  else
                    (qv_ob h15 8 45).bind fun _ =>
                    (fX9_bestNext 45 (x14 / (81 : Int32)) (x14 - x14 / (81 : Int32) * (81 : Int32)) h15).bind fun v20 =>
                    some v20
                ) fun m21 =>
              (qv_gR h15 8 45 36).bind fun v22 =>
              (qv_gR h15 8 45 35).bind fun v23 =>
              (qv_aI h15 false v23 x14).bind fun v24 =>
              Option.bind (α := Int32) (
                  if v24 = 0 then
                    some (0 : Int32)
                  else
                    if 0 ≤ m21 then
                      (qv_ob h15 8 45).bind fun _ =>
                      (fX9_worstAt 45 m21 (x14 - x14 / (81 : Int32) * (81 : Int32)) h15).bind fun v26 =>
                      some (v26 + (1 : Int32))
                    else
                      some (1000 : Int32)
                ) fun m27 =>
              (qv_sI h15 false v22 x14 m27).bind fun h28 =>
              some (.inl (x14 + (1 : Int32), h28))
          ) ((0 : Int32), h13)) fun h29 =>
        Option.bind (qv_loop (σ := Int32 × qv_H) (ρ := qv_H) (fun (x30, h31) =>
            (qv_gI h31 8 45 8).bind fun v32 =>
            if ((81 : Int32) * v32) ≤ x30 then
              some (.inr h31)
            else
              (qv_gR h31 8 45 35).bind fun v33 =>
              (qv_gR h31 8 45 36).bind fun v34 =>
              (qv_aI h31 false v34 x30).bind fun v35 =>
              (qv_sI h31 false v33 x30 v35).bind fun h36 =>
              some (.inl (x30 + (1 : Int32), h36))
          ) ((0 : Int32), h29)) fun h37 =>
        some (.inl (x12 + (1 : Int32), h37))) (s := ((0 : Int32), mk (wS ω 66 (cpj (fun i => nI (W0g L C i)) (ω.2.1 66) 486)))) (fun n g => (nI n, mk (wS (wS ω 66 (cpj (fun i => nI (Wi L C n i)) (ω.2.1 66) 486)) 67 g))) (fun _ _ => True) (fun g => mk (wS (wS ω 66 (cpj (fun i => nI (Wi L C 20 i)) (ω.2.1 66) 486)) 67 g)) (ω.2.1 67) 20 ?_ trivial ?_ ?_
  · obtain ⟨g, -, hg⟩ := main
    refine ⟨g, ?_⟩
    unfold fX9_findWorths
    simp only [m_O hz, hff, o_b]
    refine lp_b (fun j => (nI j, mk (wS ω 66 (cpj (fun i => nI (W0g L C i)) (ω.2.1 66) j)))) 486 (r := mk (wS ω 66 (cpj (fun i => nI (W0g L C i)) (ω.2.1 66) 486))) ?_ ?_ ?_ (lp_r hg rfl)
    · rw [cpj_0, wS_self]; rfl
    · intro j hj
      obtain ⟨d1, d2, d3⟩ := kdec j
      have hup := cpj_s (fun i => nI (W0g L C i)) (ω.2.1 66) j
      generalize hT : wS ω 66 (cpj (fun i => nI (W0g L C i)) (ω.2.1 66) j) = κ
      have kz : κ.2.2 = true := by rw [← hT]; exact oz
      have kL : LM κ L := by rw [← hT]; exact hL
      have kN : InnM (κ.1 45 12) (κ.1 45 13) (κ.1 45 14) L := by rw [← hT]; exact hN
      have kC : ∀ f, f < 16 → κ.2.1 65 f = b2i (C f) := by rw [← hT]; exact hC
      have k0 : κ.1 45 8 = nI (L.1 0) := kL.1
      have em : (if nI (L.1 0) ≤ nI (j / 81) then some (1000 : Int32) else (qv_ob (mk κ) 8 45).bind fun _ => (fX9_isDone 45 (nI (j / 81)) (nI (j % 81)) (mk κ)).bind fun v8 => if v8 = 0 then some (1000 : Int32) else some (0 : Int32)) = some (nI (W0g L C j)) := by
        unfold W0g
        by_cases h1 : j / 81 < L.1 0
        · have hd := m_done kz kN ok h4 kC (p := j / 81) (kn := knd (j % 81)) (so := sod (j % 81)) (by omega) d1 d2
          rw [d3] at hd
          rw [if_neg (nI_ge h1 (by omega)), m_O kz, o_b, hd, o_b]
          cases hdd : dne L C (j / 81) (knd (j % 81)) (sod (j % 81)) with
          | false => rw [if_pos b2i_f, if_neg (fun z => by cases z.2)]; rfl
          | true => rw [if_neg (show ¬ b2i true = 0 from hne), if_pos ⟨h1, rfl⟩]; rfl
        · rw [if_pos (nI_le (by omega) (by omega)), if_neg (fun z => h1 z.1)]
          rfl
      dsimp only
      rw [if_neg (show ¬ (486 : Int32) ≤ nI j from nI_ge (b := 486) hj (by decide)), show nI j + 1 = nI (j + 1) from nI_1 j, e_rem j hj, e_div j hj]
      simp only [m_R kz, m_I kz, k0, o_b]
      rw [em, o_b]
      simp only [m_S kz, hj, o_b]
      rw [← hT, aS_wS, hup]
    · dsimp only
      rw [if_pos (show (486 : Int32) ≤ nI 486 by decide)]
  · have e : wS (wS ω 66 (cpj (fun i => nI (Wi L C 0 i)) (ω.2.1 66) 486)) 67 (ω.2.1 67) = wS ω 66 (cpj (fun i => nI (W0g L C i)) (ω.2.1 66) 486) := wS_self (wS ω 66 (cpj (fun i => nI (W0g L C i)) (ω.2.1 66) 486)) 67
    rw [e]
    rfl
  · intro n g hn _
    refine ⟨cpj (fun i => nI (Wn L C (Wi L C n) i)) g (81 * L.1 0), ?_, trivial⟩
    have hb : ∀ i, i < 486 → Wi L C n i ≤ 1000 := fun i _ => Wi_le n i
    have e81 : (81 : Int32) * nI (L.1 0) = nI (81 * L.1 0) := pk_mul 81 _
    dsimp only
    rw [if_neg (show ¬ (20 : Int32) ≤ nI n from nI_ge (b := 20) hn (by decide)), show nI n + 1 = nI (n + 1) from nI_1 n]
    have eW : Wi L C (n + 1) = fun i => if i < 81 * L.1 0 then Wn L C (Wi L C n) i else Wi L C n i := rfl
    rw [eW]
    generalize Wi L C n = W at hb
    refine lp_b (fun j => (nI j, mk (wS (wS ω 66 (cpj (fun i => nI (W i)) (ω.2.1 66) 486)) 67 (cpj (fun i => nI (Wn L C W i)) g j)))) (81 * L.1 0) (r := mk (wS (wS ω 66 (cpj (fun i => nI (W i)) (ω.2.1 66) 486)) 67 (cpj (fun i => nI (Wn L C W i)) g (81 * L.1 0)))) ?_ ?_ ?_ ?_
    · rw [cpj_0]; rfl
    · intro j hj
      have hj486 : j < 486 := by omega
      obtain ⟨d1, d2, d3⟩ := kdec j
      have hup := cpj_s (fun i => nI (Wn L C W i)) g j
      generalize hT : wS (wS ω 66 (cpj (fun i => nI (W i)) (ω.2.1 66) 486)) 67 (cpj (fun i => nI (Wn L C W i)) g j) = κ
      have kz : κ.2.2 = true := by rw [← hT]; exact oz
      have kL : LM κ L := by rw [← hT]; exact hL
      have kC : ∀ f, f < 16 → κ.2.1 65 f = b2i (C f) := by rw [← hT]; exact hC
      have kW : ∀ i, i < 486 → κ.2.1 66 i = nI (W i) := fun i hi => by
        rw [← hT, wS_a, if_neg (by decide), wS_a, if_pos rfl]
        exact cpj_at (f := fun i => nI (W i)) hi
      have k0 : κ.1 45 8 = nI (L.1 0) := kL.1
      have hbn := m_best kz kL ok kC kW hb (p := j / 81) (kn := knd (j % 81)) (so := sod (j % 81)) (by omega) d1 d2
      rw [d3] at hbn
      have hwo : ∀ q, q < 6 → fX9_worstAt 45 (nI q) (nI (j % 81)) (mk κ) = some (nI (wv L C W (knd (j % 81)) (sod (j % 81)) q)) := fun q hq => by
        have := m_worst kz kL ok kC kW hb (q := q) (kn := knd (j % 81)) (so := sod (j % 81)) hq d1 d2
        rw [d3] at this
        exact this
      have hWj := hb j hj486
      have eWn : Wn L C W j = if W j = 0 then 0 else (match (bnS L (wv L C W (knd (j % 81)) (sod (j % 81))) (j / 81) (L.1 0)).1 with
        | none => 1000
        | some q => wv L C W (knd (j % 81)) (sod (j % 81)) q + 1) := rfl
      dsimp only
      rw [e_rem j hj486, e_div j hj486, show nI j + 1 = nI (j + 1) from nI_1 j]
      simp only [m_I kz, k0, o_b, e81, m_R kz, m_A kz, hj486, kW j hj486, m_O kz, hbn]
      rw [if_neg (nI_ge hj (by omega))]
      have fin : ∀ v : Int32, v = nI (Wn L C W j) → ((qv_sI (mk κ) false 67 (nI j) v).bind fun h28 => some (Sum.inl (α := Int32 × qv_H) (β := qv_H) (nI (j + 1), h28))) = some (Sum.inl (nI (j + 1), mk (wS (wS ω 66 (cpj (fun i => nI (W i)) (ω.2.1 66) 486)) 67 (cpj (fun i => nI (Wn L C W i)) g (j + 1))))) := by
        intro v hv
        simp only [m_S kz, hj486, o_b]
        rw [hv, ← hT, aS_wS, hup]
      by_cases h0 : W j = 0
      · rw [if_pos (show nI (W j) = 0 by rw [h0]; rfl), o_b, if_pos (show nI (W j) = 0 by rw [h0]; rfl), o_b]
        exact fin 0 (by rw [eWn, if_pos h0]; rfl)
      · have hn0 : ¬ nI (W j) = 0 := nI_ne0 (by omega) (by omega)
        rw [if_neg hn0, o_b, if_neg hn0]
        rcases bnS_sp L (wv L C W (knd (j % 81)) (sod (j % 81))) (j / 81) (L.1 0) with ⟨h, _⟩ | ⟨b, h, _, h3, _, h5, _⟩
        · rw [h, if_neg (show ¬ (0 : Int32) ≤ rp none by decide), o_b]
          exact fin 1000 (by rw [eWn, if_neg h0, h]; rfl)
        · rw [h, if_pos (show (0 : Int32) ≤ rp (some b) from nI_pos' (by omega)), show fX9_worstAt 45 (rp (some b)) (nI (j % 81)) (mk κ) = _ from hwo b (by omega), o_b, o_b]
          exact fin _ (by rw [eWn, if_neg h0, h, nI_1])
    · have kz : (wS (wS ω 66 (cpj (fun i => nI (W i)) (ω.2.1 66) 486)) 67 (cpj (fun i => nI (Wn L C W i)) g (81 * L.1 0))).2.2 = true := oz
      have k0 : (wS (wS ω 66 (cpj (fun i => nI (W i)) (ω.2.1 66) 486)) 67 (cpj (fun i => nI (Wn L C W i)) g (81 * L.1 0))).1 45 8 = nI (L.1 0) := hL.1
      dsimp only
      simp only [m_I kz, k0, o_b, e81]
      rw [if_pos (nI_le (Nat.le_refl _) (by omega))]
    · refine lp_b (fun j => (nI j, mk (wS (wS ω 66 (cpj (fun i => nI (if i < j then Wn L C W i else W i)) (ω.2.1 66) 486)) 67 (cpj (fun i => nI (Wn L C W i)) g (81 * L.1 0))))) (81 * L.1 0) (r := mk (wS (wS ω 66 (cpj (fun i => nI (if i < 81 * L.1 0 then Wn L C W i else W i)) (ω.2.1 66) 486)) 67 (cpj (fun i => nI (Wn L C W i)) g (81 * L.1 0)))) rfl ?_ ?_ rfl
      · intro j hj
        have hj486 : j < 486 := by omega
        generalize hT : wS (wS ω 66 (cpj (fun i => nI (if i < j then Wn L C W i else W i)) (ω.2.1 66) 486)) 67 (cpj (fun i => nI (Wn L C W i)) g (81 * L.1 0)) = κ
        have kz : κ.2.2 = true := by rw [← hT]; exact oz
        have k0 : κ.1 45 8 = nI (L.1 0) := by rw [← hT]; exact hL.1
        have k67 : κ.2.1 67 j = nI (Wn L C W j) := by
          rw [← hT, wS_a, if_pos rfl]
          exact cpj_at (f := fun i => nI (Wn L C W i)) hj
        dsimp only
        simp only [m_I kz, k0, o_b, e81, m_R kz, m_A kz, hj486, k67, m_S kz]
        rw [if_neg (nI_ge hj (by omega)), show nI j + 1 = nI (j + 1) from nI_1 j, ← hT, aS_in, cpj_u _ _ hj486]
        have e : upd (fun i => nI (if i < j then Wn L C W i else W i)) j (nI (Wn L C W j)) = fun i => nI (if i < j + 1 then Wn L C W i else W i) := by
          funext i
          unfold upd
          by_cases h1 : i = j
          · subst h1
            rw [if_pos rfl, if_pos (by omega)]
          · rw [if_neg h1]
            dsimp only
            by_cases h2 : i < j
            · rw [if_pos h2, if_pos (by omega)]
            · rw [if_neg h2, if_neg (by omega)]
        rw [e]
      · have kz : (wS (wS ω 66 (cpj (fun i => nI (if i < 81 * L.1 0 then Wn L C W i else W i)) (ω.2.1 66) 486)) 67 (cpj (fun i => nI (Wn L C W i)) g (81 * L.1 0))).2.2 = true := oz
        have k0 : (wS (wS ω 66 (cpj (fun i => nI (if i < 81 * L.1 0 then Wn L C W i else W i)) (ω.2.1 66) 486)) 67 (cpj (fun i => nI (Wn L C W i)) g (81 * L.1 0))).1 45 8 = nI (L.1 0) := hL.1
        dsimp only
        simp only [m_I kz, k0, o_b, e81]
        rw [if_pos (nI_le (Nat.le_refl _) (by omega))]
  · intro g _
    dsimp only
    rw [if_pos (show (20 : Int32) ≤ nI 20 by decide)]
end MF
