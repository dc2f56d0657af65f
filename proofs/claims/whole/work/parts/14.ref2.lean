/-! ===== 14.ref2: by program (wip/whole/gen): for each method its pure function f.., its descriptor m.., the proof s.. that the frame logic runs it ===== -/
/-- TrueOneWayModel.good(I)I -/
noncomputable def fX9_good (a0 : Nat) (a1 : Int32) (h : qv_H) : Option (Int32 × qv_H) :=
  (qv_ob h 8 a0).bind fun _ =>
  (fX9_isWorld a0 a1 h).bind fun v2 =>
  Option.bind (α := Int32 × qv_H) (
      if v2 = 0 then
        (qv_ob h 8 a0).bind fun _ =>
        (fX9_no a0 (-1 : Int32) h).bind fun (v6, h7) =>
        some (v6, h7)
      else
        (qv_ob h 8 a0).bind fun _ =>
        (fX9_isGood a0 a1 h).bind fun v4 =>
        if v4 = 0 then
          some ((0 : Int32), h)
        else
          some ((1 : Int32), h)
    ) fun (m8, h9) =>
  some (m8, h9)
abbrev mX9_good : qv_M := (yX9_good, cX9_good, 2, (Option.some Jvm.ClassFile.FieldType.int), 4, 90)
set_option maxRecDepth 100000 in
set_option maxHeartbeats 4000000 in
theorem sX9_good {l : Launch} {g : qv_G} {a0 : Nat} {a1 : Int32} {h : qv_H} {r : Int32} {hz : qv_H} (hs : fX9_good a0 a1 h = some (r, hz)) : qv_J l g mX9_good 0 [some (.ref a0), some (.int a1)] [] h (some (.int r), hz) := by
  unfold fX9_good at hs
  refine qv_aload_n dX9_good_0 (i := 0) rfl rfl ?_
  refine qv_iload_n dX9_good_1 (i := 1) rfl rfl ?_
  obtain ⟨u1, e1, hs⟩ := qv_bind hs
  obtain ⟨v2, e2, hs⟩ := qv_bind hs
  refine qv_cV (d2 := mX9_isWorld) (o := a0) (ci := 8) (r := some (.int v2)) (h2 := h) (av := [.int a1]) (st := []) dX9_good_2 qM_X9_211 qD_X9_isWorld e1 rfl rfl ⟨by decide, by decide⟩ rfl (Nat.le_of_ble_eq_true rfl) (Nat.le_of_ble_eq_true rfl) (sX9_isWorld e2) rfl ?_
  obtain ⟨⟨m8, h9⟩, hj4, hs⟩ := qv_bind hs
  dsimp only at hs
  have K3 : qv_J l g mX9_good 29 [none, none] [.int m8] h9 (some (.int r), hz) := by
    obtain ⟨rfl, rfl⟩ := qv_pr hs
    exact qv_iret dX9_good_29 rfl
  replace hs := hj4
  by_cases c5 : v2 = 0
  · have hs := qv_pos c5 hs
    refine qv_if_ne (tgt := 16) dX9_good_5 rfl (fun q => absurd c5 q) (fun _ => ?_)
    refine qv_aload_n dX9_good_8 (i := 0) rfl rfl ?_
    refine qv_iconst (v := (-1 : Int32)) dX9_good_9 rfl ?_
    obtain ⟨u5, e6, hs⟩ := qv_bind hs
    obtain ⟨⟨v6, h7⟩, e7, hs⟩ := qv_bind hs
    dsimp only at hs
    refine qv_cV (d2 := mX9_no) (o := a0) (ci := 8) (r := some (.int v6)) (h2 := h7) (av := [.int (-1 : Int32)]) (st := []) dX9_good_10 qM_X9_102 qD_X9_no e6 rfl rfl ⟨by decide, by decide⟩ rfl (Nat.le_of_ble_eq_true rfl) (Nat.le_of_ble_eq_true rfl) (sX9_no e7) rfl ?_
    refine qv_goto (tgt := 29) dX9_good_13 rfl ?_
    cases hs
    exact qv_dp (qv_le_n (qv_le_n qv_le_0)) K3
  · have hs := qv_neg c5 hs
    refine qv_if_ne (tgt := 16) dX9_good_5 rfl (fun _ => ?_) (fun q => absurd q c5)
    refine qv_aload_n dX9_good_16 (i := 0) rfl rfl ?_
    refine qv_iload_n dX9_good_17 (i := 1) rfl rfl ?_
    obtain ⟨u3, e8, hs⟩ := qv_bind hs
    obtain ⟨v4, e9, hs⟩ := qv_bind hs
    refine qv_cV (d2 := mX9_isGood) (o := a0) (ci := 8) (r := some (.int v4)) (h2 := h) (av := [.int a1]) (st := []) dX9_good_18 qM_X9_229 qD_X9_isGood e8 rfl rfl ⟨by decide, by decide⟩ rfl (Nat.le_of_ble_eq_true rfl) (Nat.le_of_ble_eq_true rfl) (sX9_isGood e9) rfl ?_
    by_cases c10 : v4 = 0
    · have hs := qv_pos c10 hs
      refine qv_if_eq (tgt := 28) dX9_good_21 rfl (fun _ => ?_) (fun q => absurd c10 q)
      refine qv_iconst (v := (0 : Int32)) dX9_good_28 rfl ?_
      cases hs
      exact qv_dp (qv_le_n (qv_le_n qv_le_0)) K3
    · have hs := qv_neg c10 hs
      refine qv_if_eq (tgt := 28) dX9_good_21 rfl (fun q => absurd q c10) (fun _ => ?_)
      refine qv_iconst (v := (1 : Int32)) dX9_good_24 rfl ?_
      refine qv_goto (tgt := 29) dX9_good_25 rfl ?_
      cases hs
      exact qv_dp (qv_le_n (qv_le_n qv_le_0)) K3
theorem qD_X9_good : qv_DV mX9_good 1 := ⟨(qv_i15 (List.mem_of_getElem? (i := 39) (by decide +kernel))), (qv_i15 (List.mem_of_getElem? (i := 40) (by decide +kernel))), (qv_i1 (List.mem_of_getElem? (i := 14) (by decide +kernel))), (qv_i15 (List.mem_of_getElem? (i := 41) (by decide +kernel))), by decide +kernel, by decide +kernel⟩
/-- TrueOneWayModel.says(II)I -/
noncomputable def fX9_says (a0 : Nat) (a1 : Int32) (a2 : Int32) (h : qv_H) : Option (Int32 × qv_H) :=
  (qv_ob h 8 a0).bind fun _ =>
  (fX9_isSign a0 a1 h).bind fun v2 =>
  Option.bind (α := Int32 × qv_H) (
      if v2 = 0 then
        (qv_ob h 8 a0).bind fun _ =>
        (fX9_no a0 (-1 : Int32) h).bind fun (v4, h5) =>
        some (v4, h5)
      else
        (qv_ob h 8 a0).bind fun _ =>
        (fX9_isWorld a0 a2 h).bind fun v7 =>
        if v7 = 0 then
          (qv_ob h 8 a0).bind fun _ =>
          (fX9_no a0 (-1 : Int32) h).bind fun (v9, h10) =>
          some (v9, h10)
        else
          (qv_ob h 8 a0).bind fun _ =>
          (fX9_saysIn a0 a1 a2 h).bind fun v12 =>
          some (v12, h)
    ) fun (m13, h14) =>
  some (m13, h14)
abbrev mX9_says : qv_M := (yX9_says, cX9_says, 3, (Option.some Jvm.ClassFile.FieldType.int), 2, 41)
set_option maxRecDepth 100000 in
set_option maxHeartbeats 4000000 in
theorem sX9_says {l : Launch} {g : qv_G} {a0 : Nat} {a1 : Int32} {a2 : Int32} {h : qv_H} {r : Int32} {hz : qv_H} (hs : fX9_says a0 a1 a2 h = some (r, hz)) : qv_J l g mX9_says 0 [some (.ref a0), some (.int a1), some (.int a2)] [] h (some (.int r), hz) := by
  unfold fX9_says at hs
  refine qv_aload_n dX9_says_0 (i := 0) rfl rfl ?_
  refine qv_iload_n dX9_says_1 (i := 1) rfl rfl ?_
  obtain ⟨u1, e1, hs⟩ := qv_bind hs
  obtain ⟨v2, e2, hs⟩ := qv_bind hs
  refine qv_cV (d2 := mX9_isSign) (o := a0) (ci := 8) (r := some (.int v2)) (h2 := h) (av := [.int a1]) (st := []) dX9_says_2 qM_X9_226 qD_X9_isSign e1 rfl rfl ⟨by decide, by decide⟩ rfl (Nat.le_of_ble_eq_true rfl) (Nat.le_of_ble_eq_true rfl) (sX9_isSign e2) rfl ?_
  obtain ⟨⟨m13, h14⟩, hj4, hs⟩ := qv_bind hs
  dsimp only at hs
  have K3 : qv_J l g mX9_says 30 [none, none, none] [.int m13] h14 (some (.int r), hz) := by
    obtain ⟨rfl, rfl⟩ := qv_pr hs
    exact qv_iret dX9_says_30 rfl
  replace hs := hj4
  by_cases c5 : v2 = 0
  · have hs := qv_pos c5 hs
    refine qv_if_eq (tgt := 25) dX9_says_5 rfl (fun _ => ?_) (fun q => absurd c5 q)
    refine qv_aload_n dX9_says_25 (i := 0) rfl rfl ?_
    refine qv_iconst (v := (-1 : Int32)) dX9_says_26 rfl ?_
    obtain ⟨u3, e6, hs⟩ := qv_bind hs
    obtain ⟨⟨v4, h5⟩, e7, hs⟩ := qv_bind hs
    dsimp only at hs
    refine qv_cV (d2 := mX9_no) (o := a0) (ci := 8) (r := some (.int v4)) (h2 := h5) (av := [.int (-1 : Int32)]) (st := []) dX9_says_27 qM_X9_102 qD_X9_no e6 rfl rfl ⟨by decide, by decide⟩ rfl (Nat.le_of_ble_eq_true rfl) (Nat.le_of_ble_eq_true rfl) (sX9_no e7) rfl ?_
    cases hs
    exact qv_dp (qv_le_n (qv_le_n (qv_le_n qv_le_0))) K3
  · have hs := qv_neg c5 hs
    refine qv_if_eq (tgt := 25) dX9_says_5 rfl (fun q => absurd q c5) (fun _ => ?_)
    refine qv_aload_n dX9_says_8 (i := 0) rfl rfl ?_
    refine qv_iload_n dX9_says_9 (i := 2) rfl rfl ?_
    obtain ⟨u6, e8, hs⟩ := qv_bind hs
    obtain ⟨v7, e9, hs⟩ := qv_bind hs
    refine qv_cV (d2 := mX9_isWorld) (o := a0) (ci := 8) (r := some (.int v7)) (h2 := h) (av := [.int a2]) (st := []) dX9_says_10 qM_X9_211 qD_X9_isWorld e8 rfl rfl ⟨by decide, by decide⟩ rfl (Nat.le_of_ble_eq_true rfl) (Nat.le_of_ble_eq_true rfl) (sX9_isWorld e9) rfl ?_
    by_cases c10 : v7 = 0
    · have hs := qv_pos c10 hs
      refine qv_if_eq (tgt := 25) dX9_says_13 rfl (fun _ => ?_) (fun q => absurd c10 q)
      refine qv_aload_n dX9_says_25 (i := 0) rfl rfl ?_
      refine qv_iconst (v := (-1 : Int32)) dX9_says_26 rfl ?_
      obtain ⟨u8, e11, hs⟩ := qv_bind hs
      obtain ⟨⟨v9, h10⟩, e12, hs⟩ := qv_bind hs
      dsimp only at hs
      refine qv_cV (d2 := mX9_no) (o := a0) (ci := 8) (r := some (.int v9)) (h2 := h10) (av := [.int (-1 : Int32)]) (st := []) dX9_says_27 qM_X9_102 qD_X9_no e11 rfl rfl ⟨by decide, by decide⟩ rfl (Nat.le_of_ble_eq_true rfl) (Nat.le_of_ble_eq_true rfl) (sX9_no e12) rfl ?_
      cases hs
      exact qv_dp (qv_le_n (qv_le_n (qv_le_n qv_le_0))) K3
    · have hs := qv_neg c10 hs
      refine qv_if_eq (tgt := 25) dX9_says_13 rfl (fun q => absurd q c10) (fun _ => ?_)
      refine qv_aload_n dX9_says_16 (i := 0) rfl rfl ?_
      refine qv_iload_n dX9_says_17 (i := 1) rfl rfl ?_
      refine qv_iload_n dX9_says_18 (i := 2) rfl rfl ?_
      obtain ⟨u11, e13, hs⟩ := qv_bind hs
      obtain ⟨v12, e14, hs⟩ := qv_bind hs
      refine qv_cV (d2 := mX9_saysIn) (o := a0) (ci := 8) (r := some (.int v12)) (h2 := h) (av := [.int a1, .int a2]) (st := []) dX9_says_19 qM_X9_201 qD_X9_saysIn e13 rfl rfl ⟨by decide, by decide⟩ rfl (Nat.le_of_ble_eq_true rfl) (Nat.le_of_ble_eq_true rfl) (sX9_saysIn e14) rfl ?_
      refine qv_goto (tgt := 30) dX9_says_22 rfl ?_
      cases hs
      exact qv_dp (qv_le_n (qv_le_n (qv_le_n qv_le_0))) K3
theorem qD_X9_says : qv_DV mX9_says 2 := ⟨(qv_i15 (List.mem_of_getElem? (i := 55) (by decide +kernel))), (qv_i15 (List.mem_of_getElem? (i := 56) (by decide +kernel))), (qv_i1 (List.mem_of_getElem? (i := 14) (by decide +kernel))), (qv_i15 (List.mem_of_getElem? (i := 57) (by decide +kernel))), by decide +kernel, by decide +kernel⟩
/-- TrueOneWayModel.worlds(I)I -/
noncomputable def fX9_worlds (a0 : Nat) (a1 : Int32) (h : qv_H) : Option (Int32 × qv_H) :=
  if (-1 : Int32) ≤ a1 then
    (qv_ob h 8 a0).bind fun _ =>
    (fX9_findWorlds a0 (0 : Int32) h).bind fun h2 =>
    Option.bind (α := Int32) (
        if a1 = (-1 : Int32) then
          (qv_gI h2 8 a0 33).bind fun v6 =>
          some v6
        else
          (qv_gI h2 8 a0 33).bind fun v3 =>
          if v3 ≤ a1 then
            some (-9 : Int32)
          else
            (qv_gR h2 8 a0 32).bind fun v4 =>
            (qv_aI h2 false v4 a1).bind fun v5 =>
            some v5
      ) fun m7 =>
    some (m7, h2)
  else
    (qv_ob h 8 a0).bind fun _ =>
    (fX9_no a0 (-4 : Int32) h).bind fun (v9, h10) =>
    some (v9, h10)
abbrev mX9_worlds : qv_M := (yX9_worlds, cX9_worlds, 2, (Option.some Jvm.ClassFile.FieldType.int), 4, 91)
set_option maxRecDepth 100000 in
set_option maxHeartbeats 4000000 in
theorem sX9_worlds {l : Launch} {g : qv_G} {a0 : Nat} {a1 : Int32} {h : qv_H} {r : Int32} {hz : qv_H} (hs : fX9_worlds a0 a1 h = some (r, hz)) : qv_J l g mX9_worlds 0 [some (.ref a0), some (.int a1)] [] h (some (.int r), hz) := by
  unfold fX9_worlds at hs
  refine qv_iload_n dX9_worlds_0 (i := 1) rfl rfl ?_
  refine qv_iconst (v := (-1 : Int32)) dX9_worlds_1 rfl ?_
  by_cases c1 : (-1 : Int32) ≤ a1
  · have hs := qv_pos c1 hs
    refine qv_icmp_ge (tgt := 12) dX9_worlds_2 rfl (fun _ => ?_) (fun q => absurd c1 q)
    refine qv_aload_n dX9_worlds_12 (i := 0) rfl rfl ?_
    refine qv_iconst (v := (0 : Int32)) dX9_worlds_13 rfl ?_
    obtain ⟨u1, e2, hs⟩ := qv_bind hs
    obtain ⟨h2, e3, hs⟩ := qv_bind hs
    refine qv_cV (d2 := mX9_findWorlds) (o := a0) (ci := 8) (r := none) (h2 := h2) (av := [.int (0 : Int32)]) (st := []) dX9_worlds_14 qM_X9_232 qD_X9_findWorlds e2 rfl rfl ⟨by decide, by decide⟩ rfl (Nat.le_of_ble_eq_true rfl) (Nat.le_of_ble_eq_true rfl) (sX9_findWorlds e3) rfl ?_
    refine qv_iload_n dX9_worlds_17 (i := 1) rfl rfl ?_
    refine qv_iconst (v := (-1 : Int32)) dX9_worlds_18 rfl ?_
    obtain ⟨m7, hj5, hs⟩ := qv_bind hs
    have K4 : qv_J l g mX9_worlds 48 [none, none] [.int m7] h2 (some (.int r), hz) := by
      obtain ⟨rfl, rfl⟩ := qv_pr hs
      exact qv_iret dX9_worlds_48 rfl
    replace hs := hj5
    by_cases c6 : a1 = (-1 : Int32)
    · have hs := qv_pos c6 hs
      refine qv_icmp_ne (tgt := 29) dX9_worlds_19 rfl (fun q => absurd c6 q) (fun _ => ?_)
      refine qv_aload_n dX9_worlds_22 (i := 0) rfl rfl ?_
      obtain ⟨v6, e7, hs⟩ := qv_bind hs
      refine qv_getI dX9_worlds_23 qF_X9_223 e7 ?_
      refine qv_goto (tgt := 48) dX9_worlds_26 rfl ?_
      cases hs
      exact qv_dp (qv_le_n (qv_le_n qv_le_0)) K4
    · have hs := qv_neg c6 hs
      refine qv_icmp_ne (tgt := 29) dX9_worlds_19 rfl (fun _ => ?_) (fun q => absurd q c6)
      refine qv_iload_n dX9_worlds_29 (i := 1) rfl rfl ?_
      refine qv_aload_n dX9_worlds_30 (i := 0) rfl rfl ?_
      obtain ⟨v3, e8, hs⟩ := qv_bind hs
      refine qv_getI dX9_worlds_31 qF_X9_223 e8 ?_
      by_cases c9 : v3 ≤ a1
      · have hs := qv_pos c9 hs
        refine qv_icmp_ge (tgt := 46) dX9_worlds_34 rfl (fun _ => ?_) (fun q => absurd c9 q)
        refine qv_bipush (v := (-9 : Int32)) dX9_worlds_46 rfl ?_
        cases hs
        exact qv_dp (qv_le_n (qv_le_n qv_le_0)) K4
      · have hs := qv_neg c9 hs
        refine qv_icmp_ge (tgt := 46) dX9_worlds_34 rfl (fun q => absurd q c9) (fun _ => ?_)
        refine qv_aload_n dX9_worlds_37 (i := 0) rfl rfl ?_
        obtain ⟨v4, e10, hs⟩ := qv_bind hs
        refine qv_getR dX9_worlds_38 qF_X9_71 e10 ?_
        refine qv_iload_n dX9_worlds_41 (i := 1) rfl rfl ?_
        obtain ⟨v5, e11, hs⟩ := qv_bind hs
        refine qv_iald dX9_worlds_42 e11 ?_
        refine qv_goto (tgt := 48) dX9_worlds_43 rfl ?_
        cases hs
        exact qv_dp (qv_le_n (qv_le_n qv_le_0)) K4
  · have hs := qv_neg c1 hs
    refine qv_icmp_ge (tgt := 12) dX9_worlds_2 rfl (fun q => absurd q c1) (fun _ => ?_)
    refine qv_aload_n dX9_worlds_5 (i := 0) rfl rfl ?_
    refine qv_bipush (v := (-4 : Int32)) dX9_worlds_6 rfl ?_
    obtain ⟨u8, e12, hs⟩ := qv_bind hs
    obtain ⟨⟨v9, h10⟩, e13, hs⟩ := qv_bind hs
    dsimp only at hs
    refine qv_cV (d2 := mX9_no) (o := a0) (ci := 8) (r := some (.int v9)) (h2 := h10) (av := [.int (-4 : Int32)]) (st := []) dX9_worlds_8 qM_X9_102 qD_X9_no e12 rfl rfl ⟨by decide, by decide⟩ rfl (Nat.le_of_ble_eq_true rfl) (Nat.le_of_ble_eq_true rfl) (sX9_no e13) rfl ?_
    obtain ⟨rfl, rfl⟩ := qv_pr hs
    exact qv_iret dX9_worlds_11 rfl
theorem qD_X9_worlds : qv_DV mX9_worlds 1 := ⟨(qv_i15 (List.mem_of_getElem? (i := 59) (by decide +kernel))), (qv_i15 (List.mem_of_getElem? (i := 60) (by decide +kernel))), (qv_i1 (List.mem_of_getElem? (i := 14) (by decide +kernel))), (qv_i15 (List.mem_of_getElem? (i := 61) (by decide +kernel))), by decide +kernel, by decide +kernel⟩
/-- TrueOneWayModel.finds(II)I -/
noncomputable def fX9_finds (a0 : Nat) (a1 : Int32) (a2 : Int32) (h : qv_H) : Option (Int32 × qv_H) :=
  (fX9_isIn a2 (0 : Int32) (1 : Int32)).bind fun v1 =>
  if v1 = 0 then
    (qv_ob h 8 a0).bind fun _ =>
    (fX9_no a0 (-2 : Int32) h).bind fun (v16, h17) =>
    some (v16, h17)
  else
    (qv_gI h 8 a0 17).bind fun v2 =>
    if v2 = (12 : Int32) then
      (qv_ob h 8 a0).bind fun _ =>
      (fX9_no a0 (-6 : Int32) h).bind fun (v13, h14) =>
      some (v13, h14)
    else
      (qv_gR h 8 a0 15).bind fun v3 =>
      (qv_gI h 8 a0 17).bind fun v4 =>
      (qv_sI h false v3 v4 a1).bind fun h5 =>
      (qv_gR h5 8 a0 16).bind fun v6 =>
      (qv_gI h5 8 a0 17).bind fun v7 =>
      (qv_sI h5 false v6 v7 a2).bind fun h8 =>
      (qv_gI h8 8 a0 17).bind fun v9 =>
      (qv_pI h8 8 a0 17 (v9 + (1 : Int32))).bind fun h10 =>
      (qv_gI h10 8 a0 17).bind fun v11 =>
      some (v11, h10)
abbrev mX9_finds : qv_M := (yX9_finds, cX9_finds, 3, (Option.some Jvm.ClassFile.FieldType.int), 1, 22)
set_option maxRecDepth 100000 in
set_option maxHeartbeats 4000000 in
theorem sX9_finds {l : Launch} {g : qv_G} {a0 : Nat} {a1 : Int32} {a2 : Int32} {h : qv_H} {r : Int32} {hz : qv_H} (hs : fX9_finds a0 a1 a2 h = some (r, hz)) : qv_J l g mX9_finds 0 [some (.ref a0), some (.int a1), some (.int a2)] [] h (some (.int r), hz) := by
  unfold fX9_finds at hs
  refine qv_iload_n dX9_finds_0 (i := 2) rfl rfl ?_
  refine qv_iconst (v := (0 : Int32)) dX9_finds_1 rfl ?_
  refine qv_iconst (v := (1 : Int32)) dX9_finds_2 rfl ?_
  obtain ⟨v1, e1, hs⟩ := qv_bind hs
  refine qv_cS (d2 := mX9_isIn) (r := some (.int v1)) (h2 := h) (av := [.int a2, .int (0 : Int32), .int (1 : Int32)]) (st := []) dX9_finds_3 qM_X9_113 qD_X9_isIn rfl ⟨by decide, by decide⟩ rfl (Nat.le_of_ble_eq_true rfl) (Nat.le_of_ble_eq_true rfl) (sX9_isIn e1) rfl ?_
  by_cases c2 : v1 = 0
  · have hs := qv_pos c2 hs
    refine qv_if_ne (tgt := 16) dX9_finds_6 rfl (fun q => absurd c2 q) (fun _ => ?_)
    refine qv_aload_n dX9_finds_9 (i := 0) rfl rfl ?_
    refine qv_bipush (v := (-2 : Int32)) dX9_finds_10 rfl ?_
    obtain ⟨u15, e3, hs⟩ := qv_bind hs
    obtain ⟨⟨v16, h17⟩, e4, hs⟩ := qv_bind hs
    dsimp only at hs
    refine qv_cV (d2 := mX9_no) (o := a0) (ci := 8) (r := some (.int v16)) (h2 := h17) (av := [.int (-2 : Int32)]) (st := []) dX9_finds_12 qM_X9_102 qD_X9_no e3 rfl rfl ⟨by decide, by decide⟩ rfl (Nat.le_of_ble_eq_true rfl) (Nat.le_of_ble_eq_true rfl) (sX9_no e4) rfl ?_
    obtain ⟨rfl, rfl⟩ := qv_pr hs
    exact qv_iret dX9_finds_15 rfl
  · have hs := qv_neg c2 hs
    refine qv_if_ne (tgt := 16) dX9_finds_6 rfl (fun _ => ?_) (fun q => absurd q c2)
    refine qv_aload_n dX9_finds_16 (i := 0) rfl rfl ?_
    obtain ⟨v2, e5, hs⟩ := qv_bind hs
    refine qv_getI dX9_finds_17 qF_X9_186 e5 ?_
    refine qv_bipush (v := (12 : Int32)) dX9_finds_20 rfl ?_
    by_cases c6 : v2 = (12 : Int32)
    · have hs := qv_pos c6 hs
      refine qv_icmp_ne (tgt := 32) dX9_finds_22 rfl (fun q => absurd c6 q) (fun _ => ?_)
      refine qv_aload_n dX9_finds_25 (i := 0) rfl rfl ?_
      refine qv_bipush (v := (-6 : Int32)) dX9_finds_26 rfl ?_
      obtain ⟨u12, e7, hs⟩ := qv_bind hs
      obtain ⟨⟨v13, h14⟩, e8, hs⟩ := qv_bind hs
      dsimp only at hs
      refine qv_cV (d2 := mX9_no) (o := a0) (ci := 8) (r := some (.int v13)) (h2 := h14) (av := [.int (-6 : Int32)]) (st := []) dX9_finds_28 qM_X9_102 qD_X9_no e7 rfl rfl ⟨by decide, by decide⟩ rfl (Nat.le_of_ble_eq_true rfl) (Nat.le_of_ble_eq_true rfl) (sX9_no e8) rfl ?_
      obtain ⟨rfl, rfl⟩ := qv_pr hs
      exact qv_iret dX9_finds_31 rfl
    · have hs := qv_neg c6 hs
      refine qv_icmp_ne (tgt := 32) dX9_finds_22 rfl (fun _ => ?_) (fun q => absurd q c6)
      refine qv_aload_n dX9_finds_32 (i := 0) rfl rfl ?_
      obtain ⟨v3, e9, hs⟩ := qv_bind hs
      refine qv_getR dX9_finds_33 qF_X9_41 e9 ?_
      refine qv_aload_n dX9_finds_36 (i := 0) rfl rfl ?_
      obtain ⟨v4, e10, hs⟩ := qv_bind hs
      refine qv_getI dX9_finds_37 qF_X9_186 e10 ?_
      refine qv_iload_n dX9_finds_40 (i := 1) rfl rfl ?_
      obtain ⟨h5, e11, hs⟩ := qv_bind hs
      refine qv_iast dX9_finds_41 e11 ?_
      refine qv_aload_n dX9_finds_42 (i := 0) rfl rfl ?_
      obtain ⟨v6, e12, hs⟩ := qv_bind hs
      refine qv_getR dX9_finds_43 qF_X9_44 e12 ?_
      refine qv_aload_n dX9_finds_46 (i := 0) rfl rfl ?_
      obtain ⟨v7, e13, hs⟩ := qv_bind hs
      refine qv_getI dX9_finds_47 qF_X9_186 e13 ?_
      refine qv_iload_n dX9_finds_50 (i := 2) rfl rfl ?_
      obtain ⟨h8, e14, hs⟩ := qv_bind hs
      refine qv_iast dX9_finds_51 e14 ?_
      refine qv_aload_n dX9_finds_52 (i := 0) rfl rfl ?_
      refine qv_dup dX9_finds_53 rfl ?_
      obtain ⟨v9, e15, hs⟩ := qv_bind hs
      refine qv_getI dX9_finds_54 qF_X9_186 e15 ?_
      refine qv_iconst (v := (1 : Int32)) dX9_finds_57 rfl ?_
      refine qv_iadd dX9_finds_58 ?_
      obtain ⟨h10, e16, hs⟩ := qv_bind hs
      refine qv_putI dX9_finds_59 qF_X9_186 e16 ?_
      refine qv_aload_n dX9_finds_62 (i := 0) rfl rfl ?_
      obtain ⟨v11, e17, hs⟩ := qv_bind hs
      refine qv_getI dX9_finds_63 qF_X9_186 e17 ?_
      obtain ⟨rfl, rfl⟩ := qv_pr hs
      exact qv_iret dX9_finds_66 rfl
theorem qD_X9_finds : qv_DV mX9_finds 2 := ⟨(qv_i16 (List.mem_of_getElem? (i := 6) (by decide +kernel))), (qv_i0 (List.mem_of_getElem? (i := 48) (by decide +kernel))), (qv_i1 (List.mem_of_getElem? (i := 14) (by decide +kernel))), (qv_i16 (List.mem_of_getElem? (i := 7) (by decide +kernel))), by decide +kernel, by decide +kernel⟩
/-- TrueOneWayModel.fact(II)I -/
noncomputable def fX9_fact (a0 : Nat) (a1 : Int32) (a2 : Int32) (h : qv_H) : Option (Int32 × qv_H) :=
  (qv_ob h 8 a0).bind fun _ =>
  (fX9_isFact a0 a1 h).bind fun v2 =>
  Option.bind (α := Int32 × qv_H) (
      if v2 = 0 then
        (qv_ob h 8 a0).bind fun _ =>
        (fX9_no a0 (-1 : Int32) h).bind fun (v4, h5) =>
        some (v4, h5)
      else
        (qv_ob h 8 a0).bind fun _ =>
        (fX9_finds a0 a1 a2 h).bind fun (v7, h8) =>
        some (v7, h8)
    ) fun (m9, h10) =>
  some (m9, h10)
abbrev mX9_fact : qv_M := (yX9_fact, cX9_fact, 3, (Option.some Jvm.ClassFile.FieldType.int), 2, 44)
set_option maxRecDepth 100000 in
set_option maxHeartbeats 4000000 in
theorem sX9_fact {l : Launch} {g : qv_G} {a0 : Nat} {a1 : Int32} {a2 : Int32} {h : qv_H} {r : Int32} {hz : qv_H} (hs : fX9_fact a0 a1 a2 h = some (r, hz)) : qv_J l g mX9_fact 0 [some (.ref a0), some (.int a1), some (.int a2)] [] h (some (.int r), hz) := by
  unfold fX9_fact at hs
  refine qv_aload_n dX9_fact_0 (i := 0) rfl rfl ?_
  refine qv_iload_n dX9_fact_1 (i := 1) rfl rfl ?_
  obtain ⟨u1, e1, hs⟩ := qv_bind hs
  obtain ⟨v2, e2, hs⟩ := qv_bind hs
  refine qv_cV (d2 := mX9_isFact) (o := a0) (ci := 8) (r := some (.int v2)) (h2 := h) (av := [.int a1]) (st := []) dX9_fact_2 qM_X9_146 qD_X9_isFact e1 rfl rfl ⟨by decide, by decide⟩ rfl (Nat.le_of_ble_eq_true rfl) (Nat.le_of_ble_eq_true rfl) (sX9_isFact e2) rfl ?_
  obtain ⟨⟨m9, h10⟩, hj4, hs⟩ := qv_bind hs
  dsimp only at hs
  have K3 : qv_J l g mX9_fact 22 [none, none, none] [.int m9] h10 (some (.int r), hz) := by
    obtain ⟨rfl, rfl⟩ := qv_pr hs
    exact qv_iret dX9_fact_22 rfl
  replace hs := hj4
  by_cases c5 : v2 = 0
  · have hs := qv_pos c5 hs
    refine qv_if_eq (tgt := 17) dX9_fact_5 rfl (fun _ => ?_) (fun q => absurd c5 q)
    refine qv_aload_n dX9_fact_17 (i := 0) rfl rfl ?_
    refine qv_iconst (v := (-1 : Int32)) dX9_fact_18 rfl ?_
    obtain ⟨u3, e6, hs⟩ := qv_bind hs
    obtain ⟨⟨v4, h5⟩, e7, hs⟩ := qv_bind hs
    dsimp only at hs
    refine qv_cV (d2 := mX9_no) (o := a0) (ci := 8) (r := some (.int v4)) (h2 := h5) (av := [.int (-1 : Int32)]) (st := []) dX9_fact_19 qM_X9_102 qD_X9_no e6 rfl rfl ⟨by decide, by decide⟩ rfl (Nat.le_of_ble_eq_true rfl) (Nat.le_of_ble_eq_true rfl) (sX9_no e7) rfl ?_
    cases hs
    exact qv_dp (qv_le_n (qv_le_n (qv_le_n qv_le_0))) K3
  · have hs := qv_neg c5 hs
    refine qv_if_eq (tgt := 17) dX9_fact_5 rfl (fun q => absurd q c5) (fun _ => ?_)
    refine qv_aload_n dX9_fact_8 (i := 0) rfl rfl ?_
    refine qv_iload_n dX9_fact_9 (i := 1) rfl rfl ?_
    refine qv_iload_n dX9_fact_10 (i := 2) rfl rfl ?_
    obtain ⟨u6, e8, hs⟩ := qv_bind hs
    obtain ⟨⟨v7, h8⟩, e9, hs⟩ := qv_bind hs
    dsimp only at hs
    refine qv_cV (d2 := mX9_finds) (o := a0) (ci := 8) (r := some (.int v7)) (h2 := h8) (av := [.int a1, .int a2]) (st := []) dX9_fact_11 qM_X9_236 qD_X9_finds e8 rfl rfl ⟨by decide, by decide⟩ rfl (Nat.le_of_ble_eq_true rfl) (Nat.le_of_ble_eq_true rfl) (sX9_finds e9) rfl ?_
    refine qv_goto (tgt := 22) dX9_fact_14 rfl ?_
    cases hs
    exact qv_dp (qv_le_n (qv_le_n (qv_le_n qv_le_0))) K3
theorem qD_X9_fact : qv_DV mX9_fact 2 := ⟨(qv_i16 (List.mem_of_getElem? (i := 2) (by decide +kernel))), (qv_i16 (List.mem_of_getElem? (i := 3) (by decide +kernel))), (qv_i1 (List.mem_of_getElem? (i := 14) (by decide +kernel))), (qv_i16 (List.mem_of_getElem? (i := 4) (by decide +kernel))), by decide +kernel, by decide +kernel⟩
/-- TrueOneWayModel.way(II)I -/
noncomputable def fX9_way (a0 : Nat) (a1 : Int32) (a2 : Int32) (h : qv_H) : Option (Int32 × qv_H) :=
  (qv_ob h 8 a0).bind fun _ =>
  (fX9_isSign a0 a1 h).bind fun v2 =>
  Option.bind (α := Int32 × qv_H) (
      if v2 = 0 then
        (qv_ob h 8 a0).bind fun _ =>
        (fX9_no a0 (-1 : Int32) h).bind fun (v4, h5) =>
        some (v4, h5)
      else
        (qv_ob h 8 a0).bind fun _ =>
        (fX9_finds a0 ((4 : Int32) + a1) a2 h).bind fun (v7, h8) =>
        some (v7, h8)
    ) fun (m9, h10) =>
  some (m9, h10)
abbrev mX9_way : qv_M := (yX9_way, cX9_way, 3, (Option.some Jvm.ClassFile.FieldType.int), 2, 44)
set_option maxRecDepth 100000 in
set_option maxHeartbeats 4000000 in
theorem sX9_way {l : Launch} {g : qv_G} {a0 : Nat} {a1 : Int32} {a2 : Int32} {h : qv_H} {r : Int32} {hz : qv_H} (hs : fX9_way a0 a1 a2 h = some (r, hz)) : qv_J l g mX9_way 0 [some (.ref a0), some (.int a1), some (.int a2)] [] h (some (.int r), hz) := by
  unfold fX9_way at hs
  refine qv_aload_n dX9_way_0 (i := 0) rfl rfl ?_
  refine qv_iload_n dX9_way_1 (i := 1) rfl rfl ?_
  obtain ⟨u1, e1, hs⟩ := qv_bind hs
  obtain ⟨v2, e2, hs⟩ := qv_bind hs
  refine qv_cV (d2 := mX9_isSign) (o := a0) (ci := 8) (r := some (.int v2)) (h2 := h) (av := [.int a1]) (st := []) dX9_way_2 qM_X9_226 qD_X9_isSign e1 rfl rfl ⟨by decide, by decide⟩ rfl (Nat.le_of_ble_eq_true rfl) (Nat.le_of_ble_eq_true rfl) (sX9_isSign e2) rfl ?_
  obtain ⟨⟨m9, h10⟩, hj4, hs⟩ := qv_bind hs
  dsimp only at hs
  have K3 : qv_J l g mX9_way 24 [none, none, none] [.int m9] h10 (some (.int r), hz) := by
    obtain ⟨rfl, rfl⟩ := qv_pr hs
    exact qv_iret dX9_way_24 rfl
  replace hs := hj4
  by_cases c5 : v2 = 0
  · have hs := qv_pos c5 hs
    refine qv_if_eq (tgt := 19) dX9_way_5 rfl (fun _ => ?_) (fun q => absurd c5 q)
    refine qv_aload_n dX9_way_19 (i := 0) rfl rfl ?_
    refine qv_iconst (v := (-1 : Int32)) dX9_way_20 rfl ?_
    obtain ⟨u3, e6, hs⟩ := qv_bind hs
    obtain ⟨⟨v4, h5⟩, e7, hs⟩ := qv_bind hs
    dsimp only at hs
    refine qv_cV (d2 := mX9_no) (o := a0) (ci := 8) (r := some (.int v4)) (h2 := h5) (av := [.int (-1 : Int32)]) (st := []) dX9_way_21 qM_X9_102 qD_X9_no e6 rfl rfl ⟨by decide, by decide⟩ rfl (Nat.le_of_ble_eq_true rfl) (Nat.le_of_ble_eq_true rfl) (sX9_no e7) rfl ?_
    cases hs
    exact qv_dp (qv_le_n (qv_le_n (qv_le_n qv_le_0))) K3
  · have hs := qv_neg c5 hs
    refine qv_if_eq (tgt := 19) dX9_way_5 rfl (fun q => absurd q c5) (fun _ => ?_)
    refine qv_aload_n dX9_way_8 (i := 0) rfl rfl ?_
    refine qv_iconst (v := (4 : Int32)) dX9_way_9 rfl ?_
    refine qv_iload_n dX9_way_10 (i := 1) rfl rfl ?_
    refine qv_iadd dX9_way_11 ?_
    refine qv_iload_n dX9_way_12 (i := 2) rfl rfl ?_
    obtain ⟨u6, e8, hs⟩ := qv_bind hs
    obtain ⟨⟨v7, h8⟩, e9, hs⟩ := qv_bind hs
    dsimp only at hs
    refine qv_cV (d2 := mX9_finds) (o := a0) (ci := 8) (r := some (.int v7)) (h2 := h8) (av := [.int ((4 : Int32) + a1), .int a2]) (st := []) dX9_way_13 qM_X9_236 qD_X9_finds e8 rfl rfl ⟨by decide, by decide⟩ rfl (Nat.le_of_ble_eq_true rfl) (Nat.le_of_ble_eq_true rfl) (sX9_finds e9) rfl ?_
    refine qv_goto (tgt := 24) dX9_way_16 rfl ?_
    cases hs
    exact qv_dp (qv_le_n (qv_le_n (qv_le_n qv_le_0))) K3
theorem qD_X9_way : qv_DV mX9_way 2 := ⟨(qv_i16 (List.mem_of_getElem? (i := 9) (by decide +kernel))), (qv_i16 (List.mem_of_getElem? (i := 10) (by decide +kernel))), (qv_i1 (List.mem_of_getElem? (i := 14) (by decide +kernel))), (qv_i16 (List.mem_of_getElem? (i := 11) (by decide +kernel))), by decide +kernel, by decide +kernel⟩
/-- TrueOneWayModel.forget()I -/
noncomputable def fX9_forget (a0 : Nat) (h : qv_H) : Option (Int32 × qv_H) :=
  (qv_gI h 8 a0 17).bind fun v1 =>
  if v1 = 0 then
    (qv_ob h 8 a0).bind fun _ =>
    (fX9_no a0 (-3 : Int32) h).bind fun (v6, h7) =>
    some (v6, h7)
  else
    (qv_gI h 8 a0 17).bind fun v2 =>
    (qv_pI h 8 a0 17 (v2 - (1 : Int32))).bind fun h3 =>
    (qv_gI h3 8 a0 17).bind fun v4 =>
    some (v4, h3)
abbrev mX9_forget : qv_M := (yX9_forget, cX9_forget, 1, (Option.some Jvm.ClassFile.FieldType.int), 1, 21)
set_option maxRecDepth 100000 in
set_option maxHeartbeats 4000000 in
theorem sX9_forget {l : Launch} {g : qv_G} {a0 : Nat} {h : qv_H} {r : Int32} {hz : qv_H} (hs : fX9_forget a0 h = some (r, hz)) : qv_J l g mX9_forget 0 [some (.ref a0)] [] h (some (.int r), hz) := by
  unfold fX9_forget at hs
  refine qv_aload_n dX9_forget_0 (i := 0) rfl rfl ?_
  obtain ⟨v1, e1, hs⟩ := qv_bind hs
  refine qv_getI dX9_forget_1 qF_X9_186 e1 ?_
  by_cases c2 : v1 = 0
  · have hs := qv_pos c2 hs
    refine qv_if_ne (tgt := 14) dX9_forget_4 rfl (fun q => absurd c2 q) (fun _ => ?_)
    refine qv_aload_n dX9_forget_7 (i := 0) rfl rfl ?_
    refine qv_bipush (v := (-3 : Int32)) dX9_forget_8 rfl ?_
    obtain ⟨u5, e3, hs⟩ := qv_bind hs
    obtain ⟨⟨v6, h7⟩, e4, hs⟩ := qv_bind hs
    dsimp only at hs
    refine qv_cV (d2 := mX9_no) (o := a0) (ci := 8) (r := some (.int v6)) (h2 := h7) (av := [.int (-3 : Int32)]) (st := []) dX9_forget_10 qM_X9_102 qD_X9_no e3 rfl rfl ⟨by decide, by decide⟩ rfl (Nat.le_of_ble_eq_true rfl) (Nat.le_of_ble_eq_true rfl) (sX9_no e4) rfl ?_
    obtain ⟨rfl, rfl⟩ := qv_pr hs
    exact qv_iret dX9_forget_13 rfl
  · have hs := qv_neg c2 hs
    refine qv_if_ne (tgt := 14) dX9_forget_4 rfl (fun _ => ?_) (fun q => absurd q c2)
    refine qv_aload_n dX9_forget_14 (i := 0) rfl rfl ?_
    refine qv_dup dX9_forget_15 rfl ?_
    obtain ⟨v2, e5, hs⟩ := qv_bind hs
    refine qv_getI dX9_forget_16 qF_X9_186 e5 ?_
    refine qv_iconst (v := (1 : Int32)) dX9_forget_19 rfl ?_
    refine qv_isub dX9_forget_20 ?_
    obtain ⟨h3, e6, hs⟩ := qv_bind hs
    refine qv_putI dX9_forget_21 qF_X9_186 e6 ?_
    refine qv_aload_n dX9_forget_24 (i := 0) rfl rfl ?_
    obtain ⟨v4, e7, hs⟩ := qv_bind hs
    refine qv_getI dX9_forget_25 qF_X9_186 e7 ?_
    obtain ⟨rfl, rfl⟩ := qv_pr hs
    exact qv_iret dX9_forget_28 rfl
theorem qD_X9_forget : qv_DV mX9_forget 0 := ⟨(qv_i16 (List.mem_of_getElem? (i := 13) (by decide +kernel))), (qv_i16 (List.mem_of_getElem? (i := 14) (by decide +kernel))), (qv_i1 (List.mem_of_getElem? (i := 14) (by decide +kernel))), (qv_i16 (List.mem_of_getElem? (i := 15) (by decide +kernel))), by decide +kernel, by decide +kernel⟩
/-- TrueOneWayModel.openFacts()I -/
noncomputable def fX9_openFacts (a0 : Nat) (h : qv_H) : Option (Int32) :=
  (qv_ob h 8 a0).bind fun _ =>
  (fX9_allFacts a0 h).bind fun v2 =>
  (qv_ob h 8 a0).bind fun _ =>
  (fX9_inAll a0 h).bind fun v4 =>
  (qv_ob h 8 a0).bind fun _ =>
  (fX9_inNone a0 h).bind fun v6 =>
  some ((v2 &&& (v4 ^^^ (-1 : Int32))) &&& (v6 ^^^ (-1 : Int32)))
abbrev mX9_openFacts : qv_M := (yX9_openFacts, cX9_openFacts, 1, (Option.some Jvm.ClassFile.FieldType.int), 1, 22)
set_option maxRecDepth 100000 in
set_option maxHeartbeats 4000000 in
theorem sX9_openFacts {l : Launch} {g : qv_G} {a0 : Nat} {h : qv_H} {r : Int32} (hs : fX9_openFacts a0 h = some r) : qv_J l g mX9_openFacts 0 [some (.ref a0)] [] h (some (.int r), h) := by
  unfold fX9_openFacts at hs
  refine qv_aload_n dX9_openFacts_0 (i := 0) rfl rfl ?_
  obtain ⟨u1, e1, hs⟩ := qv_bind hs
  obtain ⟨v2, e2, hs⟩ := qv_bind hs
  refine qv_cV (d2 := mX9_allFacts) (o := a0) (ci := 8) (r := some (.int v2)) (h2 := h) (av := []) (st := []) dX9_openFacts_1 qM_X9_195 qD_X9_allFacts e1 rfl rfl ⟨by decide, by decide⟩ rfl (Nat.le_of_ble_eq_true rfl) (Nat.le_of_ble_eq_true rfl) (sX9_allFacts e2) rfl ?_
  refine qv_aload_n dX9_openFacts_4 (i := 0) rfl rfl ?_
  obtain ⟨u3, e3, hs⟩ := qv_bind hs
  obtain ⟨v4, e4, hs⟩ := qv_bind hs
  refine qv_cV (d2 := mX9_inAll) (o := a0) (ci := 8) (r := some (.int v4)) (h2 := h) (av := []) (st := [.int v2]) dX9_openFacts_5 qM_X9_239 qD_X9_inAll e3 rfl rfl ⟨by decide, by decide⟩ rfl (Nat.le_of_ble_eq_true rfl) (Nat.le_of_ble_eq_true rfl) (sX9_inAll e4) rfl ?_
  refine qv_iconst (v := (-1 : Int32)) dX9_openFacts_8 rfl ?_
  refine qv_ixor dX9_openFacts_9 ?_
  refine qv_iand dX9_openFacts_10 ?_
  refine qv_aload_n dX9_openFacts_11 (i := 0) rfl rfl ?_
  obtain ⟨u5, e5, hs⟩ := qv_bind hs
  obtain ⟨v6, e6, hs⟩ := qv_bind hs
  refine qv_cV (d2 := mX9_inNone) (o := a0) (ci := 8) (r := some (.int v6)) (h2 := h) (av := []) (st := [.int (v2 &&& (v4 ^^^ (-1 : Int32)))]) dX9_openFacts_12 qM_X9_242 qD_X9_inNone e5 rfl rfl ⟨by decide, by decide⟩ rfl (Nat.le_of_ble_eq_true rfl) (Nat.le_of_ble_eq_true rfl) (sX9_inNone e6) rfl ?_
  refine qv_iconst (v := (-1 : Int32)) dX9_openFacts_15 rfl ?_
  refine qv_ixor dX9_openFacts_16 ?_
  refine qv_iand dX9_openFacts_17 ?_
  obtain rfl := qv_sm hs
  exact qv_iret dX9_openFacts_18 rfl
theorem qD_X9_openFacts : qv_DV mX9_openFacts 0 := ⟨(qv_i16 (List.mem_of_getElem? (i := 41) (by decide +kernel))), (qv_i0 (List.mem_of_getElem? (i := 52) (by decide +kernel))), (qv_i1 (List.mem_of_getElem? (i := 14) (by decide +kernel))), (qv_i16 (List.mem_of_getElem? (i := 42) (by decide +kernel))), by decide +kernel, by decide +kernel⟩
/-- TrueOneWayModel.sure(I)I -/
noncomputable def fX9_sure (a0 : Nat) (a1 : Int32) (h : qv_H) : Option (Int32 × qv_H) :=
  (fX9_isIn a1 (0 : Int32) (5 : Int32)).bind fun v1 =>
  if v1 = 0 then
    (qv_ob h 8 a0).bind fun _ =>
    (fX9_no a0 (-2 : Int32) h).bind fun (v19, h20) =>
    some (v19, h20)
  else
    (qv_ob h 8 a0).bind fun _ =>
    (fX9_findWorlds a0 (0 : Int32) h).bind fun h3 =>
    Option.bind (α := Int32) (
        if (a1 - a1 / (3 : Int32) * (3 : Int32)) = 0 then
          (qv_ob h3 8 a0).bind fun _ =>
          (fX9_inAll a0 h3).bind fun v11 =>
          some v11
        else
          if (a1 - a1 / (3 : Int32) * (3 : Int32)) = (1 : Int32) then
            (qv_ob h3 8 a0).bind fun _ =>
            (fX9_inNone a0 h3).bind fun v9 =>
            some v9
          else
            (qv_ob h3 8 a0).bind fun _ =>
            (fX9_inAll a0 h3).bind fun v5 =>
            (qv_ob h3 8 a0).bind fun _ =>
            (fX9_inNone a0 h3).bind fun v7 =>
            some ((v5 ^^^ (-1 : Int32)) &&& (v7 ^^^ (-1 : Int32)))
      ) fun m12 =>
    Option.bind (α := Int32) (
        if (3 : Int32) ≤ a1 then
          (qv_ob h3 8 a0).bind fun _ =>
          (fX9_allSigns a0 h3).bind fun v14 =>
          some ((m12 >>> ((4 : Int32) &&& 31)) &&& v14)
        else
          (qv_ob h3 8 a0).bind fun _ =>
          (fX9_allFacts a0 h3).bind fun v16 =>
          some (m12 &&& v16)
      ) fun m17 =>
    some (m17, h3)
abbrev mX9_sure : qv_M := (yX9_sure, cX9_sure, 3, (Option.some Jvm.ClassFile.FieldType.int), 4, 91)
set_option maxRecDepth 100000 in
set_option maxHeartbeats 4000000 in
theorem sX9_sure {l : Launch} {g : qv_G} {a0 : Nat} {a1 : Int32} {h : qv_H} {r : Int32} {hz : qv_H} (hs : fX9_sure a0 a1 h = some (r, hz)) : qv_J l g mX9_sure 0 [some (.ref a0), some (.int a1), none] [] h (some (.int r), hz) := by
  unfold fX9_sure at hs
  refine qv_iload_n dX9_sure_0 (i := 1) rfl rfl ?_
  refine qv_iconst (v := (0 : Int32)) dX9_sure_1 rfl ?_
  refine qv_iconst (v := (5 : Int32)) dX9_sure_2 rfl ?_
  obtain ⟨v1, e1, hs⟩ := qv_bind hs
  refine qv_cS (d2 := mX9_isIn) (r := some (.int v1)) (h2 := h) (av := [.int a1, .int (0 : Int32), .int (5 : Int32)]) (st := []) dX9_sure_3 qM_X9_113 qD_X9_isIn rfl ⟨by decide, by decide⟩ rfl (Nat.le_of_ble_eq_true rfl) (Nat.le_of_ble_eq_true rfl) (sX9_isIn e1) rfl ?_
  by_cases c2 : v1 = 0
  · have hs := qv_pos c2 hs
    refine qv_if_ne (tgt := 16) dX9_sure_6 rfl (fun q => absurd c2 q) (fun _ => ?_)
    refine qv_aload_n dX9_sure_9 (i := 0) rfl rfl ?_
    refine qv_bipush (v := (-2 : Int32)) dX9_sure_10 rfl ?_
    obtain ⟨u18, e3, hs⟩ := qv_bind hs
    obtain ⟨⟨v19, h20⟩, e4, hs⟩ := qv_bind hs
    dsimp only at hs
    refine qv_cV (d2 := mX9_no) (o := a0) (ci := 8) (r := some (.int v19)) (h2 := h20) (av := [.int (-2 : Int32)]) (st := []) dX9_sure_12 qM_X9_102 qD_X9_no e3 rfl rfl ⟨by decide, by decide⟩ rfl (Nat.le_of_ble_eq_true rfl) (Nat.le_of_ble_eq_true rfl) (sX9_no e4) rfl ?_
    obtain ⟨rfl, rfl⟩ := qv_pr hs
    exact qv_iret dX9_sure_15 rfl
  · have hs := qv_neg c2 hs
    refine qv_if_ne (tgt := 16) dX9_sure_6 rfl (fun _ => ?_) (fun q => absurd q c2)
    refine qv_aload_n dX9_sure_16 (i := 0) rfl rfl ?_
    refine qv_iconst (v := (0 : Int32)) dX9_sure_17 rfl ?_
    obtain ⟨u2, e5, hs⟩ := qv_bind hs
    obtain ⟨h3, e6, hs⟩ := qv_bind hs
    refine qv_cV (d2 := mX9_findWorlds) (o := a0) (ci := 8) (r := none) (h2 := h3) (av := [.int (0 : Int32)]) (st := []) dX9_sure_18 qM_X9_232 qD_X9_findWorlds e5 rfl rfl ⟨by decide, by decide⟩ rfl (Nat.le_of_ble_eq_true rfl) (Nat.le_of_ble_eq_true rfl) (sX9_findWorlds e6) rfl ?_
    refine qv_iload_n dX9_sure_21 (i := 1) rfl rfl ?_
    refine qv_iconst (v := (3 : Int32)) dX9_sure_22 rfl ?_
    refine qv_irem dX9_sure_23 (by decide) ?_
    obtain ⟨m12, hj8, hs⟩ := qv_bind hs
    have K7 : qv_J l g mX9_sure 61 [some (.ref a0), some (.int a1), none] [.int m12] h3 (some (.int r), hz) := by
      refine qv_istore_n (lo2 := [some (.ref a0), some (.int a1), some (.int m12)]) dX9_sure_61 (i := 2) rfl (by decide) rfl (Nat.le_of_ble_eq_true rfl) rfl ?_
      refine qv_iload_n dX9_sure_62 (i := 1) rfl rfl ?_
      refine qv_iconst (v := (3 : Int32)) dX9_sure_63 rfl ?_
      obtain ⟨m17, hj10, hs⟩ := qv_bind hs
      have K9 : qv_J l g mX9_sure 84 [none, none, none] [.int m17] h3 (some (.int r), hz) := by
        obtain ⟨rfl, rfl⟩ := qv_pr hs
        exact qv_iret dX9_sure_84 rfl
      replace hs := hj10
      by_cases c11 : (3 : Int32) ≤ a1
      · have hs := qv_pos c11 hs
        refine qv_icmp_ge (tgt := 76) dX9_sure_64 rfl (fun _ => ?_) (fun q => absurd c11 q)
        refine qv_iload_n dX9_sure_76 (i := 2) rfl rfl ?_
        refine qv_iconst (v := (4 : Int32)) dX9_sure_77 rfl ?_
        refine qv_ishr dX9_sure_78 ?_
        refine qv_aload_n dX9_sure_79 (i := 0) rfl rfl ?_
        obtain ⟨u13, e12, hs⟩ := qv_bind hs
        obtain ⟨v14, e13, hs⟩ := qv_bind hs
        refine qv_cV (d2 := mX9_allSigns) (o := a0) (ci := 8) (r := some (.int v14)) (h2 := h3) (av := []) (st := [.int (m12 >>> ((4 : Int32) &&& 31))]) dX9_sure_80 qM_X9_198 qD_X9_allSigns e12 rfl rfl ⟨by decide, by decide⟩ rfl (Nat.le_of_ble_eq_true rfl) (Nat.le_of_ble_eq_true rfl) (sX9_allSigns e13) rfl ?_
        refine qv_iand dX9_sure_83 ?_
        cases hs
        exact qv_dp (qv_le_n (qv_le_n (qv_le_n qv_le_0))) K9
      · have hs := qv_neg c11 hs
        refine qv_icmp_ge (tgt := 76) dX9_sure_64 rfl (fun q => absurd q c11) (fun _ => ?_)
        refine qv_iload_n dX9_sure_67 (i := 2) rfl rfl ?_
        refine qv_aload_n dX9_sure_68 (i := 0) rfl rfl ?_
        obtain ⟨u15, e14, hs⟩ := qv_bind hs
        obtain ⟨v16, e15, hs⟩ := qv_bind hs
        refine qv_cV (d2 := mX9_allFacts) (o := a0) (ci := 8) (r := some (.int v16)) (h2 := h3) (av := []) (st := [.int m12]) dX9_sure_69 qM_X9_195 qD_X9_allFacts e14 rfl rfl ⟨by decide, by decide⟩ rfl (Nat.le_of_ble_eq_true rfl) (Nat.le_of_ble_eq_true rfl) (sX9_allFacts e15) rfl ?_
        refine qv_iand dX9_sure_72 ?_
        refine qv_goto (tgt := 84) dX9_sure_73 rfl ?_
        cases hs
        exact qv_dp (qv_le_n (qv_le_n (qv_le_n qv_le_0))) K9
    replace hs := hj8
    by_cases c16 : (a1 - a1 / (3 : Int32) * (3 : Int32)) = 0
    · have hs := qv_pos c16 hs
      refine qv_if_ne (tgt := 34) dX9_sure_24 rfl (fun q => absurd c16 q) (fun _ => ?_)
      refine qv_aload_n dX9_sure_27 (i := 0) rfl rfl ?_
      obtain ⟨u10, e17, hs⟩ := qv_bind hs
      obtain ⟨v11, e18, hs⟩ := qv_bind hs
      refine qv_cV (d2 := mX9_inAll) (o := a0) (ci := 8) (r := some (.int v11)) (h2 := h3) (av := []) (st := []) dX9_sure_28 qM_X9_239 qD_X9_inAll e17 rfl rfl ⟨by decide, by decide⟩ rfl (Nat.le_of_ble_eq_true rfl) (Nat.le_of_ble_eq_true rfl) (sX9_inAll e18) rfl ?_
      refine qv_goto (tgt := 61) dX9_sure_31 rfl ?_
      cases hs
      exact qv_dp (qv_le_s (qv_le_s (qv_le_n qv_le_0))) K7
    · have hs := qv_neg c16 hs
      refine qv_if_ne (tgt := 34) dX9_sure_24 rfl (fun _ => ?_) (fun q => absurd q c16)
      refine qv_iload_n dX9_sure_34 (i := 1) rfl rfl ?_
      refine qv_iconst (v := (3 : Int32)) dX9_sure_35 rfl ?_
      refine qv_irem dX9_sure_36 (by decide) ?_
      refine qv_iconst (v := (1 : Int32)) dX9_sure_37 rfl ?_
      by_cases c19 : (a1 - a1 / (3 : Int32) * (3 : Int32)) = (1 : Int32)
      · have hs := qv_pos c19 hs
        refine qv_icmp_ne (tgt := 48) dX9_sure_38 rfl (fun q => absurd c19 q) (fun _ => ?_)
        refine qv_aload_n dX9_sure_41 (i := 0) rfl rfl ?_
        obtain ⟨u8, e20, hs⟩ := qv_bind hs
        obtain ⟨v9, e21, hs⟩ := qv_bind hs
        refine qv_cV (d2 := mX9_inNone) (o := a0) (ci := 8) (r := some (.int v9)) (h2 := h3) (av := []) (st := []) dX9_sure_42 qM_X9_242 qD_X9_inNone e20 rfl rfl ⟨by decide, by decide⟩ rfl (Nat.le_of_ble_eq_true rfl) (Nat.le_of_ble_eq_true rfl) (sX9_inNone e21) rfl ?_
        refine qv_goto (tgt := 61) dX9_sure_45 rfl ?_
        cases hs
        exact qv_dp (qv_le_s (qv_le_s (qv_le_n qv_le_0))) K7
      · have hs := qv_neg c19 hs
        refine qv_icmp_ne (tgt := 48) dX9_sure_38 rfl (fun _ => ?_) (fun q => absurd q c19)
        refine qv_aload_n dX9_sure_48 (i := 0) rfl rfl ?_
        obtain ⟨u4, e22, hs⟩ := qv_bind hs
        obtain ⟨v5, e23, hs⟩ := qv_bind hs
        refine qv_cV (d2 := mX9_inAll) (o := a0) (ci := 8) (r := some (.int v5)) (h2 := h3) (av := []) (st := []) dX9_sure_49 qM_X9_239 qD_X9_inAll e22 rfl rfl ⟨by decide, by decide⟩ rfl (Nat.le_of_ble_eq_true rfl) (Nat.le_of_ble_eq_true rfl) (sX9_inAll e23) rfl ?_
        refine qv_iconst (v := (-1 : Int32)) dX9_sure_52 rfl ?_
        refine qv_ixor dX9_sure_53 ?_
        refine qv_aload_n dX9_sure_54 (i := 0) rfl rfl ?_
        obtain ⟨u6, e24, hs⟩ := qv_bind hs
        obtain ⟨v7, e25, hs⟩ := qv_bind hs
        refine qv_cV (d2 := mX9_inNone) (o := a0) (ci := 8) (r := some (.int v7)) (h2 := h3) (av := []) (st := [.int (v5 ^^^ (-1 : Int32))]) dX9_sure_55 qM_X9_242 qD_X9_inNone e24 rfl rfl ⟨by decide, by decide⟩ rfl (Nat.le_of_ble_eq_true rfl) (Nat.le_of_ble_eq_true rfl) (sX9_inNone e25) rfl ?_
        refine qv_iconst (v := (-1 : Int32)) dX9_sure_58 rfl ?_
        refine qv_ixor dX9_sure_59 ?_
        refine qv_iand dX9_sure_60 ?_
        cases hs
        exact qv_dp (qv_le_s (qv_le_s (qv_le_n qv_le_0))) K7
theorem qD_X9_sure : qv_DV mX9_sure 1 := ⟨(qv_i16 (List.mem_of_getElem? (i := 17) (by decide +kernel))), (qv_i16 (List.mem_of_getElem? (i := 18) (by decide +kernel))), (qv_i1 (List.mem_of_getElem? (i := 14) (by decide +kernel))), (qv_i16 (List.mem_of_getElem? (i := 19) (by decide +kernel))), by decide +kernel, by decide +kernel⟩
/-- TrueOneWayModel.bits(I)I -/
noncomputable def fX9_bits (a0 : Int32) : Option (Int32) :=
  Option.bind (qv_loop (σ := Int32 × Int32) (ρ := Int32) (fun (x1, x2) =>
      if (31 : Int32) ≤ x2 then
        some (.inr x1)
      else
        some (.inl (x1 + ((a0 >>> (x2 &&& 31)) &&& (1 : Int32)), x2 + (1 : Int32)))
    ) ((0 : Int32), (0 : Int32))) fun y3 =>
  some y3
abbrev mX9_bits : qv_M := (yX9_bits, cX9_bits, 3, (Option.some Jvm.ClassFile.FieldType.int), 0, 0)
set_option maxRecDepth 100000 in
set_option maxHeartbeats 4000000 in
theorem sX9_bits {l : Launch} {g : qv_G} {a0 : Int32} {h : qv_H} {r : Int32} (hs : fX9_bits a0 = some r) : qv_J l g mX9_bits 0 [some (.int a0), none, none] [] h (some (.int r), h) := by
  unfold fX9_bits at hs
  refine qv_iconst (v := (0 : Int32)) dX9_bits_0 rfl ?_
  refine qv_istore_n (lo2 := [some (.int a0), some (.int (0 : Int32)), none]) dX9_bits_1 (i := 1) rfl (by decide) rfl (Nat.le_of_ble_eq_true rfl) rfl ?_
  refine qv_iconst (v := (0 : Int32)) dX9_bits_2 rfl ?_
  refine qv_istore_n (lo2 := [some (.int a0), some (.int (0 : Int32)), some (.int (0 : Int32))]) dX9_bits_3 (i := 2) rfl (by decide) rfl (Nat.le_of_ble_eq_true rfl) rfl ?_
  obtain ⟨y3, e2, hs⟩ := qv_bind hs
  have K1 : qv_J l g mX9_bits 24 [none, some (.int y3), none] [] h (some (.int r), h) := by
    refine qv_iload_n dX9_bits_24 (i := 1) rfl rfl ?_
    obtain rfl := qv_sm hs
    exact qv_iret dX9_bits_25 rfl
  obtain ⟨n8, e2⟩ := qv_loop_of e2
  refine qv_dp (qv_le_s (qv_le_s (qv_le_s qv_le_0))) (?_ : qv_J l g mX9_bits 4 [some (.int a0), some (.int (0 : Int32)), some (.int (0 : Int32))] [] h (some (.int r), h))
  revert e2
  suffices lj7 : ∀ (x1 : Int32) (x2 : Int32), qv_it _ n8 (x1, x2) = some y3 → qv_J l g mX9_bits 4 [some (.int a0), some (.int x1), some (.int x2)] [] h (some (.int r), h) from lj7 (0 : Int32) (0 : Int32)
  induction n8 with
  | zero =>
    intro x1 x2 e2
    cases e2
  | succ n8 ih4 =>
    intro x1 x2 e2
    obtain ⟨_, hs, eb5⟩ := qv_it_s e2
    dsimp only at hs
    refine qv_iload_n dX9_bits_4 (i := 2) rfl rfl ?_
    refine qv_bipush (v := (31 : Int32)) dX9_bits_5 rfl ?_
    by_cases c9 : (31 : Int32) ≤ x2
    · have hs := qv_pos c9 hs
      refine qv_icmp_ge (tgt := 24) dX9_bits_7 rfl (fun _ => ?_) (fun q => absurd c9 q)
      cases hs
      cases qv_nx_r eb5
      exact qv_dp (qv_le_n (qv_le_s (qv_le_n qv_le_0))) K1
    · have hs := qv_neg c9 hs
      refine qv_icmp_ge (tgt := 24) dX9_bits_7 rfl (fun q => absurd q c9) (fun _ => ?_)
      refine qv_iload_n dX9_bits_10 (i := 1) rfl rfl ?_
      refine qv_iload_n dX9_bits_11 (i := 0) rfl rfl ?_
      refine qv_iload_n dX9_bits_12 (i := 2) rfl rfl ?_
      refine qv_ishr dX9_bits_13 ?_
      refine qv_iconst (v := (1 : Int32)) dX9_bits_14 rfl ?_
      refine qv_iand dX9_bits_15 ?_
      refine qv_iadd dX9_bits_16 ?_
      refine qv_istore_n (lo2 := [some (.int a0), some (.int (x1 + ((a0 >>> (x2 &&& 31)) &&& (1 : Int32)))), some (.int x2)]) dX9_bits_17 (i := 1) rfl (by decide) rfl (Nat.le_of_ble_eq_true rfl) rfl ?_
      refine qv_iinc (v := x2 + (1 : Int32)) (lo2 := [some (.int a0), some (.int (x1 + ((a0 >>> (x2 &&& 31)) &&& (1 : Int32)))), some (.int (x2 + (1 : Int32)))]) dX9_bits_18 rfl rfl (by decide) rfl rfl ?_
      refine qv_goto (tgt := 4) dX9_bits_21 rfl ?_
      cases hs
      exact qv_dp (qv_le_s (qv_le_s (qv_le_s qv_le_0))) (ih4 _ _ (qv_nx_l eb5))
theorem qD_X9_bits : qv_DS mX9_bits 1 := ⟨(qv_i16 (List.mem_of_getElem? (i := 31) (by decide +kernel))), (qv_i1 (List.mem_of_getElem? (i := 14) (by decide +kernel))), (qv_i16 (List.mem_of_getElem? (i := 32) (by decide +kernel))), by decide +kernel, by decide +kernel⟩
/-- TrueOneWayModel.canBe(I)Z -/
noncomputable def fX9_canBe (a0 : Nat) (a1 : Int32) (h : qv_H) : Option (Int32) :=
  Option.bind (qv_loop (σ := Int32) (ρ := (Unit) ⊕ (Int32)) (fun x1 =>
      if (1024 : Int32) ≤ x1 then
        some (.inr (.inl ()))
      else
        (qv_ob h 8 a0).bind fun _ =>
        (fX9_isWorld a0 x1 h).bind fun v3 =>
        if v3 = 0 then
          some (.inl (x1 + (1 : Int32)))
        else
          (qv_ob h 8 a0).bind fun _ =>
          (fX9_wrongs a0 x1 h).bind fun v5 =>
          if v5 = 0 then
            (qv_ob h 8 a0).bind fun _ =>
            (fX9_areFoundSo a0 a1 x1 h).bind fun v7 =>
            if v7 = 0 then
              some (.inl (x1 + (1 : Int32)))
            else
              some (.inr (.inr (1 : Int32)))
          else
            some (.inl (x1 + (1 : Int32)))
    ) (0 : Int32)) fun q => match q with
  | .inl _ =>
    some (0 : Int32)
  | .inr q => some q
abbrev mX9_canBe : qv_M := (yX9_canBe, cX9_canBe, 3, (Option.some Jvm.ClassFile.FieldType.boolean), 3, 69)
set_option maxRecDepth 100000 in
set_option maxHeartbeats 4000000 in
theorem sX9_canBe {l : Launch} {g : qv_G} {a0 : Nat} {a1 : Int32} {h : qv_H} {r : Int32} (hs : fX9_canBe a0 a1 h = some r) : qv_J l g mX9_canBe 0 [some (.ref a0), some (.int a1), none] [] h (some (.int r), h) := by
  unfold fX9_canBe at hs
  refine qv_iconst (v := (0 : Int32)) dX9_canBe_0 rfl ?_
  refine qv_istore_n (lo2 := [some (.ref a0), some (.int a1), some (.int (0 : Int32))]) dX9_canBe_1 (i := 2) rfl (by decide) rfl (Nat.le_of_ble_eq_true rfl) rfl ?_
  obtain ⟨q6, e2, hA3⟩ := qv_bind hs
  have K1 : ∀ (_ : Unit), q6 = .inl () → qv_J l g mX9_canBe 42 [none, none, none] [] h (some (.int r), h) := by
    intro _ eq9
    subst eq9
    have hs := hA3
    dsimp only at hs
    refine qv_iconst (v := (0 : Int32)) dX9_canBe_42 rfl ?_
    obtain rfl := qv_sm hs
    exact qv_zret dX9_canBe_43 rfl (by decide)
  obtain ⟨n8, e2⟩ := qv_loop_of e2
  refine qv_dp (qv_le_s (qv_le_s (qv_le_s qv_le_0))) (?_ : qv_J l g mX9_canBe 2 [some (.ref a0), some (.int a1), some (.int (0 : Int32))] [] h (some (.int r), h))
  revert e2
  suffices lj7 : ∀ (x1 : Int32), qv_it _ n8 x1 = some q6 → qv_J l g mX9_canBe 2 [some (.ref a0), some (.int a1), some (.int x1)] [] h (some (.int r), h) from lj7 (0 : Int32)
  induction n8 with
  | zero =>
    intro x1 e2
    cases e2
  | succ n8 ih4 =>
    intro x1 e2
    obtain ⟨_, hs, eb5⟩ := qv_it_s e2
    refine qv_iload_n dX9_canBe_2 (i := 2) rfl rfl ?_
    refine qv_sipush (v := (1024 : Int32)) dX9_canBe_3 rfl ?_
    by_cases c10 : (1024 : Int32) ≤ x1
    · have hs := qv_pos c10 hs
      refine qv_icmp_ge (tgt := 42) dX9_canBe_6 rfl (fun _ => ?_) (fun q => absurd c10 q)
      cases hs
      cases qv_nx_r eb5
      exact qv_dp (qv_le_n (qv_le_n (qv_le_n qv_le_0))) (K1 () rfl)
    · have hs := qv_neg c10 hs
      refine qv_icmp_ge (tgt := 42) dX9_canBe_6 rfl (fun q => absurd q c10) (fun _ => ?_)
      refine qv_aload_n dX9_canBe_9 (i := 0) rfl rfl ?_
      refine qv_iload_n dX9_canBe_10 (i := 2) rfl rfl ?_
      obtain ⟨u2, e11, hs⟩ := qv_bind hs
      obtain ⟨v3, e12, hs⟩ := qv_bind hs
      refine qv_cV (d2 := mX9_isWorld) (o := a0) (ci := 8) (r := some (.int v3)) (h2 := h) (av := [.int x1]) (st := []) dX9_canBe_11 qM_X9_211 qD_X9_isWorld e11 rfl rfl ⟨by decide, by decide⟩ rfl (Nat.le_of_ble_eq_true rfl) (Nat.le_of_ble_eq_true rfl) (sX9_isWorld e12) rfl ?_
      by_cases c13 : v3 = 0
      · have hs := qv_pos c13 hs
        refine qv_if_eq (tgt := 36) dX9_canBe_14 rfl (fun _ => ?_) (fun q => absurd c13 q)
        refine qv_iinc (v := x1 + (1 : Int32)) (lo2 := [some (.ref a0), some (.int a1), some (.int (x1 + (1 : Int32)))]) dX9_canBe_36 rfl rfl (by decide) rfl rfl ?_
        refine qv_goto (tgt := 2) dX9_canBe_39 rfl ?_
        cases hs
        exact qv_dp (qv_le_s (qv_le_s (qv_le_s qv_le_0))) (ih4 _ (qv_nx_l eb5))
      · have hs := qv_neg c13 hs
        refine qv_if_eq (tgt := 36) dX9_canBe_14 rfl (fun q => absurd q c13) (fun _ => ?_)
        refine qv_aload_n dX9_canBe_17 (i := 0) rfl rfl ?_
        refine qv_iload_n dX9_canBe_18 (i := 2) rfl rfl ?_
        obtain ⟨u4, e14, hs⟩ := qv_bind hs
        obtain ⟨v5, e15, hs⟩ := qv_bind hs
        refine qv_cV (d2 := mX9_wrongs) (o := a0) (ci := 8) (r := some (.int v5)) (h2 := h) (av := [.int x1]) (st := []) dX9_canBe_19 qM_X9_214 qD_X9_wrongs e14 rfl rfl ⟨by decide, by decide⟩ rfl (Nat.le_of_ble_eq_true rfl) (Nat.le_of_ble_eq_true rfl) (sX9_wrongs e15) rfl ?_
        by_cases c16 : v5 = 0
        · have hs := qv_pos c16 hs
          refine qv_if_ne (tgt := 36) dX9_canBe_22 rfl (fun q => absurd c16 q) (fun _ => ?_)
          refine qv_aload_n dX9_canBe_25 (i := 0) rfl rfl ?_
          refine qv_iload_n dX9_canBe_26 (i := 1) rfl rfl ?_
          refine qv_iload_n dX9_canBe_27 (i := 2) rfl rfl ?_
          obtain ⟨u6, e17, hs⟩ := qv_bind hs
          obtain ⟨v7, e18, hs⟩ := qv_bind hs
          refine qv_cV (d2 := mX9_areFoundSo) (o := a0) (ci := 8) (r := some (.int v7)) (h2 := h) (av := [.int a1, .int x1]) (st := []) dX9_canBe_28 qM_X9_220 qD_X9_areFoundSo e17 rfl rfl ⟨by decide, by decide⟩ rfl (Nat.le_of_ble_eq_true rfl) (Nat.le_of_ble_eq_true rfl) (sX9_areFoundSo e18) rfl ?_
          by_cases c19 : v7 = 0
          · have hs := qv_pos c19 hs
            refine qv_if_eq (tgt := 36) dX9_canBe_31 rfl (fun _ => ?_) (fun q => absurd c19 q)
            refine qv_iinc (v := x1 + (1 : Int32)) (lo2 := [some (.ref a0), some (.int a1), some (.int (x1 + (1 : Int32)))]) dX9_canBe_36 rfl rfl (by decide) rfl rfl ?_
            refine qv_goto (tgt := 2) dX9_canBe_39 rfl ?_
            cases hs
            exact qv_dp (qv_le_s (qv_le_s (qv_le_s qv_le_0))) (ih4 _ (qv_nx_l eb5))
          · have hs := qv_neg c19 hs
            refine qv_if_eq (tgt := 36) dX9_canBe_31 rfl (fun q => absurd q c19) (fun _ => ?_)
            refine qv_iconst (v := (1 : Int32)) dX9_canBe_34 rfl ?_
            cases hs
            cases qv_nx_r eb5
            have hs := hA3
            dsimp only at hs
            obtain rfl := qv_sm hs
            exact qv_zret dX9_canBe_35 rfl (by decide)
        · have hs := qv_neg c16 hs
          refine qv_if_ne (tgt := 36) dX9_canBe_22 rfl (fun _ => ?_) (fun q => absurd q c16)
          refine qv_iinc (v := x1 + (1 : Int32)) (lo2 := [some (.ref a0), some (.int a1), some (.int (x1 + (1 : Int32)))]) dX9_canBe_36 rfl rfl (by decide) rfl rfl ?_
          refine qv_goto (tgt := 2) dX9_canBe_39 rfl ?_
          cases hs
          exact qv_dp (qv_le_s (qv_le_s (qv_le_s qv_le_0))) (ih4 _ (qv_nx_l eb5))
theorem qD_X9_canBe : qv_DV mX9_canBe 1 := ⟨(qv_i16 (List.mem_of_getElem? (i := 34) (by decide +kernel))), (qv_i0 (List.mem_of_getElem? (i := 51) (by decide +kernel))), (qv_i1 (List.mem_of_getElem? (i := 14) (by decide +kernel))), (qv_i16 (List.mem_of_getElem? (i := 35) (by decide +kernel))), by decide +kernel, by decide +kernel⟩
/-- TrueOneWayModel.proof()I -/
noncomputable def fX9_proof (a0 : Nat) (h : qv_H) : Option (Int32 × qv_H) :=
  (qv_ob h 8 a0).bind fun _ =>
  (fX9_findWorlds a0 (0 : Int32) h).bind fun h2 =>
  (qv_gI h2 8 a0 33).bind fun v3 =>
  if v3 ≤ 0 then
    (qv_ob h2 8 a0).bind fun _ =>
    (fX9_allFound a0 h2).bind fun v5 =>
    (qv_ob h2 8 a0).bind fun _ =>
    (fX9_allFound a0 h2).bind fun v7 =>
    Option.bind (qv_loop (σ := Int32 × Int32) (ρ := Int32) (fun (x8, x9) =>
        if x9 < 0 then
          some (.inr x8)
        else
          (fX9_bits x9).bind fun v10 =>
          (fX9_bits x8).bind fun v11 =>
          Option.bind (α := Int32) (
              if v11 < v10 then
                some x8
              else
                (qv_ob h2 8 a0).bind fun _ =>
                (fX9_canBe a0 x9 h2).bind fun v13 =>
                if v13 = 0 then
                  some x9
                else
                  some x8
            ) fun m14 =>
          some (.inl (m14, x9 + (-1 : Int32)))
      ) (v5, v7)) fun y15 =>
    some (y15, h2)
  else
    some ((0 : Int32), h2)
abbrev mX9_proof : qv_M := (yX9_proof, cX9_proof, 3, (Option.some Jvm.ClassFile.FieldType.int), 4, 91)
set_option maxRecDepth 100000 in
set_option maxHeartbeats 4000000 in
theorem sX9_proof {l : Launch} {g : qv_G} {a0 : Nat} {h : qv_H} {r : Int32} {hz : qv_H} (hs : fX9_proof a0 h = some (r, hz)) : qv_J l g mX9_proof 0 [some (.ref a0), none, none] [] h (some (.int r), hz) := by
  unfold fX9_proof at hs
  refine qv_aload_n dX9_proof_0 (i := 0) rfl rfl ?_
  refine qv_iconst (v := (0 : Int32)) dX9_proof_1 rfl ?_
  obtain ⟨u1, e1, hs⟩ := qv_bind hs
  obtain ⟨h2, e2, hs⟩ := qv_bind hs
  refine qv_cV (d2 := mX9_findWorlds) (o := a0) (ci := 8) (r := none) (h2 := h2) (av := [.int (0 : Int32)]) (st := []) dX9_proof_2 qM_X9_232 qD_X9_findWorlds e1 rfl rfl ⟨by decide, by decide⟩ rfl (Nat.le_of_ble_eq_true rfl) (Nat.le_of_ble_eq_true rfl) (sX9_findWorlds e2) rfl ?_
  refine qv_aload_n dX9_proof_5 (i := 0) rfl rfl ?_
  obtain ⟨v3, e3, hs⟩ := qv_bind hs
  refine qv_getI dX9_proof_6 qF_X9_223 e3 ?_
  by_cases c4 : v3 ≤ 0
  · have hs := qv_pos c4 hs
    refine qv_if_le (tgt := 14) dX9_proof_9 rfl (fun _ => ?_) (fun q => absurd c4 q)
    refine qv_aload_n dX9_proof_14 (i := 0) rfl rfl ?_
    obtain ⟨u4, e5, hs⟩ := qv_bind hs
    obtain ⟨v5, e6, hs⟩ := qv_bind hs
    refine qv_cV (d2 := mX9_allFound) (o := a0) (ci := 8) (r := some (.int v5)) (h2 := h2) (av := []) (st := []) dX9_proof_15 qM_X9_217 qD_X9_allFound e5 rfl rfl ⟨by decide, by decide⟩ rfl (Nat.le_of_ble_eq_true rfl) (Nat.le_of_ble_eq_true rfl) (sX9_allFound e6) rfl ?_
    refine qv_istore_n (lo2 := [some (.ref a0), some (.int v5), none]) dX9_proof_18 (i := 1) rfl (by decide) rfl (Nat.le_of_ble_eq_true rfl) rfl ?_
    refine qv_aload_n dX9_proof_19 (i := 0) rfl rfl ?_
    obtain ⟨u6, e7, hs⟩ := qv_bind hs
    obtain ⟨v7, e8, hs⟩ := qv_bind hs
    refine qv_cV (d2 := mX9_allFound) (o := a0) (ci := 8) (r := some (.int v7)) (h2 := h2) (av := []) (st := []) dX9_proof_20 qM_X9_217 qD_X9_allFound e7 rfl rfl ⟨by decide, by decide⟩ rfl (Nat.le_of_ble_eq_true rfl) (Nat.le_of_ble_eq_true rfl) (sX9_allFound e8) rfl ?_
    refine qv_istore_n (lo2 := [some (.ref a0), some (.int v5), some (.int v7)]) dX9_proof_23 (i := 2) rfl (by decide) rfl (Nat.le_of_ble_eq_true rfl) rfl ?_
    obtain ⟨y15, e10, hs⟩ := qv_bind hs
    have K9 : qv_J l g mX9_proof 55 [none, some (.int y15), none] [] h2 (some (.int r), hz) := by
      refine qv_iload_n dX9_proof_55 (i := 1) rfl rfl ?_
      obtain ⟨rfl, rfl⟩ := qv_pr hs
      exact qv_iret dX9_proof_56 rfl
    obtain ⟨n16, e10⟩ := qv_loop_of e10
    refine qv_dp (qv_le_s (qv_le_s (qv_le_s qv_le_0))) (?_ : qv_J l g mX9_proof 24 [some (.ref a0), some (.int v5), some (.int v7)] [] h2 (some (.int r), hz))
    revert e10
    suffices lj15 : ∀ (x8 : Int32) (x9 : Int32), qv_it _ n16 (x8, x9) = some y15 → qv_J l g mX9_proof 24 [some (.ref a0), some (.int x8), some (.int x9)] [] h2 (some (.int r), hz) from lj15 v5 v7
    induction n16 with
    | zero =>
      intro x8 x9 e10
      cases e10
    | succ n16 ih12 =>
      intro x8 x9 e10
      obtain ⟨_, hs, eb13⟩ := qv_it_s e10
      dsimp only at hs
      refine qv_iload_n dX9_proof_24 (i := 2) rfl rfl ?_
      by_cases c17 : x9 < 0
      · have hs := qv_pos c17 hs
        refine qv_if_lt (tgt := 55) dX9_proof_25 rfl (fun _ => ?_) (fun q => absurd c17 q)
        cases hs
        cases qv_nx_r eb13
        exact qv_dp (qv_le_n (qv_le_s (qv_le_n qv_le_0))) K9
      · have hs := qv_neg c17 hs
        refine qv_if_lt (tgt := 55) dX9_proof_25 rfl (fun q => absurd q c17) (fun _ => ?_)
        refine qv_iload_n dX9_proof_28 (i := 2) rfl rfl ?_
        obtain ⟨v10, e18, hs⟩ := qv_bind hs
        refine qv_cS (d2 := mX9_bits) (r := some (.int v10)) (h2 := h2) (av := [.int x9]) (st := []) dX9_proof_29 qM_X9_245 qD_X9_bits rfl ⟨by decide, by decide⟩ rfl (Nat.le_of_ble_eq_true rfl) (Nat.le_of_ble_eq_true rfl) (sX9_bits e18) rfl ?_
        refine qv_iload_n dX9_proof_32 (i := 1) rfl rfl ?_
        obtain ⟨v11, e19, hs⟩ := qv_bind hs
        refine qv_cS (d2 := mX9_bits) (r := some (.int v11)) (h2 := h2) (av := [.int x8]) (st := [.int v10]) dX9_proof_33 qM_X9_245 qD_X9_bits rfl ⟨by decide, by decide⟩ rfl (Nat.le_of_ble_eq_true rfl) (Nat.le_of_ble_eq_true rfl) (sX9_bits e19) rfl ?_
        obtain ⟨m14, hj21, hs⟩ := qv_bind hs
        have K20 : qv_J l g mX9_proof 49 [some (.ref a0), some (.int m14), some (.int x9)] [] h2 (some (.int r), hz) := by
          refine qv_iinc (v := x9 + (-1 : Int32)) (lo2 := [some (.ref a0), some (.int m14), some (.int (x9 + (-1 : Int32)))]) dX9_proof_49 rfl rfl (by decide) rfl rfl ?_
          refine qv_goto (tgt := 24) dX9_proof_52 rfl ?_
          cases hs
          exact qv_dp (qv_le_s (qv_le_s (qv_le_s qv_le_0))) (ih12 _ _ (qv_nx_l eb13))
        replace hs := hj21
        by_cases c22 : v11 < v10
        · have hs := qv_pos c22 hs
          refine qv_icmp_gt (tgt := 49) dX9_proof_36 rfl (fun _ => ?_) (fun q => absurd c22 q)
          cases hs
          exact qv_dp (qv_le_s (qv_le_s (qv_le_s qv_le_0))) K20
        · have hs := qv_neg c22 hs
          refine qv_icmp_gt (tgt := 49) dX9_proof_36 rfl (fun q => absurd q c22) (fun _ => ?_)
          refine qv_aload_n dX9_proof_39 (i := 0) rfl rfl ?_
          refine qv_iload_n dX9_proof_40 (i := 2) rfl rfl ?_
          obtain ⟨u12, e23, hs⟩ := qv_bind hs
          obtain ⟨v13, e24, hs⟩ := qv_bind hs
          refine qv_cV (d2 := mX9_canBe) (o := a0) (ci := 8) (r := some (.int v13)) (h2 := h2) (av := [.int x9]) (st := []) dX9_proof_41 qM_X9_248 qD_X9_canBe e23 rfl rfl ⟨by decide, by decide⟩ rfl (Nat.le_of_ble_eq_true rfl) (Nat.le_of_ble_eq_true rfl) (sX9_canBe e24) rfl ?_
          by_cases c25 : v13 = 0
          · have hs := qv_pos c25 hs
            refine qv_if_ne (tgt := 49) dX9_proof_44 rfl (fun q => absurd c25 q) (fun _ => ?_)
            refine qv_iload_n dX9_proof_47 (i := 2) rfl rfl ?_
            refine qv_istore_n (lo2 := [some (.ref a0), some (.int x9), some (.int x9)]) dX9_proof_48 (i := 1) rfl (by decide) rfl (Nat.le_of_ble_eq_true rfl) rfl ?_
            cases hs
            exact qv_dp (qv_le_s (qv_le_s (qv_le_s qv_le_0))) K20
          · have hs := qv_neg c25 hs
            refine qv_if_ne (tgt := 49) dX9_proof_44 rfl (fun _ => ?_) (fun q => absurd q c25)
            cases hs
            exact qv_dp (qv_le_s (qv_le_s (qv_le_s qv_le_0))) K20
  · have hs := qv_neg c4 hs
    refine qv_if_le (tgt := 14) dX9_proof_9 rfl (fun q => absurd q c4) (fun _ => ?_)
    refine qv_iconst (v := (0 : Int32)) dX9_proof_12 rfl ?_
    obtain ⟨rfl, rfl⟩ := qv_pr hs
    exact qv_iret dX9_proof_13 rfl
theorem qD_X9_proof : qv_DV mX9_proof 0 := ⟨(qv_i16 (List.mem_of_getElem? (i := 27) (by decide +kernel))), (qv_i16 (List.mem_of_getElem? (i := 28) (by decide +kernel))), (qv_i1 (List.mem_of_getElem? (i := 14) (by decide +kernel))), (qv_i16 (List.mem_of_getElem? (i := 29) (by decide +kernel))), by decide +kernel, by decide +kernel⟩
/-- TrueOneWayModel.tells(II)I -/
noncomputable def fX9_tells (a0 : Nat) (a1 : Int32) (a2 : Int32) (h : qv_H) : Option (Int32 × qv_H) :=
  (qv_ob h 8 a0).bind fun _ =>
  (fX9_isSign a0 a1 h).bind fun v2 =>
  if v2 = 0 then
    (qv_ob h 8 a0).bind fun _ =>
    (fX9_no a0 (-1 : Int32) h).bind fun (v29, h30) =>
    some (v29, h30)
  else
    (fX9_isIn a2 (0 : Int32) (1 : Int32)).bind fun v3 =>
    if v3 = 0 then
      (qv_ob h 8 a0).bind fun _ =>
      (fX9_no a0 (-2 : Int32) h).bind fun (v26, h27) =>
      some (v26, h27)
    else
      (qv_ob h 8 a0).bind fun _ =>
      (fX9_findWorlds a0 (0 : Int32) h).bind fun h5 =>
      (qv_ob h5 8 a0).bind fun _ =>
      (fX9_openFacts a0 h5).bind fun v7 =>
      Option.bind (qv_loop (σ := Int32 × Int32 × qv_H) (ρ := Int32 × qv_H) (fun (x8, x9, h10) =>
          (qv_gI h10 8 a0 33).bind fun v11 =>
          if v11 ≤ x9 then
            some (.inr (x8, h10))
          else
            (qv_gR h10 8 a0 32).bind fun v12 =>
            (qv_aI h10 false v12 x9).bind fun v13 =>
            Option.bind (α := Int32 × qv_H) (
                if ((v13 >>> (((4 : Int32) + a1) &&& 31)) &&& (1 : Int32)) = a2 then
                  (qv_gR h10 8 a0 32).bind fun v14 =>
                  (qv_gR h10 8 a0 32).bind fun v15 =>
                  (qv_aI h10 false v15 x9).bind fun v16 =>
                  (qv_sI h10 false v14 x8 v16).bind fun h17 =>
                  some (x8 + (1 : Int32), h17)
                else
                  some (x8, h10)
              ) fun (m18, h19) =>
            some (.inl (m18, x9 + (1 : Int32), h19))
        ) ((0 : Int32), (0 : Int32), h5)) fun (y20, h21) =>
      (qv_pI h21 8 a0 33 y20).bind fun h22 =>
      (qv_ob h22 8 a0).bind fun _ =>
      (fX9_openFacts a0 h22).bind fun v24 =>
      some (v7 &&& (v24 ^^^ (-1 : Int32)), h22)
abbrev mX9_tells : qv_M := (yX9_tells, cX9_tells, 6, (Option.some Jvm.ClassFile.FieldType.int), 4, 91)
set_option maxRecDepth 100000 in
set_option maxHeartbeats 4000000 in
theorem sX9_tells {l : Launch} {g : qv_G} {a0 : Nat} {a1 : Int32} {a2 : Int32} {h : qv_H} {r : Int32} {hz : qv_H} (hs : fX9_tells a0 a1 a2 h = some (r, hz)) : qv_J l g mX9_tells 0 [some (.ref a0), some (.int a1), some (.int a2), none, none, none] [] h (some (.int r), hz) := by
  unfold fX9_tells at hs
  refine qv_aload_n dX9_tells_0 (i := 0) rfl rfl ?_
  refine qv_iload_n dX9_tells_1 (i := 1) rfl rfl ?_
  obtain ⟨u1, e1, hs⟩ := qv_bind hs
  obtain ⟨v2, e2, hs⟩ := qv_bind hs
  refine qv_cV (d2 := mX9_isSign) (o := a0) (ci := 8) (r := some (.int v2)) (h2 := h) (av := [.int a1]) (st := []) dX9_tells_2 qM_X9_226 qD_X9_isSign e1 rfl rfl ⟨by decide, by decide⟩ rfl (Nat.le_of_ble_eq_true rfl) (Nat.le_of_ble_eq_true rfl) (sX9_isSign e2) rfl ?_
  by_cases c3 : v2 = 0
  · have hs := qv_pos c3 hs
    refine qv_if_ne (tgt := 14) dX9_tells_5 rfl (fun q => absurd c3 q) (fun _ => ?_)
    refine qv_aload_n dX9_tells_8 (i := 0) rfl rfl ?_
    refine qv_iconst (v := (-1 : Int32)) dX9_tells_9 rfl ?_
    obtain ⟨u28, e4, hs⟩ := qv_bind hs
    obtain ⟨⟨v29, h30⟩, e5, hs⟩ := qv_bind hs
    dsimp only at hs
    refine qv_cV (d2 := mX9_no) (o := a0) (ci := 8) (r := some (.int v29)) (h2 := h30) (av := [.int (-1 : Int32)]) (st := []) dX9_tells_10 qM_X9_102 qD_X9_no e4 rfl rfl ⟨by decide, by decide⟩ rfl (Nat.le_of_ble_eq_true rfl) (Nat.le_of_ble_eq_true rfl) (sX9_no e5) rfl ?_
    obtain ⟨rfl, rfl⟩ := qv_pr hs
    exact qv_iret dX9_tells_13 rfl
  · have hs := qv_neg c3 hs
    refine qv_if_ne (tgt := 14) dX9_tells_5 rfl (fun _ => ?_) (fun q => absurd q c3)
    refine qv_iload_n dX9_tells_14 (i := 2) rfl rfl ?_
    refine qv_iconst (v := (0 : Int32)) dX9_tells_15 rfl ?_
    refine qv_iconst (v := (1 : Int32)) dX9_tells_16 rfl ?_
    obtain ⟨v3, e6, hs⟩ := qv_bind hs
    refine qv_cS (d2 := mX9_isIn) (r := some (.int v3)) (h2 := h) (av := [.int a2, .int (0 : Int32), .int (1 : Int32)]) (st := []) dX9_tells_17 qM_X9_113 qD_X9_isIn rfl ⟨by decide, by decide⟩ rfl (Nat.le_of_ble_eq_true rfl) (Nat.le_of_ble_eq_true rfl) (sX9_isIn e6) rfl ?_
    by_cases c7 : v3 = 0
    · have hs := qv_pos c7 hs
      refine qv_if_ne (tgt := 30) dX9_tells_20 rfl (fun q => absurd c7 q) (fun _ => ?_)
      refine qv_aload_n dX9_tells_23 (i := 0) rfl rfl ?_
      refine qv_bipush (v := (-2 : Int32)) dX9_tells_24 rfl ?_
      obtain ⟨u25, e8, hs⟩ := qv_bind hs
      obtain ⟨⟨v26, h27⟩, e9, hs⟩ := qv_bind hs
      dsimp only at hs
      refine qv_cV (d2 := mX9_no) (o := a0) (ci := 8) (r := some (.int v26)) (h2 := h27) (av := [.int (-2 : Int32)]) (st := []) dX9_tells_26 qM_X9_102 qD_X9_no e8 rfl rfl ⟨by decide, by decide⟩ rfl (Nat.le_of_ble_eq_true rfl) (Nat.le_of_ble_eq_true rfl) (sX9_no e9) rfl ?_
      obtain ⟨rfl, rfl⟩ := qv_pr hs
      exact qv_iret dX9_tells_29 rfl
    · have hs := qv_neg c7 hs
      refine qv_if_ne (tgt := 30) dX9_tells_20 rfl (fun _ => ?_) (fun q => absurd q c7)
      refine qv_aload_n dX9_tells_30 (i := 0) rfl rfl ?_
      refine qv_iconst (v := (0 : Int32)) dX9_tells_31 rfl ?_
      obtain ⟨u4, e10, hs⟩ := qv_bind hs
      obtain ⟨h5, e11, hs⟩ := qv_bind hs
      refine qv_cV (d2 := mX9_findWorlds) (o := a0) (ci := 8) (r := none) (h2 := h5) (av := [.int (0 : Int32)]) (st := []) dX9_tells_32 qM_X9_232 qD_X9_findWorlds e10 rfl rfl ⟨by decide, by decide⟩ rfl (Nat.le_of_ble_eq_true rfl) (Nat.le_of_ble_eq_true rfl) (sX9_findWorlds e11) rfl ?_
      refine qv_aload_n dX9_tells_35 (i := 0) rfl rfl ?_
      obtain ⟨u6, e12, hs⟩ := qv_bind hs
      obtain ⟨v7, e13, hs⟩ := qv_bind hs
      refine qv_cV (d2 := mX9_openFacts) (o := a0) (ci := 8) (r := some (.int v7)) (h2 := h5) (av := []) (st := []) dX9_tells_36 qM_X9_251 qD_X9_openFacts e12 rfl rfl ⟨by decide, by decide⟩ rfl (Nat.le_of_ble_eq_true rfl) (Nat.le_of_ble_eq_true rfl) (sX9_openFacts e13) rfl ?_
      refine qv_istore_n (lo2 := [some (.ref a0), some (.int a1), some (.int a2), some (.int v7), none, none]) dX9_tells_39 (i := 3) rfl (by decide) rfl (Nat.le_of_ble_eq_true rfl) rfl ?_
      refine qv_iconst (v := (0 : Int32)) dX9_tells_40 rfl ?_
      refine qv_istore (lo2 := [some (.ref a0), some (.int a1), some (.int a2), some (.int v7), some (.int (0 : Int32)), none]) dX9_tells_41 (by decide) rfl (Nat.le_of_ble_eq_true rfl) rfl ?_
      refine qv_iconst (v := (0 : Int32)) dX9_tells_43 rfl ?_
      refine qv_istore (lo2 := [some (.ref a0), some (.int a1), some (.int a2), some (.int v7), some (.int (0 : Int32)), some (.int (0 : Int32))]) dX9_tells_44 (by decide) rfl (Nat.le_of_ble_eq_true rfl) rfl ?_
      obtain ⟨⟨y20, h21⟩, e15, hs⟩ := qv_bind hs
      dsimp only at hs
      have K14 : qv_J l g mX9_tells 98 [some (.ref a0), none, none, some (.int v7), some (.int y20), none] [] h21 (some (.int r), hz) := by
        refine qv_aload_n dX9_tells_98 (i := 0) rfl rfl ?_
        refine qv_iload dX9_tells_99 rfl ?_
        obtain ⟨h22, e22, hs⟩ := qv_bind hs
        refine qv_putI dX9_tells_101 qF_X9_223 e22 ?_
        refine qv_iload_n dX9_tells_104 (i := 3) rfl rfl ?_
        refine qv_aload_n dX9_tells_105 (i := 0) rfl rfl ?_
        obtain ⟨u23, e23, hs⟩ := qv_bind hs
        obtain ⟨v24, e24, hs⟩ := qv_bind hs
        refine qv_cV (d2 := mX9_openFacts) (o := a0) (ci := 8) (r := some (.int v24)) (h2 := h22) (av := []) (st := [.int v7]) dX9_tells_106 qM_X9_251 qD_X9_openFacts e23 rfl rfl ⟨by decide, by decide⟩ rfl (Nat.le_of_ble_eq_true rfl) (Nat.le_of_ble_eq_true rfl) (sX9_openFacts e24) rfl ?_
        refine qv_iconst (v := (-1 : Int32)) dX9_tells_109 rfl ?_
        refine qv_ixor dX9_tells_110 ?_
        refine qv_iand dX9_tells_111 ?_
        obtain ⟨rfl, rfl⟩ := qv_pr hs
        exact qv_iret dX9_tells_112 rfl
      obtain ⟨n21, e15⟩ := qv_loop_of e15
      refine qv_dp (qv_le_s (qv_le_s (qv_le_s (qv_le_s (qv_le_s (qv_le_s qv_le_0)))))) (?_ : qv_J l g mX9_tells 46 [some (.ref a0), some (.int a1), some (.int a2), some (.int v7), some (.int (0 : Int32)), some (.int (0 : Int32))] [] h5 (some (.int r), hz))
      revert e15
      suffices lj20 : ∀ (x8 : Int32) (x9 : Int32) (h10 : qv_H), qv_it _ n21 (x8, x9, h10) = some (y20, h21) → qv_J l g mX9_tells 46 [some (.ref a0), some (.int a1), some (.int a2), some (.int v7), some (.int x8), some (.int x9)] [] h10 (some (.int r), hz) from lj20 (0 : Int32) (0 : Int32) h5
      induction n21 with
      | zero =>
        intro x8 x9 h10 e15
        cases e15
      | succ n21 ih17 =>
        intro x8 x9 h10 e15
        obtain ⟨_, hs, eb18⟩ := qv_it_s e15
        dsimp only at hs
        refine qv_iload dX9_tells_46 rfl ?_
        refine qv_aload_n dX9_tells_48 (i := 0) rfl rfl ?_
        obtain ⟨v11, e25, hs⟩ := qv_bind hs
        refine qv_getI dX9_tells_49 qF_X9_223 e25 ?_
        by_cases c26 : v11 ≤ x9
        · have hs := qv_pos c26 hs
          refine qv_icmp_ge (tgt := 98) dX9_tells_52 rfl (fun _ => ?_) (fun q => absurd c26 q)
          cases hs
          cases qv_nx_r eb18
          exact qv_dp (qv_le_s (qv_le_n (qv_le_n (qv_le_s (qv_le_s (qv_le_n qv_le_0)))))) K14
        · have hs := qv_neg c26 hs
          refine qv_icmp_ge (tgt := 98) dX9_tells_52 rfl (fun q => absurd q c26) (fun _ => ?_)
          refine qv_aload_n dX9_tells_55 (i := 0) rfl rfl ?_
          obtain ⟨v12, e27, hs⟩ := qv_bind hs
          refine qv_getR dX9_tells_56 qF_X9_71 e27 ?_
          refine qv_iload dX9_tells_59 rfl ?_
          obtain ⟨v13, e28, hs⟩ := qv_bind hs
          refine qv_iald dX9_tells_61 e28 ?_
          refine qv_iconst (v := (4 : Int32)) dX9_tells_62 rfl ?_
          refine qv_iload_n dX9_tells_63 (i := 1) rfl rfl ?_
          refine qv_iadd dX9_tells_64 ?_
          refine qv_ishr dX9_tells_65 ?_
          refine qv_iconst (v := (1 : Int32)) dX9_tells_66 rfl ?_
          refine qv_iand dX9_tells_67 ?_
          refine qv_iload_n dX9_tells_68 (i := 2) rfl rfl ?_
          obtain ⟨⟨m18, h19⟩, hj30, hs⟩ := qv_bind hs
          dsimp only at hs
          have K29 : qv_J l g mX9_tells 92 [some (.ref a0), some (.int a1), some (.int a2), some (.int v7), some (.int m18), some (.int x9)] [] h19 (some (.int r), hz) := by
            refine qv_iinc (v := x9 + (1 : Int32)) (lo2 := [some (.ref a0), some (.int a1), some (.int a2), some (.int v7), some (.int m18), some (.int (x9 + (1 : Int32)))]) dX9_tells_92 rfl rfl (by decide) rfl rfl ?_
            refine qv_goto (tgt := 46) dX9_tells_95 rfl ?_
            cases hs
            exact qv_dp (qv_le_s (qv_le_s (qv_le_s (qv_le_s (qv_le_s (qv_le_s qv_le_0)))))) (ih17 _ _ _ (qv_nx_l eb18))
          replace hs := hj30
          by_cases c31 : ((v13 >>> (((4 : Int32) + a1) &&& 31)) &&& (1 : Int32)) = a2
          · have hs := qv_pos c31 hs
            refine qv_icmp_eq (tgt := 75) dX9_tells_69 rfl (fun _ => ?_) (fun q => absurd c31 q)
            refine qv_aload_n dX9_tells_75 (i := 0) rfl rfl ?_
            obtain ⟨v14, e32, hs⟩ := qv_bind hs
            refine qv_getR dX9_tells_76 qF_X9_71 e32 ?_
            refine qv_iload dX9_tells_79 rfl ?_
            refine qv_aload_n dX9_tells_81 (i := 0) rfl rfl ?_
            obtain ⟨v15, e33, hs⟩ := qv_bind hs
            refine qv_getR dX9_tells_82 qF_X9_71 e33 ?_
            refine qv_iload dX9_tells_85 rfl ?_
            obtain ⟨v16, e34, hs⟩ := qv_bind hs
            refine qv_iald dX9_tells_87 e34 ?_
            obtain ⟨h17, e35, hs⟩ := qv_bind hs
            refine qv_iast dX9_tells_88 e35 ?_
            refine qv_iinc (v := x8 + (1 : Int32)) (lo2 := [some (.ref a0), some (.int a1), some (.int a2), some (.int v7), some (.int (x8 + (1 : Int32))), some (.int x9)]) dX9_tells_89 rfl rfl (by decide) rfl rfl ?_
            cases hs
            exact qv_dp (qv_le_s (qv_le_s (qv_le_s (qv_le_s (qv_le_s (qv_le_s qv_le_0)))))) K29
          · have hs := qv_neg c31 hs
            refine qv_icmp_eq (tgt := 75) dX9_tells_69 rfl (fun q => absurd q c31) (fun _ => ?_)
            refine qv_goto (tgt := 92) dX9_tells_72 rfl ?_
            cases hs
            exact qv_dp (qv_le_s (qv_le_s (qv_le_s (qv_le_s (qv_le_s (qv_le_s qv_le_0)))))) K29
theorem qD_X9_tells : qv_DV mX9_tells 2 := ⟨(qv_i16 (List.mem_of_getElem? (i := 37) (by decide +kernel))), (qv_i16 (List.mem_of_getElem? (i := 38) (by decide +kernel))), (qv_i1 (List.mem_of_getElem? (i := 14) (by decide +kernel))), (qv_i16 (List.mem_of_getElem? (i := 39) (by decide +kernel))), by decide +kernel, by decide +kernel⟩
/-- TrueOneWayModel.rings()I -/
noncomputable def fX9_rings (a0 : Nat) (h : qv_H) : Option (Int32) :=
  Option.bind (qv_loop (σ := Int32 × Int32) (ρ := Int32) (fun (x1, x2) =>
      (qv_gI h 8 a0 11).bind fun v3 =>
      if v3 ≤ x2 then
        some (.inr x1)
      else
        Option.bind (qv_loop (σ := Int32 × Int32 × Int32) (ρ := Int32) (fun (x4, x5, x6) =>
            (qv_gI h 8 a0 11).bind fun v7 =>
            if v7 ≤ x6 then
              some (.inr x4)
            else
              if x5 < 0 then
                some (.inr x4)
              else
                (qv_gR h 8 a0 3).bind fun v8 =>
                (qv_aI h false v8 x5).bind fun v9 =>
                Option.bind (α := Int32) (
                    if v9 = (5 : Int32) then
                      (qv_gR h 8 a0 5).bind fun v10 =>
                      (qv_aI h false v10 x5).bind fun v11 =>
                      some v11
                    else
                      some (-9 : Int32)
                  ) fun m12 =>
                Option.bind (α := Int32) (
                    if m12 = x2 then
                      some (x4 ||| ((1 : Int32) <<< (x2 &&& 31)))
                    else
                      some x4
                  ) fun m13 =>
                some (.inl (m13, m12, x6 + (1 : Int32)))
          ) (x1, x2, (0 : Int32))) fun y14 =>
        some (.inl (y14, x2 + (1 : Int32)))
    ) ((0 : Int32), (0 : Int32))) fun y15 =>
  some y15
abbrev mX9_rings : qv_M := (yX9_rings, cX9_rings, 5, (Option.some Jvm.ClassFile.FieldType.int), 0, 0)
set_option maxRecDepth 100000 in
set_option maxHeartbeats 4000000 in
theorem sX9_rings {l : Launch} {g : qv_G} {a0 : Nat} {h : qv_H} {r : Int32} (hs : fX9_rings a0 h = some r) : qv_J l g mX9_rings 0 [some (.ref a0), none, none, none, none] [] h (some (.int r), h) := by
  unfold fX9_rings at hs
  refine qv_iconst (v := (0 : Int32)) dX9_rings_0 rfl ?_
  refine qv_istore_n (lo2 := [some (.ref a0), some (.int (0 : Int32)), none, none, none]) dX9_rings_1 (i := 1) rfl (by decide) rfl (Nat.le_of_ble_eq_true rfl) rfl ?_
  refine qv_iconst (v := (0 : Int32)) dX9_rings_2 rfl ?_
  refine qv_istore_n (lo2 := [some (.ref a0), some (.int (0 : Int32)), some (.int (0 : Int32)), none, none]) dX9_rings_3 (i := 2) rfl (by decide) rfl (Nat.le_of_ble_eq_true rfl) rfl ?_
  obtain ⟨y15, e2, hs⟩ := qv_bind hs
  have K1 : qv_J l g mX9_rings 75 [none, some (.int y15), none, none, none] [] h (some (.int r), h) := by
    refine qv_iload_n dX9_rings_75 (i := 1) rfl rfl ?_
    obtain rfl := qv_sm hs
    exact qv_iret dX9_rings_76 rfl
  obtain ⟨n8, e2⟩ := qv_loop_of e2
  refine qv_dp (qv_le_s (qv_le_s (qv_le_s (qv_le_n (qv_le_n qv_le_0))))) (?_ : qv_J l g mX9_rings 4 [some (.ref a0), some (.int (0 : Int32)), some (.int (0 : Int32)), none, none] [] h (some (.int r), h))
  revert e2
  suffices lj7 : ∀ (x1 : Int32) (x2 : Int32), qv_it _ n8 (x1, x2) = some y15 → qv_J l g mX9_rings 4 [some (.ref a0), some (.int x1), some (.int x2), none, none] [] h (some (.int r), h) from lj7 (0 : Int32) (0 : Int32)
  induction n8 with
  | zero =>
    intro x1 x2 e2
    cases e2
  | succ n8 ih4 =>
    intro x1 x2 e2
    obtain ⟨_, hs, eb5⟩ := qv_it_s e2
    dsimp only at hs
    refine qv_iload_n dX9_rings_4 (i := 2) rfl rfl ?_
    refine qv_aload_n dX9_rings_5 (i := 0) rfl rfl ?_
    obtain ⟨v3, e9, hs⟩ := qv_bind hs
    refine qv_getI dX9_rings_6 qF_X9_92 e9 ?_
    by_cases c10 : v3 ≤ x2
    · have hs := qv_pos c10 hs
      refine qv_icmp_ge (tgt := 75) dX9_rings_9 rfl (fun _ => ?_) (fun q => absurd c10 q)
      cases hs
      cases qv_nx_r eb5
      exact qv_dp (qv_le_n (qv_le_s (qv_le_n (qv_le_n (qv_le_n qv_le_0))))) K1
    · have hs := qv_neg c10 hs
      refine qv_icmp_ge (tgt := 75) dX9_rings_9 rfl (fun q => absurd q c10) (fun _ => ?_)
      refine qv_iload_n dX9_rings_12 (i := 2) rfl rfl ?_
      refine qv_istore_n (lo2 := [some (.ref a0), some (.int x1), some (.int x2), some (.int x2), none]) dX9_rings_13 (i := 3) rfl (by decide) rfl (Nat.le_of_ble_eq_true rfl) rfl ?_
      refine qv_iconst (v := (0 : Int32)) dX9_rings_14 rfl ?_
      refine qv_istore (lo2 := [some (.ref a0), some (.int x1), some (.int x2), some (.int x2), some (.int (0 : Int32))]) dX9_rings_15 (by decide) rfl (Nat.le_of_ble_eq_true rfl) rfl ?_
      obtain ⟨y14, e12, hs⟩ := qv_bind hs
      have K11 : qv_J l g mX9_rings 69 [some (.ref a0), some (.int y14), some (.int x2), none, none] [] h (some (.int r), h) := by
        refine qv_iinc (v := x2 + (1 : Int32)) (lo2 := [some (.ref a0), some (.int y14), some (.int (x2 + (1 : Int32))), none, none]) dX9_rings_69 rfl rfl (by decide) rfl rfl ?_
        refine qv_goto (tgt := 4) dX9_rings_72 rfl ?_
        cases hs
        exact qv_dp (qv_le_s (qv_le_s (qv_le_s (qv_le_n (qv_le_n qv_le_0))))) (ih4 _ _ (qv_nx_l eb5))
      obtain ⟨n18, e12⟩ := qv_loop_of e12
      refine qv_dp (qv_le_s (qv_le_s (qv_le_s (qv_le_s (qv_le_s qv_le_0))))) (?_ : qv_J l g mX9_rings 17 [some (.ref a0), some (.int x1), some (.int x2), some (.int x2), some (.int (0 : Int32))] [] h (some (.int r), h))
      revert e12
      suffices lj17 : ∀ (x4 : Int32) (x5 : Int32) (x6 : Int32), qv_it _ n18 (x4, x5, x6) = some y14 → qv_J l g mX9_rings 17 [some (.ref a0), some (.int x4), some (.int x2), some (.int x5), some (.int x6)] [] h (some (.int r), h) from lj17 x1 x2 (0 : Int32)
      induction n18 with
      | zero =>
        intro x4 x5 x6 e12
        cases e12
      | succ n18 ih14 =>
        intro x4 x5 x6 e12
        obtain ⟨_, hs, eb15⟩ := qv_it_s e12
        dsimp only at hs
        refine qv_iload dX9_rings_17 rfl ?_
        refine qv_aload_n dX9_rings_19 (i := 0) rfl rfl ?_
        obtain ⟨v7, e19, hs⟩ := qv_bind hs
        refine qv_getI dX9_rings_20 qF_X9_92 e19 ?_
        by_cases c20 : v7 ≤ x6
        · have hs := qv_pos c20 hs
          refine qv_icmp_ge (tgt := 69) dX9_rings_23 rfl (fun _ => ?_) (fun q => absurd c20 q)
          cases hs
          cases qv_nx_r eb15
          exact qv_dp (qv_le_s (qv_le_s (qv_le_s (qv_le_n (qv_le_n qv_le_0))))) K11
        · have hs := qv_neg c20 hs
          refine qv_icmp_ge (tgt := 69) dX9_rings_23 rfl (fun q => absurd q c20) (fun _ => ?_)
          refine qv_iload_n dX9_rings_26 (i := 3) rfl rfl ?_
          by_cases c21 : x5 < 0
          · have hs := qv_pos c21 hs
            refine qv_if_lt (tgt := 69) dX9_rings_27 rfl (fun _ => ?_) (fun q => absurd c21 q)
            cases hs
            cases qv_nx_r eb15
            exact qv_dp (qv_le_s (qv_le_s (qv_le_s (qv_le_n (qv_le_n qv_le_0))))) K11
          · have hs := qv_neg c21 hs
            refine qv_if_lt (tgt := 69) dX9_rings_27 rfl (fun q => absurd q c21) (fun _ => ?_)
            refine qv_aload_n dX9_rings_30 (i := 0) rfl rfl ?_
            obtain ⟨v8, e22, hs⟩ := qv_bind hs
            refine qv_getR dX9_rings_31 qF_X9_19 e22 ?_
            refine qv_iload_n dX9_rings_34 (i := 3) rfl rfl ?_
            obtain ⟨v9, e23, hs⟩ := qv_bind hs
            refine qv_iald dX9_rings_35 e23 ?_
            refine qv_iconst (v := (5 : Int32)) dX9_rings_36 rfl ?_
            obtain ⟨m12, hj25, hs⟩ := qv_bind hs
            have K24 : qv_J l g mX9_rings 51 [some (.ref a0), some (.int x4), some (.int x2), none, some (.int x6)] [.int m12] h (some (.int r), h) := by
              refine qv_istore_n (lo2 := [some (.ref a0), some (.int x4), some (.int x2), some (.int m12), some (.int x6)]) dX9_rings_51 (i := 3) rfl (by decide) rfl (Nat.le_of_ble_eq_true rfl) rfl ?_
              refine qv_iload_n dX9_rings_52 (i := 3) rfl rfl ?_
              refine qv_iload_n dX9_rings_53 (i := 2) rfl rfl ?_
              obtain ⟨m13, hj27, hs⟩ := qv_bind hs
              have K26 : qv_J l g mX9_rings 63 [some (.ref a0), some (.int m13), some (.int x2), some (.int m12), some (.int x6)] [] h (some (.int r), h) := by
                refine qv_iinc (v := x6 + (1 : Int32)) (lo2 := [some (.ref a0), some (.int m13), some (.int x2), some (.int m12), some (.int (x6 + (1 : Int32)))]) dX9_rings_63 rfl rfl (by decide) rfl rfl ?_
                refine qv_goto (tgt := 17) dX9_rings_66 rfl ?_
                cases hs
                exact qv_dp (qv_le_s (qv_le_s (qv_le_s (qv_le_s (qv_le_s qv_le_0))))) (ih14 _ _ _ (qv_nx_l eb15))
              replace hs := hj27
              by_cases c28 : m12 = x2
              · have hs := qv_pos c28 hs
                refine qv_icmp_ne (tgt := 63) dX9_rings_54 rfl (fun q => absurd c28 q) (fun _ => ?_)
                refine qv_iload_n dX9_rings_57 (i := 1) rfl rfl ?_
                refine qv_iconst (v := (1 : Int32)) dX9_rings_58 rfl ?_
                refine qv_iload_n dX9_rings_59 (i := 2) rfl rfl ?_
                refine qv_ishl dX9_rings_60 ?_
                refine qv_ior dX9_rings_61 ?_
                refine qv_istore_n (lo2 := [some (.ref a0), some (.int (x4 ||| ((1 : Int32) <<< (x2 &&& 31)))), some (.int x2), some (.int m12), some (.int x6)]) dX9_rings_62 (i := 1) rfl (by decide) rfl (Nat.le_of_ble_eq_true rfl) rfl ?_
                cases hs
                exact qv_dp (qv_le_s (qv_le_s (qv_le_s (qv_le_s (qv_le_s qv_le_0))))) K26
              · have hs := qv_neg c28 hs
                refine qv_icmp_ne (tgt := 63) dX9_rings_54 rfl (fun _ => ?_) (fun q => absurd q c28)
                cases hs
                exact qv_dp (qv_le_s (qv_le_s (qv_le_s (qv_le_s (qv_le_s qv_le_0))))) K26
            replace hs := hj25
            by_cases c29 : v9 = (5 : Int32)
            · have hs := qv_pos c29 hs
              refine qv_icmp_ne (tgt := 49) dX9_rings_37 rfl (fun q => absurd c29 q) (fun _ => ?_)
              refine qv_aload_n dX9_rings_40 (i := 0) rfl rfl ?_
              obtain ⟨v10, e30, hs⟩ := qv_bind hs
              refine qv_getR dX9_rings_41 qF_X9_25 e30 ?_
              refine qv_iload_n dX9_rings_44 (i := 3) rfl rfl ?_
              obtain ⟨v11, e31, hs⟩ := qv_bind hs
              refine qv_iald dX9_rings_45 e31 ?_
              refine qv_goto (tgt := 51) dX9_rings_46 rfl ?_
              cases hs
              exact qv_dp (qv_le_s (qv_le_s (qv_le_s (qv_le_n (qv_le_s qv_le_0))))) K24
            · have hs := qv_neg c29 hs
              refine qv_icmp_ne (tgt := 49) dX9_rings_37 rfl (fun _ => ?_) (fun q => absurd q c29)
              refine qv_bipush (v := (-9 : Int32)) dX9_rings_49 rfl ?_
              cases hs
              exact qv_dp (qv_le_s (qv_le_s (qv_le_s (qv_le_n (qv_le_s qv_le_0))))) K24
theorem qD_X9_rings : qv_DV mX9_rings 0 := ⟨(qv_i16 (List.mem_of_getElem? (i := 44) (by decide +kernel))), (qv_i16 (List.mem_of_getElem? (i := 45) (by decide +kernel))), (qv_i1 (List.mem_of_getElem? (i := 14) (by decide +kernel))), (qv_i16 (List.mem_of_getElem? (i := 46) (by decide +kernel))), by decide +kernel, by decide +kernel⟩
/-- TrueOneWayModel.joking(I)I -/
noncomputable def fX9_joking (a0 : Nat) (a1 : Int32) (h : qv_H) : Option (Int32 × qv_H) :=
  (fX9_bound a1 (0 : Int32) (3 : Int32)).bind fun v1 =>
  if v1 = 0 then
    (qv_ob h 8 a0).bind fun _ =>
    (fX9_findWorlds a0 a1 h).bind fun h3 =>
    (qv_ob h3 8 a0).bind fun _ =>
    (fX9_inAll a0 h3).bind fun v5 =>
    (qv_ob h3 8 a0).bind fun _ =>
    (fX9_allFacts a0 h3).bind fun v7 =>
    some (v5 &&& v7, h3)
  else
    (qv_ob h 8 a0).bind fun _ =>
    (fX9_no a0 v1 h).bind fun (v9, h10) =>
    some (v9, h10)
abbrev mX9_joking : qv_M := (yX9_joking, cX9_joking, 3, (Option.some Jvm.ClassFile.FieldType.int), 4, 91)
set_option maxRecDepth 100000 in
set_option maxHeartbeats 4000000 in
theorem sX9_joking {l : Launch} {g : qv_G} {a0 : Nat} {a1 : Int32} {h : qv_H} {r : Int32} {hz : qv_H} (hs : fX9_joking a0 a1 h = some (r, hz)) : qv_J l g mX9_joking 0 [some (.ref a0), some (.int a1), none] [] h (some (.int r), hz) := by
  unfold fX9_joking at hs
  refine qv_iload_n dX9_joking_0 (i := 1) rfl rfl ?_
  refine qv_iconst (v := (0 : Int32)) dX9_joking_1 rfl ?_
  refine qv_iconst (v := (3 : Int32)) dX9_joking_2 rfl ?_
  obtain ⟨v1, e1, hs⟩ := qv_bind hs
  refine qv_cS (d2 := mX9_bound) (r := some (.int v1)) (h2 := h) (av := [.int a1, .int (0 : Int32), .int (3 : Int32)]) (st := []) dX9_joking_3 qM_X9_95 qD_X9_bound rfl ⟨by decide, by decide⟩ rfl (Nat.le_of_ble_eq_true rfl) (Nat.le_of_ble_eq_true rfl) (sX9_bound e1) rfl ?_
  refine qv_istore_n (lo2 := [some (.ref a0), some (.int a1), some (.int v1)]) dX9_joking_6 (i := 2) rfl (by decide) rfl (Nat.le_of_ble_eq_true rfl) rfl ?_
  refine qv_iload_n dX9_joking_7 (i := 2) rfl rfl ?_
  by_cases c2 : v1 = 0
  · have hs := qv_pos c2 hs
    refine qv_if_eq (tgt := 17) dX9_joking_8 rfl (fun _ => ?_) (fun q => absurd c2 q)
    refine qv_aload_n dX9_joking_17 (i := 0) rfl rfl ?_
    refine qv_iload_n dX9_joking_18 (i := 1) rfl rfl ?_
    obtain ⟨u2, e3, hs⟩ := qv_bind hs
    obtain ⟨h3, e4, hs⟩ := qv_bind hs
    refine qv_cV (d2 := mX9_findWorlds) (o := a0) (ci := 8) (r := none) (h2 := h3) (av := [.int a1]) (st := []) dX9_joking_19 qM_X9_232 qD_X9_findWorlds e3 rfl rfl ⟨by decide, by decide⟩ rfl (Nat.le_of_ble_eq_true rfl) (Nat.le_of_ble_eq_true rfl) (sX9_findWorlds e4) rfl ?_
    refine qv_aload_n dX9_joking_22 (i := 0) rfl rfl ?_
    obtain ⟨u4, e5, hs⟩ := qv_bind hs
    obtain ⟨v5, e6, hs⟩ := qv_bind hs
    refine qv_cV (d2 := mX9_inAll) (o := a0) (ci := 8) (r := some (.int v5)) (h2 := h3) (av := []) (st := []) dX9_joking_23 qM_X9_239 qD_X9_inAll e5 rfl rfl ⟨by decide, by decide⟩ rfl (Nat.le_of_ble_eq_true rfl) (Nat.le_of_ble_eq_true rfl) (sX9_inAll e6) rfl ?_
    refine qv_aload_n dX9_joking_26 (i := 0) rfl rfl ?_
    obtain ⟨u6, e7, hs⟩ := qv_bind hs
    obtain ⟨v7, e8, hs⟩ := qv_bind hs
    refine qv_cV (d2 := mX9_allFacts) (o := a0) (ci := 8) (r := some (.int v7)) (h2 := h3) (av := []) (st := [.int v5]) dX9_joking_27 qM_X9_195 qD_X9_allFacts e7 rfl rfl ⟨by decide, by decide⟩ rfl (Nat.le_of_ble_eq_true rfl) (Nat.le_of_ble_eq_true rfl) (sX9_allFacts e8) rfl ?_
    refine qv_iand dX9_joking_30 ?_
    obtain ⟨rfl, rfl⟩ := qv_pr hs
    exact qv_iret dX9_joking_31 rfl
  · have hs := qv_neg c2 hs
    refine qv_if_eq (tgt := 17) dX9_joking_8 rfl (fun q => absurd q c2) (fun _ => ?_)
    refine qv_aload_n dX9_joking_11 (i := 0) rfl rfl ?_
    refine qv_iload_n dX9_joking_12 (i := 2) rfl rfl ?_
    obtain ⟨u8, e9, hs⟩ := qv_bind hs
    obtain ⟨⟨v9, h10⟩, e10, hs⟩ := qv_bind hs
    dsimp only at hs
    refine qv_cV (d2 := mX9_no) (o := a0) (ci := 8) (r := some (.int v9)) (h2 := h10) (av := [.int v1]) (st := []) dX9_joking_13 qM_X9_102 qD_X9_no e9 rfl rfl ⟨by decide, by decide⟩ rfl (Nat.le_of_ble_eq_true rfl) (Nat.le_of_ble_eq_true rfl) (sX9_no e10) rfl ?_
    obtain ⟨rfl, rfl⟩ := qv_pr hs
    exact qv_iret dX9_joking_16 rfl
theorem qD_X9_joking : qv_DV mX9_joking 1 := ⟨(qv_i16 (List.mem_of_getElem? (i := 48) (by decide +kernel))), (qv_i16 (List.mem_of_getElem? (i := 49) (by decide +kernel))), (qv_i1 (List.mem_of_getElem? (i := 14) (by decide +kernel))), (qv_i16 (List.mem_of_getElem? (i := 50) (by decide +kernel))), by decide +kernel, by decide +kernel⟩
/-- TrueOneWayModel.bears(I)I -/
noncomputable def fX9_bears (a0 : Nat) (a1 : Int32) (h : qv_H) : Option (Int32 × qv_H) :=
  (qv_ob h 8 a0).bind fun _ =>
  (fX9_isFact a0 a1 h).bind fun v2 =>
  if v2 = 0 then
    (qv_ob h 8 a0).bind fun _ =>
    (fX9_no a0 (-1 : Int32) h).bind fun (v13, h14) =>
    some (v13, h14)
  else
    Option.bind (qv_loop (σ := Int32 × qv_H) (ρ := (qv_H) ⊕ (Int32 × qv_H)) (fun (x3, h4) =>
        if x3 < 0 then
          some (.inr (.inl h4))
        else
          (qv_ob h4 8 a0).bind fun _ =>
          (fX9_findWorlds a0 x3 h4).bind fun h6 =>
          (qv_ob h6 8 a0).bind fun _ =>
          (fX9_inAll a0 h6).bind fun v8 =>
          (qv_ob h6 8 a0).bind fun _ =>
          (fX9_inNone a0 h6).bind fun v10 =>
          if (((v8 ||| v10) >>> (a1 &&& 31)) &&& (1 : Int32)) = (1 : Int32) then
            some (.inr (.inr (x3, h6)))
          else
            some (.inl (x3 + (-1 : Int32), h6))
      ) ((6 : Int32), h)) fun q => match q with
    | .inl h11 =>
      some ((-9 : Int32), h11)
    | .inr q => some q
abbrev mX9_bears : qv_M := (yX9_bears, cX9_bears, 3, (Option.some Jvm.ClassFile.FieldType.int), 4, 91)
set_option maxRecDepth 100000 in
set_option maxHeartbeats 4000000 in
theorem sX9_bears {l : Launch} {g : qv_G} {a0 : Nat} {a1 : Int32} {h : qv_H} {r : Int32} {hz : qv_H} (hs : fX9_bears a0 a1 h = some (r, hz)) : qv_J l g mX9_bears 0 [some (.ref a0), some (.int a1), none] [] h (some (.int r), hz) := by
  unfold fX9_bears at hs
  refine qv_aload_n dX9_bears_0 (i := 0) rfl rfl ?_
  refine qv_iload_n dX9_bears_1 (i := 1) rfl rfl ?_
  obtain ⟨u1, e1, hs⟩ := qv_bind hs
  obtain ⟨v2, e2, hs⟩ := qv_bind hs
  refine qv_cV (d2 := mX9_isFact) (o := a0) (ci := 8) (r := some (.int v2)) (h2 := h) (av := [.int a1]) (st := []) dX9_bears_2 qM_X9_146 qD_X9_isFact e1 rfl rfl ⟨by decide, by decide⟩ rfl (Nat.le_of_ble_eq_true rfl) (Nat.le_of_ble_eq_true rfl) (sX9_isFact e2) rfl ?_
  by_cases c3 : v2 = 0
  · have hs := qv_pos c3 hs
    refine qv_if_ne (tgt := 14) dX9_bears_5 rfl (fun q => absurd c3 q) (fun _ => ?_)
    refine qv_aload_n dX9_bears_8 (i := 0) rfl rfl ?_
    refine qv_iconst (v := (-1 : Int32)) dX9_bears_9 rfl ?_
    obtain ⟨u12, e4, hs⟩ := qv_bind hs
    obtain ⟨⟨v13, h14⟩, e5, hs⟩ := qv_bind hs
    dsimp only at hs
    refine qv_cV (d2 := mX9_no) (o := a0) (ci := 8) (r := some (.int v13)) (h2 := h14) (av := [.int (-1 : Int32)]) (st := []) dX9_bears_10 qM_X9_102 qD_X9_no e4 rfl rfl ⟨by decide, by decide⟩ rfl (Nat.le_of_ble_eq_true rfl) (Nat.le_of_ble_eq_true rfl) (sX9_no e5) rfl ?_
    obtain ⟨rfl, rfl⟩ := qv_pr hs
    exact qv_iret dX9_bears_13 rfl
  · have hs := qv_neg c3 hs
    refine qv_if_ne (tgt := 14) dX9_bears_5 rfl (fun _ => ?_) (fun q => absurd q c3)
    refine qv_bipush (v := (6 : Int32)) dX9_bears_14 rfl ?_
    refine qv_istore_n (lo2 := [some (.ref a0), some (.int a1), some (.int (6 : Int32))]) dX9_bears_16 (i := 2) rfl (by decide) rfl (Nat.le_of_ble_eq_true rfl) rfl ?_
    obtain ⟨q11, e7, hA8⟩ := qv_bind hs
    have K6 : ∀ (h11 : qv_H), q11 = .inl h11 → qv_J l g mX9_bears 51 [none, none, none] [] h11 (some (.int r), hz) := by
      intro h11 eq14
      subst eq14
      have hs := hA8
      dsimp only at hs
      refine qv_bipush (v := (-9 : Int32)) dX9_bears_51 rfl ?_
      obtain ⟨rfl, rfl⟩ := qv_pr hs
      exact qv_iret dX9_bears_53 rfl
    obtain ⟨n13, e7⟩ := qv_loop_of e7
    refine qv_dp (qv_le_s (qv_le_s (qv_le_s qv_le_0))) (?_ : qv_J l g mX9_bears 17 [some (.ref a0), some (.int a1), some (.int (6 : Int32))] [] h (some (.int r), hz))
    revert e7
    suffices lj12 : ∀ (x3 : Int32) (h4 : qv_H), qv_it _ n13 (x3, h4) = some q11 → qv_J l g mX9_bears 17 [some (.ref a0), some (.int a1), some (.int x3)] [] h4 (some (.int r), hz) from lj12 (6 : Int32) h
    induction n13 with
    | zero =>
      intro x3 h4 e7
      cases e7
    | succ n13 ih9 =>
      intro x3 h4 e7
      obtain ⟨_, hs, eb10⟩ := qv_it_s e7
      dsimp only at hs
      refine qv_iload_n dX9_bears_17 (i := 2) rfl rfl ?_
      by_cases c15 : x3 < 0
      · have hs := qv_pos c15 hs
        refine qv_if_lt (tgt := 51) dX9_bears_18 rfl (fun _ => ?_) (fun q => absurd c15 q)
        cases hs
        cases qv_nx_r eb10
        exact qv_dp (qv_le_n (qv_le_n (qv_le_n qv_le_0))) (K6 _ rfl)
      · have hs := qv_neg c15 hs
        refine qv_if_lt (tgt := 51) dX9_bears_18 rfl (fun q => absurd q c15) (fun _ => ?_)
        refine qv_aload_n dX9_bears_21 (i := 0) rfl rfl ?_
        refine qv_iload_n dX9_bears_22 (i := 2) rfl rfl ?_
        obtain ⟨u5, e16, hs⟩ := qv_bind hs
        obtain ⟨h6, e17, hs⟩ := qv_bind hs
        refine qv_cV (d2 := mX9_findWorlds) (o := a0) (ci := 8) (r := none) (h2 := h6) (av := [.int x3]) (st := []) dX9_bears_23 qM_X9_232 qD_X9_findWorlds e16 rfl rfl ⟨by decide, by decide⟩ rfl (Nat.le_of_ble_eq_true rfl) (Nat.le_of_ble_eq_true rfl) (sX9_findWorlds e17) rfl ?_
        refine qv_aload_n dX9_bears_26 (i := 0) rfl rfl ?_
        obtain ⟨u7, e18, hs⟩ := qv_bind hs
        obtain ⟨v8, e19, hs⟩ := qv_bind hs
        refine qv_cV (d2 := mX9_inAll) (o := a0) (ci := 8) (r := some (.int v8)) (h2 := h6) (av := []) (st := []) dX9_bears_27 qM_X9_239 qD_X9_inAll e18 rfl rfl ⟨by decide, by decide⟩ rfl (Nat.le_of_ble_eq_true rfl) (Nat.le_of_ble_eq_true rfl) (sX9_inAll e19) rfl ?_
        refine qv_aload_n dX9_bears_30 (i := 0) rfl rfl ?_
        obtain ⟨u9, e20, hs⟩ := qv_bind hs
        obtain ⟨v10, e21, hs⟩ := qv_bind hs
        refine qv_cV (d2 := mX9_inNone) (o := a0) (ci := 8) (r := some (.int v10)) (h2 := h6) (av := []) (st := [.int v8]) dX9_bears_31 qM_X9_242 qD_X9_inNone e20 rfl rfl ⟨by decide, by decide⟩ rfl (Nat.le_of_ble_eq_true rfl) (Nat.le_of_ble_eq_true rfl) (sX9_inNone e21) rfl ?_
        refine qv_ior dX9_bears_34 ?_
        refine qv_iload_n dX9_bears_35 (i := 1) rfl rfl ?_
        refine qv_ishr dX9_bears_36 ?_
        refine qv_iconst (v := (1 : Int32)) dX9_bears_37 rfl ?_
        refine qv_iand dX9_bears_38 ?_
        refine qv_iconst (v := (1 : Int32)) dX9_bears_39 rfl ?_
        by_cases c22 : (((v8 ||| v10) >>> (a1 &&& 31)) &&& (1 : Int32)) = (1 : Int32)
        · have hs := qv_pos c22 hs
          refine qv_icmp_ne (tgt := 45) dX9_bears_40 rfl (fun q => absurd c22 q) (fun _ => ?_)
          refine qv_iload_n dX9_bears_43 (i := 2) rfl rfl ?_
          cases hs
          cases qv_nx_r eb10
          have hs := hA8
          dsimp only at hs
          obtain ⟨rfl, rfl⟩ := qv_pr hs
          exact qv_iret dX9_bears_44 rfl
        · have hs := qv_neg c22 hs
          refine qv_icmp_ne (tgt := 45) dX9_bears_40 rfl (fun _ => ?_) (fun q => absurd q c22)
          refine qv_iinc (v := x3 + (-1 : Int32)) (lo2 := [some (.ref a0), some (.int a1), some (.int (x3 + (-1 : Int32)))]) dX9_bears_45 rfl rfl (by decide) rfl rfl ?_
          refine qv_goto (tgt := 17) dX9_bears_48 rfl ?_
          cases hs
          exact qv_dp (qv_le_s (qv_le_s (qv_le_s qv_le_0))) (ih9 _ _ (qv_nx_l eb10))
theorem qD_X9_bears : qv_DV mX9_bears 1 := ⟨(qv_i16 (List.mem_of_getElem? (i := 52) (by decide +kernel))), (qv_i16 (List.mem_of_getElem? (i := 53) (by decide +kernel))), (qv_i1 (List.mem_of_getElem? (i := 14) (by decide +kernel))), (qv_i16 (List.mem_of_getElem? (i := 54) (by decide +kernel))), by decide +kernel, by decide +kernel⟩
/-- TrueOneWayModel.alikeBy(I)I -/
noncomputable def fX9_alikeBy (a0 : Nat) (a1 : Int32) (h : qv_H) : Option (Int32) :=
  (qv_ob h 8 a0).bind fun _ =>
  (fX9_allFacts a0 h).bind fun v2 =>
  Option.bind (qv_loop (σ := Int32 × Int32) (ρ := Int32) (fun (x3, x4) =>
      (qv_gI h 8 a0 33).bind fun v5 =>
      if v5 ≤ x4 then
        some (.inr x3)
      else
        Option.bind (qv_loop (σ := Int32 × Int32) (ρ := Int32) (fun (x6, x7) =>
            if x4 ≤ x7 then
              some (.inr x6)
            else
              (qv_gR h 8 a0 32).bind fun v8 =>
              (qv_aI h false v8 x4).bind fun v9 =>
              (qv_gR h 8 a0 32).bind fun v10 =>
              (qv_aI h false v10 x7).bind fun v11 =>
              Option.bind (α := Int32) (
                  if (((v9 ^^^ v11) >>> ((4 : Int32) &&& 31)) &&& a1) = 0 then
                    some (x6 &&& ((v9 ^^^ v11) ^^^ (-1 : Int32)))
                  else
                    some x6
                ) fun m12 =>
              some (.inl (m12, x7 + (1 : Int32)))
          ) (x3, (0 : Int32))) fun y13 =>
        some (.inl (y13, x4 + (1 : Int32)))
    ) (v2, (0 : Int32))) fun y14 =>
  some y14
abbrev mX9_alikeBy : qv_M := (yX9_alikeBy, cX9_alikeBy, 6, (Option.some Jvm.ClassFile.FieldType.int), 1, 20)
set_option maxRecDepth 100000 in
set_option maxHeartbeats 4000000 in
theorem sX9_alikeBy {l : Launch} {g : qv_G} {a0 : Nat} {a1 : Int32} {h : qv_H} {r : Int32} (hs : fX9_alikeBy a0 a1 h = some r) : qv_J l g mX9_alikeBy 0 [some (.ref a0), some (.int a1), none, none, none, none] [] h (some (.int r), h) := by
  unfold fX9_alikeBy at hs
  refine qv_aload_n dX9_alikeBy_0 (i := 0) rfl rfl ?_
  obtain ⟨u1, e1, hs⟩ := qv_bind hs
  obtain ⟨v2, e2, hs⟩ := qv_bind hs
  refine qv_cV (d2 := mX9_allFacts) (o := a0) (ci := 8) (r := some (.int v2)) (h2 := h) (av := []) (st := []) dX9_alikeBy_1 qM_X9_195 qD_X9_allFacts e1 rfl rfl ⟨by decide, by decide⟩ rfl (Nat.le_of_ble_eq_true rfl) (Nat.le_of_ble_eq_true rfl) (sX9_allFacts e2) rfl ?_
  refine qv_istore_n (lo2 := [some (.ref a0), some (.int a1), some (.int v2), none, none, none]) dX9_alikeBy_4 (i := 2) rfl (by decide) rfl (Nat.le_of_ble_eq_true rfl) rfl ?_
  refine qv_iconst (v := (0 : Int32)) dX9_alikeBy_5 rfl ?_
  refine qv_istore_n (lo2 := [some (.ref a0), some (.int a1), some (.int v2), some (.int (0 : Int32)), none, none]) dX9_alikeBy_6 (i := 3) rfl (by decide) rfl (Nat.le_of_ble_eq_true rfl) rfl ?_
  obtain ⟨y14, e4, hs⟩ := qv_bind hs
  have K3 : qv_J l g mX9_alikeBy 68 [none, none, some (.int y14), none, none, none] [] h (some (.int r), h) := by
    refine qv_iload_n dX9_alikeBy_68 (i := 2) rfl rfl ?_
    obtain rfl := qv_sm hs
    exact qv_iret dX9_alikeBy_69 rfl
  obtain ⟨n10, e4⟩ := qv_loop_of e4
  refine qv_dp (qv_le_s (qv_le_s (qv_le_s (qv_le_s (qv_le_n (qv_le_n qv_le_0)))))) (?_ : qv_J l g mX9_alikeBy 7 [some (.ref a0), some (.int a1), some (.int v2), some (.int (0 : Int32)), none, none] [] h (some (.int r), h))
  revert e4
  suffices lj9 : ∀ (x3 : Int32) (x4 : Int32), qv_it _ n10 (x3, x4) = some y14 → qv_J l g mX9_alikeBy 7 [some (.ref a0), some (.int a1), some (.int x3), some (.int x4), none, none] [] h (some (.int r), h) from lj9 v2 (0 : Int32)
  induction n10 with
  | zero =>
    intro x3 x4 e4
    cases e4
  | succ n10 ih6 =>
    intro x3 x4 e4
    obtain ⟨_, hs, eb7⟩ := qv_it_s e4
    dsimp only at hs
    refine qv_iload_n dX9_alikeBy_7 (i := 3) rfl rfl ?_
    refine qv_aload_n dX9_alikeBy_8 (i := 0) rfl rfl ?_
    obtain ⟨v5, e11, hs⟩ := qv_bind hs
    refine qv_getI dX9_alikeBy_9 qF_X9_223 e11 ?_
    by_cases c12 : v5 ≤ x4
    · have hs := qv_pos c12 hs
      refine qv_icmp_ge (tgt := 68) dX9_alikeBy_12 rfl (fun _ => ?_) (fun q => absurd c12 q)
      cases hs
      cases qv_nx_r eb7
      exact qv_dp (qv_le_n (qv_le_n (qv_le_s (qv_le_n (qv_le_n (qv_le_n qv_le_0)))))) K3
    · have hs := qv_neg c12 hs
      refine qv_icmp_ge (tgt := 68) dX9_alikeBy_12 rfl (fun q => absurd q c12) (fun _ => ?_)
      refine qv_iconst (v := (0 : Int32)) dX9_alikeBy_15 rfl ?_
      refine qv_istore (lo2 := [some (.ref a0), some (.int a1), some (.int x3), some (.int x4), some (.int (0 : Int32)), none]) dX9_alikeBy_16 (by decide) rfl (Nat.le_of_ble_eq_true rfl) rfl ?_
      obtain ⟨y13, e14, hs⟩ := qv_bind hs
      have K13 : qv_J l g mX9_alikeBy 62 [some (.ref a0), some (.int a1), some (.int y13), some (.int x4), none, none] [] h (some (.int r), h) := by
        refine qv_iinc (v := x4 + (1 : Int32)) (lo2 := [some (.ref a0), some (.int a1), some (.int y13), some (.int (x4 + (1 : Int32))), none, none]) dX9_alikeBy_62 rfl rfl (by decide) rfl rfl ?_
        refine qv_goto (tgt := 7) dX9_alikeBy_65 rfl ?_
        cases hs
        exact qv_dp (qv_le_s (qv_le_s (qv_le_s (qv_le_s (qv_le_n (qv_le_n qv_le_0)))))) (ih6 _ _ (qv_nx_l eb7))
      obtain ⟨n20, e14⟩ := qv_loop_of e14
      refine qv_dp (qv_le_s (qv_le_s (qv_le_s (qv_le_s (qv_le_s (qv_le_n qv_le_0)))))) (?_ : qv_J l g mX9_alikeBy 18 [some (.ref a0), some (.int a1), some (.int x3), some (.int x4), some (.int (0 : Int32)), none] [] h (some (.int r), h))
      revert e14
      suffices lj19 : ∀ (x6 : Int32) (x7 : Int32), qv_it _ n20 (x6, x7) = some y13 → qv_J l g mX9_alikeBy 18 [some (.ref a0), some (.int a1), some (.int x6), some (.int x4), some (.int x7), none] [] h (some (.int r), h) from lj19 x3 (0 : Int32)
      induction n20 with
      | zero =>
        intro x6 x7 e14
        cases e14
      | succ n20 ih16 =>
        intro x6 x7 e14
        obtain ⟨_, hs, eb17⟩ := qv_it_s e14
        dsimp only at hs
        refine qv_iload dX9_alikeBy_18 rfl ?_
        refine qv_iload_n dX9_alikeBy_20 (i := 3) rfl rfl ?_
        by_cases c21 : x4 ≤ x7
        · have hs := qv_pos c21 hs
          refine qv_icmp_ge (tgt := 62) dX9_alikeBy_21 rfl (fun _ => ?_) (fun q => absurd c21 q)
          cases hs
          cases qv_nx_r eb17
          exact qv_dp (qv_le_s (qv_le_s (qv_le_s (qv_le_s (qv_le_n (qv_le_n qv_le_0)))))) K13
        · have hs := qv_neg c21 hs
          refine qv_icmp_ge (tgt := 62) dX9_alikeBy_21 rfl (fun q => absurd q c21) (fun _ => ?_)
          refine qv_aload_n dX9_alikeBy_24 (i := 0) rfl rfl ?_
          obtain ⟨v8, e22, hs⟩ := qv_bind hs
          refine qv_getR dX9_alikeBy_25 qF_X9_71 e22 ?_
          refine qv_iload_n dX9_alikeBy_28 (i := 3) rfl rfl ?_
          obtain ⟨v9, e23, hs⟩ := qv_bind hs
          refine qv_iald dX9_alikeBy_29 e23 ?_
          refine qv_aload_n dX9_alikeBy_30 (i := 0) rfl rfl ?_
          obtain ⟨v10, e24, hs⟩ := qv_bind hs
          refine qv_getR dX9_alikeBy_31 qF_X9_71 e24 ?_
          refine qv_iload dX9_alikeBy_34 rfl ?_
          obtain ⟨v11, e25, hs⟩ := qv_bind hs
          refine qv_iald dX9_alikeBy_36 e25 ?_
          refine qv_ixor dX9_alikeBy_37 ?_
          refine qv_istore (lo2 := [some (.ref a0), some (.int a1), some (.int x6), some (.int x4), some (.int x7), some (.int (v9 ^^^ v11))]) dX9_alikeBy_38 (by decide) rfl (Nat.le_of_ble_eq_true rfl) rfl ?_
          refine qv_iload dX9_alikeBy_40 rfl ?_
          refine qv_iconst (v := (4 : Int32)) dX9_alikeBy_42 rfl ?_
          refine qv_ishr dX9_alikeBy_43 ?_
          refine qv_iload_n dX9_alikeBy_44 (i := 1) rfl rfl ?_
          refine qv_iand dX9_alikeBy_45 ?_
          obtain ⟨m12, hj27, hs⟩ := qv_bind hs
          have K26 : qv_J l g mX9_alikeBy 56 [some (.ref a0), some (.int a1), some (.int m12), some (.int x4), some (.int x7), none] [] h (some (.int r), h) := by
            refine qv_iinc (v := x7 + (1 : Int32)) (lo2 := [some (.ref a0), some (.int a1), some (.int m12), some (.int x4), some (.int (x7 + (1 : Int32))), none]) dX9_alikeBy_56 rfl rfl (by decide) rfl rfl ?_
            refine qv_goto (tgt := 18) dX9_alikeBy_59 rfl ?_
            cases hs
            exact qv_dp (qv_le_s (qv_le_s (qv_le_s (qv_le_s (qv_le_s (qv_le_n qv_le_0)))))) (ih16 _ _ (qv_nx_l eb17))
          replace hs := hj27
          by_cases c28 : (((v9 ^^^ v11) >>> ((4 : Int32) &&& 31)) &&& a1) = 0
          · have hs := qv_pos c28 hs
            refine qv_if_ne (tgt := 56) dX9_alikeBy_46 rfl (fun q => absurd c28 q) (fun _ => ?_)
            refine qv_iload_n dX9_alikeBy_49 (i := 2) rfl rfl ?_
            refine qv_iload dX9_alikeBy_50 rfl ?_
            refine qv_iconst (v := (-1 : Int32)) dX9_alikeBy_52 rfl ?_
            refine qv_ixor dX9_alikeBy_53 ?_
            refine qv_iand dX9_alikeBy_54 ?_
            refine qv_istore_n (lo2 := [some (.ref a0), some (.int a1), some (.int (x6 &&& ((v9 ^^^ v11) ^^^ (-1 : Int32)))), some (.int x4), some (.int x7), some (.int (v9 ^^^ v11))]) dX9_alikeBy_55 (i := 2) rfl (by decide) rfl (Nat.le_of_ble_eq_true rfl) rfl ?_
            cases hs
            exact qv_dp (qv_le_s (qv_le_s (qv_le_s (qv_le_s (qv_le_s (qv_le_n qv_le_0)))))) K26
          · have hs := qv_neg c28 hs
            refine qv_if_ne (tgt := 56) dX9_alikeBy_46 rfl (fun _ => ?_) (fun q => absurd q c28)
            cases hs
            exact qv_dp (qv_le_s (qv_le_s (qv_le_s (qv_le_s (qv_le_s (qv_le_n qv_le_0)))))) K26
theorem qD_X9_alikeBy : qv_DV mX9_alikeBy 1 := ⟨(qv_i16 (List.mem_of_getElem? (i := 63) (by decide +kernel))), (qv_i0 (List.mem_of_getElem? (i := 54) (by decide +kernel))), (qv_i1 (List.mem_of_getElem? (i := 14) (by decide +kernel))), (qv_i17 (List.mem_of_getElem? (i := 0) (by decide +kernel))), by decide +kernel, by decide +kernel⟩
/-- TrueOneWayModel.fewestFor(I)I -/
noncomputable def fX9_fewestFor (a0 : Nat) (a1 : Int32) (h : qv_H) : Option (Int32) :=
  Option.bind (qv_loop (σ := Int32 × Int32) (ρ := Int32) (fun (x1, x2) =>
      (qv_ob h 8 a0).bind fun _ =>
      (fX9_allSigns a0 h).bind fun v4 =>
      if v4 < x2 then
        some (.inr x1)
      else
        (fX9_bits x2).bind fun v5 =>
        Option.bind (α := Int32) (
            if (3 : Int32) < v5 then
              some x1
            else
              if x1 < 0 then
                (qv_ob h 8 a0).bind fun _ =>
                (fX9_alikeBy a0 x2 h).bind fun v7 =>
                if ((v7 >>> (a1 &&& 31)) &&& (1 : Int32)) = (1 : Int32) then
                  some x2
                else
                  some x1
              else
                (fX9_bits x2).bind fun v8 =>
                (fX9_bits x1).bind fun v9 =>
                if v8 < v9 then
                  (qv_ob h 8 a0).bind fun _ =>
                  (fX9_alikeBy a0 x2 h).bind fun v11 =>
                  if ((v11 >>> (a1 &&& 31)) &&& (1 : Int32)) = (1 : Int32) then
                    some x2
                  else
                    some x1
                else
                  some x1
          ) fun m12 =>
        some (.inl (m12, x2 + (1 : Int32)))
    ) ((-9 : Int32), (0 : Int32))) fun y13 =>
  some y13
abbrev mX9_fewestFor : qv_M := (yX9_fewestFor, cX9_fewestFor, 4, (Option.some Jvm.ClassFile.FieldType.int), 2, 45)
set_option maxRecDepth 100000 in
set_option maxHeartbeats 4000000 in
theorem sX9_fewestFor {l : Launch} {g : qv_G} {a0 : Nat} {a1 : Int32} {h : qv_H} {r : Int32} (hs : fX9_fewestFor a0 a1 h = some r) : qv_J l g mX9_fewestFor 0 [some (.ref a0), some (.int a1), none, none] [] h (some (.int r), h) := by
  unfold fX9_fewestFor at hs
  refine qv_bipush (v := (-9 : Int32)) dX9_fewestFor_0 rfl ?_
  refine qv_istore_n (lo2 := [some (.ref a0), some (.int a1), some (.int (-9 : Int32)), none]) dX9_fewestFor_2 (i := 2) rfl (by decide) rfl (Nat.le_of_ble_eq_true rfl) rfl ?_
  refine qv_iconst (v := (0 : Int32)) dX9_fewestFor_3 rfl ?_
  refine qv_istore_n (lo2 := [some (.ref a0), some (.int a1), some (.int (-9 : Int32)), some (.int (0 : Int32))]) dX9_fewestFor_4 (i := 3) rfl (by decide) rfl (Nat.le_of_ble_eq_true rfl) rfl ?_
  obtain ⟨y13, e2, hs⟩ := qv_bind hs
  have K1 : qv_J l g mX9_fewestFor 60 [none, none, some (.int y13), none] [] h (some (.int r), h) := by
    refine qv_iload_n dX9_fewestFor_60 (i := 2) rfl rfl ?_
    obtain rfl := qv_sm hs
    exact qv_iret dX9_fewestFor_61 rfl
  obtain ⟨n8, e2⟩ := qv_loop_of e2
  refine qv_dp (qv_le_s (qv_le_s (qv_le_s (qv_le_s qv_le_0)))) (?_ : qv_J l g mX9_fewestFor 5 [some (.ref a0), some (.int a1), some (.int (-9 : Int32)), some (.int (0 : Int32))] [] h (some (.int r), h))
  revert e2
  suffices lj7 : ∀ (x1 : Int32) (x2 : Int32), qv_it _ n8 (x1, x2) = some y13 → qv_J l g mX9_fewestFor 5 [some (.ref a0), some (.int a1), some (.int x1), some (.int x2)] [] h (some (.int r), h) from lj7 (-9 : Int32) (0 : Int32)
  induction n8 with
  | zero =>
    intro x1 x2 e2
    cases e2
  | succ n8 ih4 =>
    intro x1 x2 e2
    obtain ⟨_, hs, eb5⟩ := qv_it_s e2
    dsimp only at hs
    refine qv_iload_n dX9_fewestFor_5 (i := 3) rfl rfl ?_
    refine qv_aload_n dX9_fewestFor_6 (i := 0) rfl rfl ?_
    obtain ⟨u3, e9, hs⟩ := qv_bind hs
    obtain ⟨v4, e10, hs⟩ := qv_bind hs
    refine qv_cV (d2 := mX9_allSigns) (o := a0) (ci := 8) (r := some (.int v4)) (h2 := h) (av := []) (st := [.int x2]) dX9_fewestFor_7 qM_X9_198 qD_X9_allSigns e9 rfl rfl ⟨by decide, by decide⟩ rfl (Nat.le_of_ble_eq_true rfl) (Nat.le_of_ble_eq_true rfl) (sX9_allSigns e10) rfl ?_
    by_cases c11 : v4 < x2
    · have hs := qv_pos c11 hs
      refine qv_icmp_gt (tgt := 60) dX9_fewestFor_10 rfl (fun _ => ?_) (fun q => absurd c11 q)
      cases hs
      cases qv_nx_r eb5
      exact qv_dp (qv_le_n (qv_le_n (qv_le_s (qv_le_n qv_le_0)))) K1
    · have hs := qv_neg c11 hs
      refine qv_icmp_gt (tgt := 60) dX9_fewestFor_10 rfl (fun q => absurd q c11) (fun _ => ?_)
      refine qv_iload_n dX9_fewestFor_13 (i := 3) rfl rfl ?_
      obtain ⟨v5, e12, hs⟩ := qv_bind hs
      refine qv_cS (d2 := mX9_bits) (r := some (.int v5)) (h2 := h) (av := [.int x2]) (st := []) dX9_fewestFor_14 qM_X9_245 qD_X9_bits rfl ⟨by decide, by decide⟩ rfl (Nat.le_of_ble_eq_true rfl) (Nat.le_of_ble_eq_true rfl) (sX9_bits e12) rfl ?_
      refine qv_iconst (v := (3 : Int32)) dX9_fewestFor_17 rfl ?_
      obtain ⟨m12, hj14, hs⟩ := qv_bind hs
      have K13 : qv_J l g mX9_fewestFor 54 [some (.ref a0), some (.int a1), some (.int m12), some (.int x2)] [] h (some (.int r), h) := by
        refine qv_iinc (v := x2 + (1 : Int32)) (lo2 := [some (.ref a0), some (.int a1), some (.int m12), some (.int (x2 + (1 : Int32)))]) dX9_fewestFor_54 rfl rfl (by decide) rfl rfl ?_
        refine qv_goto (tgt := 5) dX9_fewestFor_57 rfl ?_
        cases hs
        exact qv_dp (qv_le_s (qv_le_s (qv_le_s (qv_le_s qv_le_0)))) (ih4 _ _ (qv_nx_l eb5))
      replace hs := hj14
      by_cases c15 : (3 : Int32) < v5
      · have hs := qv_pos c15 hs
        refine qv_icmp_gt (tgt := 54) dX9_fewestFor_18 rfl (fun _ => ?_) (fun q => absurd c15 q)
        cases hs
        exact qv_dp (qv_le_s (qv_le_s (qv_le_s (qv_le_s qv_le_0)))) K13
      · have hs := qv_neg c15 hs
        refine qv_icmp_gt (tgt := 54) dX9_fewestFor_18 rfl (fun q => absurd q c15) (fun _ => ?_)
        refine qv_iload_n dX9_fewestFor_21 (i := 2) rfl rfl ?_
        by_cases c16 : x1 < 0
        · have hs := qv_pos c16 hs
          refine qv_if_lt (tgt := 39) dX9_fewestFor_22 rfl (fun _ => ?_) (fun q => absurd c16 q)
          refine qv_aload_n dX9_fewestFor_39 (i := 0) rfl rfl ?_
          refine qv_iload_n dX9_fewestFor_40 (i := 3) rfl rfl ?_
          obtain ⟨u6, e17, hs⟩ := qv_bind hs
          obtain ⟨v7, e18, hs⟩ := qv_bind hs
          refine qv_cV (d2 := mX9_alikeBy) (o := a0) (ci := 8) (r := some (.int v7)) (h2 := h) (av := [.int x2]) (st := []) dX9_fewestFor_41 qM_X9_254 qD_X9_alikeBy e17 rfl rfl ⟨by decide, by decide⟩ rfl (Nat.le_of_ble_eq_true rfl) (Nat.le_of_ble_eq_true rfl) (sX9_alikeBy e18) rfl ?_
          refine qv_iload_n dX9_fewestFor_44 (i := 1) rfl rfl ?_
          refine qv_ishr dX9_fewestFor_45 ?_
          refine qv_iconst (v := (1 : Int32)) dX9_fewestFor_46 rfl ?_
          refine qv_iand dX9_fewestFor_47 ?_
          refine qv_iconst (v := (1 : Int32)) dX9_fewestFor_48 rfl ?_
          by_cases c19 : ((v7 >>> (a1 &&& 31)) &&& (1 : Int32)) = (1 : Int32)
          · have hs := qv_pos c19 hs
            refine qv_icmp_ne (tgt := 54) dX9_fewestFor_49 rfl (fun q => absurd c19 q) (fun _ => ?_)
            refine qv_iload_n dX9_fewestFor_52 (i := 3) rfl rfl ?_
            refine qv_istore_n (lo2 := [some (.ref a0), some (.int a1), some (.int x2), some (.int x2)]) dX9_fewestFor_53 (i := 2) rfl (by decide) rfl (Nat.le_of_ble_eq_true rfl) rfl ?_
            cases hs
            exact qv_dp (qv_le_s (qv_le_s (qv_le_s (qv_le_s qv_le_0)))) K13
          · have hs := qv_neg c19 hs
            refine qv_icmp_ne (tgt := 54) dX9_fewestFor_49 rfl (fun _ => ?_) (fun q => absurd q c19)
            cases hs
            exact qv_dp (qv_le_s (qv_le_s (qv_le_s (qv_le_s qv_le_0)))) K13
        · have hs := qv_neg c16 hs
          refine qv_if_lt (tgt := 39) dX9_fewestFor_22 rfl (fun q => absurd q c16) (fun _ => ?_)
          refine qv_iload_n dX9_fewestFor_25 (i := 3) rfl rfl ?_
          obtain ⟨v8, e20, hs⟩ := qv_bind hs
          refine qv_cS (d2 := mX9_bits) (r := some (.int v8)) (h2 := h) (av := [.int x2]) (st := []) dX9_fewestFor_26 qM_X9_245 qD_X9_bits rfl ⟨by decide, by decide⟩ rfl (Nat.le_of_ble_eq_true rfl) (Nat.le_of_ble_eq_true rfl) (sX9_bits e20) rfl ?_
          refine qv_iload_n dX9_fewestFor_29 (i := 2) rfl rfl ?_
          obtain ⟨v9, e21, hs⟩ := qv_bind hs
          refine qv_cS (d2 := mX9_bits) (r := some (.int v9)) (h2 := h) (av := [.int x1]) (st := [.int v8]) dX9_fewestFor_30 qM_X9_245 qD_X9_bits rfl ⟨by decide, by decide⟩ rfl (Nat.le_of_ble_eq_true rfl) (Nat.le_of_ble_eq_true rfl) (sX9_bits e21) rfl ?_
          by_cases c22 : v8 < v9
          · have hs := qv_pos c22 hs
            refine qv_icmp_lt (tgt := 39) dX9_fewestFor_33 rfl (fun _ => ?_) (fun q => absurd c22 q)
            refine qv_aload_n dX9_fewestFor_39 (i := 0) rfl rfl ?_
            refine qv_iload_n dX9_fewestFor_40 (i := 3) rfl rfl ?_
            obtain ⟨u10, e23, hs⟩ := qv_bind hs
            obtain ⟨v11, e24, hs⟩ := qv_bind hs
            refine qv_cV (d2 := mX9_alikeBy) (o := a0) (ci := 8) (r := some (.int v11)) (h2 := h) (av := [.int x2]) (st := []) dX9_fewestFor_41 qM_X9_254 qD_X9_alikeBy e23 rfl rfl ⟨by decide, by decide⟩ rfl (Nat.le_of_ble_eq_true rfl) (Nat.le_of_ble_eq_true rfl) (sX9_alikeBy e24) rfl ?_
            refine qv_iload_n dX9_fewestFor_44 (i := 1) rfl rfl ?_
            refine qv_ishr dX9_fewestFor_45 ?_
            refine qv_iconst (v := (1 : Int32)) dX9_fewestFor_46 rfl ?_
            refine qv_iand dX9_fewestFor_47 ?_
            refine qv_iconst (v := (1 : Int32)) dX9_fewestFor_48 rfl ?_
            by_cases c25 : ((v11 >>> (a1 &&& 31)) &&& (1 : Int32)) = (1 : Int32)
            · have hs := qv_pos c25 hs
              refine qv_icmp_ne (tgt := 54) dX9_fewestFor_49 rfl (fun q => absurd c25 q) (fun _ => ?_)
              refine qv_iload_n dX9_fewestFor_52 (i := 3) rfl rfl ?_
              refine qv_istore_n (lo2 := [some (.ref a0), some (.int a1), some (.int x2), some (.int x2)]) dX9_fewestFor_53 (i := 2) rfl (by decide) rfl (Nat.le_of_ble_eq_true rfl) rfl ?_
              cases hs
              exact qv_dp (qv_le_s (qv_le_s (qv_le_s (qv_le_s qv_le_0)))) K13
            · have hs := qv_neg c25 hs
              refine qv_icmp_ne (tgt := 54) dX9_fewestFor_49 rfl (fun _ => ?_) (fun q => absurd q c25)
              cases hs
              exact qv_dp (qv_le_s (qv_le_s (qv_le_s (qv_le_s qv_le_0)))) K13
          · have hs := qv_neg c22 hs
            refine qv_icmp_lt (tgt := 39) dX9_fewestFor_33 rfl (fun q => absurd q c22) (fun _ => ?_)
            refine qv_goto (tgt := 54) dX9_fewestFor_36 rfl ?_
            cases hs
            exact qv_dp (qv_le_s (qv_le_s (qv_le_s (qv_le_s qv_le_0)))) K13
theorem qD_X9_fewestFor : qv_DV mX9_fewestFor 1 := ⟨(qv_i16 (List.mem_of_getElem? (i := 60) (by decide +kernel))), (qv_i0 (List.mem_of_getElem? (i := 53) (by decide +kernel))), (qv_i1 (List.mem_of_getElem? (i := 14) (by decide +kernel))), (qv_i16 (List.mem_of_getElem? (i := 61) (by decide +kernel))), by decide +kernel, by decide +kernel⟩
/-- TrueOneWayModel.fewest(II)I -/
noncomputable def fX9_fewest (a0 : Nat) (a1 : Int32) (a2 : Int32) (h : qv_H) : Option (Int32 × qv_H) :=
  (qv_ob h 8 a0).bind fun _ =>
  (fX9_isFact a0 a1 h).bind fun v2 =>
  if v2 = 0 then
    (qv_ob h 8 a0).bind fun _ =>
    (fX9_no a0 (-1 : Int32) h).bind fun (v14, h15) =>
    some (v14, h15)
  else
    (fX9_isIn a2 (0 : Int32) (1 : Int32)).bind fun v3 =>
    if v3 = 0 then
      (qv_ob h 8 a0).bind fun _ =>
      (fX9_no a0 (-2 : Int32) h).bind fun (v11, h12) =>
      some (v11, h12)
    else
      (qv_ob h 8 a0).bind fun _ =>
      (fX9_findWorlds a0 (0 : Int32) h).bind fun h5 =>
      (qv_ob h5 8 a0).bind fun _ =>
      (fX9_fewestFor a0 a1 h5).bind fun v7 =>
      Option.bind (α := Int32) (
          if 0 ≤ v7 then
            if a2 = 0 then
              (fX9_bits v7).bind fun v8 =>
              some v8
            else
              some v7
          else
            some (-9 : Int32)
        ) fun m9 =>
      some (m9, h5)
abbrev mX9_fewest : qv_M := (yX9_fewest, cX9_fewest, 4, (Option.some Jvm.ClassFile.FieldType.int), 4, 91)
set_option maxRecDepth 100000 in
set_option maxHeartbeats 4000000 in
theorem sX9_fewest {l : Launch} {g : qv_G} {a0 : Nat} {a1 : Int32} {a2 : Int32} {h : qv_H} {r : Int32} {hz : qv_H} (hs : fX9_fewest a0 a1 a2 h = some (r, hz)) : qv_J l g mX9_fewest 0 [some (.ref a0), some (.int a1), some (.int a2), none] [] h (some (.int r), hz) := by
  unfold fX9_fewest at hs
  refine qv_aload_n dX9_fewest_0 (i := 0) rfl rfl ?_
  refine qv_iload_n dX9_fewest_1 (i := 1) rfl rfl ?_
  obtain ⟨u1, e1, hs⟩ := qv_bind hs
  obtain ⟨v2, e2, hs⟩ := qv_bind hs
  refine qv_cV (d2 := mX9_isFact) (o := a0) (ci := 8) (r := some (.int v2)) (h2 := h) (av := [.int a1]) (st := []) dX9_fewest_2 qM_X9_146 qD_X9_isFact e1 rfl rfl ⟨by decide, by decide⟩ rfl (Nat.le_of_ble_eq_true rfl) (Nat.le_of_ble_eq_true rfl) (sX9_isFact e2) rfl ?_
  by_cases c3 : v2 = 0
  · have hs := qv_pos c3 hs
    refine qv_if_ne (tgt := 14) dX9_fewest_5 rfl (fun q => absurd c3 q) (fun _ => ?_)
    refine qv_aload_n dX9_fewest_8 (i := 0) rfl rfl ?_
    refine qv_iconst (v := (-1 : Int32)) dX9_fewest_9 rfl ?_
    obtain ⟨u13, e4, hs⟩ := qv_bind hs
    obtain ⟨⟨v14, h15⟩, e5, hs⟩ := qv_bind hs
    dsimp only at hs
    refine qv_cV (d2 := mX9_no) (o := a0) (ci := 8) (r := some (.int v14)) (h2 := h15) (av := [.int (-1 : Int32)]) (st := []) dX9_fewest_10 qM_X9_102 qD_X9_no e4 rfl rfl ⟨by decide, by decide⟩ rfl (Nat.le_of_ble_eq_true rfl) (Nat.le_of_ble_eq_true rfl) (sX9_no e5) rfl ?_
    obtain ⟨rfl, rfl⟩ := qv_pr hs
    exact qv_iret dX9_fewest_13 rfl
  · have hs := qv_neg c3 hs
    refine qv_if_ne (tgt := 14) dX9_fewest_5 rfl (fun _ => ?_) (fun q => absurd q c3)
    refine qv_iload_n dX9_fewest_14 (i := 2) rfl rfl ?_
    refine qv_iconst (v := (0 : Int32)) dX9_fewest_15 rfl ?_
    refine qv_iconst (v := (1 : Int32)) dX9_fewest_16 rfl ?_
    obtain ⟨v3, e6, hs⟩ := qv_bind hs
    refine qv_cS (d2 := mX9_isIn) (r := some (.int v3)) (h2 := h) (av := [.int a2, .int (0 : Int32), .int (1 : Int32)]) (st := []) dX9_fewest_17 qM_X9_113 qD_X9_isIn rfl ⟨by decide, by decide⟩ rfl (Nat.le_of_ble_eq_true rfl) (Nat.le_of_ble_eq_true rfl) (sX9_isIn e6) rfl ?_
    by_cases c7 : v3 = 0
    · have hs := qv_pos c7 hs
      refine qv_if_ne (tgt := 30) dX9_fewest_20 rfl (fun q => absurd c7 q) (fun _ => ?_)
      refine qv_aload_n dX9_fewest_23 (i := 0) rfl rfl ?_
      refine qv_bipush (v := (-2 : Int32)) dX9_fewest_24 rfl ?_
      obtain ⟨u10, e8, hs⟩ := qv_bind hs
      obtain ⟨⟨v11, h12⟩, e9, hs⟩ := qv_bind hs
      dsimp only at hs
      refine qv_cV (d2 := mX9_no) (o := a0) (ci := 8) (r := some (.int v11)) (h2 := h12) (av := [.int (-2 : Int32)]) (st := []) dX9_fewest_26 qM_X9_102 qD_X9_no e8 rfl rfl ⟨by decide, by decide⟩ rfl (Nat.le_of_ble_eq_true rfl) (Nat.le_of_ble_eq_true rfl) (sX9_no e9) rfl ?_
      obtain ⟨rfl, rfl⟩ := qv_pr hs
      exact qv_iret dX9_fewest_29 rfl
    · have hs := qv_neg c7 hs
      refine qv_if_ne (tgt := 30) dX9_fewest_20 rfl (fun _ => ?_) (fun q => absurd q c7)
      refine qv_aload_n dX9_fewest_30 (i := 0) rfl rfl ?_
      refine qv_iconst (v := (0 : Int32)) dX9_fewest_31 rfl ?_
      obtain ⟨u4, e10, hs⟩ := qv_bind hs
      obtain ⟨h5, e11, hs⟩ := qv_bind hs
      refine qv_cV (d2 := mX9_findWorlds) (o := a0) (ci := 8) (r := none) (h2 := h5) (av := [.int (0 : Int32)]) (st := []) dX9_fewest_32 qM_X9_232 qD_X9_findWorlds e10 rfl rfl ⟨by decide, by decide⟩ rfl (Nat.le_of_ble_eq_true rfl) (Nat.le_of_ble_eq_true rfl) (sX9_findWorlds e11) rfl ?_
      refine qv_aload_n dX9_fewest_35 (i := 0) rfl rfl ?_
      refine qv_iload_n dX9_fewest_36 (i := 1) rfl rfl ?_
      obtain ⟨u6, e12, hs⟩ := qv_bind hs
      obtain ⟨v7, e13, hs⟩ := qv_bind hs
      refine qv_cV (d2 := mX9_fewestFor) (o := a0) (ci := 8) (r := some (.int v7)) (h2 := h5) (av := [.int a1]) (st := []) dX9_fewest_37 qM_X9_257 qD_X9_fewestFor e12 rfl rfl ⟨by decide, by decide⟩ rfl (Nat.le_of_ble_eq_true rfl) (Nat.le_of_ble_eq_true rfl) (sX9_fewestFor e13) rfl ?_
      refine qv_istore_n (lo2 := [some (.ref a0), some (.int a1), some (.int a2), some (.int v7)]) dX9_fewest_40 (i := 3) rfl (by decide) rfl (Nat.le_of_ble_eq_true rfl) rfl ?_
      refine qv_iload_n dX9_fewest_41 (i := 3) rfl rfl ?_
      obtain ⟨m9, hj15, hs⟩ := qv_bind hs
      have K14 : qv_J l g mX9_fewest 62 [none, none, none, none] [.int m9] h5 (some (.int r), hz) := by
        obtain ⟨rfl, rfl⟩ := qv_pr hs
        exact qv_iret dX9_fewest_62 rfl
      replace hs := hj15
      by_cases c16 : 0 ≤ v7
      · have hs := qv_pos c16 hs
        refine qv_if_ge (tgt := 50) dX9_fewest_42 rfl (fun _ => ?_) (fun q => absurd c16 q)
        refine qv_iload_n dX9_fewest_50 (i := 2) rfl rfl ?_
        by_cases c17 : a2 = 0
        · have hs := qv_pos c17 hs
          refine qv_if_ne (tgt := 61) dX9_fewest_51 rfl (fun q => absurd c17 q) (fun _ => ?_)
          refine qv_iload_n dX9_fewest_54 (i := 3) rfl rfl ?_
          obtain ⟨v8, e18, hs⟩ := qv_bind hs
          refine qv_cS (d2 := mX9_bits) (r := some (.int v8)) (h2 := h5) (av := [.int v7]) (st := []) dX9_fewest_55 qM_X9_245 qD_X9_bits rfl ⟨by decide, by decide⟩ rfl (Nat.le_of_ble_eq_true rfl) (Nat.le_of_ble_eq_true rfl) (sX9_bits e18) rfl ?_
          refine qv_goto (tgt := 62) dX9_fewest_58 rfl ?_
          cases hs
          exact qv_dp (qv_le_n (qv_le_n (qv_le_n (qv_le_n qv_le_0)))) K14
        · have hs := qv_neg c17 hs
          refine qv_if_ne (tgt := 61) dX9_fewest_51 rfl (fun _ => ?_) (fun q => absurd q c17)
          refine qv_iload_n dX9_fewest_61 (i := 3) rfl rfl ?_
          cases hs
          exact qv_dp (qv_le_n (qv_le_n (qv_le_n (qv_le_n qv_le_0)))) K14
      · have hs := qv_neg c16 hs
        refine qv_if_ge (tgt := 50) dX9_fewest_42 rfl (fun q => absurd q c16) (fun _ => ?_)
        refine qv_bipush (v := (-9 : Int32)) dX9_fewest_45 rfl ?_
        refine qv_goto (tgt := 62) dX9_fewest_47 rfl ?_
        cases hs
        exact qv_dp (qv_le_n (qv_le_n (qv_le_n (qv_le_n qv_le_0)))) K14
theorem qD_X9_fewest : qv_DV mX9_fewest 2 := ⟨(qv_i16 (List.mem_of_getElem? (i := 56) (by decide +kernel))), (qv_i16 (List.mem_of_getElem? (i := 57) (by decide +kernel))), (qv_i1 (List.mem_of_getElem? (i := 14) (by decide +kernel))), (qv_i16 (List.mem_of_getElem? (i := 58) (by decide +kernel))), by decide +kernel, by decide +kernel⟩
/-- TrueOneWayModel.together(I)I -/
noncomputable def fX9_together (a0 : Nat) (a1 : Int32) (h : qv_H) : Option (Int32 × qv_H) :=
  if a1 < 0 then
    (qv_ob h 8 a0).bind fun _ =>
    (fX9_no a0 (-1 : Int32) h).bind fun (v2, h3) =>
    some (v2, h3)
  else
    (qv_ob h 8 a0).bind fun _ =>
    (fX9_allSigns a0 h).bind fun v5 =>
    if (a1 &&& (v5 ^^^ (-1 : Int32))) = 0 then
      (qv_ob h 8 a0).bind fun _ =>
      (fX9_findWorlds a0 (0 : Int32) h).bind fun h7 =>
      (qv_ob h7 8 a0).bind fun _ =>
      (fX9_alikeBy a0 a1 h7).bind fun v9 =>
      some (v9, h7)
    else
      (qv_ob h 8 a0).bind fun _ =>
      (fX9_no a0 (-1 : Int32) h).bind fun (v11, h12) =>
      some (v11, h12)
abbrev mX9_together : qv_M := (yX9_together, cX9_together, 2, (Option.some Jvm.ClassFile.FieldType.int), 4, 91)
set_option maxRecDepth 100000 in
set_option maxHeartbeats 4000000 in
theorem sX9_together {l : Launch} {g : qv_G} {a0 : Nat} {a1 : Int32} {h : qv_H} {r : Int32} {hz : qv_H} (hs : fX9_together a0 a1 h = some (r, hz)) : qv_J l g mX9_together 0 [some (.ref a0), some (.int a1)] [] h (some (.int r), hz) := by
  unfold fX9_together at hs
  refine qv_iload_n dX9_together_0 (i := 1) rfl rfl ?_
  by_cases c1 : a1 < 0
  · have hs := qv_pos c1 hs
    refine qv_if_lt (tgt := 15) dX9_together_1 rfl (fun _ => ?_) (fun q => absurd c1 q)
    refine qv_aload_n dX9_together_15 (i := 0) rfl rfl ?_
    refine qv_iconst (v := (-1 : Int32)) dX9_together_16 rfl ?_
    obtain ⟨u1, e2, hs⟩ := qv_bind hs
    obtain ⟨⟨v2, h3⟩, e3, hs⟩ := qv_bind hs
    dsimp only at hs
    refine qv_cV (d2 := mX9_no) (o := a0) (ci := 8) (r := some (.int v2)) (h2 := h3) (av := [.int (-1 : Int32)]) (st := []) dX9_together_17 qM_X9_102 qD_X9_no e2 rfl rfl ⟨by decide, by decide⟩ rfl (Nat.le_of_ble_eq_true rfl) (Nat.le_of_ble_eq_true rfl) (sX9_no e3) rfl ?_
    obtain ⟨rfl, rfl⟩ := qv_pr hs
    exact qv_iret dX9_together_20 rfl
  · have hs := qv_neg c1 hs
    refine qv_if_lt (tgt := 15) dX9_together_1 rfl (fun q => absurd q c1) (fun _ => ?_)
    refine qv_iload_n dX9_together_4 (i := 1) rfl rfl ?_
    refine qv_aload_n dX9_together_5 (i := 0) rfl rfl ?_
    obtain ⟨u4, e4, hs⟩ := qv_bind hs
    obtain ⟨v5, e5, hs⟩ := qv_bind hs
    refine qv_cV (d2 := mX9_allSigns) (o := a0) (ci := 8) (r := some (.int v5)) (h2 := h) (av := []) (st := [.int a1]) dX9_together_6 qM_X9_198 qD_X9_allSigns e4 rfl rfl ⟨by decide, by decide⟩ rfl (Nat.le_of_ble_eq_true rfl) (Nat.le_of_ble_eq_true rfl) (sX9_allSigns e5) rfl ?_
    refine qv_iconst (v := (-1 : Int32)) dX9_together_9 rfl ?_
    refine qv_ixor dX9_together_10 ?_
    refine qv_iand dX9_together_11 ?_
    by_cases c6 : (a1 &&& (v5 ^^^ (-1 : Int32))) = 0
    · have hs := qv_pos c6 hs
      refine qv_if_eq (tgt := 21) dX9_together_12 rfl (fun _ => ?_) (fun q => absurd c6 q)
      refine qv_aload_n dX9_together_21 (i := 0) rfl rfl ?_
      refine qv_iconst (v := (0 : Int32)) dX9_together_22 rfl ?_
      obtain ⟨u6, e7, hs⟩ := qv_bind hs
      obtain ⟨h7, e8, hs⟩ := qv_bind hs
      refine qv_cV (d2 := mX9_findWorlds) (o := a0) (ci := 8) (r := none) (h2 := h7) (av := [.int (0 : Int32)]) (st := []) dX9_together_23 qM_X9_232 qD_X9_findWorlds e7 rfl rfl ⟨by decide, by decide⟩ rfl (Nat.le_of_ble_eq_true rfl) (Nat.le_of_ble_eq_true rfl) (sX9_findWorlds e8) rfl ?_
      refine qv_aload_n dX9_together_26 (i := 0) rfl rfl ?_
      refine qv_iload_n dX9_together_27 (i := 1) rfl rfl ?_
      obtain ⟨u8, e9, hs⟩ := qv_bind hs
      obtain ⟨v9, e10, hs⟩ := qv_bind hs
      refine qv_cV (d2 := mX9_alikeBy) (o := a0) (ci := 8) (r := some (.int v9)) (h2 := h7) (av := [.int a1]) (st := []) dX9_together_28 qM_X9_254 qD_X9_alikeBy e9 rfl rfl ⟨by decide, by decide⟩ rfl (Nat.le_of_ble_eq_true rfl) (Nat.le_of_ble_eq_true rfl) (sX9_alikeBy e10) rfl ?_
      obtain ⟨rfl, rfl⟩ := qv_pr hs
      exact qv_iret dX9_together_31 rfl
    · have hs := qv_neg c6 hs
      refine qv_if_eq (tgt := 21) dX9_together_12 rfl (fun q => absurd q c6) (fun _ => ?_)
      refine qv_aload_n dX9_together_15 (i := 0) rfl rfl ?_
      refine qv_iconst (v := (-1 : Int32)) dX9_together_16 rfl ?_
      obtain ⟨u10, e11, hs⟩ := qv_bind hs
      obtain ⟨⟨v11, h12⟩, e12, hs⟩ := qv_bind hs
      dsimp only at hs
      refine qv_cV (d2 := mX9_no) (o := a0) (ci := 8) (r := some (.int v11)) (h2 := h12) (av := [.int (-1 : Int32)]) (st := []) dX9_together_17 qM_X9_102 qD_X9_no e11 rfl rfl ⟨by decide, by decide⟩ rfl (Nat.le_of_ble_eq_true rfl) (Nat.le_of_ble_eq_true rfl) (sX9_no e12) rfl ?_
      obtain ⟨rfl, rfl⟩ := qv_pr hs
      exact qv_iret dX9_together_20 rfl
theorem qD_X9_together : qv_DV mX9_together 1 := ⟨(qv_i17 (List.mem_of_getElem? (i := 2) (by decide +kernel))), (qv_i17 (List.mem_of_getElem? (i := 3) (by decide +kernel))), (qv_i1 (List.mem_of_getElem? (i := 14) (by decide +kernel))), (qv_i17 (List.mem_of_getElem? (i := 4) (by decide +kernel))), by decide +kernel, by decide +kernel⟩
/-- TrueOneWayModel.partOf(II)I -/
noncomputable def fX9_partOf (a0 : Int32) (a1 : Int32) : Option (Int32) :=
  Option.bind (qv_loop (σ := Int32 × Int32) (ρ := Int32) (fun (x1, x2) =>
      if a1 ≤ x2 then
        some (.inr x1)
      else
        some (.inl (x1 / (3 : Int32), x2 + (1 : Int32)))
    ) (a0, (0 : Int32))) fun y3 =>
  some (y3 - y3 / (3 : Int32) * (3 : Int32))
abbrev mX9_partOf : qv_M := (yX9_partOf, cX9_partOf, 4, (Option.some Jvm.ClassFile.FieldType.int), 0, 0)
set_option maxRecDepth 100000 in
set_option maxHeartbeats 4000000 in
theorem sX9_partOf {l : Launch} {g : qv_G} {a0 : Int32} {a1 : Int32} {h : qv_H} {r : Int32} (hs : fX9_partOf a0 a1 = some r) : qv_J l g mX9_partOf 0 [some (.int a0), some (.int a1), none, none] [] h (some (.int r), h) := by
  unfold fX9_partOf at hs
  refine qv_iload_n dX9_partOf_0 (i := 0) rfl rfl ?_
  refine qv_istore_n (lo2 := [some (.int a0), some (.int a1), some (.int a0), none]) dX9_partOf_1 (i := 2) rfl (by decide) rfl (Nat.le_of_ble_eq_true rfl) rfl ?_
  refine qv_iconst (v := (0 : Int32)) dX9_partOf_2 rfl ?_
  refine qv_istore_n (lo2 := [some (.int a0), some (.int a1), some (.int a0), some (.int (0 : Int32))]) dX9_partOf_3 (i := 3) rfl (by decide) rfl (Nat.le_of_ble_eq_true rfl) rfl ?_
  obtain ⟨y3, e2, hs⟩ := qv_bind hs
  have K1 : qv_J l g mX9_partOf 19 [none, none, some (.int y3), none] [] h (some (.int r), h) := by
    refine qv_iload_n dX9_partOf_19 (i := 2) rfl rfl ?_
    refine qv_iconst (v := (3 : Int32)) dX9_partOf_20 rfl ?_
    refine qv_irem dX9_partOf_21 (by decide) ?_
    obtain rfl := qv_sm hs
    exact qv_iret dX9_partOf_22 rfl
  obtain ⟨n8, e2⟩ := qv_loop_of e2
  refine qv_dp (qv_le_n (qv_le_s (qv_le_s (qv_le_s qv_le_0)))) (?_ : qv_J l g mX9_partOf 4 [none, some (.int a1), some (.int a0), some (.int (0 : Int32))] [] h (some (.int r), h))
  revert e2
  suffices lj7 : ∀ (x1 : Int32) (x2 : Int32), qv_it _ n8 (x1, x2) = some y3 → qv_J l g mX9_partOf 4 [none, some (.int a1), some (.int x1), some (.int x2)] [] h (some (.int r), h) from lj7 a0 (0 : Int32)
  induction n8 with
  | zero =>
    intro x1 x2 e2
    cases e2
  | succ n8 ih4 =>
    intro x1 x2 e2
    obtain ⟨_, hs, eb5⟩ := qv_it_s e2
    dsimp only at hs
    refine qv_iload_n dX9_partOf_4 (i := 3) rfl rfl ?_
    refine qv_iload_n dX9_partOf_5 (i := 1) rfl rfl ?_
    by_cases c9 : a1 ≤ x2
    · have hs := qv_pos c9 hs
      refine qv_icmp_ge (tgt := 19) dX9_partOf_6 rfl (fun _ => ?_) (fun q => absurd c9 q)
      cases hs
      cases qv_nx_r eb5
      exact qv_dp (qv_le_n (qv_le_n (qv_le_s (qv_le_n qv_le_0)))) K1
    · have hs := qv_neg c9 hs
      refine qv_icmp_ge (tgt := 19) dX9_partOf_6 rfl (fun q => absurd q c9) (fun _ => ?_)
      refine qv_iload_n dX9_partOf_9 (i := 2) rfl rfl ?_
      refine qv_iconst (v := (3 : Int32)) dX9_partOf_10 rfl ?_
      refine qv_idiv dX9_partOf_11 (by decide) ?_
      refine qv_istore_n (lo2 := [none, some (.int a1), some (.int (x1 / (3 : Int32))), some (.int x2)]) dX9_partOf_12 (i := 2) rfl (by decide) rfl (Nat.le_of_ble_eq_true rfl) rfl ?_
      refine qv_iinc (v := x2 + (1 : Int32)) (lo2 := [none, some (.int a1), some (.int (x1 / (3 : Int32))), some (.int (x2 + (1 : Int32)))]) dX9_partOf_13 rfl rfl (by decide) rfl rfl ?_
      refine qv_goto (tgt := 4) dX9_partOf_16 rfl ?_
      cases hs
      exact qv_dp (qv_le_n (qv_le_s (qv_le_s (qv_le_s qv_le_0)))) (ih4 _ _ (qv_nx_l eb5))
theorem qD_X9_partOf : qv_DS mX9_partOf 2 := ⟨(qv_i17 (List.mem_of_getElem? (i := 22) (by decide +kernel))), (qv_i1 (List.mem_of_getElem? (i := 14) (by decide +kernel))), (qv_i17 (List.mem_of_getElem? (i := 23) (by decide +kernel))), by decide +kernel, by decide +kernel⟩
/-- TrueOneWayModel.agrees(II)Z -/
noncomputable def fX9_agrees (a0 : Nat) (a1 : Int32) (a2 : Int32) (h : qv_H) : Option (Int32) :=
  Option.bind (qv_loop (σ := Int32) (ρ := (Unit) ⊕ (Int32)) (fun x1 =>
      if (4 : Int32) ≤ x1 then
        some (.inr (.inl ()))
      else
        (fX9_partOf a1 x1).bind fun v2 =>
        if v2 ≤ 0 then
          some (.inl (x1 + (1 : Int32)))
        else
          if (v2 - (1 : Int32)) = ((a2 >>> (x1 &&& 31)) &&& (1 : Int32)) then
            some (.inl (x1 + (1 : Int32)))
          else
            some (.inr (.inr (0 : Int32)))
    ) (0 : Int32)) fun q => match q with
  | .inl _ =>
    some (1 : Int32)
  | .inr q => some q
abbrev mX9_agrees : qv_M := (yX9_agrees, cX9_agrees, 5, (Option.some Jvm.ClassFile.FieldType.boolean), 1, 23)
set_option maxRecDepth 100000 in
set_option maxHeartbeats 4000000 in
theorem sX9_agrees {l : Launch} {g : qv_G} {a0 : Nat} {a1 : Int32} {a2 : Int32} {h : qv_H} {r : Int32} (hs : fX9_agrees a0 a1 a2 h = some r) : qv_J l g mX9_agrees 0 [some (.ref a0), some (.int a1), some (.int a2), none, none] [] h (some (.int r), h) := by
  unfold fX9_agrees at hs
  refine qv_iconst (v := (0 : Int32)) dX9_agrees_0 rfl ?_
  refine qv_istore_n (lo2 := [some (.ref a0), some (.int a1), some (.int a2), some (.int (0 : Int32)), none]) dX9_agrees_1 (i := 3) rfl (by decide) rfl (Nat.le_of_ble_eq_true rfl) rfl ?_
  obtain ⟨q6, e2, hA3⟩ := qv_bind hs
  have K1 : ∀ (_ : Unit), q6 = .inl () → qv_J l g mX9_agrees 39 [none, none, none, none, none] [] h (some (.int r), h) := by
    intro _ eq9
    subst eq9
    have hs := hA3
    dsimp only at hs
    refine qv_iconst (v := (1 : Int32)) dX9_agrees_39 rfl ?_
    obtain rfl := qv_sm hs
    exact qv_zret dX9_agrees_40 rfl (by decide)
  obtain ⟨n8, e2⟩ := qv_loop_of e2
  refine qv_dp (qv_le_n (qv_le_s (qv_le_s (qv_le_s (qv_le_n qv_le_0))))) (?_ : qv_J l g mX9_agrees 2 [none, some (.int a1), some (.int a2), some (.int (0 : Int32)), none] [] h (some (.int r), h))
  revert e2
  suffices lj7 : ∀ (x1 : Int32), qv_it _ n8 x1 = some q6 → qv_J l g mX9_agrees 2 [none, some (.int a1), some (.int a2), some (.int x1), none] [] h (some (.int r), h) from lj7 (0 : Int32)
  induction n8 with
  | zero =>
    intro x1 e2
    cases e2
  | succ n8 ih4 =>
    intro x1 e2
    obtain ⟨_, hs, eb5⟩ := qv_it_s e2
    refine qv_iload_n dX9_agrees_2 (i := 3) rfl rfl ?_
    refine qv_iconst (v := (4 : Int32)) dX9_agrees_3 rfl ?_
    by_cases c10 : (4 : Int32) ≤ x1
    · have hs := qv_pos c10 hs
      refine qv_icmp_ge (tgt := 39) dX9_agrees_4 rfl (fun _ => ?_) (fun q => absurd c10 q)
      cases hs
      cases qv_nx_r eb5
      exact qv_dp (qv_le_n (qv_le_n (qv_le_n (qv_le_n (qv_le_n qv_le_0))))) (K1 () rfl)
    · have hs := qv_neg c10 hs
      refine qv_icmp_ge (tgt := 39) dX9_agrees_4 rfl (fun q => absurd q c10) (fun _ => ?_)
      refine qv_iload_n dX9_agrees_7 (i := 1) rfl rfl ?_
      refine qv_iload_n dX9_agrees_8 (i := 3) rfl rfl ?_
      obtain ⟨v2, e11, hs⟩ := qv_bind hs
      refine qv_cS (d2 := mX9_partOf) (r := some (.int v2)) (h2 := h) (av := [.int a1, .int x1]) (st := []) dX9_agrees_9 qM_X9_260 qD_X9_partOf rfl ⟨by decide, by decide⟩ rfl (Nat.le_of_ble_eq_true rfl) (Nat.le_of_ble_eq_true rfl) (sX9_partOf e11) rfl ?_
      refine qv_istore (lo2 := [none, some (.int a1), some (.int a2), some (.int x1), some (.int v2)]) dX9_agrees_12 (by decide) rfl (Nat.le_of_ble_eq_true rfl) rfl ?_
      refine qv_iload dX9_agrees_14 rfl ?_
      by_cases c12 : v2 ≤ 0
      · have hs := qv_pos c12 hs
        refine qv_if_le (tgt := 33) dX9_agrees_16 rfl (fun _ => ?_) (fun q => absurd c12 q)
        refine qv_iinc (v := x1 + (1 : Int32)) (lo2 := [none, some (.int a1), some (.int a2), some (.int (x1 + (1 : Int32))), some (.int v2)]) dX9_agrees_33 rfl rfl (by decide) rfl rfl ?_
        refine qv_goto (tgt := 2) dX9_agrees_36 rfl ?_
        cases hs
        exact qv_dp (qv_le_n (qv_le_s (qv_le_s (qv_le_s (qv_le_n qv_le_0))))) (ih4 _ (qv_nx_l eb5))
      · have hs := qv_neg c12 hs
        refine qv_if_le (tgt := 33) dX9_agrees_16 rfl (fun q => absurd q c12) (fun _ => ?_)
        refine qv_iload dX9_agrees_19 rfl ?_
        refine qv_iconst (v := (1 : Int32)) dX9_agrees_21 rfl ?_
        refine qv_isub dX9_agrees_22 ?_
        refine qv_iload_n dX9_agrees_23 (i := 2) rfl rfl ?_
        refine qv_iload_n dX9_agrees_24 (i := 3) rfl rfl ?_
        refine qv_ishr dX9_agrees_25 ?_
        refine qv_iconst (v := (1 : Int32)) dX9_agrees_26 rfl ?_
        refine qv_iand dX9_agrees_27 ?_
        by_cases c13 : (v2 - (1 : Int32)) = ((a2 >>> (x1 &&& 31)) &&& (1 : Int32))
        · have hs := qv_pos c13 hs
          refine qv_icmp_eq (tgt := 33) dX9_agrees_28 rfl (fun _ => ?_) (fun q => absurd c13 q)
          refine qv_iinc (v := x1 + (1 : Int32)) (lo2 := [none, some (.int a1), some (.int a2), some (.int (x1 + (1 : Int32))), some (.int v2)]) dX9_agrees_33 rfl rfl (by decide) rfl rfl ?_
          refine qv_goto (tgt := 2) dX9_agrees_36 rfl ?_
          cases hs
          exact qv_dp (qv_le_n (qv_le_s (qv_le_s (qv_le_s (qv_le_n qv_le_0))))) (ih4 _ (qv_nx_l eb5))
        · have hs := qv_neg c13 hs
          refine qv_icmp_eq (tgt := 33) dX9_agrees_28 rfl (fun q => absurd q c13) (fun _ => ?_)
          refine qv_iconst (v := (0 : Int32)) dX9_agrees_31 rfl ?_
          cases hs
          cases qv_nx_r eb5
          have hs := hA3
          dsimp only at hs
          obtain rfl := qv_sm hs
          exact qv_zret dX9_agrees_32 rfl (by decide)
theorem qD_X9_agrees : qv_DV mX9_agrees 2 := ⟨(qv_i17 (List.mem_of_getElem? (i := 19) (by decide +kernel))), (qv_i0 (List.mem_of_getElem? (i := 58) (by decide +kernel))), (qv_i1 (List.mem_of_getElem? (i := 14) (by decide +kernel))), (qv_i17 (List.mem_of_getElem? (i := 20) (by decide +kernel))), by decide +kernel, by decide +kernel⟩
/-- TrueOneWayModel.knownAt(III)I -/
noncomputable def fX9_knownAt (a0 : Nat) (a1 : Int32) (a2 : Int32) (a3 : Int32) (h : qv_H) : Option (Int32) :=
  Option.bind (qv_loop (σ := Int32 × Int32 × Int32) (ρ := Int32) (fun (x1, x2, x3) =>
      if (4 : Int32) ≤ x3 then
        some (.inr x1)
      else
        (qv_gR h 8 a0 7).bind fun v4 =>
        (qv_aI h false v4 a2).bind fun v5 =>
        Option.bind (α := Int32) (
            if ((v5 >>> (x3 &&& 31)) &&& (1 : Int32)) = (1 : Int32) then
              (fX9_partOf a1 x3).bind fun v6 =>
              if v6 = 0 then
                some (x1 + (x2 * ((1 : Int32) + ((a3 >>> (x3 &&& 31)) &&& (1 : Int32)))))
              else
                some x1
            else
              some x1
          ) fun m7 =>
        some (.inl (m7, x2 * (3 : Int32), x3 + (1 : Int32)))
    ) (a1, (1 : Int32), (0 : Int32))) fun y8 =>
  some y8
abbrev mX9_knownAt : qv_M := (yX9_knownAt, cX9_knownAt, 7, (Option.some Jvm.ClassFile.FieldType.int), 1, 23)
set_option maxRecDepth 100000 in
set_option maxHeartbeats 4000000 in
theorem sX9_knownAt {l : Launch} {g : qv_G} {a0 : Nat} {a1 : Int32} {a2 : Int32} {a3 : Int32} {h : qv_H} {r : Int32} (hs : fX9_knownAt a0 a1 a2 a3 h = some r) : qv_J l g mX9_knownAt 0 [some (.ref a0), some (.int a1), some (.int a2), some (.int a3), none, none, none] [] h (some (.int r), h) := by
  unfold fX9_knownAt at hs
  refine qv_iload_n dX9_knownAt_0 (i := 1) rfl rfl ?_
  refine qv_istore (lo2 := [some (.ref a0), some (.int a1), some (.int a2), some (.int a3), some (.int a1), none, none]) dX9_knownAt_1 (by decide) rfl (Nat.le_of_ble_eq_true rfl) rfl ?_
  refine qv_iconst (v := (1 : Int32)) dX9_knownAt_3 rfl ?_
  refine qv_istore (lo2 := [some (.ref a0), some (.int a1), some (.int a2), some (.int a3), some (.int a1), some (.int (1 : Int32)), none]) dX9_knownAt_4 (by decide) rfl (Nat.le_of_ble_eq_true rfl) rfl ?_
  refine qv_iconst (v := (0 : Int32)) dX9_knownAt_6 rfl ?_
  refine qv_istore (lo2 := [some (.ref a0), some (.int a1), some (.int a2), some (.int a3), some (.int a1), some (.int (1 : Int32)), some (.int (0 : Int32))]) dX9_knownAt_7 (by decide) rfl (Nat.le_of_ble_eq_true rfl) rfl ?_
  obtain ⟨y8, e2, hs⟩ := qv_bind hs
  have K1 : qv_J l g mX9_knownAt 67 [none, none, none, none, some (.int y8), none, none] [] h (some (.int r), h) := by
    refine qv_iload dX9_knownAt_67 rfl ?_
    obtain rfl := qv_sm hs
    exact qv_iret dX9_knownAt_69 rfl
  obtain ⟨n8, e2⟩ := qv_loop_of e2
  refine qv_dp (qv_le_s (qv_le_s (qv_le_s (qv_le_s (qv_le_s (qv_le_s (qv_le_s qv_le_0))))))) (?_ : qv_J l g mX9_knownAt 9 [some (.ref a0), some (.int a1), some (.int a2), some (.int a3), some (.int a1), some (.int (1 : Int32)), some (.int (0 : Int32))] [] h (some (.int r), h))
  revert e2
  suffices lj7 : ∀ (x1 : Int32) (x2 : Int32) (x3 : Int32), qv_it _ n8 (x1, x2, x3) = some y8 → qv_J l g mX9_knownAt 9 [some (.ref a0), some (.int a1), some (.int a2), some (.int a3), some (.int x1), some (.int x2), some (.int x3)] [] h (some (.int r), h) from lj7 a1 (1 : Int32) (0 : Int32)
  induction n8 with
  | zero =>
    intro x1 x2 x3 e2
    cases e2
  | succ n8 ih4 =>
    intro x1 x2 x3 e2
    obtain ⟨_, hs, eb5⟩ := qv_it_s e2
    dsimp only at hs
    refine qv_iload dX9_knownAt_9 rfl ?_
    refine qv_iconst (v := (4 : Int32)) dX9_knownAt_11 rfl ?_
    by_cases c9 : (4 : Int32) ≤ x3
    · have hs := qv_pos c9 hs
      refine qv_icmp_ge (tgt := 67) dX9_knownAt_12 rfl (fun _ => ?_) (fun q => absurd c9 q)
      cases hs
      cases qv_nx_r eb5
      exact qv_dp (qv_le_n (qv_le_n (qv_le_n (qv_le_n (qv_le_s (qv_le_n (qv_le_n qv_le_0))))))) K1
    · have hs := qv_neg c9 hs
      refine qv_icmp_ge (tgt := 67) dX9_knownAt_12 rfl (fun q => absurd q c9) (fun _ => ?_)
      refine qv_aload_n dX9_knownAt_15 (i := 0) rfl rfl ?_
      obtain ⟨v4, e10, hs⟩ := qv_bind hs
      refine qv_getR dX9_knownAt_16 qF_X9_31 e10 ?_
      refine qv_iload_n dX9_knownAt_19 (i := 2) rfl rfl ?_
      obtain ⟨v5, e11, hs⟩ := qv_bind hs
      refine qv_iald dX9_knownAt_20 e11 ?_
      refine qv_iload dX9_knownAt_21 rfl ?_
      refine qv_ishr dX9_knownAt_23 ?_
      refine qv_iconst (v := (1 : Int32)) dX9_knownAt_24 rfl ?_
      refine qv_iand dX9_knownAt_25 ?_
      refine qv_iconst (v := (1 : Int32)) dX9_knownAt_26 rfl ?_
      obtain ⟨m7, hj13, hs⟩ := qv_bind hs
      have K12 : qv_J l g mX9_knownAt 55 [some (.ref a0), some (.int a1), some (.int a2), some (.int a3), some (.int m7), some (.int x2), some (.int x3)] [] h (some (.int r), h) := by
        refine qv_iload dX9_knownAt_55 rfl ?_
        refine qv_iconst (v := (3 : Int32)) dX9_knownAt_57 rfl ?_
        refine qv_imul dX9_knownAt_58 ?_
        refine qv_istore (lo2 := [some (.ref a0), some (.int a1), some (.int a2), some (.int a3), some (.int m7), some (.int (x2 * (3 : Int32))), some (.int x3)]) dX9_knownAt_59 (by decide) rfl (Nat.le_of_ble_eq_true rfl) rfl ?_
        refine qv_iinc (v := x3 + (1 : Int32)) (lo2 := [some (.ref a0), some (.int a1), some (.int a2), some (.int a3), some (.int m7), some (.int (x2 * (3 : Int32))), some (.int (x3 + (1 : Int32)))]) dX9_knownAt_61 rfl rfl (by decide) rfl rfl ?_
        refine qv_goto (tgt := 9) dX9_knownAt_64 rfl ?_
        cases hs
        exact qv_dp (qv_le_s (qv_le_s (qv_le_s (qv_le_s (qv_le_s (qv_le_s (qv_le_s qv_le_0))))))) (ih4 _ _ _ (qv_nx_l eb5))
      replace hs := hj13
      by_cases c14 : ((v5 >>> (x3 &&& 31)) &&& (1 : Int32)) = (1 : Int32)
      · have hs := qv_pos c14 hs
        refine qv_icmp_ne (tgt := 55) dX9_knownAt_27 rfl (fun q => absurd c14 q) (fun _ => ?_)
        refine qv_iload_n dX9_knownAt_30 (i := 1) rfl rfl ?_
        refine qv_iload dX9_knownAt_31 rfl ?_
        obtain ⟨v6, e15, hs⟩ := qv_bind hs
        refine qv_cS (d2 := mX9_partOf) (r := some (.int v6)) (h2 := h) (av := [.int a1, .int x3]) (st := []) dX9_knownAt_33 qM_X9_260 qD_X9_partOf rfl ⟨by decide, by decide⟩ rfl (Nat.le_of_ble_eq_true rfl) (Nat.le_of_ble_eq_true rfl) (sX9_partOf e15) rfl ?_
        by_cases c16 : v6 = 0
        · have hs := qv_pos c16 hs
          refine qv_if_ne (tgt := 55) dX9_knownAt_36 rfl (fun q => absurd c16 q) (fun _ => ?_)
          refine qv_iload dX9_knownAt_39 rfl ?_
          refine qv_iload dX9_knownAt_41 rfl ?_
          refine qv_iconst (v := (1 : Int32)) dX9_knownAt_43 rfl ?_
          refine qv_iload_n dX9_knownAt_44 (i := 3) rfl rfl ?_
          refine qv_iload dX9_knownAt_45 rfl ?_
          refine qv_ishr dX9_knownAt_47 ?_
          refine qv_iconst (v := (1 : Int32)) dX9_knownAt_48 rfl ?_
          refine qv_iand dX9_knownAt_49 ?_
          refine qv_iadd dX9_knownAt_50 ?_
          refine qv_imul dX9_knownAt_51 ?_
          refine qv_iadd dX9_knownAt_52 ?_
          refine qv_istore (lo2 := [some (.ref a0), some (.int a1), some (.int a2), some (.int a3), some (.int (x1 + (x2 * ((1 : Int32) + ((a3 >>> (x3 &&& 31)) &&& (1 : Int32)))))), some (.int x2), some (.int x3)]) dX9_knownAt_53 (by decide) rfl (Nat.le_of_ble_eq_true rfl) rfl ?_
          cases hs
          exact qv_dp (qv_le_s (qv_le_s (qv_le_s (qv_le_s (qv_le_s (qv_le_s (qv_le_s qv_le_0))))))) K12
        · have hs := qv_neg c16 hs
          refine qv_if_ne (tgt := 55) dX9_knownAt_36 rfl (fun _ => ?_) (fun q => absurd q c16)
          cases hs
          exact qv_dp (qv_le_s (qv_le_s (qv_le_s (qv_le_s (qv_le_s (qv_le_s (qv_le_s qv_le_0))))))) K12
      · have hs := qv_neg c14 hs
        refine qv_icmp_ne (tgt := 55) dX9_knownAt_27 rfl (fun _ => ?_) (fun q => absurd q c14)
        cases hs
        exact qv_dp (qv_le_s (qv_le_s (qv_le_s (qv_le_s (qv_le_s (qv_le_s (qv_le_s qv_le_0))))))) K12
theorem qD_X9_knownAt : qv_DV mX9_knownAt 3 := ⟨(qv_i17 (List.mem_of_getElem? (i := 34) (by decide +kernel))), (qv_i0 (List.mem_of_getElem? (i := 62) (by decide +kernel))), (qv_i1 (List.mem_of_getElem? (i := 14) (by decide +kernel))), (qv_i17 (List.mem_of_getElem? (i := 35) (by decide +kernel))), by decide +kernel, by decide +kernel⟩
/-- TrueOneWayModel.findFactSets()V -/
noncomputable def fX9_findFactSets (a0 : Nat) (h : qv_H) : Option (qv_H) :=
  (qv_ob h 8 a0).bind fun _ =>
  (fX9_findWorlds a0 (0 : Int32) h).bind fun h2 =>
  Option.bind (qv_loop (σ := Int32 × qv_H) (ρ := qv_H) (fun (x3, h4) =>
      if (16 : Int32) ≤ x3 then
        some (.inr h4)
      else
        (qv_gR h4 8 a0 34).bind fun v5 =>
        (qv_sI h4 false v5 x3 (0 : Int32)).bind fun h6 =>
        some (.inl (x3 + (1 : Int32), h6))
    ) ((0 : Int32), h2)) fun h7 =>
  Option.bind (qv_loop (σ := Int32 × qv_H) (ρ := qv_H) (fun (x8, h9) =>
      (qv_gI h9 8 a0 33).bind fun v10 =>
      if v10 ≤ x8 then
        some (.inr h9)
      else
        (qv_gR h9 8 a0 34).bind fun v11 =>
        (qv_gR h9 8 a0 32).bind fun v12 =>
        (qv_aI h9 false v12 x8).bind fun v13 =>
        (qv_sI h9 false v11 (v13 &&& (15 : Int32)) (1 : Int32)).bind fun h14 =>
        some (.inl (x8 + (1 : Int32), h14))
    ) ((0 : Int32), h7)) fun h15 =>
  some h15
abbrev mX9_findFactSets : qv_M := (yX9_findFactSets, cX9_findFactSets, 2, (Option.none : Option Jvm.ClassFile.FieldType), 4, 91)
set_option maxRecDepth 100000 in
set_option maxHeartbeats 4000000 in
theorem sX9_findFactSets {l : Launch} {g : qv_G} {a0 : Nat} {h : qv_H} {hz : qv_H} (hs : fX9_findFactSets a0 h = some hz) : qv_J l g mX9_findFactSets 0 [some (.ref a0), none] [] h (none, hz) := by
  unfold fX9_findFactSets at hs
  refine qv_aload_n dX9_findFactSets_0 (i := 0) rfl rfl ?_
  refine qv_iconst (v := (0 : Int32)) dX9_findFactSets_1 rfl ?_
  obtain ⟨u1, e1, hs⟩ := qv_bind hs
  obtain ⟨h2, e2, hs⟩ := qv_bind hs
  refine qv_cV (d2 := mX9_findWorlds) (o := a0) (ci := 8) (r := none) (h2 := h2) (av := [.int (0 : Int32)]) (st := []) dX9_findFactSets_2 qM_X9_232 qD_X9_findWorlds e1 rfl rfl ⟨by decide, by decide⟩ rfl (Nat.le_of_ble_eq_true rfl) (Nat.le_of_ble_eq_true rfl) (sX9_findWorlds e2) rfl ?_
  refine qv_iconst (v := (0 : Int32)) dX9_findFactSets_5 rfl ?_
  refine qv_istore_n (lo2 := [some (.ref a0), some (.int (0 : Int32))]) dX9_findFactSets_6 (i := 1) rfl (by decide) rfl (Nat.le_of_ble_eq_true rfl) rfl ?_
  obtain ⟨h7, e4, hs⟩ := qv_bind hs
  have K3 : qv_J l g mX9_findFactSets 26 [some (.ref a0), none] [] h7 (none, hz) := by
    refine qv_iconst (v := (0 : Int32)) dX9_findFactSets_26 rfl ?_
    refine qv_istore_n (lo2 := [some (.ref a0), some (.int (0 : Int32))]) dX9_findFactSets_27 (i := 1) rfl (by decide) rfl (Nat.le_of_ble_eq_true rfl) rfl ?_
    obtain ⟨h15, e12, hs⟩ := qv_bind hs
    have K11 : qv_J l g mX9_findFactSets 57 [none, none] [] h15 (none, hz) := by
      obtain rfl := qv_sm hs
      exact qv_vret dX9_findFactSets_57 rfl
    obtain ⟨n18, e12⟩ := qv_loop_of e12
    refine qv_dp (qv_le_s (qv_le_s qv_le_0)) (?_ : qv_J l g mX9_findFactSets 28 [some (.ref a0), some (.int (0 : Int32))] [] h7 (none, hz))
    revert e12
    suffices lj17 : ∀ (x8 : Int32) (h9 : qv_H), qv_it _ n18 (x8, h9) = some h15 → qv_J l g mX9_findFactSets 28 [some (.ref a0), some (.int x8)] [] h9 (none, hz) from lj17 (0 : Int32) h7
    induction n18 with
    | zero =>
      intro x8 h9 e12
      cases e12
    | succ n18 ih14 =>
      intro x8 h9 e12
      obtain ⟨_, hs, eb15⟩ := qv_it_s e12
      dsimp only at hs
      refine qv_iload_n dX9_findFactSets_28 (i := 1) rfl rfl ?_
      refine qv_aload_n dX9_findFactSets_29 (i := 0) rfl rfl ?_
      obtain ⟨v10, e19, hs⟩ := qv_bind hs
      refine qv_getI dX9_findFactSets_30 qF_X9_223 e19 ?_
      by_cases c20 : v10 ≤ x8
      · have hs := qv_pos c20 hs
        refine qv_icmp_ge (tgt := 57) dX9_findFactSets_33 rfl (fun _ => ?_) (fun q => absurd c20 q)
        cases hs
        cases qv_nx_r eb15
        exact qv_dp (qv_le_n (qv_le_n qv_le_0)) K11
      · have hs := qv_neg c20 hs
        refine qv_icmp_ge (tgt := 57) dX9_findFactSets_33 rfl (fun q => absurd q c20) (fun _ => ?_)
        refine qv_aload_n dX9_findFactSets_36 (i := 0) rfl rfl ?_
        obtain ⟨v11, e21, hs⟩ := qv_bind hs
        refine qv_getR dX9_findFactSets_37 qF_X9_74 e21 ?_
        refine qv_aload_n dX9_findFactSets_40 (i := 0) rfl rfl ?_
        obtain ⟨v12, e22, hs⟩ := qv_bind hs
        refine qv_getR dX9_findFactSets_41 qF_X9_71 e22 ?_
        refine qv_iload_n dX9_findFactSets_44 (i := 1) rfl rfl ?_
        obtain ⟨v13, e23, hs⟩ := qv_bind hs
        refine qv_iald dX9_findFactSets_45 e23 ?_
        refine qv_bipush (v := (15 : Int32)) dX9_findFactSets_46 rfl ?_
        refine qv_iand dX9_findFactSets_48 ?_
        refine qv_iconst (v := (1 : Int32)) dX9_findFactSets_49 rfl ?_
        obtain ⟨h14, e24, hs⟩ := qv_bind hs
        refine qv_iast dX9_findFactSets_50 e24 ?_
        refine qv_iinc (v := x8 + (1 : Int32)) (lo2 := [some (.ref a0), some (.int (x8 + (1 : Int32)))]) dX9_findFactSets_51 rfl rfl (by decide) rfl rfl ?_
        refine qv_goto (tgt := 28) dX9_findFactSets_54 rfl ?_
        cases hs
        exact qv_dp (qv_le_s (qv_le_s qv_le_0)) (ih14 _ _ (qv_nx_l eb15))
  obtain ⟨n10, e4⟩ := qv_loop_of e4
  refine qv_dp (qv_le_s (qv_le_s qv_le_0)) (?_ : qv_J l g mX9_findFactSets 7 [some (.ref a0), some (.int (0 : Int32))] [] h2 (none, hz))
  revert e4
  suffices lj9 : ∀ (x3 : Int32) (h4 : qv_H), qv_it _ n10 (x3, h4) = some h7 → qv_J l g mX9_findFactSets 7 [some (.ref a0), some (.int x3)] [] h4 (none, hz) from lj9 (0 : Int32) h2
  induction n10 with
  | zero =>
    intro x3 h4 e4
    cases e4
  | succ n10 ih6 =>
    intro x3 h4 e4
    obtain ⟨_, hs, eb7⟩ := qv_it_s e4
    dsimp only at hs
    refine qv_iload_n dX9_findFactSets_7 (i := 1) rfl rfl ?_
    refine qv_bipush (v := (16 : Int32)) dX9_findFactSets_8 rfl ?_
    by_cases c25 : (16 : Int32) ≤ x3
    · have hs := qv_pos c25 hs
      refine qv_icmp_ge (tgt := 26) dX9_findFactSets_10 rfl (fun _ => ?_) (fun q => absurd c25 q)
      cases hs
      cases qv_nx_r eb7
      exact qv_dp (qv_le_s (qv_le_n qv_le_0)) K3
    · have hs := qv_neg c25 hs
      refine qv_icmp_ge (tgt := 26) dX9_findFactSets_10 rfl (fun q => absurd q c25) (fun _ => ?_)
      refine qv_aload_n dX9_findFactSets_13 (i := 0) rfl rfl ?_
      obtain ⟨v5, e26, hs⟩ := qv_bind hs
      refine qv_getR dX9_findFactSets_14 qF_X9_74 e26 ?_
      refine qv_iload_n dX9_findFactSets_17 (i := 1) rfl rfl ?_
      refine qv_iconst (v := (0 : Int32)) dX9_findFactSets_18 rfl ?_
      obtain ⟨h6, e27, hs⟩ := qv_bind hs
      refine qv_iast dX9_findFactSets_19 e27 ?_
      refine qv_iinc (v := x3 + (1 : Int32)) (lo2 := [some (.ref a0), some (.int (x3 + (1 : Int32)))]) dX9_findFactSets_20 rfl rfl (by decide) rfl rfl ?_
      refine qv_goto (tgt := 7) dX9_findFactSets_23 rfl ?_
      cases hs
      exact qv_dp (qv_le_s (qv_le_s qv_le_0)) (ih6 _ _ (qv_nx_l eb7))
theorem qD_X9_findFactSets : qv_DV mX9_findFactSets 0 := ⟨(qv_i17 (List.mem_of_getElem? (i := 13) (by decide +kernel))), (qv_i0 (List.mem_of_getElem? (i := 56) (by decide +kernel))), (qv_i1 (List.mem_of_getElem? (i := 14) (by decide +kernel))), (qv_i17 (List.mem_of_getElem? (i := 14) (by decide +kernel))), by decide +kernel, by decide +kernel⟩
/-- TrueOneWayModel.isDone(II)Z -/
noncomputable def fX9_isDone (a0 : Nat) (a1 : Int32) (a2 : Int32) (h : qv_H) : Option (Int32) :=
  Option.bind (qv_loop (σ := Int32) (ρ := (Unit) ⊕ (Int32)) (fun x1 =>
      if (16 : Int32) ≤ x1 then
        some (.inr (.inl ()))
      else
        (qv_gR h 8 a0 34).bind fun v2 =>
        (qv_aI h false v2 x1).bind fun v3 =>
        if v3 = (1 : Int32) then
          (qv_ob h 8 a0).bind fun _ =>
          (fX9_agrees a0 a2 x1 h).bind fun v5 =>
          if v5 = 0 then
            some (.inl (x1 + (1 : Int32)))
          else
            (qv_gI h 8 a0 14).bind fun v6 =>
            Option.bind (α := Int32) (
                if ((x1 >>> (v6 &&& 31)) &&& (1 : Int32)) = (1 : Int32) then
                  (qv_gI h 8 a0 12).bind fun v8 =>
                  some v8
                else
                  (qv_gI h 8 a0 13).bind fun v7 =>
                  some v7
              ) fun m9 =>
            if m9 = a1 then
              some (.inl (x1 + (1 : Int32)))
            else
              some (.inr (.inr (0 : Int32)))
        else
          some (.inl (x1 + (1 : Int32)))
    ) (0 : Int32)) fun q => match q with
  | .inl _ =>
    some (1 : Int32)
  | .inr q => some q
abbrev mX9_isDone : qv_M := (yX9_isDone, cX9_isDone, 4, (Option.some Jvm.ClassFile.FieldType.boolean), 2, 47)
set_option maxRecDepth 100000 in
set_option maxHeartbeats 4000000 in
theorem sX9_isDone {l : Launch} {g : qv_G} {a0 : Nat} {a1 : Int32} {a2 : Int32} {h : qv_H} {r : Int32} (hs : fX9_isDone a0 a1 a2 h = some r) : qv_J l g mX9_isDone 0 [some (.ref a0), some (.int a1), some (.int a2), none] [] h (some (.int r), h) := by
  unfold fX9_isDone at hs
  refine qv_iconst (v := (0 : Int32)) dX9_isDone_0 rfl ?_
  refine qv_istore_n (lo2 := [some (.ref a0), some (.int a1), some (.int a2), some (.int (0 : Int32))]) dX9_isDone_1 (i := 3) rfl (by decide) rfl (Nat.le_of_ble_eq_true rfl) rfl ?_
  obtain ⟨q6, e2, hA3⟩ := qv_bind hs
  have K1 : ∀ (_ : Unit), q6 = .inl () → qv_J l g mX9_isDone 62 [none, none, none, none] [] h (some (.int r), h) := by
    intro _ eq9
    subst eq9
    have hs := hA3
    dsimp only at hs
    refine qv_iconst (v := (1 : Int32)) dX9_isDone_62 rfl ?_
    obtain rfl := qv_sm hs
    exact qv_zret dX9_isDone_63 rfl (by decide)
  obtain ⟨n8, e2⟩ := qv_loop_of e2
  refine qv_dp (qv_le_s (qv_le_s (qv_le_s (qv_le_s qv_le_0)))) (?_ : qv_J l g mX9_isDone 2 [some (.ref a0), some (.int a1), some (.int a2), some (.int (0 : Int32))] [] h (some (.int r), h))
  revert e2
  suffices lj7 : ∀ (x1 : Int32), qv_it _ n8 x1 = some q6 → qv_J l g mX9_isDone 2 [some (.ref a0), some (.int a1), some (.int a2), some (.int x1)] [] h (some (.int r), h) from lj7 (0 : Int32)
  induction n8 with
  | zero =>
    intro x1 e2
    cases e2
  | succ n8 ih4 =>
    intro x1 e2
    obtain ⟨_, hs, eb5⟩ := qv_it_s e2
    refine qv_iload_n dX9_isDone_2 (i := 3) rfl rfl ?_
    refine qv_bipush (v := (16 : Int32)) dX9_isDone_3 rfl ?_
    by_cases c10 : (16 : Int32) ≤ x1
    · have hs := qv_pos c10 hs
      refine qv_icmp_ge (tgt := 62) dX9_isDone_5 rfl (fun _ => ?_) (fun q => absurd c10 q)
      cases hs
      cases qv_nx_r eb5
      exact qv_dp (qv_le_n (qv_le_n (qv_le_n (qv_le_n qv_le_0)))) (K1 () rfl)
    · have hs := qv_neg c10 hs
      refine qv_icmp_ge (tgt := 62) dX9_isDone_5 rfl (fun q => absurd q c10) (fun _ => ?_)
      refine qv_aload_n dX9_isDone_8 (i := 0) rfl rfl ?_
      obtain ⟨v2, e11, hs⟩ := qv_bind hs
      refine qv_getR dX9_isDone_9 qF_X9_74 e11 ?_
      refine qv_iload_n dX9_isDone_12 (i := 3) rfl rfl ?_
      obtain ⟨v3, e12, hs⟩ := qv_bind hs
      refine qv_iald dX9_isDone_13 e12 ?_
      refine qv_iconst (v := (1 : Int32)) dX9_isDone_14 rfl ?_
      by_cases c13 : v3 = (1 : Int32)
      · have hs := qv_pos c13 hs
        refine qv_icmp_ne (tgt := 56) dX9_isDone_15 rfl (fun q => absurd c13 q) (fun _ => ?_)
        refine qv_aload_n dX9_isDone_18 (i := 0) rfl rfl ?_
        refine qv_iload_n dX9_isDone_19 (i := 2) rfl rfl ?_
        refine qv_iload_n dX9_isDone_20 (i := 3) rfl rfl ?_
        obtain ⟨u4, e14, hs⟩ := qv_bind hs
        obtain ⟨v5, e15, hs⟩ := qv_bind hs
        refine qv_cV (d2 := mX9_agrees) (o := a0) (ci := 8) (r := some (.int v5)) (h2 := h) (av := [.int a2, .int x1]) (st := []) dX9_isDone_21 qM_X9_263 qD_X9_agrees e14 rfl rfl ⟨by decide, by decide⟩ rfl (Nat.le_of_ble_eq_true rfl) (Nat.le_of_ble_eq_true rfl) (sX9_agrees e15) rfl ?_
        by_cases c16 : v5 = 0
        · have hs := qv_pos c16 hs
          refine qv_if_eq (tgt := 56) dX9_isDone_24 rfl (fun _ => ?_) (fun q => absurd c16 q)
          refine qv_iinc (v := x1 + (1 : Int32)) (lo2 := [some (.ref a0), some (.int a1), some (.int a2), some (.int (x1 + (1 : Int32)))]) dX9_isDone_56 rfl rfl (by decide) rfl rfl ?_
          refine qv_goto (tgt := 2) dX9_isDone_59 rfl ?_
          cases hs
          exact qv_dp (qv_le_s (qv_le_s (qv_le_s (qv_le_s qv_le_0)))) (ih4 _ (qv_nx_l eb5))
        · have hs := qv_neg c16 hs
          refine qv_if_eq (tgt := 56) dX9_isDone_24 rfl (fun q => absurd q c16) (fun _ => ?_)
          refine qv_iload_n dX9_isDone_27 (i := 3) rfl rfl ?_
          refine qv_aload_n dX9_isDone_28 (i := 0) rfl rfl ?_
          obtain ⟨v6, e17, hs⟩ := qv_bind hs
          refine qv_getI dX9_isDone_29 qF_X9_38 e17 ?_
          refine qv_ishr dX9_isDone_32 ?_
          refine qv_iconst (v := (1 : Int32)) dX9_isDone_33 rfl ?_
          refine qv_iand dX9_isDone_34 ?_
          refine qv_iconst (v := (1 : Int32)) dX9_isDone_35 rfl ?_
          obtain ⟨m9, hj19, hs⟩ := qv_bind hs
          have K18 : qv_J l g mX9_isDone 50 [some (.ref a0), some (.int a1), some (.int a2), some (.int x1)] [.int m9] h (some (.int r), h) := by
            refine qv_iload_n dX9_isDone_50 (i := 1) rfl rfl ?_
            by_cases c20 : m9 = a1
            · have hs := qv_pos c20 hs
              refine qv_icmp_eq (tgt := 56) dX9_isDone_51 rfl (fun _ => ?_) (fun q => absurd c20 q)
              refine qv_iinc (v := x1 + (1 : Int32)) (lo2 := [some (.ref a0), some (.int a1), some (.int a2), some (.int (x1 + (1 : Int32)))]) dX9_isDone_56 rfl rfl (by decide) rfl rfl ?_
              refine qv_goto (tgt := 2) dX9_isDone_59 rfl ?_
              cases hs
              exact qv_dp (qv_le_s (qv_le_s (qv_le_s (qv_le_s qv_le_0)))) (ih4 _ (qv_nx_l eb5))
            · have hs := qv_neg c20 hs
              refine qv_icmp_eq (tgt := 56) dX9_isDone_51 rfl (fun q => absurd q c20) (fun _ => ?_)
              refine qv_iconst (v := (0 : Int32)) dX9_isDone_54 rfl ?_
              cases hs
              cases qv_nx_r eb5
              have hs := hA3
              dsimp only at hs
              obtain rfl := qv_sm hs
              exact qv_zret dX9_isDone_55 rfl (by decide)
          replace hs := hj19
          by_cases c21 : ((x1 >>> (v6 &&& 31)) &&& (1 : Int32)) = (1 : Int32)
          · have hs := qv_pos c21 hs
            refine qv_icmp_ne (tgt := 46) dX9_isDone_36 rfl (fun q => absurd c21 q) (fun _ => ?_)
            refine qv_aload_n dX9_isDone_39 (i := 0) rfl rfl ?_
            obtain ⟨v8, e22, hs⟩ := qv_bind hs
            refine qv_getI dX9_isDone_40 qF_X9_140 e22 ?_
            refine qv_goto (tgt := 50) dX9_isDone_43 rfl ?_
            cases hs
            exact qv_dp (qv_le_s (qv_le_s (qv_le_s (qv_le_s qv_le_0)))) K18
          · have hs := qv_neg c21 hs
            refine qv_icmp_ne (tgt := 46) dX9_isDone_36 rfl (fun _ => ?_) (fun q => absurd q c21)
            refine qv_aload_n dX9_isDone_46 (i := 0) rfl rfl ?_
            obtain ⟨v7, e23, hs⟩ := qv_bind hs
            refine qv_getI dX9_isDone_47 qF_X9_143 e23 ?_
            cases hs
            exact qv_dp (qv_le_s (qv_le_s (qv_le_s (qv_le_s qv_le_0)))) K18
      · have hs := qv_neg c13 hs
        refine qv_icmp_ne (tgt := 56) dX9_isDone_15 rfl (fun _ => ?_) (fun q => absurd q c13)
        refine qv_iinc (v := x1 + (1 : Int32)) (lo2 := [some (.ref a0), some (.int a1), some (.int a2), some (.int (x1 + (1 : Int32)))]) dX9_isDone_56 rfl rfl (by decide) rfl rfl ?_
        refine qv_goto (tgt := 2) dX9_isDone_59 rfl ?_
        cases hs
        exact qv_dp (qv_le_s (qv_le_s (qv_le_s (qv_le_s qv_le_0)))) (ih4 _ (qv_nx_l eb5))
theorem qD_X9_isDone : qv_DV mX9_isDone 2 := ⟨(qv_i17 (List.mem_of_getElem? (i := 16) (by decide +kernel))), (qv_i0 (List.mem_of_getElem? (i := 57) (by decide +kernel))), (qv_i1 (List.mem_of_getElem? (i := 14) (by decide +kernel))), (qv_i17 (List.mem_of_getElem? (i := 17) (by decide +kernel))), by decide +kernel, by decide +kernel⟩
/-- TrueOneWayModel.areNext(II)Z -/
noncomputable def fX9_areNext (a0 : Nat) (a1 : Int32) (a2 : Int32) (h : qv_H) : Option (Int32) :=
  Option.bind (qv_loop (σ := Int32) (ρ := (Unit) ⊕ (Int32)) (fun x1 =>
      (qv_gI h 8 a0 9).bind fun v2 =>
      if v2 ≤ x1 then
        some (.inr (.inl ()))
      else
        (qv_gR h 8 a0 1).bind fun v3 =>
        (qv_aI h false v3 x1).bind fun v4 =>
        if v4 = a1 then
          (qv_gR h 8 a0 2).bind fun v9 =>
          (qv_aI h false v9 x1).bind fun v10 =>
          if v10 = a2 then
            some (.inr (.inr (1 : Int32)))
          else
            (qv_gR h 8 a0 1).bind fun v11 =>
            (qv_aI h false v11 x1).bind fun v12 =>
            if v12 = a2 then
              (qv_gR h 8 a0 2).bind fun v13 =>
              (qv_aI h false v13 x1).bind fun v14 =>
              if v14 = a1 then
                some (.inr (.inr (1 : Int32)))
              else
                some (.inl (x1 + (1 : Int32)))
            else
              some (.inl (x1 + (1 : Int32)))
        else
          (qv_gR h 8 a0 1).bind fun v5 =>
          (qv_aI h false v5 x1).bind fun v6 =>
          if v6 = a2 then
            (qv_gR h 8 a0 2).bind fun v7 =>
            (qv_aI h false v7 x1).bind fun v8 =>
            if v8 = a1 then
              some (.inr (.inr (1 : Int32)))
            else
              some (.inl (x1 + (1 : Int32)))
          else
            some (.inl (x1 + (1 : Int32)))
    ) (0 : Int32)) fun q => match q with
  | .inl _ =>
    some (0 : Int32)
  | .inr q => some q
abbrev mX9_areNext : qv_M := (yX9_areNext, cX9_areNext, 4, (Option.some Jvm.ClassFile.FieldType.boolean), 0, 0)
set_option maxRecDepth 100000 in
set_option maxHeartbeats 4000000 in
theorem sX9_areNext {l : Launch} {g : qv_G} {a0 : Nat} {a1 : Int32} {a2 : Int32} {h : qv_H} {r : Int32} (hs : fX9_areNext a0 a1 a2 h = some r) : qv_J l g mX9_areNext 0 [some (.ref a0), some (.int a1), some (.int a2), none] [] h (some (.int r), h) := by
  unfold fX9_areNext at hs
  refine qv_iconst (v := (0 : Int32)) dX9_areNext_0 rfl ?_
  refine qv_istore_n (lo2 := [some (.ref a0), some (.int a1), some (.int a2), some (.int (0 : Int32))]) dX9_areNext_1 (i := 3) rfl (by decide) rfl (Nat.le_of_ble_eq_true rfl) rfl ?_
  obtain ⟨q6, e2, hA3⟩ := qv_bind hs
  have K1 : ∀ (_ : Unit), q6 = .inl () → qv_J l g mX9_areNext 58 [none, none, none, none] [] h (some (.int r), h) := by
    intro _ eq9
    subst eq9
    have hs := hA3
    dsimp only at hs
    refine qv_iconst (v := (0 : Int32)) dX9_areNext_58 rfl ?_
    obtain rfl := qv_sm hs
    exact qv_zret dX9_areNext_59 rfl (by decide)
  obtain ⟨n8, e2⟩ := qv_loop_of e2
  refine qv_dp (qv_le_s (qv_le_s (qv_le_s (qv_le_s qv_le_0)))) (?_ : qv_J l g mX9_areNext 2 [some (.ref a0), some (.int a1), some (.int a2), some (.int (0 : Int32))] [] h (some (.int r), h))
  revert e2
  suffices lj7 : ∀ (x1 : Int32), qv_it _ n8 x1 = some q6 → qv_J l g mX9_areNext 2 [some (.ref a0), some (.int a1), some (.int a2), some (.int x1)] [] h (some (.int r), h) from lj7 (0 : Int32)
  induction n8 with
  | zero =>
    intro x1 e2
    cases e2
  | succ n8 ih4 =>
    intro x1 e2
    obtain ⟨_, hs, eb5⟩ := qv_it_s e2
    refine qv_iload_n dX9_areNext_2 (i := 3) rfl rfl ?_
    refine qv_aload_n dX9_areNext_3 (i := 0) rfl rfl ?_
    obtain ⟨v2, e10, hs⟩ := qv_bind hs
    refine qv_getI dX9_areNext_4 qF_X9_137 e10 ?_
    by_cases c11 : v2 ≤ x1
    · have hs := qv_pos c11 hs
      refine qv_icmp_ge (tgt := 58) dX9_areNext_7 rfl (fun _ => ?_) (fun q => absurd c11 q)
      cases hs
      cases qv_nx_r eb5
      exact qv_dp (qv_le_n (qv_le_n (qv_le_n (qv_le_n qv_le_0)))) (K1 () rfl)
    · have hs := qv_neg c11 hs
      refine qv_icmp_ge (tgt := 58) dX9_areNext_7 rfl (fun q => absurd q c11) (fun _ => ?_)
      refine qv_aload_n dX9_areNext_10 (i := 0) rfl rfl ?_
      obtain ⟨v3, e12, hs⟩ := qv_bind hs
      refine qv_getR dX9_areNext_11 qF_X9_13 e12 ?_
      refine qv_iload_n dX9_areNext_14 (i := 3) rfl rfl ?_
      obtain ⟨v4, e13, hs⟩ := qv_bind hs
      refine qv_iald dX9_areNext_15 e13 ?_
      refine qv_iload_n dX9_areNext_16 (i := 1) rfl rfl ?_
      by_cases c14 : v4 = a1
      · have hs := qv_pos c14 hs
        refine qv_icmp_ne (tgt := 30) dX9_areNext_17 rfl (fun q => absurd c14 q) (fun _ => ?_)
        refine qv_aload_n dX9_areNext_20 (i := 0) rfl rfl ?_
        obtain ⟨v9, e15, hs⟩ := qv_bind hs
        refine qv_getR dX9_areNext_21 qF_X9_16 e15 ?_
        refine qv_iload_n dX9_areNext_24 (i := 3) rfl rfl ?_
        obtain ⟨v10, e16, hs⟩ := qv_bind hs
        refine qv_iald dX9_areNext_25 e16 ?_
        refine qv_iload_n dX9_areNext_26 (i := 2) rfl rfl ?_
        by_cases c17 : v10 = a2
        · have hs := qv_pos c17 hs
          refine qv_icmp_eq (tgt := 50) dX9_areNext_27 rfl (fun _ => ?_) (fun q => absurd c17 q)
          refine qv_iconst (v := (1 : Int32)) dX9_areNext_50 rfl ?_
          cases hs
          cases qv_nx_r eb5
          have hs := hA3
          dsimp only at hs
          obtain rfl := qv_sm hs
          exact qv_zret dX9_areNext_51 rfl (by decide)
        · have hs := qv_neg c17 hs
          refine qv_icmp_eq (tgt := 50) dX9_areNext_27 rfl (fun q => absurd q c17) (fun _ => ?_)
          refine qv_aload_n dX9_areNext_30 (i := 0) rfl rfl ?_
          obtain ⟨v11, e18, hs⟩ := qv_bind hs
          refine qv_getR dX9_areNext_31 qF_X9_13 e18 ?_
          refine qv_iload_n dX9_areNext_34 (i := 3) rfl rfl ?_
          obtain ⟨v12, e19, hs⟩ := qv_bind hs
          refine qv_iald dX9_areNext_35 e19 ?_
          refine qv_iload_n dX9_areNext_36 (i := 2) rfl rfl ?_
          by_cases c20 : v12 = a2
          · have hs := qv_pos c20 hs
            refine qv_icmp_ne (tgt := 52) dX9_areNext_37 rfl (fun q => absurd c20 q) (fun _ => ?_)
            refine qv_aload_n dX9_areNext_40 (i := 0) rfl rfl ?_
            obtain ⟨v13, e21, hs⟩ := qv_bind hs
            refine qv_getR dX9_areNext_41 qF_X9_16 e21 ?_
            refine qv_iload_n dX9_areNext_44 (i := 3) rfl rfl ?_
            obtain ⟨v14, e22, hs⟩ := qv_bind hs
            refine qv_iald dX9_areNext_45 e22 ?_
            refine qv_iload_n dX9_areNext_46 (i := 1) rfl rfl ?_
            by_cases c23 : v14 = a1
            · have hs := qv_pos c23 hs
              refine qv_icmp_ne (tgt := 52) dX9_areNext_47 rfl (fun q => absurd c23 q) (fun _ => ?_)
              refine qv_iconst (v := (1 : Int32)) dX9_areNext_50 rfl ?_
              cases hs
              cases qv_nx_r eb5
              have hs := hA3
              dsimp only at hs
              obtain rfl := qv_sm hs
              exact qv_zret dX9_areNext_51 rfl (by decide)
            · have hs := qv_neg c23 hs
              refine qv_icmp_ne (tgt := 52) dX9_areNext_47 rfl (fun _ => ?_) (fun q => absurd q c23)
              refine qv_iinc (v := x1 + (1 : Int32)) (lo2 := [some (.ref a0), some (.int a1), some (.int a2), some (.int (x1 + (1 : Int32)))]) dX9_areNext_52 rfl rfl (by decide) rfl rfl ?_
              refine qv_goto (tgt := 2) dX9_areNext_55 rfl ?_
              cases hs
              exact qv_dp (qv_le_s (qv_le_s (qv_le_s (qv_le_s qv_le_0)))) (ih4 _ (qv_nx_l eb5))
          · have hs := qv_neg c20 hs
            refine qv_icmp_ne (tgt := 52) dX9_areNext_37 rfl (fun _ => ?_) (fun q => absurd q c20)
            refine qv_iinc (v := x1 + (1 : Int32)) (lo2 := [some (.ref a0), some (.int a1), some (.int a2), some (.int (x1 + (1 : Int32)))]) dX9_areNext_52 rfl rfl (by decide) rfl rfl ?_
            refine qv_goto (tgt := 2) dX9_areNext_55 rfl ?_
            cases hs
            exact qv_dp (qv_le_s (qv_le_s (qv_le_s (qv_le_s qv_le_0)))) (ih4 _ (qv_nx_l eb5))
      · have hs := qv_neg c14 hs
        refine qv_icmp_ne (tgt := 30) dX9_areNext_17 rfl (fun _ => ?_) (fun q => absurd q c14)
        refine qv_aload_n dX9_areNext_30 (i := 0) rfl rfl ?_
        obtain ⟨v5, e24, hs⟩ := qv_bind hs
        refine qv_getR dX9_areNext_31 qF_X9_13 e24 ?_
        refine qv_iload_n dX9_areNext_34 (i := 3) rfl rfl ?_
        obtain ⟨v6, e25, hs⟩ := qv_bind hs
        refine qv_iald dX9_areNext_35 e25 ?_
        refine qv_iload_n dX9_areNext_36 (i := 2) rfl rfl ?_
        by_cases c26 : v6 = a2
        · have hs := qv_pos c26 hs
          refine qv_icmp_ne (tgt := 52) dX9_areNext_37 rfl (fun q => absurd c26 q) (fun _ => ?_)
          refine qv_aload_n dX9_areNext_40 (i := 0) rfl rfl ?_
          obtain ⟨v7, e27, hs⟩ := qv_bind hs
          refine qv_getR dX9_areNext_41 qF_X9_16 e27 ?_
          refine qv_iload_n dX9_areNext_44 (i := 3) rfl rfl ?_
          obtain ⟨v8, e28, hs⟩ := qv_bind hs
          refine qv_iald dX9_areNext_45 e28 ?_
          refine qv_iload_n dX9_areNext_46 (i := 1) rfl rfl ?_
          by_cases c29 : v8 = a1
          · have hs := qv_pos c29 hs
            refine qv_icmp_ne (tgt := 52) dX9_areNext_47 rfl (fun q => absurd c29 q) (fun _ => ?_)
            refine qv_iconst (v := (1 : Int32)) dX9_areNext_50 rfl ?_
            cases hs
            cases qv_nx_r eb5
            have hs := hA3
            dsimp only at hs
            obtain rfl := qv_sm hs
            exact qv_zret dX9_areNext_51 rfl (by decide)
          · have hs := qv_neg c29 hs
            refine qv_icmp_ne (tgt := 52) dX9_areNext_47 rfl (fun _ => ?_) (fun q => absurd q c29)
            refine qv_iinc (v := x1 + (1 : Int32)) (lo2 := [some (.ref a0), some (.int a1), some (.int a2), some (.int (x1 + (1 : Int32)))]) dX9_areNext_52 rfl rfl (by decide) rfl rfl ?_
            refine qv_goto (tgt := 2) dX9_areNext_55 rfl ?_
            cases hs
            exact qv_dp (qv_le_s (qv_le_s (qv_le_s (qv_le_s qv_le_0)))) (ih4 _ (qv_nx_l eb5))
        · have hs := qv_neg c26 hs
          refine qv_icmp_ne (tgt := 52) dX9_areNext_37 rfl (fun _ => ?_) (fun q => absurd q c26)
          refine qv_iinc (v := x1 + (1 : Int32)) (lo2 := [some (.ref a0), some (.int a1), some (.int a2), some (.int (x1 + (1 : Int32)))]) dX9_areNext_52 rfl rfl (by decide) rfl rfl ?_
          refine qv_goto (tgt := 2) dX9_areNext_55 rfl ?_
          cases hs
          exact qv_dp (qv_le_s (qv_le_s (qv_le_s (qv_le_s qv_le_0)))) (ih4 _ (qv_nx_l eb5))
theorem qD_X9_areNext : qv_DV mX9_areNext 2 := ⟨(qv_i17 (List.mem_of_getElem? (i := 28) (by decide +kernel))), (qv_i0 (List.mem_of_getElem? (i := 60) (by decide +kernel))), (qv_i1 (List.mem_of_getElem? (i := 14) (by decide +kernel))), (qv_i17 (List.mem_of_getElem? (i := 29) (by decide +kernel))), by decide +kernel, by decide +kernel⟩
/-- TrueOneWayModel.worstAt(II)I -/
noncomputable def fX9_worstAt (a0 : Nat) (a1 : Int32) (a2 : Int32) (h : qv_H) : Option (Int32) :=
  Option.bind (qv_loop (σ := Int32 × Int32) (ρ := Int32) (fun (x1, x2) =>
      if (16 : Int32) ≤ x2 then
        some (.inr x1)
      else
        (qv_gR h 8 a0 34).bind fun v3 =>
        (qv_aI h false v3 x2).bind fun v4 =>
        Option.bind (α := Int32) (
            if v4 = 0 then
              some x1
            else
              (qv_ob h 8 a0).bind fun _ =>
              (fX9_agrees a0 a2 x2 h).bind fun v6 =>
              if v6 = 0 then
                some x1
              else
                (qv_gR h 8 a0 35).bind fun v7 =>
                (qv_ob h 8 a0).bind fun _ =>
                (fX9_knownAt a0 a2 a1 x2 h).bind fun v9 =>
                (qv_aI h false v7 (((81 : Int32) * a1) + v9)).bind fun v10 =>
                Option.bind (α := Int32) (
                    if v10 ≤ x1 then
                      some x1
                    else
                      some v10
                  ) fun m11 =>
                some m11
          ) fun m12 =>
        some (.inl (m12, x2 + (1 : Int32)))
    ) ((0 : Int32), (0 : Int32))) fun y13 =>
  some y13
abbrev mX9_worstAt : qv_M := (yX9_worstAt, cX9_worstAt, 6, (Option.some Jvm.ClassFile.FieldType.int), 2, 49)
set_option maxRecDepth 100000 in
set_option maxHeartbeats 4000000 in
theorem sX9_worstAt {l : Launch} {g : qv_G} {a0 : Nat} {a1 : Int32} {a2 : Int32} {h : qv_H} {r : Int32} (hs : fX9_worstAt a0 a1 a2 h = some r) : qv_J l g mX9_worstAt 0 [some (.ref a0), some (.int a1), some (.int a2), none, none, none] [] h (some (.int r), h) := by
  unfold fX9_worstAt at hs
  refine qv_iconst (v := (0 : Int32)) dX9_worstAt_0 rfl ?_
  refine qv_istore_n (lo2 := [some (.ref a0), some (.int a1), some (.int a2), some (.int (0 : Int32)), none, none]) dX9_worstAt_1 (i := 3) rfl (by decide) rfl (Nat.le_of_ble_eq_true rfl) rfl ?_
  refine qv_iconst (v := (0 : Int32)) dX9_worstAt_2 rfl ?_
  refine qv_istore (lo2 := [some (.ref a0), some (.int a1), some (.int a2), some (.int (0 : Int32)), some (.int (0 : Int32)), none]) dX9_worstAt_3 (by decide) rfl (Nat.le_of_ble_eq_true rfl) rfl ?_
  obtain ⟨y13, e2, hs⟩ := qv_bind hs
  have K1 : qv_J l g mX9_worstAt 74 [none, none, none, some (.int y13), none, none] [] h (some (.int r), h) := by
    refine qv_iload_n dX9_worstAt_74 (i := 3) rfl rfl ?_
    obtain rfl := qv_sm hs
    exact qv_iret dX9_worstAt_75 rfl
  obtain ⟨n8, e2⟩ := qv_loop_of e2
  refine qv_dp (qv_le_s (qv_le_s (qv_le_s (qv_le_s (qv_le_s (qv_le_n qv_le_0)))))) (?_ : qv_J l g mX9_worstAt 5 [some (.ref a0), some (.int a1), some (.int a2), some (.int (0 : Int32)), some (.int (0 : Int32)), none] [] h (some (.int r), h))
  revert e2
  suffices lj7 : ∀ (x1 : Int32) (x2 : Int32), qv_it _ n8 (x1, x2) = some y13 → qv_J l g mX9_worstAt 5 [some (.ref a0), some (.int a1), some (.int a2), some (.int x1), some (.int x2), none] [] h (some (.int r), h) from lj7 (0 : Int32) (0 : Int32)
  induction n8 with
  | zero =>
    intro x1 x2 e2
    cases e2
  | succ n8 ih4 =>
    intro x1 x2 e2
    obtain ⟨_, hs, eb5⟩ := qv_it_s e2
    dsimp only at hs
    refine qv_iload dX9_worstAt_5 rfl ?_
    refine qv_bipush (v := (16 : Int32)) dX9_worstAt_7 rfl ?_
    by_cases c9 : (16 : Int32) ≤ x2
    · have hs := qv_pos c9 hs
      refine qv_icmp_ge (tgt := 74) dX9_worstAt_9 rfl (fun _ => ?_) (fun q => absurd c9 q)
      cases hs
      cases qv_nx_r eb5
      exact qv_dp (qv_le_n (qv_le_n (qv_le_n (qv_le_s (qv_le_n (qv_le_n qv_le_0)))))) K1
    · have hs := qv_neg c9 hs
      refine qv_icmp_ge (tgt := 74) dX9_worstAt_9 rfl (fun q => absurd q c9) (fun _ => ?_)
      refine qv_aload_n dX9_worstAt_12 (i := 0) rfl rfl ?_
      obtain ⟨v3, e10, hs⟩ := qv_bind hs
      refine qv_getR dX9_worstAt_13 qF_X9_74 e10 ?_
      refine qv_iload dX9_worstAt_16 rfl ?_
      obtain ⟨v4, e11, hs⟩ := qv_bind hs
      refine qv_iald dX9_worstAt_18 e11 ?_
      obtain ⟨m12, hj13, hs⟩ := qv_bind hs
      have K12 : qv_J l g mX9_worstAt 68 [some (.ref a0), some (.int a1), some (.int a2), some (.int m12), some (.int x2), none] [] h (some (.int r), h) := by
        refine qv_iinc (v := x2 + (1 : Int32)) (lo2 := [some (.ref a0), some (.int a1), some (.int a2), some (.int m12), some (.int (x2 + (1 : Int32))), none]) dX9_worstAt_68 rfl rfl (by decide) rfl rfl ?_
        refine qv_goto (tgt := 5) dX9_worstAt_71 rfl ?_
        cases hs
        exact qv_dp (qv_le_s (qv_le_s (qv_le_s (qv_le_s (qv_le_s (qv_le_n qv_le_0)))))) (ih4 _ _ (qv_nx_l eb5))
      replace hs := hj13
      by_cases c14 : v4 = 0
      · have hs := qv_pos c14 hs
        refine qv_if_eq (tgt := 68) dX9_worstAt_19 rfl (fun _ => ?_) (fun q => absurd c14 q)
        cases hs
        exact qv_dp (qv_le_s (qv_le_s (qv_le_s (qv_le_s (qv_le_s (qv_le_n qv_le_0)))))) K12
      · have hs := qv_neg c14 hs
        refine qv_if_eq (tgt := 68) dX9_worstAt_19 rfl (fun q => absurd q c14) (fun _ => ?_)
        refine qv_aload_n dX9_worstAt_22 (i := 0) rfl rfl ?_
        refine qv_iload_n dX9_worstAt_23 (i := 2) rfl rfl ?_
        refine qv_iload dX9_worstAt_24 rfl ?_
        obtain ⟨u5, e15, hs⟩ := qv_bind hs
        obtain ⟨v6, e16, hs⟩ := qv_bind hs
        refine qv_cV (d2 := mX9_agrees) (o := a0) (ci := 8) (r := some (.int v6)) (h2 := h) (av := [.int a2, .int x2]) (st := []) dX9_worstAt_26 qM_X9_263 qD_X9_agrees e15 rfl rfl ⟨by decide, by decide⟩ rfl (Nat.le_of_ble_eq_true rfl) (Nat.le_of_ble_eq_true rfl) (sX9_agrees e16) rfl ?_
        by_cases c17 : v6 = 0
        · have hs := qv_pos c17 hs
          refine qv_if_ne (tgt := 35) dX9_worstAt_29 rfl (fun q => absurd c17 q) (fun _ => ?_)
          refine qv_goto (tgt := 68) dX9_worstAt_32 rfl ?_
          cases hs
          exact qv_dp (qv_le_s (qv_le_s (qv_le_s (qv_le_s (qv_le_s (qv_le_n qv_le_0)))))) K12
        · have hs := qv_neg c17 hs
          refine qv_if_ne (tgt := 35) dX9_worstAt_29 rfl (fun _ => ?_) (fun q => absurd q c17)
          refine qv_aload_n dX9_worstAt_35 (i := 0) rfl rfl ?_
          obtain ⟨v7, e18, hs⟩ := qv_bind hs
          refine qv_getR dX9_worstAt_36 qF_X9_77 e18 ?_
          refine qv_bipush (v := (81 : Int32)) dX9_worstAt_39 rfl ?_
          refine qv_iload_n dX9_worstAt_41 (i := 1) rfl rfl ?_
          refine qv_imul dX9_worstAt_42 ?_
          refine qv_aload_n dX9_worstAt_43 (i := 0) rfl rfl ?_
          refine qv_iload_n dX9_worstAt_44 (i := 2) rfl rfl ?_
          refine qv_iload_n dX9_worstAt_45 (i := 1) rfl rfl ?_
          refine qv_iload dX9_worstAt_46 rfl ?_
          obtain ⟨u8, e19, hs⟩ := qv_bind hs
          obtain ⟨v9, e20, hs⟩ := qv_bind hs
          refine qv_cV (d2 := mX9_knownAt) (o := a0) (ci := 8) (r := some (.int v9)) (h2 := h) (av := [.int a2, .int a1, .int x2]) (st := [.int ((81 : Int32) * a1), .ref v7]) dX9_worstAt_48 qM_X9_266 qD_X9_knownAt e19 rfl rfl ⟨by decide, by decide⟩ rfl (Nat.le_of_ble_eq_true rfl) (Nat.le_of_ble_eq_true rfl) (sX9_knownAt e20) rfl ?_
          refine qv_iadd dX9_worstAt_51 ?_
          obtain ⟨v10, e21, hs⟩ := qv_bind hs
          refine qv_iald dX9_worstAt_52 e21 ?_
          refine qv_istore (lo2 := [some (.ref a0), some (.int a1), some (.int a2), some (.int x1), some (.int x2), some (.int v10)]) dX9_worstAt_53 (by decide) rfl (Nat.le_of_ble_eq_true rfl) rfl ?_
          refine qv_iload dX9_worstAt_55 rfl ?_
          refine qv_iload_n dX9_worstAt_57 (i := 3) rfl rfl ?_
          obtain ⟨m11, hj23, hs⟩ := qv_bind hs
          have K22 : qv_J l g mX9_worstAt 67 [some (.ref a0), some (.int a1), some (.int a2), none, some (.int x2), none] [.int m11] h (some (.int r), h) := by
            refine qv_istore_n (lo2 := [some (.ref a0), some (.int a1), some (.int a2), some (.int m11), some (.int x2), none]) dX9_worstAt_67 (i := 3) rfl (by decide) rfl (Nat.le_of_ble_eq_true rfl) rfl ?_
            cases hs
            exact qv_dp (qv_le_s (qv_le_s (qv_le_s (qv_le_s (qv_le_s (qv_le_n qv_le_0)))))) K12
          replace hs := hj23
          by_cases c24 : v10 ≤ x1
          · have hs := qv_pos c24 hs
            refine qv_icmp_le (tgt := 66) dX9_worstAt_58 rfl (fun _ => ?_) (fun q => absurd c24 q)
            refine qv_iload_n dX9_worstAt_66 (i := 3) rfl rfl ?_
            cases hs
            exact qv_dp (qv_le_s (qv_le_s (qv_le_s (qv_le_n (qv_le_s (qv_le_n qv_le_0)))))) K22
          · have hs := qv_neg c24 hs
            refine qv_icmp_le (tgt := 66) dX9_worstAt_58 rfl (fun q => absurd q c24) (fun _ => ?_)
            refine qv_iload dX9_worstAt_61 rfl ?_
            refine qv_goto (tgt := 67) dX9_worstAt_63 rfl ?_
            cases hs
            exact qv_dp (qv_le_s (qv_le_s (qv_le_s (qv_le_n (qv_le_s (qv_le_n qv_le_0)))))) K22
theorem qD_X9_worstAt : qv_DV mX9_worstAt 2 := ⟨(qv_i17 (List.mem_of_getElem? (i := 31) (by decide +kernel))), (qv_i0 (List.mem_of_getElem? (i := 61) (by decide +kernel))), (qv_i1 (List.mem_of_getElem? (i := 14) (by decide +kernel))), (qv_i17 (List.mem_of_getElem? (i := 32) (by decide +kernel))), by decide +kernel, by decide +kernel⟩
/-- TrueOneWayModel.bestNext(II)I -/
noncomputable def fX9_bestNext (a0 : Nat) (a1 : Int32) (a2 : Int32) (h : qv_H) : Option (Int32) :=
  Option.bind (qv_loop (σ := Int32 × Int32 × Int32) (ρ := Int32) (fun (x1, x2, x3) =>
      (qv_gI h 8 a0 8).bind fun v4 =>
      if v4 ≤ x3 then
        some (.inr x1)
      else
        (qv_ob h 8 a0).bind fun _ =>
        (fX9_areNext a0 a1 x3 h).bind fun v6 =>
        Option.bind (α := Int32 × Int32) (
            if v6 = 0 then
              some (x1, x2)
            else
              (qv_ob h 8 a0).bind fun _ =>
              (fX9_worstAt a0 x3 a2 h).bind fun v8 =>
              if v8 < x2 then
                some (x3, v8)
              else
                some (x1, x2)
          ) fun (m9, m10) =>
        some (.inl (m9, m10, x3 + (1 : Int32)))
    ) ((-9 : Int32), (1000 : Int32), (0 : Int32))) fun y11 =>
  some y11
abbrev mX9_bestNext : qv_M := (yX9_bestNext, cX9_bestNext, 7, (Option.some Jvm.ClassFile.FieldType.int), 3, 74)
set_option maxRecDepth 100000 in
set_option maxHeartbeats 4000000 in
theorem sX9_bestNext {l : Launch} {g : qv_G} {a0 : Nat} {a1 : Int32} {a2 : Int32} {h : qv_H} {r : Int32} (hs : fX9_bestNext a0 a1 a2 h = some r) : qv_J l g mX9_bestNext 0 [some (.ref a0), some (.int a1), some (.int a2), none, none, none, none] [] h (some (.int r), h) := by
  unfold fX9_bestNext at hs
  refine qv_bipush (v := (-9 : Int32)) dX9_bestNext_0 rfl ?_
  refine qv_istore_n (lo2 := [some (.ref a0), some (.int a1), some (.int a2), some (.int (-9 : Int32)), none, none, none]) dX9_bestNext_2 (i := 3) rfl (by decide) rfl (Nat.le_of_ble_eq_true rfl) rfl ?_
  refine qv_sipush (v := (1000 : Int32)) dX9_bestNext_3 rfl ?_
  refine qv_istore (lo2 := [some (.ref a0), some (.int a1), some (.int a2), some (.int (-9 : Int32)), some (.int (1000 : Int32)), none, none]) dX9_bestNext_6 (by decide) rfl (Nat.le_of_ble_eq_true rfl) rfl ?_
  refine qv_iconst (v := (0 : Int32)) dX9_bestNext_8 rfl ?_
  refine qv_istore (lo2 := [some (.ref a0), some (.int a1), some (.int a2), some (.int (-9 : Int32)), some (.int (1000 : Int32)), some (.int (0 : Int32)), none]) dX9_bestNext_9 (by decide) rfl (Nat.le_of_ble_eq_true rfl) rfl ?_
  obtain ⟨y11, e2, hs⟩ := qv_bind hs
  have K1 : qv_J l g mX9_bestNext 65 [none, none, none, some (.int y11), none, none, none] [] h (some (.int r), h) := by
    refine qv_iload_n dX9_bestNext_65 (i := 3) rfl rfl ?_
    obtain rfl := qv_sm hs
    exact qv_iret dX9_bestNext_66 rfl
  obtain ⟨n8, e2⟩ := qv_loop_of e2
  refine qv_dp (qv_le_s (qv_le_s (qv_le_s (qv_le_s (qv_le_s (qv_le_s (qv_le_n qv_le_0))))))) (?_ : qv_J l g mX9_bestNext 11 [some (.ref a0), some (.int a1), some (.int a2), some (.int (-9 : Int32)), some (.int (1000 : Int32)), some (.int (0 : Int32)), none] [] h (some (.int r), h))
  revert e2
  suffices lj7 : ∀ (x1 : Int32) (x2 : Int32) (x3 : Int32), qv_it _ n8 (x1, x2, x3) = some y11 → qv_J l g mX9_bestNext 11 [some (.ref a0), some (.int a1), some (.int a2), some (.int x1), some (.int x2), some (.int x3), none] [] h (some (.int r), h) from lj7 (-9 : Int32) (1000 : Int32) (0 : Int32)
  induction n8 with
  | zero =>
    intro x1 x2 x3 e2
    cases e2
  | succ n8 ih4 =>
    intro x1 x2 x3 e2
    obtain ⟨_, hs, eb5⟩ := qv_it_s e2
    dsimp only at hs
    refine qv_iload dX9_bestNext_11 rfl ?_
    refine qv_aload_n dX9_bestNext_13 (i := 0) rfl rfl ?_
    obtain ⟨v4, e9, hs⟩ := qv_bind hs
    refine qv_getI dX9_bestNext_14 qF_X9_34 e9 ?_
    by_cases c10 : v4 ≤ x3
    · have hs := qv_pos c10 hs
      refine qv_icmp_ge (tgt := 65) dX9_bestNext_17 rfl (fun _ => ?_) (fun q => absurd c10 q)
      cases hs
      cases qv_nx_r eb5
      exact qv_dp (qv_le_n (qv_le_n (qv_le_n (qv_le_s (qv_le_n (qv_le_n (qv_le_n qv_le_0))))))) K1
    · have hs := qv_neg c10 hs
      refine qv_icmp_ge (tgt := 65) dX9_bestNext_17 rfl (fun q => absurd q c10) (fun _ => ?_)
      refine qv_aload_n dX9_bestNext_20 (i := 0) rfl rfl ?_
      refine qv_iload_n dX9_bestNext_21 (i := 1) rfl rfl ?_
      refine qv_iload dX9_bestNext_22 rfl ?_
      obtain ⟨u5, e11, hs⟩ := qv_bind hs
      obtain ⟨v6, e12, hs⟩ := qv_bind hs
      refine qv_cV (d2 := mX9_areNext) (o := a0) (ci := 8) (r := some (.int v6)) (h2 := h) (av := [.int a1, .int x3]) (st := []) dX9_bestNext_24 qM_X9_269 qD_X9_areNext e11 rfl rfl ⟨by decide, by decide⟩ rfl (Nat.le_of_ble_eq_true rfl) (Nat.le_of_ble_eq_true rfl) (sX9_areNext e12) rfl ?_
      obtain ⟨⟨m9, m10⟩, hj14, hs⟩ := qv_bind hs
      dsimp only at hs
      have K13 : qv_J l g mX9_bestNext 59 [some (.ref a0), some (.int a1), some (.int a2), some (.int m9), some (.int m10), some (.int x3), none] [] h (some (.int r), h) := by
        refine qv_iinc (v := x3 + (1 : Int32)) (lo2 := [some (.ref a0), some (.int a1), some (.int a2), some (.int m9), some (.int m10), some (.int (x3 + (1 : Int32))), none]) dX9_bestNext_59 rfl rfl (by decide) rfl rfl ?_
        refine qv_goto (tgt := 11) dX9_bestNext_62 rfl ?_
        cases hs
        exact qv_dp (qv_le_s (qv_le_s (qv_le_s (qv_le_s (qv_le_s (qv_le_s (qv_le_n qv_le_0))))))) (ih4 _ _ _ (qv_nx_l eb5))
      replace hs := hj14
      by_cases c15 : v6 = 0
      · have hs := qv_pos c15 hs
        refine qv_if_ne (tgt := 33) dX9_bestNext_27 rfl (fun q => absurd c15 q) (fun _ => ?_)
        refine qv_goto (tgt := 59) dX9_bestNext_30 rfl ?_
        cases hs
        exact qv_dp (qv_le_s (qv_le_s (qv_le_s (qv_le_s (qv_le_s (qv_le_s (qv_le_n qv_le_0))))))) K13
      · have hs := qv_neg c15 hs
        refine qv_if_ne (tgt := 33) dX9_bestNext_27 rfl (fun _ => ?_) (fun q => absurd q c15)
        refine qv_aload_n dX9_bestNext_33 (i := 0) rfl rfl ?_
        refine qv_iload dX9_bestNext_34 rfl ?_
        refine qv_iload_n dX9_bestNext_36 (i := 2) rfl rfl ?_
        obtain ⟨u7, e16, hs⟩ := qv_bind hs
        obtain ⟨v8, e17, hs⟩ := qv_bind hs
        refine qv_cV (d2 := mX9_worstAt) (o := a0) (ci := 8) (r := some (.int v8)) (h2 := h) (av := [.int x3, .int a2]) (st := []) dX9_bestNext_37 qM_X9_272 qD_X9_worstAt e16 rfl rfl ⟨by decide, by decide⟩ rfl (Nat.le_of_ble_eq_true rfl) (Nat.le_of_ble_eq_true rfl) (sX9_worstAt e17) rfl ?_
        refine qv_istore (lo2 := [some (.ref a0), some (.int a1), some (.int a2), some (.int x1), some (.int x2), some (.int x3), some (.int v8)]) dX9_bestNext_40 (by decide) rfl (Nat.le_of_ble_eq_true rfl) rfl ?_
        refine qv_iload dX9_bestNext_42 rfl ?_
        refine qv_iload dX9_bestNext_44 rfl ?_
        by_cases c18 : v8 < x2
        · have hs := qv_pos c18 hs
          refine qv_icmp_lt (tgt := 52) dX9_bestNext_46 rfl (fun _ => ?_) (fun q => absurd c18 q)
          refine qv_iload dX9_bestNext_52 rfl ?_
          refine qv_istore_n (lo2 := [some (.ref a0), some (.int a1), some (.int a2), some (.int x3), some (.int x2), some (.int x3), some (.int v8)]) dX9_bestNext_54 (i := 3) rfl (by decide) rfl (Nat.le_of_ble_eq_true rfl) rfl ?_
          refine qv_iload dX9_bestNext_55 rfl ?_
          refine qv_istore (lo2 := [some (.ref a0), some (.int a1), some (.int a2), some (.int x3), some (.int v8), some (.int x3), some (.int v8)]) dX9_bestNext_57 (by decide) rfl (Nat.le_of_ble_eq_true rfl) rfl ?_
          cases hs
          exact qv_dp (qv_le_s (qv_le_s (qv_le_s (qv_le_s (qv_le_s (qv_le_s (qv_le_n qv_le_0))))))) K13
        · have hs := qv_neg c18 hs
          refine qv_icmp_lt (tgt := 52) dX9_bestNext_46 rfl (fun q => absurd q c18) (fun _ => ?_)
          refine qv_goto (tgt := 59) dX9_bestNext_49 rfl ?_
          cases hs
          exact qv_dp (qv_le_s (qv_le_s (qv_le_s (qv_le_s (qv_le_s (qv_le_s (qv_le_n qv_le_0))))))) K13
theorem qD_X9_bestNext : qv_DV mX9_bestNext 2 := ⟨(qv_i17 (List.mem_of_getElem? (i := 25) (by decide +kernel))), (qv_i0 (List.mem_of_getElem? (i := 59) (by decide +kernel))), (qv_i1 (List.mem_of_getElem? (i := 14) (by decide +kernel))), (qv_i17 (List.mem_of_getElem? (i := 26) (by decide +kernel))), by decide +kernel, by decide +kernel⟩
/-- TrueOneWayModel.findWorths()V -/
noncomputable def fX9_findWorths (a0 : Nat) (h : qv_H) : Option (qv_H) :=
  (qv_ob h 8 a0).bind fun _ =>
  (fX9_findFactSets a0 h).bind fun h2 =>
  Option.bind (qv_loop (σ := Int32 × qv_H) (ρ := qv_H) (fun (x3, h4) =>
      if (486 : Int32) ≤ x3 then
        some (.inr h4)
      else
        (qv_gR h4 8 a0 35).bind fun v5 =>
        (qv_gI h4 8 a0 8).bind fun v6 =>
        Option.bind (α := Int32) (
            if v6 ≤ (x3 / (81 : Int32)) then
              some (1000 : Int32)
            else
              (qv_ob h4 8 a0).bind fun _ =>
              (fX9_isDone a0 (x3 / (81 : Int32)) (x3 - x3 / (81 : Int32) * (81 : Int32)) h4).bind fun v8 =>
              if v8 = 0 then
                some (1000 : Int32)
              else
                some (0 : Int32)
          ) fun m9 =>
        (qv_sI h4 false v5 x3 m9).bind fun h10 =>
        some (.inl (x3 + (1 : Int32), h10))
    ) ((0 : Int32), h2)) fun h11 =>
  Option.bind (qv_loop (σ := Int32 × qv_H) (ρ := qv_H) (fun (x12, h13) =>
      if (20 : Int32) ≤ x12 then
        some (.inr h13)
      else
        Option.bind (qv_loop (σ := Int32 × qv_H) (ρ := qv_H) (fun (x14, h15) =>
            (qv_gI h15 8 a0 8).bind fun v16 =>
            if ((81 : Int32) * v16) ≤ x14 then
              some (.inr h15)
            else
              (qv_gR h15 8 a0 35).bind fun v17 =>
              (qv_aI h15 false v17 x14).bind fun v18 =>
              Option.bind (α := Int32) (
                  if v18 = 0 then
                    some (-9 : Int32)
                  else
                    (qv_ob h15 8 a0).bind fun _ =>
                    (fX9_bestNext a0 (x14 / (81 : Int32)) (x14 - x14 / (81 : Int32) * (81 : Int32)) h15).bind fun v20 =>
                    some v20
                ) fun m21 =>
              (qv_gR h15 8 a0 36).bind fun v22 =>
              (qv_gR h15 8 a0 35).bind fun v23 =>
              (qv_aI h15 false v23 x14).bind fun v24 =>
              Option.bind (α := Int32) (
                  if v24 = 0 then
                    some (0 : Int32)
                  else
                    if 0 ≤ m21 then
                      (qv_ob h15 8 a0).bind fun _ =>
                      (fX9_worstAt a0 m21 (x14 - x14 / (81 : Int32) * (81 : Int32)) h15).bind fun v26 =>
                      some (v26 + (1 : Int32))
                    else
                      some (1000 : Int32)
                ) fun m27 =>
              (qv_sI h15 false v22 x14 m27).bind fun h28 =>
              some (.inl (x14 + (1 : Int32), h28))
          ) ((0 : Int32), h13)) fun h29 =>
        Option.bind (qv_loop (σ := Int32 × qv_H) (ρ := qv_H) (fun (x30, h31) =>
            (qv_gI h31 8 a0 8).bind fun v32 =>
            if ((81 : Int32) * v32) ≤ x30 then
              some (.inr h31)
            else
              (qv_gR h31 8 a0 35).bind fun v33 =>
              (qv_gR h31 8 a0 36).bind fun v34 =>
              (qv_aI h31 false v34 x30).bind fun v35 =>
              (qv_sI h31 false v33 x30 v35).bind fun h36 =>
              some (.inl (x30 + (1 : Int32), h36))
          ) ((0 : Int32), h29)) fun h37 =>
        some (.inl (x12 + (1 : Int32), h37))
    ) ((0 : Int32), h11)) fun h38 =>
  some h38
abbrev mX9_findWorths : qv_M := (yX9_findWorths, cX9_findWorths, 4, (Option.none : Option Jvm.ClassFile.FieldType), 5, 112)
set_option maxRecDepth 100000 in
set_option maxHeartbeats 4000000 in
theorem sX9_findWorths {l : Launch} {g : qv_G} {a0 : Nat} {h : qv_H} {hz : qv_H} (hs : fX9_findWorths a0 h = some hz) : qv_J l g mX9_findWorths 0 [some (.ref a0), none, none, none] [] h (none, hz) := by
  unfold fX9_findWorths at hs
  refine qv_aload_n dX9_findWorths_0 (i := 0) rfl rfl ?_
  obtain ⟨u1, e1, hs⟩ := qv_bind hs
  obtain ⟨h2, e2, hs⟩ := qv_bind hs
  refine qv_cV (d2 := mX9_findFactSets) (o := a0) (ci := 8) (r := none) (h2 := h2) (av := []) (st := []) dX9_findWorths_1 qM_X9_275 qD_X9_findFactSets e1 rfl rfl ⟨by decide, by decide⟩ rfl (Nat.le_of_ble_eq_true rfl) (Nat.le_of_ble_eq_true rfl) (sX9_findFactSets e2) rfl ?_
  refine qv_iconst (v := (0 : Int32)) dX9_findWorths_4 rfl ?_
  refine qv_istore_n (lo2 := [some (.ref a0), some (.int (0 : Int32)), none, none]) dX9_findWorths_5 (i := 1) rfl (by decide) rfl (Nat.le_of_ble_eq_true rfl) rfl ?_
  obtain ⟨h11, e4, hs⟩ := qv_bind hs
  have K3 : qv_J l g mX9_findWorths 58 [some (.ref a0), none, none, none] [] h11 (none, hz) := by
    refine qv_iconst (v := (0 : Int32)) dX9_findWorths_58 rfl ?_
    refine qv_istore_n (lo2 := [some (.ref a0), some (.int (0 : Int32)), none, none]) dX9_findWorths_59 (i := 1) rfl (by decide) rfl (Nat.le_of_ble_eq_true rfl) rfl ?_
    obtain ⟨h38, e12, hs⟩ := qv_bind hs
    have K11 : qv_J l g mX9_findWorths 189 [none, none, none, none] [] h38 (none, hz) := by
      obtain rfl := qv_sm hs
      exact qv_vret dX9_findWorths_189 rfl
    obtain ⟨n18, e12⟩ := qv_loop_of e12
    refine qv_dp (qv_le_s (qv_le_s (qv_le_n (qv_le_n qv_le_0)))) (?_ : qv_J l g mX9_findWorths 60 [some (.ref a0), some (.int (0 : Int32)), none, none] [] h11 (none, hz))
    revert e12
    suffices lj17 : ∀ (x12 : Int32) (h13 : qv_H), qv_it _ n18 (x12, h13) = some h38 → qv_J l g mX9_findWorths 60 [some (.ref a0), some (.int x12), none, none] [] h13 (none, hz) from lj17 (0 : Int32) h11
    induction n18 with
    | zero =>
      intro x12 h13 e12
      cases e12
    | succ n18 ih14 =>
      intro x12 h13 e12
      obtain ⟨_, hs, eb15⟩ := qv_it_s e12
      dsimp only at hs
      refine qv_iload_n dX9_findWorths_60 (i := 1) rfl rfl ?_
      refine qv_bipush (v := (20 : Int32)) dX9_findWorths_61 rfl ?_
      by_cases c19 : (20 : Int32) ≤ x12
      · have hs := qv_pos c19 hs
        refine qv_icmp_ge (tgt := 189) dX9_findWorths_63 rfl (fun _ => ?_) (fun q => absurd c19 q)
        cases hs
        cases qv_nx_r eb15
        exact qv_dp (qv_le_n (qv_le_n (qv_le_n (qv_le_n qv_le_0)))) K11
      · have hs := qv_neg c19 hs
        refine qv_icmp_ge (tgt := 189) dX9_findWorths_63 rfl (fun q => absurd q c19) (fun _ => ?_)
        refine qv_iconst (v := (0 : Int32)) dX9_findWorths_66 rfl ?_
        refine qv_istore_n (lo2 := [some (.ref a0), some (.int x12), some (.int (0 : Int32)), none]) dX9_findWorths_67 (i := 2) rfl (by decide) rfl (Nat.le_of_ble_eq_true rfl) rfl ?_
        obtain ⟨h29, e21, hs⟩ := qv_bind hs
        have K20 : qv_J l g mX9_findWorths 152 [some (.ref a0), some (.int x12), none, none] [] h29 (none, hz) := by
          refine qv_iconst (v := (0 : Int32)) dX9_findWorths_152 rfl ?_
          refine qv_istore_n (lo2 := [some (.ref a0), some (.int x12), some (.int (0 : Int32)), none]) dX9_findWorths_153 (i := 2) rfl (by decide) rfl (Nat.le_of_ble_eq_true rfl) rfl ?_
          obtain ⟨h37, e29, hs⟩ := qv_bind hs
          have K28 : qv_J l g mX9_findWorths 183 [some (.ref a0), some (.int x12), none, none] [] h37 (none, hz) := by
            refine qv_iinc (v := x12 + (1 : Int32)) (lo2 := [some (.ref a0), some (.int (x12 + (1 : Int32))), none, none]) dX9_findWorths_183 rfl rfl (by decide) rfl rfl ?_
            refine qv_goto (tgt := 60) dX9_findWorths_186 rfl ?_
            cases hs
            exact qv_dp (qv_le_s (qv_le_s (qv_le_n (qv_le_n qv_le_0)))) (ih14 _ _ (qv_nx_l eb15))
          obtain ⟨n35, e29⟩ := qv_loop_of e29
          refine qv_dp (qv_le_s (qv_le_s (qv_le_s (qv_le_n qv_le_0)))) (?_ : qv_J l g mX9_findWorths 154 [some (.ref a0), some (.int x12), some (.int (0 : Int32)), none] [] h29 (none, hz))
          revert e29
          suffices lj34 : ∀ (x30 : Int32) (h31 : qv_H), qv_it _ n35 (x30, h31) = some h37 → qv_J l g mX9_findWorths 154 [some (.ref a0), some (.int x12), some (.int x30), none] [] h31 (none, hz) from lj34 (0 : Int32) h29
          induction n35 with
          | zero =>
            intro x30 h31 e29
            cases e29
          | succ n35 ih31 =>
            intro x30 h31 e29
            obtain ⟨_, hs, eb32⟩ := qv_it_s e29
            dsimp only at hs
            refine qv_iload_n dX9_findWorths_154 (i := 2) rfl rfl ?_
            refine qv_bipush (v := (81 : Int32)) dX9_findWorths_155 rfl ?_
            refine qv_aload_n dX9_findWorths_157 (i := 0) rfl rfl ?_
            obtain ⟨v32, e36, hs⟩ := qv_bind hs
            refine qv_getI dX9_findWorths_158 qF_X9_34 e36 ?_
            refine qv_imul dX9_findWorths_161 ?_
            by_cases c37 : ((81 : Int32) * v32) ≤ x30
            · have hs := qv_pos c37 hs
              refine qv_icmp_ge (tgt := 183) dX9_findWorths_162 rfl (fun _ => ?_) (fun q => absurd c37 q)
              cases hs
              cases qv_nx_r eb32
              exact qv_dp (qv_le_s (qv_le_s (qv_le_n (qv_le_n qv_le_0)))) K28
            · have hs := qv_neg c37 hs
              refine qv_icmp_ge (tgt := 183) dX9_findWorths_162 rfl (fun q => absurd q c37) (fun _ => ?_)
              refine qv_aload_n dX9_findWorths_165 (i := 0) rfl rfl ?_
              obtain ⟨v33, e38, hs⟩ := qv_bind hs
              refine qv_getR dX9_findWorths_166 qF_X9_77 e38 ?_
              refine qv_iload_n dX9_findWorths_169 (i := 2) rfl rfl ?_
              refine qv_aload_n dX9_findWorths_170 (i := 0) rfl rfl ?_
              obtain ⟨v34, e39, hs⟩ := qv_bind hs
              refine qv_getR dX9_findWorths_171 qF_X9_80 e39 ?_
              refine qv_iload_n dX9_findWorths_174 (i := 2) rfl rfl ?_
              obtain ⟨v35, e40, hs⟩ := qv_bind hs
              refine qv_iald dX9_findWorths_175 e40 ?_
              obtain ⟨h36, e41, hs⟩ := qv_bind hs
              refine qv_iast dX9_findWorths_176 e41 ?_
              refine qv_iinc (v := x30 + (1 : Int32)) (lo2 := [some (.ref a0), some (.int x12), some (.int (x30 + (1 : Int32))), none]) dX9_findWorths_177 rfl rfl (by decide) rfl rfl ?_
              refine qv_goto (tgt := 154) dX9_findWorths_180 rfl ?_
              cases hs
              exact qv_dp (qv_le_s (qv_le_s (qv_le_s (qv_le_n qv_le_0)))) (ih31 _ _ (qv_nx_l eb32))
        obtain ⟨n27, e21⟩ := qv_loop_of e21
        refine qv_dp (qv_le_s (qv_le_s (qv_le_s (qv_le_n qv_le_0)))) (?_ : qv_J l g mX9_findWorths 68 [some (.ref a0), some (.int x12), some (.int (0 : Int32)), none] [] h13 (none, hz))
        revert e21
        suffices lj26 : ∀ (x14 : Int32) (h15 : qv_H), qv_it _ n27 (x14, h15) = some h29 → qv_J l g mX9_findWorths 68 [some (.ref a0), some (.int x12), some (.int x14), none] [] h15 (none, hz) from lj26 (0 : Int32) h13
        induction n27 with
        | zero =>
          intro x14 h15 e21
          cases e21
        | succ n27 ih23 =>
          intro x14 h15 e21
          obtain ⟨_, hs, eb24⟩ := qv_it_s e21
          dsimp only at hs
          refine qv_iload_n dX9_findWorths_68 (i := 2) rfl rfl ?_
          refine qv_bipush (v := (81 : Int32)) dX9_findWorths_69 rfl ?_
          refine qv_aload_n dX9_findWorths_71 (i := 0) rfl rfl ?_
          obtain ⟨v16, e42, hs⟩ := qv_bind hs
          refine qv_getI dX9_findWorths_72 qF_X9_34 e42 ?_
          refine qv_imul dX9_findWorths_75 ?_
          by_cases c43 : ((81 : Int32) * v16) ≤ x14
          · have hs := qv_pos c43 hs
            refine qv_icmp_ge (tgt := 152) dX9_findWorths_76 rfl (fun _ => ?_) (fun q => absurd c43 q)
            cases hs
            cases qv_nx_r eb24
            exact qv_dp (qv_le_s (qv_le_s (qv_le_n (qv_le_n qv_le_0)))) K20
          · have hs := qv_neg c43 hs
            refine qv_icmp_ge (tgt := 152) dX9_findWorths_76 rfl (fun q => absurd q c43) (fun _ => ?_)
            refine qv_aload_n dX9_findWorths_79 (i := 0) rfl rfl ?_
            obtain ⟨v17, e44, hs⟩ := qv_bind hs
            refine qv_getR dX9_findWorths_80 qF_X9_77 e44 ?_
            refine qv_iload_n dX9_findWorths_83 (i := 2) rfl rfl ?_
            obtain ⟨v18, e45, hs⟩ := qv_bind hs
            refine qv_iald dX9_findWorths_84 e45 ?_
            obtain ⟨m21, hj47, hs⟩ := qv_bind hs
            have K46 : qv_J l g mX9_findWorths 105 [some (.ref a0), some (.int x12), some (.int x14), none] [.int m21] h15 (none, hz) := by
              refine qv_istore_n (lo2 := [some (.ref a0), some (.int x12), some (.int x14), some (.int m21)]) dX9_findWorths_105 (i := 3) rfl (by decide) rfl (Nat.le_of_ble_eq_true rfl) rfl ?_
              refine qv_aload_n dX9_findWorths_106 (i := 0) rfl rfl ?_
              obtain ⟨v22, e48, hs⟩ := qv_bind hs
              refine qv_getR dX9_findWorths_107 qF_X9_80 e48 ?_
              refine qv_iload_n dX9_findWorths_110 (i := 2) rfl rfl ?_
              refine qv_aload_n dX9_findWorths_111 (i := 0) rfl rfl ?_
              obtain ⟨v23, e49, hs⟩ := qv_bind hs
              refine qv_getR dX9_findWorths_112 qF_X9_77 e49 ?_
              refine qv_iload_n dX9_findWorths_115 (i := 2) rfl rfl ?_
              obtain ⟨v24, e50, hs⟩ := qv_bind hs
              refine qv_iald dX9_findWorths_116 e50 ?_
              obtain ⟨m27, hj52, hs⟩ := qv_bind hs
              have K51 : qv_J l g mX9_findWorths 145 [some (.ref a0), some (.int x12), some (.int x14), none] [.int m27, .int x14, .ref v22] h15 (none, hz) := by
                obtain ⟨h28, e53, hs⟩ := qv_bind hs
                refine qv_iast dX9_findWorths_145 e53 ?_
                refine qv_iinc (v := x14 + (1 : Int32)) (lo2 := [some (.ref a0), some (.int x12), some (.int (x14 + (1 : Int32))), none]) dX9_findWorths_146 rfl rfl (by decide) rfl rfl ?_
                refine qv_goto (tgt := 68) dX9_findWorths_149 rfl ?_
                cases hs
                exact qv_dp (qv_le_s (qv_le_s (qv_le_s (qv_le_n qv_le_0)))) (ih23 _ _ (qv_nx_l eb24))
              replace hs := hj52
              by_cases c54 : v24 = 0
              · have hs := qv_pos c54 hs
                refine qv_if_ne (tgt := 124) dX9_findWorths_117 rfl (fun q => absurd c54 q) (fun _ => ?_)
                refine qv_iconst (v := (0 : Int32)) dX9_findWorths_120 rfl ?_
                refine qv_goto (tgt := 145) dX9_findWorths_121 rfl ?_
                cases hs
                exact qv_dp (qv_le_s (qv_le_s (qv_le_s (qv_le_n qv_le_0)))) K51
              · have hs := qv_neg c54 hs
                refine qv_if_ne (tgt := 124) dX9_findWorths_117 rfl (fun _ => ?_) (fun q => absurd q c54)
                refine qv_iload_n dX9_findWorths_124 (i := 3) rfl rfl ?_
                by_cases c55 : 0 ≤ m21
                · have hs := qv_pos c55 hs
                  refine qv_if_ge (tgt := 134) dX9_findWorths_125 rfl (fun _ => ?_) (fun q => absurd c55 q)
                  refine qv_aload_n dX9_findWorths_134 (i := 0) rfl rfl ?_
                  refine qv_iload_n dX9_findWorths_135 (i := 3) rfl rfl ?_
                  refine qv_iload_n dX9_findWorths_136 (i := 2) rfl rfl ?_
                  refine qv_bipush (v := (81 : Int32)) dX9_findWorths_137 rfl ?_
                  refine qv_irem dX9_findWorths_139 (by decide) ?_
                  obtain ⟨u25, e56, hs⟩ := qv_bind hs
                  obtain ⟨v26, e57, hs⟩ := qv_bind hs
                  refine qv_cV (d2 := mX9_worstAt) (o := a0) (ci := 8) (r := some (.int v26)) (h2 := h15) (av := [.int m21, .int (x14 - x14 / (81 : Int32) * (81 : Int32))]) (st := [.int x14, .ref v22]) dX9_findWorths_140 qM_X9_272 qD_X9_worstAt e56 rfl rfl ⟨by decide, by decide⟩ rfl (Nat.le_of_ble_eq_true rfl) (Nat.le_of_ble_eq_true rfl) (sX9_worstAt e57) rfl ?_
                  refine qv_iconst (v := (1 : Int32)) dX9_findWorths_143 rfl ?_
                  refine qv_iadd dX9_findWorths_144 ?_
                  cases hs
                  exact qv_dp (qv_le_s (qv_le_s (qv_le_s (qv_le_n qv_le_0)))) K51
                · have hs := qv_neg c55 hs
                  refine qv_if_ge (tgt := 134) dX9_findWorths_125 rfl (fun q => absurd q c55) (fun _ => ?_)
                  refine qv_sipush (v := (1000 : Int32)) dX9_findWorths_128 rfl ?_
                  refine qv_goto (tgt := 145) dX9_findWorths_131 rfl ?_
                  cases hs
                  exact qv_dp (qv_le_s (qv_le_s (qv_le_s (qv_le_n qv_le_0)))) K51
            replace hs := hj47
            by_cases c58 : v18 = 0
            · have hs := qv_pos c58 hs
              refine qv_if_ne (tgt := 93) dX9_findWorths_85 rfl (fun q => absurd c58 q) (fun _ => ?_)
              refine qv_bipush (v := (-9 : Int32)) dX9_findWorths_88 rfl ?_
              refine qv_goto (tgt := 105) dX9_findWorths_90 rfl ?_
              cases hs
              exact qv_dp (qv_le_s (qv_le_s (qv_le_s (qv_le_n qv_le_0)))) K46
            · have hs := qv_neg c58 hs
              refine qv_if_ne (tgt := 93) dX9_findWorths_85 rfl (fun _ => ?_) (fun q => absurd q c58)
              refine qv_aload_n dX9_findWorths_93 (i := 0) rfl rfl ?_
              refine qv_iload_n dX9_findWorths_94 (i := 2) rfl rfl ?_
              refine qv_bipush (v := (81 : Int32)) dX9_findWorths_95 rfl ?_
              refine qv_idiv dX9_findWorths_97 (by decide) ?_
              refine qv_iload_n dX9_findWorths_98 (i := 2) rfl rfl ?_
              refine qv_bipush (v := (81 : Int32)) dX9_findWorths_99 rfl ?_
              refine qv_irem dX9_findWorths_101 (by decide) ?_
              obtain ⟨u19, e59, hs⟩ := qv_bind hs
              obtain ⟨v20, e60, hs⟩ := qv_bind hs
              refine qv_cV (d2 := mX9_bestNext) (o := a0) (ci := 8) (r := some (.int v20)) (h2 := h15) (av := [.int (x14 / (81 : Int32)), .int (x14 - x14 / (81 : Int32) * (81 : Int32))]) (st := []) dX9_findWorths_102 qM_X9_281 qD_X9_bestNext e59 rfl rfl ⟨by decide, by decide⟩ rfl (Nat.le_of_ble_eq_true rfl) (Nat.le_of_ble_eq_true rfl) (sX9_bestNext e60) rfl ?_
              cases hs
              exact qv_dp (qv_le_s (qv_le_s (qv_le_s (qv_le_n qv_le_0)))) K46
  obtain ⟨n10, e4⟩ := qv_loop_of e4
  refine qv_dp (qv_le_s (qv_le_s (qv_le_n (qv_le_n qv_le_0)))) (?_ : qv_J l g mX9_findWorths 6 [some (.ref a0), some (.int (0 : Int32)), none, none] [] h2 (none, hz))
  revert e4
  suffices lj9 : ∀ (x3 : Int32) (h4 : qv_H), qv_it _ n10 (x3, h4) = some h11 → qv_J l g mX9_findWorths 6 [some (.ref a0), some (.int x3), none, none] [] h4 (none, hz) from lj9 (0 : Int32) h2
  induction n10 with
  | zero =>
    intro x3 h4 e4
    cases e4
  | succ n10 ih6 =>
    intro x3 h4 e4
    obtain ⟨_, hs, eb7⟩ := qv_it_s e4
    dsimp only at hs
    refine qv_iload_n dX9_findWorths_6 (i := 1) rfl rfl ?_
    refine qv_sipush (v := (486 : Int32)) dX9_findWorths_7 rfl ?_
    by_cases c61 : (486 : Int32) ≤ x3
    · have hs := qv_pos c61 hs
      refine qv_icmp_ge (tgt := 58) dX9_findWorths_10 rfl (fun _ => ?_) (fun q => absurd c61 q)
      cases hs
      cases qv_nx_r eb7
      exact qv_dp (qv_le_s (qv_le_n (qv_le_n (qv_le_n qv_le_0)))) K3
    · have hs := qv_neg c61 hs
      refine qv_icmp_ge (tgt := 58) dX9_findWorths_10 rfl (fun q => absurd q c61) (fun _ => ?_)
      refine qv_aload_n dX9_findWorths_13 (i := 0) rfl rfl ?_
      obtain ⟨v5, e62, hs⟩ := qv_bind hs
      refine qv_getR dX9_findWorths_14 qF_X9_77 e62 ?_
      refine qv_iload_n dX9_findWorths_17 (i := 1) rfl rfl ?_
      refine qv_iload_n dX9_findWorths_18 (i := 1) rfl rfl ?_
      refine qv_bipush (v := (81 : Int32)) dX9_findWorths_19 rfl ?_
      refine qv_idiv dX9_findWorths_21 (by decide) ?_
      refine qv_aload_n dX9_findWorths_22 (i := 0) rfl rfl ?_
      obtain ⟨v6, e63, hs⟩ := qv_bind hs
      refine qv_getI dX9_findWorths_23 qF_X9_34 e63 ?_
      obtain ⟨m9, hj65, hs⟩ := qv_bind hs
      have K64 : qv_J l g mX9_findWorths 51 [some (.ref a0), some (.int x3), none, none] [.int m9, .int x3, .ref v5] h4 (none, hz) := by
        obtain ⟨h10, e66, hs⟩ := qv_bind hs
        refine qv_iast dX9_findWorths_51 e66 ?_
        refine qv_iinc (v := x3 + (1 : Int32)) (lo2 := [some (.ref a0), some (.int (x3 + (1 : Int32))), none, none]) dX9_findWorths_52 rfl rfl (by decide) rfl rfl ?_
        refine qv_goto (tgt := 6) dX9_findWorths_55 rfl ?_
        cases hs
        exact qv_dp (qv_le_s (qv_le_s (qv_le_n (qv_le_n qv_le_0)))) (ih6 _ _ (qv_nx_l eb7))
      replace hs := hj65
      by_cases c67 : v6 ≤ (x3 / (81 : Int32))
      · have hs := qv_pos c67 hs
        refine qv_icmp_ge (tgt := 48) dX9_findWorths_26 rfl (fun _ => ?_) (fun q => absurd c67 q)
        refine qv_sipush (v := (1000 : Int32)) dX9_findWorths_48 rfl ?_
        cases hs
        exact qv_dp (qv_le_s (qv_le_s (qv_le_n (qv_le_n qv_le_0)))) K64
      · have hs := qv_neg c67 hs
        refine qv_icmp_ge (tgt := 48) dX9_findWorths_26 rfl (fun q => absurd q c67) (fun _ => ?_)
        refine qv_aload_n dX9_findWorths_29 (i := 0) rfl rfl ?_
        refine qv_iload_n dX9_findWorths_30 (i := 1) rfl rfl ?_
        refine qv_bipush (v := (81 : Int32)) dX9_findWorths_31 rfl ?_
        refine qv_idiv dX9_findWorths_33 (by decide) ?_
        refine qv_iload_n dX9_findWorths_34 (i := 1) rfl rfl ?_
        refine qv_bipush (v := (81 : Int32)) dX9_findWorths_35 rfl ?_
        refine qv_irem dX9_findWorths_37 (by decide) ?_
        obtain ⟨u7, e68, hs⟩ := qv_bind hs
        obtain ⟨v8, e69, hs⟩ := qv_bind hs
        refine qv_cV (d2 := mX9_isDone) (o := a0) (ci := 8) (r := some (.int v8)) (h2 := h4) (av := [.int (x3 / (81 : Int32)), .int (x3 - x3 / (81 : Int32) * (81 : Int32))]) (st := [.int x3, .ref v5]) dX9_findWorths_38 qM_X9_278 qD_X9_isDone e68 rfl rfl ⟨by decide, by decide⟩ rfl (Nat.le_of_ble_eq_true rfl) (Nat.le_of_ble_eq_true rfl) (sX9_isDone e69) rfl ?_
        by_cases c70 : v8 = 0
        · have hs := qv_pos c70 hs
          refine qv_if_eq (tgt := 48) dX9_findWorths_41 rfl (fun _ => ?_) (fun q => absurd c70 q)
          refine qv_sipush (v := (1000 : Int32)) dX9_findWorths_48 rfl ?_
          cases hs
          exact qv_dp (qv_le_s (qv_le_s (qv_le_n (qv_le_n qv_le_0)))) K64
        · have hs := qv_neg c70 hs
          refine qv_if_eq (tgt := 48) dX9_findWorths_41 rfl (fun q => absurd q c70) (fun _ => ?_)
          refine qv_iconst (v := (0 : Int32)) dX9_findWorths_44 rfl ?_
          refine qv_goto (tgt := 51) dX9_findWorths_45 rfl ?_
          cases hs
          exact qv_dp (qv_le_s (qv_le_s (qv_le_n (qv_le_n qv_le_0)))) K64
theorem qD_X9_findWorths : qv_DV mX9_findWorths 0 := ⟨(qv_i17 (List.mem_of_getElem? (i := 10) (by decide +kernel))), (qv_i0 (List.mem_of_getElem? (i := 55) (by decide +kernel))), (qv_i1 (List.mem_of_getElem? (i := 14) (by decide +kernel))), (qv_i17 (List.mem_of_getElem? (i := 11) (by decide +kernel))), by decide +kernel, by decide +kernel⟩
/-- TrueOneWayModel.go(II)I -/
noncomputable def fX9_go (a0 : Nat) (a1 : Int32) (a2 : Int32) (h : qv_H) : Option (Int32 × qv_H) :=
  (qv_ob h 8 a0).bind fun _ =>
  (fX9_isPlace a0 a1 h).bind fun v2 =>
  if v2 = 0 then
    (qv_ob h 8 a0).bind fun _ =>
    (fX9_no a0 (-1 : Int32) h).bind fun (v27, h28) =>
    some (v27, h28)
  else
    (fX9_isIn a2 (0 : Int32) (1 : Int32)).bind fun v3 =>
    if v3 = 0 then
      (qv_ob h 8 a0).bind fun _ =>
      (fX9_no a0 (-2 : Int32) h).bind fun (v24, h25) =>
      some (v24, h25)
    else
      (qv_gI h 8 a0 14).bind fun v4 =>
      if 0 ≤ v4 then
        (qv_ob h 8 a0).bind fun _ =>
        (fX9_findWorths a0 h).bind fun h6 =>
        (qv_ob h6 8 a0).bind fun _ =>
        (fX9_worstAt a0 a1 (0 : Int32) h6).bind fun v8 =>
        if a2 = 0 then
          Option.bind (α := Int32) (
              if v8 < (1000 : Int32) then
                some v8
              else
                some (-9 : Int32)
            ) fun m19 =>
          some (m19, h6)
        else
          if (1000 : Int32) ≤ v8 then
            some ((-9 : Int32), h6)
          else
            (qv_gI h6 8 a0 33).bind fun v9 =>
            if v9 = 0 then
              some ((-9 : Int32), h6)
            else
              (qv_gR h6 8 a0 32).bind fun v10 =>
              (qv_aI h6 false v10 (0 : Int32)).bind fun v11 =>
              (qv_ob h6 8 a0).bind fun _ =>
              (fX9_knownAt a0 (0 : Int32) a1 (v11 &&& (15 : Int32)) h6).bind fun v13 =>
              (qv_gR h6 8 a0 35).bind fun v14 =>
              (qv_aI h6 false v14 (((81 : Int32) * a1) + v13)).bind fun v15 =>
              Option.bind (α := Int32) (
                  if v15 = 0 then
                    some (-9 : Int32)
                  else
                    (qv_ob h6 8 a0).bind fun _ =>
                    (fX9_bestNext a0 a1 v13 h6).bind fun v17 =>
                    some v17
                ) fun m18 =>
              some (m18, h6)
      else
        (qv_ob h 8 a0).bind fun _ =>
        (fX9_no a0 (-3 : Int32) h).bind fun (v21, h22) =>
        some (v21, h22)
abbrev mX9_go : qv_M := (yX9_go, cX9_go, 5, (Option.some Jvm.ClassFile.FieldType.int), 6, 135)
set_option maxRecDepth 100000 in
set_option maxHeartbeats 4000000 in
theorem sX9_go {l : Launch} {g : qv_G} {a0 : Nat} {a1 : Int32} {a2 : Int32} {h : qv_H} {r : Int32} {hz : qv_H} (hs : fX9_go a0 a1 a2 h = some (r, hz)) : qv_J l g mX9_go 0 [some (.ref a0), some (.int a1), some (.int a2), none, none] [] h (some (.int r), hz) := by
  unfold fX9_go at hs
  refine qv_aload_n dX9_go_0 (i := 0) rfl rfl ?_
  refine qv_iload_n dX9_go_1 (i := 1) rfl rfl ?_
  obtain ⟨u1, e1, hs⟩ := qv_bind hs
  obtain ⟨v2, e2, hs⟩ := qv_bind hs
  refine qv_cV (d2 := mX9_isPlace) (o := a0) (ci := 8) (r := some (.int v2)) (h2 := h) (av := [.int a1]) (st := []) dX9_go_2 qM_X9_155 qD_X9_isPlace e1 rfl rfl ⟨by decide, by decide⟩ rfl (Nat.le_of_ble_eq_true rfl) (Nat.le_of_ble_eq_true rfl) (sX9_isPlace e2) rfl ?_
  by_cases c3 : v2 = 0
  · have hs := qv_pos c3 hs
    refine qv_if_ne (tgt := 14) dX9_go_5 rfl (fun q => absurd c3 q) (fun _ => ?_)
    refine qv_aload_n dX9_go_8 (i := 0) rfl rfl ?_
    refine qv_iconst (v := (-1 : Int32)) dX9_go_9 rfl ?_
    obtain ⟨u26, e4, hs⟩ := qv_bind hs
    obtain ⟨⟨v27, h28⟩, e5, hs⟩ := qv_bind hs
    dsimp only at hs
    refine qv_cV (d2 := mX9_no) (o := a0) (ci := 8) (r := some (.int v27)) (h2 := h28) (av := [.int (-1 : Int32)]) (st := []) dX9_go_10 qM_X9_102 qD_X9_no e4 rfl rfl ⟨by decide, by decide⟩ rfl (Nat.le_of_ble_eq_true rfl) (Nat.le_of_ble_eq_true rfl) (sX9_no e5) rfl ?_
    obtain ⟨rfl, rfl⟩ := qv_pr hs
    exact qv_iret dX9_go_13 rfl
  · have hs := qv_neg c3 hs
    refine qv_if_ne (tgt := 14) dX9_go_5 rfl (fun _ => ?_) (fun q => absurd q c3)
    refine qv_iload_n dX9_go_14 (i := 2) rfl rfl ?_
    refine qv_iconst (v := (0 : Int32)) dX9_go_15 rfl ?_
    refine qv_iconst (v := (1 : Int32)) dX9_go_16 rfl ?_
    obtain ⟨v3, e6, hs⟩ := qv_bind hs
    refine qv_cS (d2 := mX9_isIn) (r := some (.int v3)) (h2 := h) (av := [.int a2, .int (0 : Int32), .int (1 : Int32)]) (st := []) dX9_go_17 qM_X9_113 qD_X9_isIn rfl ⟨by decide, by decide⟩ rfl (Nat.le_of_ble_eq_true rfl) (Nat.le_of_ble_eq_true rfl) (sX9_isIn e6) rfl ?_
    by_cases c7 : v3 = 0
    · have hs := qv_pos c7 hs
      refine qv_if_ne (tgt := 30) dX9_go_20 rfl (fun q => absurd c7 q) (fun _ => ?_)
      refine qv_aload_n dX9_go_23 (i := 0) rfl rfl ?_
      refine qv_bipush (v := (-2 : Int32)) dX9_go_24 rfl ?_
      obtain ⟨u23, e8, hs⟩ := qv_bind hs
      obtain ⟨⟨v24, h25⟩, e9, hs⟩ := qv_bind hs
      dsimp only at hs
      refine qv_cV (d2 := mX9_no) (o := a0) (ci := 8) (r := some (.int v24)) (h2 := h25) (av := [.int (-2 : Int32)]) (st := []) dX9_go_26 qM_X9_102 qD_X9_no e8 rfl rfl ⟨by decide, by decide⟩ rfl (Nat.le_of_ble_eq_true rfl) (Nat.le_of_ble_eq_true rfl) (sX9_no e9) rfl ?_
      obtain ⟨rfl, rfl⟩ := qv_pr hs
      exact qv_iret dX9_go_29 rfl
    · have hs := qv_neg c7 hs
      refine qv_if_ne (tgt := 30) dX9_go_20 rfl (fun _ => ?_) (fun q => absurd q c7)
      refine qv_aload_n dX9_go_30 (i := 0) rfl rfl ?_
      obtain ⟨v4, e10, hs⟩ := qv_bind hs
      refine qv_getI dX9_go_31 qF_X9_38 e10 ?_
      by_cases c11 : 0 ≤ v4
      · have hs := qv_pos c11 hs
        refine qv_if_ge (tgt := 44) dX9_go_34 rfl (fun _ => ?_) (fun q => absurd c11 q)
        refine qv_aload_n dX9_go_44 (i := 0) rfl rfl ?_
        obtain ⟨u5, e12, hs⟩ := qv_bind hs
        obtain ⟨h6, e13, hs⟩ := qv_bind hs
        refine qv_cV (d2 := mX9_findWorths) (o := a0) (ci := 8) (r := none) (h2 := h6) (av := []) (st := []) dX9_go_45 qM_X9_284 qD_X9_findWorths e12 rfl rfl ⟨by decide, by decide⟩ rfl (Nat.le_of_ble_eq_true rfl) (Nat.le_of_ble_eq_true rfl) (sX9_findWorths e13) rfl ?_
        refine qv_aload_n dX9_go_48 (i := 0) rfl rfl ?_
        refine qv_iload_n dX9_go_49 (i := 1) rfl rfl ?_
        refine qv_iconst (v := (0 : Int32)) dX9_go_50 rfl ?_
        obtain ⟨u7, e14, hs⟩ := qv_bind hs
        obtain ⟨v8, e15, hs⟩ := qv_bind hs
        refine qv_cV (d2 := mX9_worstAt) (o := a0) (ci := 8) (r := some (.int v8)) (h2 := h6) (av := [.int a1, .int (0 : Int32)]) (st := []) dX9_go_51 qM_X9_272 qD_X9_worstAt e14 rfl rfl ⟨by decide, by decide⟩ rfl (Nat.le_of_ble_eq_true rfl) (Nat.le_of_ble_eq_true rfl) (sX9_worstAt e15) rfl ?_
        refine qv_istore_n (lo2 := [some (.ref a0), some (.int a1), some (.int a2), some (.int v8), none]) dX9_go_54 (i := 3) rfl (by decide) rfl (Nat.le_of_ble_eq_true rfl) rfl ?_
        refine qv_iload_n dX9_go_55 (i := 2) rfl rfl ?_
        by_cases c16 : a2 = 0
        · have hs := qv_pos c16 hs
          refine qv_if_ne (tgt := 73) dX9_go_56 rfl (fun q => absurd c16 q) (fun _ => ?_)
          refine qv_iload_n dX9_go_59 (i := 3) rfl rfl ?_
          refine qv_sipush (v := (1000 : Int32)) dX9_go_60 rfl ?_
          obtain ⟨m19, hj18, hs⟩ := qv_bind hs
          have K17 : qv_J l g mX9_go 72 [none, none, none, none, none] [.int m19] h6 (some (.int r), hz) := by
            obtain ⟨rfl, rfl⟩ := qv_pr hs
            exact qv_iret dX9_go_72 rfl
          replace hs := hj18
          by_cases c19 : v8 < (1000 : Int32)
          · have hs := qv_pos c19 hs
            refine qv_icmp_lt (tgt := 71) dX9_go_63 rfl (fun _ => ?_) (fun q => absurd c19 q)
            refine qv_iload_n dX9_go_71 (i := 3) rfl rfl ?_
            cases hs
            exact qv_dp (qv_le_n (qv_le_n (qv_le_n (qv_le_n (qv_le_n qv_le_0))))) K17
          · have hs := qv_neg c19 hs
            refine qv_icmp_lt (tgt := 71) dX9_go_63 rfl (fun q => absurd q c19) (fun _ => ?_)
            refine qv_bipush (v := (-9 : Int32)) dX9_go_66 rfl ?_
            refine qv_goto (tgt := 72) dX9_go_68 rfl ?_
            cases hs
            exact qv_dp (qv_le_n (qv_le_n (qv_le_n (qv_le_n (qv_le_n qv_le_0))))) K17
        · have hs := qv_neg c16 hs
          refine qv_if_ne (tgt := 73) dX9_go_56 rfl (fun _ => ?_) (fun q => absurd q c16)
          refine qv_iload_n dX9_go_73 (i := 3) rfl rfl ?_
          refine qv_sipush (v := (1000 : Int32)) dX9_go_74 rfl ?_
          by_cases c20 : (1000 : Int32) ≤ v8
          · have hs := qv_pos c20 hs
            refine qv_icmp_ge (tgt := 87) dX9_go_77 rfl (fun _ => ?_) (fun q => absurd c20 q)
            refine qv_bipush (v := (-9 : Int32)) dX9_go_87 rfl ?_
            obtain ⟨rfl, rfl⟩ := qv_pr hs
            exact qv_iret dX9_go_89 rfl
          · have hs := qv_neg c20 hs
            refine qv_icmp_ge (tgt := 87) dX9_go_77 rfl (fun q => absurd q c20) (fun _ => ?_)
            refine qv_aload_n dX9_go_80 (i := 0) rfl rfl ?_
            obtain ⟨v9, e21, hs⟩ := qv_bind hs
            refine qv_getI dX9_go_81 qF_X9_223 e21 ?_
            by_cases c22 : v9 = 0
            · have hs := qv_pos c22 hs
              refine qv_if_ne (tgt := 90) dX9_go_84 rfl (fun q => absurd c22 q) (fun _ => ?_)
              refine qv_bipush (v := (-9 : Int32)) dX9_go_87 rfl ?_
              obtain ⟨rfl, rfl⟩ := qv_pr hs
              exact qv_iret dX9_go_89 rfl
            · have hs := qv_neg c22 hs
              refine qv_if_ne (tgt := 90) dX9_go_84 rfl (fun _ => ?_) (fun q => absurd q c22)
              refine qv_aload_n dX9_go_90 (i := 0) rfl rfl ?_
              refine qv_iconst (v := (0 : Int32)) dX9_go_91 rfl ?_
              refine qv_iload_n dX9_go_92 (i := 1) rfl rfl ?_
              refine qv_aload_n dX9_go_93 (i := 0) rfl rfl ?_
              obtain ⟨v10, e23, hs⟩ := qv_bind hs
              refine qv_getR dX9_go_94 qF_X9_71 e23 ?_
              refine qv_iconst (v := (0 : Int32)) dX9_go_97 rfl ?_
              obtain ⟨v11, e24, hs⟩ := qv_bind hs
              refine qv_iald dX9_go_98 e24 ?_
              refine qv_bipush (v := (15 : Int32)) dX9_go_99 rfl ?_
              refine qv_iand dX9_go_101 ?_
              obtain ⟨u12, e25, hs⟩ := qv_bind hs
              obtain ⟨v13, e26, hs⟩ := qv_bind hs
              refine qv_cV (d2 := mX9_knownAt) (o := a0) (ci := 8) (r := some (.int v13)) (h2 := h6) (av := [.int (0 : Int32), .int a1, .int (v11 &&& (15 : Int32))]) (st := []) dX9_go_102 qM_X9_266 qD_X9_knownAt e25 rfl rfl ⟨by decide, by decide⟩ rfl (Nat.le_of_ble_eq_true rfl) (Nat.le_of_ble_eq_true rfl) (sX9_knownAt e26) rfl ?_
              refine qv_istore (lo2 := [some (.ref a0), some (.int a1), some (.int a2), some (.int v8), some (.int v13)]) dX9_go_105 (by decide) rfl (Nat.le_of_ble_eq_true rfl) rfl ?_
              refine qv_aload_n dX9_go_107 (i := 0) rfl rfl ?_
              obtain ⟨v14, e27, hs⟩ := qv_bind hs
              refine qv_getR dX9_go_108 qF_X9_77 e27 ?_
              refine qv_bipush (v := (81 : Int32)) dX9_go_111 rfl ?_
              refine qv_iload_n dX9_go_113 (i := 1) rfl rfl ?_
              refine qv_imul dX9_go_114 ?_
              refine qv_iload dX9_go_115 rfl ?_
              refine qv_iadd dX9_go_117 ?_
              obtain ⟨v15, e28, hs⟩ := qv_bind hs
              refine qv_iald dX9_go_118 e28 ?_
              obtain ⟨m18, hj30, hs⟩ := qv_bind hs
              have K29 : qv_J l g mX9_go 134 [none, none, none, none, none] [.int m18] h6 (some (.int r), hz) := by
                obtain ⟨rfl, rfl⟩ := qv_pr hs
                exact qv_iret dX9_go_134 rfl
              replace hs := hj30
              by_cases c31 : v15 = 0
              · have hs := qv_pos c31 hs
                refine qv_if_ne (tgt := 127) dX9_go_119 rfl (fun q => absurd c31 q) (fun _ => ?_)
                refine qv_bipush (v := (-9 : Int32)) dX9_go_122 rfl ?_
                refine qv_goto (tgt := 134) dX9_go_124 rfl ?_
                cases hs
                exact qv_dp (qv_le_n (qv_le_n (qv_le_n (qv_le_n (qv_le_n qv_le_0))))) K29
              · have hs := qv_neg c31 hs
                refine qv_if_ne (tgt := 127) dX9_go_119 rfl (fun _ => ?_) (fun q => absurd q c31)
                refine qv_aload_n dX9_go_127 (i := 0) rfl rfl ?_
                refine qv_iload_n dX9_go_128 (i := 1) rfl rfl ?_
                refine qv_iload dX9_go_129 rfl ?_
                obtain ⟨u16, e32, hs⟩ := qv_bind hs
                obtain ⟨v17, e33, hs⟩ := qv_bind hs
                refine qv_cV (d2 := mX9_bestNext) (o := a0) (ci := 8) (r := some (.int v17)) (h2 := h6) (av := [.int a1, .int v13]) (st := []) dX9_go_131 qM_X9_281 qD_X9_bestNext e32 rfl rfl ⟨by decide, by decide⟩ rfl (Nat.le_of_ble_eq_true rfl) (Nat.le_of_ble_eq_true rfl) (sX9_bestNext e33) rfl ?_
                cases hs
                exact qv_dp (qv_le_n (qv_le_n (qv_le_n (qv_le_n (qv_le_n qv_le_0))))) K29
      · have hs := qv_neg c11 hs
        refine qv_if_ge (tgt := 44) dX9_go_34 rfl (fun q => absurd q c11) (fun _ => ?_)
        refine qv_aload_n dX9_go_37 (i := 0) rfl rfl ?_
        refine qv_bipush (v := (-3 : Int32)) dX9_go_38 rfl ?_
        obtain ⟨u20, e34, hs⟩ := qv_bind hs
        obtain ⟨⟨v21, h22⟩, e35, hs⟩ := qv_bind hs
        dsimp only at hs
        refine qv_cV (d2 := mX9_no) (o := a0) (ci := 8) (r := some (.int v21)) (h2 := h22) (av := [.int (-3 : Int32)]) (st := []) dX9_go_40 qM_X9_102 qD_X9_no e34 rfl rfl ⟨by decide, by decide⟩ rfl (Nat.le_of_ble_eq_true rfl) (Nat.le_of_ble_eq_true rfl) (sX9_no e35) rfl ?_
        obtain ⟨rfl, rfl⟩ := qv_pr hs
        exact qv_iret dX9_go_43 rfl
theorem qD_X9_go : qv_DV mX9_go 2 := ⟨(qv_i17 (List.mem_of_getElem? (i := 6) (by decide +kernel))), (qv_i17 (List.mem_of_getElem? (i := 7) (by decide +kernel))), (qv_i1 (List.mem_of_getElem? (i := 14) (by decide +kernel))), (qv_i17 (List.mem_of_getElem? (i := 8) (by decide +kernel))), by decide +kernel, by decide +kernel⟩
/-- TrueOneWayModel.row(I)I -/
noncomputable def fX9_row (a0 : Nat) (a1 : Int32) (h : qv_H) : Option (Int32 × qv_H) :=
  (qv_ob h 8 a0).bind fun _ =>
  (fX9_isSign a0 a1 h).bind fun v2 =>
  if v2 = 0 then
    (qv_ob h 8 a0).bind fun _ =>
    (fX9_no a0 (-1 : Int32) h).bind fun (v14, h15) =>
    some (v14, h15)
  else
    (qv_gI h 8 a0 39).bind fun v3 =>
    if v3 = (10 : Int32) then
      (qv_ob h 8 a0).bind fun _ =>
      (fX9_no a0 (-6 : Int32) h).bind fun (v11, h12) =>
      some (v11, h12)
    else
      (qv_gR h 8 a0 37).bind fun v4 =>
      (qv_gI h 8 a0 39).bind fun v5 =>
      (qv_sI h false v4 v5 a1).bind fun h6 =>
      (qv_gI h6 8 a0 39).bind fun v7 =>
      (qv_pI h6 8 a0 39 (v7 + (1 : Int32))).bind fun h8 =>
      (qv_gI h8 8 a0 39).bind fun v9 =>
      some (v9, h8)
abbrev mX9_row : qv_M := (yX9_row, cX9_row, 2, (Option.some Jvm.ClassFile.FieldType.int), 1, 21)
set_option maxRecDepth 100000 in
set_option maxHeartbeats 4000000 in
theorem sX9_row {l : Launch} {g : qv_G} {a0 : Nat} {a1 : Int32} {h : qv_H} {r : Int32} {hz : qv_H} (hs : fX9_row a0 a1 h = some (r, hz)) : qv_J l g mX9_row 0 [some (.ref a0), some (.int a1)] [] h (some (.int r), hz) := by
  unfold fX9_row at hs
  refine qv_aload_n dX9_row_0 (i := 0) rfl rfl ?_
  refine qv_iload_n dX9_row_1 (i := 1) rfl rfl ?_
  obtain ⟨u1, e1, hs⟩ := qv_bind hs
  obtain ⟨v2, e2, hs⟩ := qv_bind hs
  refine qv_cV (d2 := mX9_isSign) (o := a0) (ci := 8) (r := some (.int v2)) (h2 := h) (av := [.int a1]) (st := []) dX9_row_2 qM_X9_226 qD_X9_isSign e1 rfl rfl ⟨by decide, by decide⟩ rfl (Nat.le_of_ble_eq_true rfl) (Nat.le_of_ble_eq_true rfl) (sX9_isSign e2) rfl ?_
  by_cases c3 : v2 = 0
  · have hs := qv_pos c3 hs
    refine qv_if_ne (tgt := 14) dX9_row_5 rfl (fun q => absurd c3 q) (fun _ => ?_)
    refine qv_aload_n dX9_row_8 (i := 0) rfl rfl ?_
    refine qv_iconst (v := (-1 : Int32)) dX9_row_9 rfl ?_
    obtain ⟨u13, e4, hs⟩ := qv_bind hs
    obtain ⟨⟨v14, h15⟩, e5, hs⟩ := qv_bind hs
    dsimp only at hs
    refine qv_cV (d2 := mX9_no) (o := a0) (ci := 8) (r := some (.int v14)) (h2 := h15) (av := [.int (-1 : Int32)]) (st := []) dX9_row_10 qM_X9_102 qD_X9_no e4 rfl rfl ⟨by decide, by decide⟩ rfl (Nat.le_of_ble_eq_true rfl) (Nat.le_of_ble_eq_true rfl) (sX9_no e5) rfl ?_
    obtain ⟨rfl, rfl⟩ := qv_pr hs
    exact qv_iret dX9_row_13 rfl
  · have hs := qv_neg c3 hs
    refine qv_if_ne (tgt := 14) dX9_row_5 rfl (fun _ => ?_) (fun q => absurd q c3)
    refine qv_aload_n dX9_row_14 (i := 0) rfl rfl ?_
    obtain ⟨v3, e6, hs⟩ := qv_bind hs
    refine qv_getI dX9_row_15 qF_X9_192 e6 ?_
    refine qv_bipush (v := (10 : Int32)) dX9_row_18 rfl ?_
    by_cases c7 : v3 = (10 : Int32)
    · have hs := qv_pos c7 hs
      refine qv_icmp_ne (tgt := 30) dX9_row_20 rfl (fun q => absurd c7 q) (fun _ => ?_)
      refine qv_aload_n dX9_row_23 (i := 0) rfl rfl ?_
      refine qv_bipush (v := (-6 : Int32)) dX9_row_24 rfl ?_
      obtain ⟨u10, e8, hs⟩ := qv_bind hs
      obtain ⟨⟨v11, h12⟩, e9, hs⟩ := qv_bind hs
      dsimp only at hs
      refine qv_cV (d2 := mX9_no) (o := a0) (ci := 8) (r := some (.int v11)) (h2 := h12) (av := [.int (-6 : Int32)]) (st := []) dX9_row_26 qM_X9_102 qD_X9_no e8 rfl rfl ⟨by decide, by decide⟩ rfl (Nat.le_of_ble_eq_true rfl) (Nat.le_of_ble_eq_true rfl) (sX9_no e9) rfl ?_
      obtain ⟨rfl, rfl⟩ := qv_pr hs
      exact qv_iret dX9_row_29 rfl
    · have hs := qv_neg c7 hs
      refine qv_icmp_ne (tgt := 30) dX9_row_20 rfl (fun _ => ?_) (fun q => absurd q c7)
      refine qv_aload_n dX9_row_30 (i := 0) rfl rfl ?_
      obtain ⟨v4, e10, hs⟩ := qv_bind hs
      refine qv_getR dX9_row_31 qF_X9_83 e10 ?_
      refine qv_aload_n dX9_row_34 (i := 0) rfl rfl ?_
      obtain ⟨v5, e11, hs⟩ := qv_bind hs
      refine qv_getI dX9_row_35 qF_X9_192 e11 ?_
      refine qv_iload_n dX9_row_38 (i := 1) rfl rfl ?_
      obtain ⟨h6, e12, hs⟩ := qv_bind hs
      refine qv_iast dX9_row_39 e12 ?_
      refine qv_aload_n dX9_row_40 (i := 0) rfl rfl ?_
      refine qv_dup dX9_row_41 rfl ?_
      obtain ⟨v7, e13, hs⟩ := qv_bind hs
      refine qv_getI dX9_row_42 qF_X9_192 e13 ?_
      refine qv_iconst (v := (1 : Int32)) dX9_row_45 rfl ?_
      refine qv_iadd dX9_row_46 ?_
      obtain ⟨h8, e14, hs⟩ := qv_bind hs
      refine qv_putI dX9_row_47 qF_X9_192 e14 ?_
      refine qv_aload_n dX9_row_50 (i := 0) rfl rfl ?_
      obtain ⟨v9, e15, hs⟩ := qv_bind hs
      refine qv_getI dX9_row_51 qF_X9_192 e15 ?_
      obtain ⟨rfl, rfl⟩ := qv_pr hs
      exact qv_iret dX9_row_54 rfl
theorem qD_X9_row : qv_DV mX9_row 1 := ⟨(qv_i17 (List.mem_of_getElem? (i := 37) (by decide +kernel))), (qv_i17 (List.mem_of_getElem? (i := 38) (by decide +kernel))), (qv_i1 (List.mem_of_getElem? (i := 14) (by decide +kernel))), (qv_i17 (List.mem_of_getElem? (i := 39) (by decide +kernel))), by decide +kernel, by decide +kernel⟩
/-- TrueOneWayModel.signsOn(I)I -/
noncomputable def fX9_signsOn (a0 : Nat) (a1 : Int32) (h : qv_H) : Option (Int32) :=
  Option.bind (qv_loop (σ := Int32 × Int32) (ρ := Int32) (fun (x1, x2) =>
      (qv_gI h 8 a0 11).bind fun v3 =>
      if v3 ≤ x2 then
        some (.inr x1)
      else
        (qv_gR h 8 a0 4).bind fun v4 =>
        (qv_aI h false v4 x2).bind fun v5 =>
        Option.bind (α := Int32) (
            if v5 = a1 then
              some (1 : Int32)
            else
              some (0 : Int32)
          ) fun m6 =>
        some (.inl (x1 + m6, x2 + (1 : Int32)))
    ) ((0 : Int32), (0 : Int32))) fun y7 =>
  some y7
abbrev mX9_signsOn : qv_M := (yX9_signsOn, cX9_signsOn, 4, (Option.some Jvm.ClassFile.FieldType.int), 0, 0)
set_option maxRecDepth 100000 in
set_option maxHeartbeats 4000000 in
theorem sX9_signsOn {l : Launch} {g : qv_G} {a0 : Nat} {a1 : Int32} {h : qv_H} {r : Int32} (hs : fX9_signsOn a0 a1 h = some r) : qv_J l g mX9_signsOn 0 [some (.ref a0), some (.int a1), none, none] [] h (some (.int r), h) := by
  unfold fX9_signsOn at hs
  refine qv_iconst (v := (0 : Int32)) dX9_signsOn_0 rfl ?_
  refine qv_istore_n (lo2 := [some (.ref a0), some (.int a1), some (.int (0 : Int32)), none]) dX9_signsOn_1 (i := 2) rfl (by decide) rfl (Nat.le_of_ble_eq_true rfl) rfl ?_
  refine qv_iconst (v := (0 : Int32)) dX9_signsOn_2 rfl ?_
  refine qv_istore_n (lo2 := [some (.ref a0), some (.int a1), some (.int (0 : Int32)), some (.int (0 : Int32))]) dX9_signsOn_3 (i := 3) rfl (by decide) rfl (Nat.le_of_ble_eq_true rfl) rfl ?_
  obtain ⟨y7, e2, hs⟩ := qv_bind hs
  have K1 : qv_J l g mX9_signsOn 36 [none, none, some (.int y7), none] [] h (some (.int r), h) := by
    refine qv_iload_n dX9_signsOn_36 (i := 2) rfl rfl ?_
    obtain rfl := qv_sm hs
    exact qv_iret dX9_signsOn_37 rfl
  obtain ⟨n8, e2⟩ := qv_loop_of e2
  refine qv_dp (qv_le_s (qv_le_s (qv_le_s (qv_le_s qv_le_0)))) (?_ : qv_J l g mX9_signsOn 4 [some (.ref a0), some (.int a1), some (.int (0 : Int32)), some (.int (0 : Int32))] [] h (some (.int r), h))
  revert e2
  suffices lj7 : ∀ (x1 : Int32) (x2 : Int32), qv_it _ n8 (x1, x2) = some y7 → qv_J l g mX9_signsOn 4 [some (.ref a0), some (.int a1), some (.int x1), some (.int x2)] [] h (some (.int r), h) from lj7 (0 : Int32) (0 : Int32)
  induction n8 with
  | zero =>
    intro x1 x2 e2
    cases e2
  | succ n8 ih4 =>
    intro x1 x2 e2
    obtain ⟨_, hs, eb5⟩ := qv_it_s e2
    dsimp only at hs
    refine qv_iload_n dX9_signsOn_4 (i := 3) rfl rfl ?_
    refine qv_aload_n dX9_signsOn_5 (i := 0) rfl rfl ?_
    obtain ⟨v3, e9, hs⟩ := qv_bind hs
    refine qv_getI dX9_signsOn_6 qF_X9_92 e9 ?_
    by_cases c10 : v3 ≤ x2
    · have hs := qv_pos c10 hs
      refine qv_icmp_ge (tgt := 36) dX9_signsOn_9 rfl (fun _ => ?_) (fun q => absurd c10 q)
      cases hs
      cases qv_nx_r eb5
      exact qv_dp (qv_le_n (qv_le_n (qv_le_s (qv_le_n qv_le_0)))) K1
    · have hs := qv_neg c10 hs
      refine qv_icmp_ge (tgt := 36) dX9_signsOn_9 rfl (fun q => absurd q c10) (fun _ => ?_)
      refine qv_iload_n dX9_signsOn_12 (i := 2) rfl rfl ?_
      refine qv_aload_n dX9_signsOn_13 (i := 0) rfl rfl ?_
      obtain ⟨v4, e11, hs⟩ := qv_bind hs
      refine qv_getR dX9_signsOn_14 qF_X9_22 e11 ?_
      refine qv_iload_n dX9_signsOn_17 (i := 3) rfl rfl ?_
      obtain ⟨v5, e12, hs⟩ := qv_bind hs
      refine qv_iald dX9_signsOn_18 e12 ?_
      refine qv_iload_n dX9_signsOn_19 (i := 1) rfl rfl ?_
      obtain ⟨m6, hj14, hs⟩ := qv_bind hs
      have K13 : qv_J l g mX9_signsOn 28 [some (.ref a0), some (.int a1), none, some (.int x2)] [.int m6, .int x1] h (some (.int r), h) := by
        refine qv_iadd dX9_signsOn_28 ?_
        refine qv_istore_n (lo2 := [some (.ref a0), some (.int a1), some (.int (x1 + m6)), some (.int x2)]) dX9_signsOn_29 (i := 2) rfl (by decide) rfl (Nat.le_of_ble_eq_true rfl) rfl ?_
        refine qv_iinc (v := x2 + (1 : Int32)) (lo2 := [some (.ref a0), some (.int a1), some (.int (x1 + m6)), some (.int (x2 + (1 : Int32)))]) dX9_signsOn_30 rfl rfl (by decide) rfl rfl ?_
        refine qv_goto (tgt := 4) dX9_signsOn_33 rfl ?_
        cases hs
        exact qv_dp (qv_le_s (qv_le_s (qv_le_s (qv_le_s qv_le_0)))) (ih4 _ _ (qv_nx_l eb5))
      replace hs := hj14
      by_cases c15 : v5 = a1
      · have hs := qv_pos c15 hs
        refine qv_icmp_ne (tgt := 27) dX9_signsOn_20 rfl (fun q => absurd c15 q) (fun _ => ?_)
        refine qv_iconst (v := (1 : Int32)) dX9_signsOn_23 rfl ?_
        refine qv_goto (tgt := 28) dX9_signsOn_24 rfl ?_
        cases hs
        exact qv_dp (qv_le_s (qv_le_s (qv_le_n (qv_le_s qv_le_0)))) K13
      · have hs := qv_neg c15 hs
        refine qv_icmp_ne (tgt := 27) dX9_signsOn_20 rfl (fun _ => ?_) (fun q => absurd q c15)
        refine qv_iconst (v := (0 : Int32)) dX9_signsOn_27 rfl ?_
        cases hs
        exact qv_dp (qv_le_s (qv_le_s (qv_le_n (qv_le_s qv_le_0)))) K13
theorem qD_X9_signsOn : qv_DV mX9_signsOn 1 := ⟨(qv_i17 (List.mem_of_getElem? (i := 48) (by decide +kernel))), (qv_i1 (List.mem_of_getElem? (i := 0) (by decide +kernel))), (qv_i1 (List.mem_of_getElem? (i := 14) (by decide +kernel))), (qv_i17 (List.mem_of_getElem? (i := 49) (by decide +kernel))), by decide +kernel, by decide +kernel⟩
/-- TrueOneWayModel.nthOn(II)I -/
noncomputable def fX9_nthOn (a0 : Nat) (a1 : Int32) (a2 : Int32) (h : qv_H) : Option (Int32) :=
  Option.bind (qv_loop (σ := Int32 × Int32) (ρ := Int32) (fun (x1, x2) =>
      (qv_gR h 8 a0 4).bind fun v3 =>
      (qv_aI h false v3 x2).bind fun v4 =>
      if v4 = a1 then
        if x1 ≤ 0 then
          some (.inr x2)
        else
          (qv_gR h 8 a0 4).bind fun v8 =>
          (qv_aI h false v8 x2).bind fun v9 =>
          Option.bind (α := Int32) (
              if v9 = a1 then
                some (1 : Int32)
              else
                some (0 : Int32)
            ) fun m10 =>
          some (.inl (x1 - m10, x2 + (1 : Int32)))
      else
        (qv_gR h 8 a0 4).bind fun v5 =>
        (qv_aI h false v5 x2).bind fun v6 =>
        Option.bind (α := Int32) (
            if v6 = a1 then
              some (1 : Int32)
            else
              some (0 : Int32)
          ) fun m7 =>
        some (.inl (x1 - m7, x2 + (1 : Int32)))
    ) (a2, (0 : Int32))) fun y11 =>
  some y11
abbrev mX9_nthOn : qv_M := (yX9_nthOn, cX9_nthOn, 5, (Option.some Jvm.ClassFile.FieldType.int), 0, 0)
set_option maxRecDepth 100000 in
set_option maxHeartbeats 4000000 in
theorem sX9_nthOn {l : Launch} {g : qv_G} {a0 : Nat} {a1 : Int32} {a2 : Int32} {h : qv_H} {r : Int32} (hs : fX9_nthOn a0 a1 a2 h = some r) : qv_J l g mX9_nthOn 0 [some (.ref a0), some (.int a1), some (.int a2), none, none] [] h (some (.int r), h) := by
  unfold fX9_nthOn at hs
  refine qv_iload_n dX9_nthOn_0 (i := 2) rfl rfl ?_
  refine qv_istore_n (lo2 := [some (.ref a0), some (.int a1), some (.int a2), some (.int a2), none]) dX9_nthOn_1 (i := 3) rfl (by decide) rfl (Nat.le_of_ble_eq_true rfl) rfl ?_
  refine qv_iconst (v := (0 : Int32)) dX9_nthOn_2 rfl ?_
  refine qv_istore (lo2 := [some (.ref a0), some (.int a1), some (.int a2), some (.int a2), some (.int (0 : Int32))]) dX9_nthOn_3 (by decide) rfl (Nat.le_of_ble_eq_true rfl) rfl ?_
  obtain ⟨y11, e2, hs⟩ := qv_bind hs
  have K1 : qv_J l g mX9_nthOn 45 [none, none, none, none, some (.int y11)] [] h (some (.int r), h) := by
    refine qv_iload dX9_nthOn_45 rfl ?_
    obtain rfl := qv_sm hs
    exact qv_iret dX9_nthOn_47 rfl
  obtain ⟨n8, e2⟩ := qv_loop_of e2
  refine qv_dp (qv_le_s (qv_le_s (qv_le_n (qv_le_s (qv_le_s qv_le_0))))) (?_ : qv_J l g mX9_nthOn 5 [some (.ref a0), some (.int a1), none, some (.int a2), some (.int (0 : Int32))] [] h (some (.int r), h))
  revert e2
  suffices lj7 : ∀ (x1 : Int32) (x2 : Int32), qv_it _ n8 (x1, x2) = some y11 → qv_J l g mX9_nthOn 5 [some (.ref a0), some (.int a1), none, some (.int x1), some (.int x2)] [] h (some (.int r), h) from lj7 a2 (0 : Int32)
  induction n8 with
  | zero =>
    intro x1 x2 e2
    cases e2
  | succ n8 ih4 =>
    intro x1 x2 e2
    obtain ⟨_, hs, eb5⟩ := qv_it_s e2
    dsimp only at hs
    refine qv_aload_n dX9_nthOn_5 (i := 0) rfl rfl ?_
    obtain ⟨v3, e9, hs⟩ := qv_bind hs
    refine qv_getR dX9_nthOn_6 qF_X9_22 e9 ?_
    refine qv_iload dX9_nthOn_9 rfl ?_
    obtain ⟨v4, e10, hs⟩ := qv_bind hs
    refine qv_iald dX9_nthOn_11 e10 ?_
    refine qv_iload_n dX9_nthOn_12 (i := 1) rfl rfl ?_
    by_cases c11 : v4 = a1
    · have hs := qv_pos c11 hs
      refine qv_icmp_ne (tgt := 20) dX9_nthOn_13 rfl (fun q => absurd c11 q) (fun _ => ?_)
      refine qv_iload_n dX9_nthOn_16 (i := 3) rfl rfl ?_
      by_cases c12 : x1 ≤ 0
      · have hs := qv_pos c12 hs
        refine qv_if_le (tgt := 45) dX9_nthOn_17 rfl (fun _ => ?_) (fun q => absurd c12 q)
        cases hs
        cases qv_nx_r eb5
        exact qv_dp (qv_le_n (qv_le_n (qv_le_n (qv_le_n (qv_le_s qv_le_0))))) K1
      · have hs := qv_neg c12 hs
        refine qv_if_le (tgt := 45) dX9_nthOn_17 rfl (fun q => absurd q c12) (fun _ => ?_)
        refine qv_iload_n dX9_nthOn_20 (i := 3) rfl rfl ?_
        refine qv_aload_n dX9_nthOn_21 (i := 0) rfl rfl ?_
        obtain ⟨v8, e13, hs⟩ := qv_bind hs
        refine qv_getR dX9_nthOn_22 qF_X9_22 e13 ?_
        refine qv_iload dX9_nthOn_25 rfl ?_
        obtain ⟨v9, e14, hs⟩ := qv_bind hs
        refine qv_iald dX9_nthOn_27 e14 ?_
        refine qv_iload_n dX9_nthOn_28 (i := 1) rfl rfl ?_
        obtain ⟨m10, hj16, hs⟩ := qv_bind hs
        have K15 : qv_J l g mX9_nthOn 37 [some (.ref a0), some (.int a1), none, none, some (.int x2)] [.int m10, .int x1] h (some (.int r), h) := by
          refine qv_isub dX9_nthOn_37 ?_
          refine qv_istore_n (lo2 := [some (.ref a0), some (.int a1), none, some (.int (x1 - m10)), some (.int x2)]) dX9_nthOn_38 (i := 3) rfl (by decide) rfl (Nat.le_of_ble_eq_true rfl) rfl ?_
          refine qv_iinc (v := x2 + (1 : Int32)) (lo2 := [some (.ref a0), some (.int a1), none, some (.int (x1 - m10)), some (.int (x2 + (1 : Int32)))]) dX9_nthOn_39 rfl rfl (by decide) rfl rfl ?_
          refine qv_goto (tgt := 5) dX9_nthOn_42 rfl ?_
          cases hs
          exact qv_dp (qv_le_s (qv_le_s (qv_le_n (qv_le_s (qv_le_s qv_le_0))))) (ih4 _ _ (qv_nx_l eb5))
        replace hs := hj16
        by_cases c17 : v9 = a1
        · have hs := qv_pos c17 hs
          refine qv_icmp_ne (tgt := 36) dX9_nthOn_29 rfl (fun q => absurd c17 q) (fun _ => ?_)
          refine qv_iconst (v := (1 : Int32)) dX9_nthOn_32 rfl ?_
          refine qv_goto (tgt := 37) dX9_nthOn_33 rfl ?_
          cases hs
          exact qv_dp (qv_le_s (qv_le_s (qv_le_n (qv_le_n (qv_le_s qv_le_0))))) K15
        · have hs := qv_neg c17 hs
          refine qv_icmp_ne (tgt := 36) dX9_nthOn_29 rfl (fun _ => ?_) (fun q => absurd q c17)
          refine qv_iconst (v := (0 : Int32)) dX9_nthOn_36 rfl ?_
          cases hs
          exact qv_dp (qv_le_s (qv_le_s (qv_le_n (qv_le_n (qv_le_s qv_le_0))))) K15
    · have hs := qv_neg c11 hs
      refine qv_icmp_ne (tgt := 20) dX9_nthOn_13 rfl (fun _ => ?_) (fun q => absurd q c11)
      refine qv_iload_n dX9_nthOn_20 (i := 3) rfl rfl ?_
      refine qv_aload_n dX9_nthOn_21 (i := 0) rfl rfl ?_
      obtain ⟨v5, e18, hs⟩ := qv_bind hs
      refine qv_getR dX9_nthOn_22 qF_X9_22 e18 ?_
      refine qv_iload dX9_nthOn_25 rfl ?_
      obtain ⟨v6, e19, hs⟩ := qv_bind hs
      refine qv_iald dX9_nthOn_27 e19 ?_
      refine qv_iload_n dX9_nthOn_28 (i := 1) rfl rfl ?_
      obtain ⟨m7, hj21, hs⟩ := qv_bind hs
      have K20 : qv_J l g mX9_nthOn 37 [some (.ref a0), some (.int a1), none, none, some (.int x2)] [.int m7, .int x1] h (some (.int r), h) := by
        refine qv_isub dX9_nthOn_37 ?_
        refine qv_istore_n (lo2 := [some (.ref a0), some (.int a1), none, some (.int (x1 - m7)), some (.int x2)]) dX9_nthOn_38 (i := 3) rfl (by decide) rfl (Nat.le_of_ble_eq_true rfl) rfl ?_
        refine qv_iinc (v := x2 + (1 : Int32)) (lo2 := [some (.ref a0), some (.int a1), none, some (.int (x1 - m7)), some (.int (x2 + (1 : Int32)))]) dX9_nthOn_39 rfl rfl (by decide) rfl rfl ?_
        refine qv_goto (tgt := 5) dX9_nthOn_42 rfl ?_
        cases hs
        exact qv_dp (qv_le_s (qv_le_s (qv_le_n (qv_le_s (qv_le_s qv_le_0))))) (ih4 _ _ (qv_nx_l eb5))
      replace hs := hj21
      by_cases c22 : v6 = a1
      · have hs := qv_pos c22 hs
        refine qv_icmp_ne (tgt := 36) dX9_nthOn_29 rfl (fun q => absurd c22 q) (fun _ => ?_)
        refine qv_iconst (v := (1 : Int32)) dX9_nthOn_32 rfl ?_
        refine qv_goto (tgt := 37) dX9_nthOn_33 rfl ?_
        cases hs
        exact qv_dp (qv_le_s (qv_le_s (qv_le_n (qv_le_n (qv_le_s qv_le_0))))) K20
      · have hs := qv_neg c22 hs
        refine qv_icmp_ne (tgt := 36) dX9_nthOn_29 rfl (fun _ => ?_) (fun q => absurd q c22)
        refine qv_iconst (v := (0 : Int32)) dX9_nthOn_36 rfl ?_
        cases hs
        exact qv_dp (qv_le_s (qv_le_s (qv_le_n (qv_le_n (qv_le_s qv_le_0))))) K20
theorem qD_X9_nthOn : qv_DV mX9_nthOn 2 := ⟨(qv_i17 (List.mem_of_getElem? (i := 54) (by decide +kernel))), (qv_i1 (List.mem_of_getElem? (i := 2) (by decide +kernel))), (qv_i1 (List.mem_of_getElem? (i := 14) (by decide +kernel))), (qv_i17 (List.mem_of_getElem? (i := 55) (by decide +kernel))), by decide +kernel, by decide +kernel⟩
/-- TrueOneWayModel.doStand(IZI)Z -/
noncomputable def fX9_doStand (a0 : Nat) (a1 : Int32) (a2 : Int32) (a3 : Int32) (h : qv_H) : Option (Int32) :=
  (qv_ob h 8 a0).bind fun _ =>
  (fX9_signsOn a0 a1 h).bind fun v2 =>
  (qv_gI h 8 a0 39).bind fun v3 =>
  if (a3 + v2) ≤ v3 then
    Option.bind (qv_loop (σ := Int32) (ρ := (Unit) ⊕ (Int32)) (fun x4 =>
        if v2 ≤ x4 then
          some (.inr (.inl ()))
        else
          (qv_gR h 8 a0 37).bind fun v5 =>
          (qv_aI h false v5 (a3 + x4)).bind fun v6 =>
          Option.bind (α := Int32) (
              if a2 = 0 then
                some ((v2 - (1 : Int32)) - x4)
              else
                some x4
            ) fun m7 =>
          (qv_ob h 8 a0).bind fun _ =>
          (fX9_nthOn a0 a1 m7 h).bind fun v9 =>
          if v6 = v9 then
            some (.inl (x4 + (1 : Int32)))
          else
            some (.inr (.inr (0 : Int32)))
      ) (0 : Int32)) fun q => match q with
    | .inl _ =>
      some (1 : Int32)
    | .inr q => some q
  else
    some (0 : Int32)
abbrev mX9_doStand : qv_M := (yX9_doStand, cX9_doStand, 6, (Option.some Jvm.ClassFile.FieldType.boolean), 1, 24)
set_option maxRecDepth 100000 in
set_option maxHeartbeats 4000000 in
theorem sX9_doStand {l : Launch} {g : qv_G} {a0 : Nat} {a1 : Int32} {a2 : Int32} {a3 : Int32} {h : qv_H} {r : Int32} (hs : fX9_doStand a0 a1 a2 a3 h = some r) : qv_J l g mX9_doStand 0 [some (.ref a0), some (.int a1), some (.int a2), some (.int a3), none, none] [] h (some (.int r), h) := by
  unfold fX9_doStand at hs
  refine qv_aload_n dX9_doStand_0 (i := 0) rfl rfl ?_
  refine qv_iload_n dX9_doStand_1 (i := 1) rfl rfl ?_
  obtain ⟨u1, e1, hs⟩ := qv_bind hs
  obtain ⟨v2, e2, hs⟩ := qv_bind hs
  refine qv_cV (d2 := mX9_signsOn) (o := a0) (ci := 8) (r := some (.int v2)) (h2 := h) (av := [.int a1]) (st := []) dX9_doStand_2 qM_X9_287 qD_X9_signsOn e1 rfl rfl ⟨by decide, by decide⟩ rfl (Nat.le_of_ble_eq_true rfl) (Nat.le_of_ble_eq_true rfl) (sX9_signsOn e2) rfl ?_
  refine qv_istore (lo2 := [some (.ref a0), some (.int a1), some (.int a2), some (.int a3), some (.int v2), none]) dX9_doStand_5 (by decide) rfl (Nat.le_of_ble_eq_true rfl) rfl ?_
  refine qv_iload_n dX9_doStand_7 (i := 3) rfl rfl ?_
  refine qv_iload dX9_doStand_8 rfl ?_
  refine qv_iadd dX9_doStand_10 ?_
  refine qv_aload_n dX9_doStand_11 (i := 0) rfl rfl ?_
  obtain ⟨v3, e3, hs⟩ := qv_bind hs
  refine qv_getI dX9_doStand_12 qF_X9_192 e3 ?_
  by_cases c4 : (a3 + v2) ≤ v3
  · have hs := qv_pos c4 hs
    refine qv_icmp_le (tgt := 20) dX9_doStand_15 rfl (fun _ => ?_) (fun q => absurd c4 q)
    refine qv_iconst (v := (0 : Int32)) dX9_doStand_20 rfl ?_
    refine qv_istore (lo2 := [some (.ref a0), some (.int a1), some (.int a2), some (.int a3), some (.int v2), some (.int (0 : Int32))]) dX9_doStand_21 (by decide) rfl (Nat.le_of_ble_eq_true rfl) rfl ?_
    obtain ⟨q10, e6, hA7⟩ := qv_bind hs
    have K5 : ∀ (_ : Unit), q10 = .inl () → qv_J l g mX9_doStand 71 [none, none, none, none, none, none] [] h (some (.int r), h) := by
      intro _ eq13
      subst eq13
      have hs := hA7
      dsimp only at hs
      refine qv_iconst (v := (1 : Int32)) dX9_doStand_71 rfl ?_
      obtain rfl := qv_sm hs
      exact qv_zret dX9_doStand_72 rfl (by decide)
    obtain ⟨n12, e6⟩ := qv_loop_of e6
    refine qv_dp (qv_le_s (qv_le_s (qv_le_s (qv_le_s (qv_le_s (qv_le_s qv_le_0)))))) (?_ : qv_J l g mX9_doStand 23 [some (.ref a0), some (.int a1), some (.int a2), some (.int a3), some (.int v2), some (.int (0 : Int32))] [] h (some (.int r), h))
    revert e6
    suffices lj11 : ∀ (x4 : Int32), qv_it _ n12 x4 = some q10 → qv_J l g mX9_doStand 23 [some (.ref a0), some (.int a1), some (.int a2), some (.int a3), some (.int v2), some (.int x4)] [] h (some (.int r), h) from lj11 (0 : Int32)
    induction n12 with
    | zero =>
      intro x4 e6
      cases e6
    | succ n12 ih8 =>
      intro x4 e6
      obtain ⟨_, hs, eb9⟩ := qv_it_s e6
      refine qv_iload dX9_doStand_23 rfl ?_
      refine qv_iload dX9_doStand_25 rfl ?_
      by_cases c14 : v2 ≤ x4
      · have hs := qv_pos c14 hs
        refine qv_icmp_ge (tgt := 71) dX9_doStand_27 rfl (fun _ => ?_) (fun q => absurd c14 q)
        cases hs
        cases qv_nx_r eb9
        exact qv_dp (qv_le_n (qv_le_n (qv_le_n (qv_le_n (qv_le_n (qv_le_n qv_le_0)))))) (K5 () rfl)
      · have hs := qv_neg c14 hs
        refine qv_icmp_ge (tgt := 71) dX9_doStand_27 rfl (fun q => absurd q c14) (fun _ => ?_)
        refine qv_aload_n dX9_doStand_30 (i := 0) rfl rfl ?_
        obtain ⟨v5, e15, hs⟩ := qv_bind hs
        refine qv_getR dX9_doStand_31 qF_X9_83 e15 ?_
        refine qv_iload_n dX9_doStand_34 (i := 3) rfl rfl ?_
        refine qv_iload dX9_doStand_35 rfl ?_
        refine qv_iadd dX9_doStand_37 ?_
        obtain ⟨v6, e16, hs⟩ := qv_bind hs
        refine qv_iald dX9_doStand_38 e16 ?_
        refine qv_aload_n dX9_doStand_39 (i := 0) rfl rfl ?_
        refine qv_iload_n dX9_doStand_40 (i := 1) rfl rfl ?_
        refine qv_iload_n dX9_doStand_41 (i := 2) rfl rfl ?_
        obtain ⟨m7, hj18, hs⟩ := qv_bind hs
        have K17 : qv_J l g mX9_doStand 57 [some (.ref a0), some (.int a1), some (.int a2), some (.int a3), some (.int v2), some (.int x4)] [.int m7, .int a1, .ref a0, .int v6] h (some (.int r), h) := by
          obtain ⟨u8, e19, hs⟩ := qv_bind hs
          obtain ⟨v9, e20, hs⟩ := qv_bind hs
          refine qv_cV (d2 := mX9_nthOn) (o := a0) (ci := 8) (r := some (.int v9)) (h2 := h) (av := [.int a1, .int m7]) (st := [.int v6]) dX9_doStand_57 qM_X9_290 qD_X9_nthOn e19 rfl rfl ⟨by decide, by decide⟩ rfl (Nat.le_of_ble_eq_true rfl) (Nat.le_of_ble_eq_true rfl) (sX9_nthOn e20) rfl ?_
          by_cases c21 : v6 = v9
          · have hs := qv_pos c21 hs
            refine qv_icmp_eq (tgt := 65) dX9_doStand_60 rfl (fun _ => ?_) (fun q => absurd c21 q)
            refine qv_iinc (v := x4 + (1 : Int32)) (lo2 := [some (.ref a0), some (.int a1), some (.int a2), some (.int a3), some (.int v2), some (.int (x4 + (1 : Int32)))]) dX9_doStand_65 rfl rfl (by decide) rfl rfl ?_
            refine qv_goto (tgt := 23) dX9_doStand_68 rfl ?_
            cases hs
            exact qv_dp (qv_le_s (qv_le_s (qv_le_s (qv_le_s (qv_le_s (qv_le_s qv_le_0)))))) (ih8 _ (qv_nx_l eb9))
          · have hs := qv_neg c21 hs
            refine qv_icmp_eq (tgt := 65) dX9_doStand_60 rfl (fun q => absurd q c21) (fun _ => ?_)
            refine qv_iconst (v := (0 : Int32)) dX9_doStand_63 rfl ?_
            cases hs
            cases qv_nx_r eb9
            have hs := hA7
            dsimp only at hs
            obtain rfl := qv_sm hs
            exact qv_zret dX9_doStand_64 rfl (by decide)
        replace hs := hj18
        by_cases c22 : a2 = 0
        · have hs := qv_pos c22 hs
          refine qv_if_eq (tgt := 50) dX9_doStand_42 rfl (fun _ => ?_) (fun q => absurd c22 q)
          refine qv_iload dX9_doStand_50 rfl ?_
          refine qv_iconst (v := (1 : Int32)) dX9_doStand_52 rfl ?_
          refine qv_isub dX9_doStand_53 ?_
          refine qv_iload dX9_doStand_54 rfl ?_
          refine qv_isub dX9_doStand_56 ?_
          cases hs
          exact qv_dp (qv_le_s (qv_le_s (qv_le_s (qv_le_s (qv_le_s (qv_le_s qv_le_0)))))) K17
        · have hs := qv_neg c22 hs
          refine qv_if_eq (tgt := 50) dX9_doStand_42 rfl (fun q => absurd q c22) (fun _ => ?_)
          refine qv_iload dX9_doStand_45 rfl ?_
          refine qv_goto (tgt := 57) dX9_doStand_47 rfl ?_
          cases hs
          exact qv_dp (qv_le_s (qv_le_s (qv_le_s (qv_le_s (qv_le_s (qv_le_s qv_le_0)))))) K17
  · have hs := qv_neg c4 hs
    refine qv_icmp_le (tgt := 20) dX9_doStand_15 rfl (fun q => absurd q c4) (fun _ => ?_)
    refine qv_iconst (v := (0 : Int32)) dX9_doStand_18 rfl ?_
    obtain rfl := qv_sm hs
    exact qv_zret dX9_doStand_19 rfl (by decide)
theorem qD_X9_doStand : qv_DV mX9_doStand 3 := ⟨(qv_i17 (List.mem_of_getElem? (i := 51) (by decide +kernel))), (qv_i1 (List.mem_of_getElem? (i := 1) (by decide +kernel))), (qv_i1 (List.mem_of_getElem? (i := 14) (by decide +kernel))), (qv_i17 (List.mem_of_getElem? (i := 52) (by decide +kernel))), by decide +kernel, by decide +kernel⟩
/-- TrueOneWayModel.walksBy(IIZ)V -/
noncomputable def fX9_walksBy (a0 : Nat) (a1 : Int32) (a2 : Int32) (a3 : Int32) (h : qv_H) : Option (qv_H) :=
  (qv_ob h 8 a0).bind fun _ =>
  (fX9_signsOn a0 a2 h).bind fun v2 =>
  if v2 = 0 then
    some h
  else
    (qv_ob h 8 a0).bind fun _ =>
    (fX9_doStand a0 a2 a3 a1 h).bind fun v4 =>
    if v4 = 0 then
      some h
    else
      Option.bind (α := Int32) (
          if a3 = 0 then
            (qv_gR h 8 a0 2).bind fun v5 =>
            (qv_aI h false v5 a2).bind fun v6 =>
            some v6
          else
            (qv_gR h 8 a0 1).bind fun v7 =>
            (qv_aI h false v7 a2).bind fun v8 =>
            some v8
        ) fun m9 =>
      Option.bind (α := Int32) (
          if a3 = 0 then
            (qv_gR h 8 a0 1).bind fun v10 =>
            (qv_aI h false v10 a2).bind fun v11 =>
            some v11
          else
            (qv_gR h 8 a0 2).bind fun v12 =>
            (qv_aI h false v12 a2).bind fun v13 =>
            some v13
        ) fun m14 =>
      (qv_gR h 8 a0 38).bind fun v15 =>
      (qv_aI h false v15 (((6 : Int32) * (a1 + v2)) + m14)).bind fun v16 =>
      (qv_gR h 8 a0 38).bind fun v17 =>
      (qv_aI h false v17 (((6 : Int32) * a1) + m9)).bind fun v18 =>
      (qv_sI h false v15 (((6 : Int32) * (a1 + v2)) + m14) (v16 + v18)).bind fun h19 =>
      some h19
abbrev mX9_walksBy : qv_M := (yX9_walksBy, cX9_walksBy, 7, (Option.none : Option Jvm.ClassFile.FieldType), 2, 49)
set_option maxRecDepth 100000 in
set_option maxHeartbeats 4000000 in
theorem sX9_walksBy {l : Launch} {g : qv_G} {a0 : Nat} {a1 : Int32} {a2 : Int32} {a3 : Int32} {h : qv_H} {hz : qv_H} (hs : fX9_walksBy a0 a1 a2 a3 h = some hz) : qv_J l g mX9_walksBy 0 [some (.ref a0), some (.int a1), some (.int a2), some (.int a3), none, none, none] [] h (none, hz) := by
  unfold fX9_walksBy at hs
  refine qv_aload_n dX9_walksBy_0 (i := 0) rfl rfl ?_
  refine qv_iload_n dX9_walksBy_1 (i := 2) rfl rfl ?_
  obtain ⟨u1, e1, hs⟩ := qv_bind hs
  obtain ⟨v2, e2, hs⟩ := qv_bind hs
  refine qv_cV (d2 := mX9_signsOn) (o := a0) (ci := 8) (r := some (.int v2)) (h2 := h) (av := [.int a2]) (st := []) dX9_walksBy_2 qM_X9_287 qD_X9_signsOn e1 rfl rfl ⟨by decide, by decide⟩ rfl (Nat.le_of_ble_eq_true rfl) (Nat.le_of_ble_eq_true rfl) (sX9_signsOn e2) rfl ?_
  refine qv_istore (lo2 := [some (.ref a0), some (.int a1), some (.int a2), some (.int a3), some (.int v2), none, none]) dX9_walksBy_5 (by decide) rfl (Nat.le_of_ble_eq_true rfl) rfl ?_
  refine qv_iload dX9_walksBy_7 rfl ?_
  by_cases c3 : v2 = 0
  · have hs := qv_pos c3 hs
    refine qv_if_eq (tgt := 22) dX9_walksBy_9 rfl (fun _ => ?_) (fun q => absurd c3 q)
    obtain rfl := qv_sm hs
    exact qv_vret dX9_walksBy_22 rfl
  · have hs := qv_neg c3 hs
    refine qv_if_eq (tgt := 22) dX9_walksBy_9 rfl (fun q => absurd q c3) (fun _ => ?_)
    refine qv_aload_n dX9_walksBy_12 (i := 0) rfl rfl ?_
    refine qv_iload_n dX9_walksBy_13 (i := 2) rfl rfl ?_
    refine qv_iload_n dX9_walksBy_14 (i := 3) rfl rfl ?_
    refine qv_iload_n dX9_walksBy_15 (i := 1) rfl rfl ?_
    obtain ⟨u3, e4, hs⟩ := qv_bind hs
    obtain ⟨v4, e5, hs⟩ := qv_bind hs
    refine qv_cV (d2 := mX9_doStand) (o := a0) (ci := 8) (r := some (.int v4)) (h2 := h) (av := [.int a2, .int a3, .int a1]) (st := []) dX9_walksBy_16 qM_X9_293 qD_X9_doStand e4 rfl rfl ⟨by decide, by decide⟩ rfl (Nat.le_of_ble_eq_true rfl) (Nat.le_of_ble_eq_true rfl) (sX9_doStand e5) rfl ?_
    by_cases c6 : v4 = 0
    · have hs := qv_pos c6 hs
      refine qv_if_ne (tgt := 23) dX9_walksBy_19 rfl (fun q => absurd c6 q) (fun _ => ?_)
      obtain rfl := qv_sm hs
      exact qv_vret dX9_walksBy_22 rfl
    · have hs := qv_neg c6 hs
      refine qv_if_ne (tgt := 23) dX9_walksBy_19 rfl (fun _ => ?_) (fun q => absurd q c6)
      refine qv_iload_n dX9_walksBy_23 (i := 3) rfl rfl ?_
      obtain ⟨m9, hj8, hs⟩ := qv_bind hs
      have K7 : qv_J l g mX9_walksBy 42 [some (.ref a0), some (.int a1), some (.int a2), some (.int a3), some (.int v2), none, none] [.int m9] h (none, hz) := by
        refine qv_istore (lo2 := [some (.ref a0), some (.int a1), some (.int a2), some (.int a3), some (.int v2), some (.int m9), none]) dX9_walksBy_42 (by decide) rfl (Nat.le_of_ble_eq_true rfl) rfl ?_
        refine qv_iload_n dX9_walksBy_44 (i := 3) rfl rfl ?_
        obtain ⟨m14, hj10, hs⟩ := qv_bind hs
        have K9 : qv_J l g mX9_walksBy 63 [some (.ref a0), some (.int a1), none, none, some (.int v2), some (.int m9), none] [.int m14] h (none, hz) := by
          refine qv_istore (lo2 := [some (.ref a0), some (.int a1), none, none, some (.int v2), some (.int m9), some (.int m14)]) dX9_walksBy_63 (by decide) rfl (Nat.le_of_ble_eq_true rfl) rfl ?_
          refine qv_aload_n dX9_walksBy_65 (i := 0) rfl rfl ?_
          obtain ⟨v15, e11, hs⟩ := qv_bind hs
          refine qv_getR dX9_walksBy_66 qF_X9_86 e11 ?_
          refine qv_bipush (v := (6 : Int32)) dX9_walksBy_69 rfl ?_
          refine qv_iload_n dX9_walksBy_71 (i := 1) rfl rfl ?_
          refine qv_iload dX9_walksBy_72 rfl ?_
          refine qv_iadd dX9_walksBy_74 ?_
          refine qv_imul dX9_walksBy_75 ?_
          refine qv_iload dX9_walksBy_76 rfl ?_
          refine qv_iadd dX9_walksBy_78 ?_
          refine qv_dup2 dX9_walksBy_79 rfl rfl ?_
          obtain ⟨v16, e12, hs⟩ := qv_bind hs
          refine qv_iald dX9_walksBy_80 e12 ?_
          refine qv_aload_n dX9_walksBy_81 (i := 0) rfl rfl ?_
          obtain ⟨v17, e13, hs⟩ := qv_bind hs
          refine qv_getR dX9_walksBy_82 qF_X9_86 e13 ?_
          refine qv_bipush (v := (6 : Int32)) dX9_walksBy_85 rfl ?_
          refine qv_iload_n dX9_walksBy_87 (i := 1) rfl rfl ?_
          refine qv_imul dX9_walksBy_88 ?_
          refine qv_iload dX9_walksBy_89 rfl ?_
          refine qv_iadd dX9_walksBy_91 ?_
          obtain ⟨v18, e14, hs⟩ := qv_bind hs
          refine qv_iald dX9_walksBy_92 e14 ?_
          refine qv_iadd dX9_walksBy_93 ?_
          obtain ⟨h19, e15, hs⟩ := qv_bind hs
          refine qv_iast dX9_walksBy_94 e15 ?_
          obtain rfl := qv_sm hs
          exact qv_vret dX9_walksBy_95 rfl
        replace hs := hj10
        by_cases c16 : a3 = 0
        · have hs := qv_pos c16 hs
          refine qv_if_eq (tgt := 57) dX9_walksBy_45 rfl (fun _ => ?_) (fun q => absurd c16 q)
          refine qv_aload_n dX9_walksBy_57 (i := 0) rfl rfl ?_
          obtain ⟨v10, e17, hs⟩ := qv_bind hs
          refine qv_getR dX9_walksBy_58 qF_X9_13 e17 ?_
          refine qv_iload_n dX9_walksBy_61 (i := 2) rfl rfl ?_
          obtain ⟨v11, e18, hs⟩ := qv_bind hs
          refine qv_iald dX9_walksBy_62 e18 ?_
          cases hs
          exact qv_dp (qv_le_s (qv_le_s (qv_le_n (qv_le_n (qv_le_s (qv_le_s (qv_le_n qv_le_0))))))) K9
        · have hs := qv_neg c16 hs
          refine qv_if_eq (tgt := 57) dX9_walksBy_45 rfl (fun q => absurd q c16) (fun _ => ?_)
          refine qv_aload_n dX9_walksBy_48 (i := 0) rfl rfl ?_
          obtain ⟨v12, e19, hs⟩ := qv_bind hs
          refine qv_getR dX9_walksBy_49 qF_X9_16 e19 ?_
          refine qv_iload_n dX9_walksBy_52 (i := 2) rfl rfl ?_
          obtain ⟨v13, e20, hs⟩ := qv_bind hs
          refine qv_iald dX9_walksBy_53 e20 ?_
          refine qv_goto (tgt := 63) dX9_walksBy_54 rfl ?_
          cases hs
          exact qv_dp (qv_le_s (qv_le_s (qv_le_n (qv_le_n (qv_le_s (qv_le_s (qv_le_n qv_le_0))))))) K9
      replace hs := hj8
      by_cases c21 : a3 = 0
      · have hs := qv_pos c21 hs
        refine qv_if_eq (tgt := 36) dX9_walksBy_24 rfl (fun _ => ?_) (fun q => absurd c21 q)
        refine qv_aload_n dX9_walksBy_36 (i := 0) rfl rfl ?_
        obtain ⟨v5, e22, hs⟩ := qv_bind hs
        refine qv_getR dX9_walksBy_37 qF_X9_16 e22 ?_
        refine qv_iload_n dX9_walksBy_40 (i := 2) rfl rfl ?_
        obtain ⟨v6, e23, hs⟩ := qv_bind hs
        refine qv_iald dX9_walksBy_41 e23 ?_
        cases hs
        exact qv_dp (qv_le_s (qv_le_s (qv_le_s (qv_le_s (qv_le_s (qv_le_n (qv_le_n qv_le_0))))))) K7
      · have hs := qv_neg c21 hs
        refine qv_if_eq (tgt := 36) dX9_walksBy_24 rfl (fun q => absurd q c21) (fun _ => ?_)
        refine qv_aload_n dX9_walksBy_27 (i := 0) rfl rfl ?_
        obtain ⟨v7, e24, hs⟩ := qv_bind hs
        refine qv_getR dX9_walksBy_28 qF_X9_13 e24 ?_
        refine qv_iload_n dX9_walksBy_31 (i := 2) rfl rfl ?_
        obtain ⟨v8, e25, hs⟩ := qv_bind hs
        refine qv_iald dX9_walksBy_32 e25 ?_
        refine qv_goto (tgt := 42) dX9_walksBy_33 rfl ?_
        cases hs
        exact qv_dp (qv_le_s (qv_le_s (qv_le_s (qv_le_s (qv_le_s (qv_le_n (qv_le_n qv_le_0))))))) K7
theorem qD_X9_walksBy : qv_DV mX9_walksBy 3 := ⟨(qv_i17 (List.mem_of_getElem? (i := 45) (by decide +kernel))), (qv_i0 (List.mem_of_getElem? (i := 63) (by decide +kernel))), (qv_i1 (List.mem_of_getElem? (i := 14) (by decide +kernel))), (qv_i17 (List.mem_of_getElem? (i := 46) (by decide +kernel))), by decide +kernel, by decide +kernel⟩
/-- TrueOneWayModel.book(I)I -/
noncomputable def fX9_book (a0 : Nat) (a1 : Int32) (h : qv_H) : Option (Int32 × qv_H) :=
  (fX9_isIn a1 (0 : Int32) (1 : Int32)).bind fun v1 =>
  if v1 = 0 then
    (qv_ob h 8 a0).bind fun _ =>
    (fX9_no a0 (-2 : Int32) h).bind fun (v38, h39) =>
    some (v38, h39)
  else
    (qv_gI h 8 a0 39).bind fun v2 =>
    if v2 = 0 then
      (qv_ob h 8 a0).bind fun _ =>
      (fX9_no a0 (-3 : Int32) h).bind fun (v35, h36) =>
      some (v35, h36)
    else
      Option.bind (qv_loop (σ := Int32 × qv_H) (ρ := qv_H) (fun (x3, h4) =>
          if (66 : Int32) ≤ x3 then
            some (.inr h4)
          else
            (qv_gR h4 8 a0 38).bind fun v5 =>
            (qv_gI h4 8 a0 8).bind fun v6 =>
            Option.bind (α := Int32) (
                if v6 ≤ x3 then
                  some (0 : Int32)
                else
                  some (1 : Int32)
              ) fun m7 =>
            (qv_sI h4 false v5 x3 m7).bind fun h8 =>
            some (.inl (x3 + (1 : Int32), h8))
        ) ((0 : Int32), h)) fun h9 =>
      Option.bind (qv_loop (σ := Int32 × qv_H) (ρ := qv_H) (fun (x10, h11) =>
          (qv_gI h11 8 a0 39).bind fun v12 =>
          if v12 ≤ x10 then
            some (.inr h11)
          else
            Option.bind (qv_loop (σ := Int32 × qv_H) (ρ := qv_H) (fun (x13, h14) =>
                (qv_gI h14 8 a0 9).bind fun v15 =>
                if v15 ≤ x13 then
                  some (.inr h14)
                else
                  (qv_ob h14 8 a0).bind fun _ =>
                  (fX9_walksBy a0 x10 x13 (1 : Int32) h14).bind fun h17 =>
                  (qv_ob h17 8 a0).bind fun _ =>
                  (fX9_walksBy a0 x10 x13 (0 : Int32) h17).bind fun h19 =>
                  some (.inl (x13 + (1 : Int32), h19))
              ) ((0 : Int32), h11)) fun h20 =>
            some (.inl (x10 + (1 : Int32), h20))
        ) ((0 : Int32), h9)) fun h21 =>
      Option.bind (qv_loop (σ := Int32 × Int32 × Int32) (ρ := Int32 × Int32) (fun (x22, x23, x24) =>
          (qv_gI h21 8 a0 8).bind fun v25 =>
          if v25 ≤ x24 then
            some (.inr (x22, x23))
          else
            (qv_gR h21 8 a0 38).bind fun v26 =>
            (qv_gI h21 8 a0 39).bind fun v27 =>
            (qv_aI h21 false v26 (((6 : Int32) * v27) + x24)).bind fun v28 =>
            Option.bind (α := Int32) (
                if v28 ≤ 0 then
                  some (0 : Int32)
                else
                  some ((1 : Int32) <<< (x24 &&& 31))
              ) fun m29 =>
            some (.inl (x22 + v28, x23 ||| m29, x24 + (1 : Int32)))
        ) ((0 : Int32), (0 : Int32), (0 : Int32))) fun (y30, y31) =>
      (qv_pI h21 8 a0 39 (0 : Int32)).bind fun h32 =>
      Option.bind (α := Int32) (
          if a1 = 0 then
            some y30
          else
            some y31
        ) fun m33 =>
      some (m33, h32)
abbrev mX9_book : qv_M := (yX9_book, cX9_book, 6, (Option.some Jvm.ClassFile.FieldType.int), 3, 75)
set_option maxRecDepth 100000 in
set_option maxHeartbeats 4000000 in
theorem sX9_book {l : Launch} {g : qv_G} {a0 : Nat} {a1 : Int32} {h : qv_H} {r : Int32} {hz : qv_H} (hs : fX9_book a0 a1 h = some (r, hz)) : qv_J l g mX9_book 0 [some (.ref a0), some (.int a1), none, none, none, none] [] h (some (.int r), hz) := by
  unfold fX9_book at hs
  refine qv_iload_n dX9_book_0 (i := 1) rfl rfl ?_
  refine qv_iconst (v := (0 : Int32)) dX9_book_1 rfl ?_
  refine qv_iconst (v := (1 : Int32)) dX9_book_2 rfl ?_
  obtain ⟨v1, e1, hs⟩ := qv_bind hs
  refine qv_cS (d2 := mX9_isIn) (r := some (.int v1)) (h2 := h) (av := [.int a1, .int (0 : Int32), .int (1 : Int32)]) (st := []) dX9_book_3 qM_X9_113 qD_X9_isIn rfl ⟨by decide, by decide⟩ rfl (Nat.le_of_ble_eq_true rfl) (Nat.le_of_ble_eq_true rfl) (sX9_isIn e1) rfl ?_
  by_cases c2 : v1 = 0
  · have hs := qv_pos c2 hs
    refine qv_if_ne (tgt := 16) dX9_book_6 rfl (fun q => absurd c2 q) (fun _ => ?_)
    refine qv_aload_n dX9_book_9 (i := 0) rfl rfl ?_
    refine qv_bipush (v := (-2 : Int32)) dX9_book_10 rfl ?_
    obtain ⟨u37, e3, hs⟩ := qv_bind hs
    obtain ⟨⟨v38, h39⟩, e4, hs⟩ := qv_bind hs
    dsimp only at hs
    refine qv_cV (d2 := mX9_no) (o := a0) (ci := 8) (r := some (.int v38)) (h2 := h39) (av := [.int (-2 : Int32)]) (st := []) dX9_book_12 qM_X9_102 qD_X9_no e3 rfl rfl ⟨by decide, by decide⟩ rfl (Nat.le_of_ble_eq_true rfl) (Nat.le_of_ble_eq_true rfl) (sX9_no e4) rfl ?_
    obtain ⟨rfl, rfl⟩ := qv_pr hs
    exact qv_iret dX9_book_15 rfl
  · have hs := qv_neg c2 hs
    refine qv_if_ne (tgt := 16) dX9_book_6 rfl (fun _ => ?_) (fun q => absurd q c2)
    refine qv_aload_n dX9_book_16 (i := 0) rfl rfl ?_
    obtain ⟨v2, e5, hs⟩ := qv_bind hs
    refine qv_getI dX9_book_17 qF_X9_192 e5 ?_
    by_cases c6 : v2 = 0
    · have hs := qv_pos c6 hs
      refine qv_if_ne (tgt := 30) dX9_book_20 rfl (fun q => absurd c6 q) (fun _ => ?_)
      refine qv_aload_n dX9_book_23 (i := 0) rfl rfl ?_
      refine qv_bipush (v := (-3 : Int32)) dX9_book_24 rfl ?_
      obtain ⟨u34, e7, hs⟩ := qv_bind hs
      obtain ⟨⟨v35, h36⟩, e8, hs⟩ := qv_bind hs
      dsimp only at hs
      refine qv_cV (d2 := mX9_no) (o := a0) (ci := 8) (r := some (.int v35)) (h2 := h36) (av := [.int (-3 : Int32)]) (st := []) dX9_book_26 qM_X9_102 qD_X9_no e7 rfl rfl ⟨by decide, by decide⟩ rfl (Nat.le_of_ble_eq_true rfl) (Nat.le_of_ble_eq_true rfl) (sX9_no e8) rfl ?_
      obtain ⟨rfl, rfl⟩ := qv_pr hs
      exact qv_iret dX9_book_29 rfl
    · have hs := qv_neg c6 hs
      refine qv_if_ne (tgt := 30) dX9_book_20 rfl (fun _ => ?_) (fun q => absurd q c6)
      refine qv_iconst (v := (0 : Int32)) dX9_book_30 rfl ?_
      refine qv_istore_n (lo2 := [some (.ref a0), some (.int a1), some (.int (0 : Int32)), none, none, none]) dX9_book_31 (i := 2) rfl (by decide) rfl (Nat.le_of_ble_eq_true rfl) rfl ?_
      obtain ⟨h9, e10, hs⟩ := qv_bind hs
      have K9 : qv_J l g mX9_book 63 [some (.ref a0), some (.int a1), none, none, none, none] [] h9 (some (.int r), hz) := by
        refine qv_iconst (v := (0 : Int32)) dX9_book_63 rfl ?_
        refine qv_istore_n (lo2 := [some (.ref a0), some (.int a1), some (.int (0 : Int32)), none, none, none]) dX9_book_64 (i := 2) rfl (by decide) rfl (Nat.le_of_ble_eq_true rfl) rfl ?_
        obtain ⟨h21, e18, hs⟩ := qv_bind hs
        have K17 : qv_J l g mX9_book 109 [some (.ref a0), some (.int a1), none, none, none, none] [] h21 (some (.int r), hz) := by
          refine qv_iconst (v := (0 : Int32)) dX9_book_109 rfl ?_
          refine qv_istore_n (lo2 := [some (.ref a0), some (.int a1), some (.int (0 : Int32)), none, none, none]) dX9_book_110 (i := 2) rfl (by decide) rfl (Nat.le_of_ble_eq_true rfl) rfl ?_
          refine qv_iconst (v := (0 : Int32)) dX9_book_111 rfl ?_
          refine qv_istore_n (lo2 := [some (.ref a0), some (.int a1), some (.int (0 : Int32)), some (.int (0 : Int32)), none, none]) dX9_book_112 (i := 3) rfl (by decide) rfl (Nat.le_of_ble_eq_true rfl) rfl ?_
          refine qv_iconst (v := (0 : Int32)) dX9_book_113 rfl ?_
          refine qv_istore (lo2 := [some (.ref a0), some (.int a1), some (.int (0 : Int32)), some (.int (0 : Int32)), some (.int (0 : Int32)), none]) dX9_book_114 (by decide) rfl (Nat.le_of_ble_eq_true rfl) rfl ?_
          obtain ⟨⟨y30, y31⟩, e26, hs⟩ := qv_bind hs
          dsimp only at hs
          have K25 : qv_J l g mX9_book 169 [some (.ref a0), some (.int a1), some (.int y30), some (.int y31), none, none] [] h21 (some (.int r), hz) := by
            refine qv_aload_n dX9_book_169 (i := 0) rfl rfl ?_
            refine qv_iconst (v := (0 : Int32)) dX9_book_170 rfl ?_
            obtain ⟨h32, e33, hs⟩ := qv_bind hs
            refine qv_putI dX9_book_171 qF_X9_192 e33 ?_
            refine qv_iload_n dX9_book_174 (i := 1) rfl rfl ?_
            obtain ⟨m33, hj35, hs⟩ := qv_bind hs
            have K34 : qv_J l g mX9_book 183 [none, none, none, none, none, none] [.int m33] h32 (some (.int r), hz) := by
              obtain ⟨rfl, rfl⟩ := qv_pr hs
              exact qv_iret dX9_book_183 rfl
            replace hs := hj35
            by_cases c36 : a1 = 0
            · have hs := qv_pos c36 hs
              refine qv_if_ne (tgt := 182) dX9_book_175 rfl (fun q => absurd c36 q) (fun _ => ?_)
              refine qv_iload_n dX9_book_178 (i := 2) rfl rfl ?_
              refine qv_goto (tgt := 183) dX9_book_179 rfl ?_
              cases hs
              exact qv_dp (qv_le_n (qv_le_n (qv_le_n (qv_le_n (qv_le_n (qv_le_n qv_le_0)))))) K34
            · have hs := qv_neg c36 hs
              refine qv_if_ne (tgt := 182) dX9_book_175 rfl (fun _ => ?_) (fun q => absurd q c36)
              refine qv_iload_n dX9_book_182 (i := 3) rfl rfl ?_
              cases hs
              exact qv_dp (qv_le_n (qv_le_n (qv_le_n (qv_le_n (qv_le_n (qv_le_n qv_le_0)))))) K34
          obtain ⟨n32, e26⟩ := qv_loop_of e26
          refine qv_dp (qv_le_s (qv_le_s (qv_le_s (qv_le_s (qv_le_s (qv_le_n qv_le_0)))))) (?_ : qv_J l g mX9_book 116 [some (.ref a0), some (.int a1), some (.int (0 : Int32)), some (.int (0 : Int32)), some (.int (0 : Int32)), none] [] h21 (some (.int r), hz))
          revert e26
          suffices lj31 : ∀ (x22 : Int32) (x23 : Int32) (x24 : Int32), qv_it _ n32 (x22, x23, x24) = some (y30, y31) → qv_J l g mX9_book 116 [some (.ref a0), some (.int a1), some (.int x22), some (.int x23), some (.int x24), none] [] h21 (some (.int r), hz) from lj31 (0 : Int32) (0 : Int32) (0 : Int32)
          induction n32 with
          | zero =>
            intro x22 x23 x24 e26
            cases e26
          | succ n32 ih28 =>
            intro x22 x23 x24 e26
            obtain ⟨_, hs, eb29⟩ := qv_it_s e26
            dsimp only at hs
            refine qv_iload dX9_book_116 rfl ?_
            refine qv_aload_n dX9_book_118 (i := 0) rfl rfl ?_
            obtain ⟨v25, e37, hs⟩ := qv_bind hs
            refine qv_getI dX9_book_119 qF_X9_34 e37 ?_
            by_cases c38 : v25 ≤ x24
            · have hs := qv_pos c38 hs
              refine qv_icmp_ge (tgt := 169) dX9_book_122 rfl (fun _ => ?_) (fun q => absurd c38 q)
              cases hs
              cases qv_nx_r eb29
              exact qv_dp (qv_le_s (qv_le_s (qv_le_s (qv_le_s (qv_le_n (qv_le_n qv_le_0)))))) K25
            · have hs := qv_neg c38 hs
              refine qv_icmp_ge (tgt := 169) dX9_book_122 rfl (fun q => absurd q c38) (fun _ => ?_)
              refine qv_aload_n dX9_book_125 (i := 0) rfl rfl ?_
              obtain ⟨v26, e39, hs⟩ := qv_bind hs
              refine qv_getR dX9_book_126 qF_X9_86 e39 ?_
              refine qv_bipush (v := (6 : Int32)) dX9_book_129 rfl ?_
              refine qv_aload_n dX9_book_131 (i := 0) rfl rfl ?_
              obtain ⟨v27, e40, hs⟩ := qv_bind hs
              refine qv_getI dX9_book_132 qF_X9_192 e40 ?_
              refine qv_imul dX9_book_135 ?_
              refine qv_iload dX9_book_136 rfl ?_
              refine qv_iadd dX9_book_138 ?_
              obtain ⟨v28, e41, hs⟩ := qv_bind hs
              refine qv_iald dX9_book_139 e41 ?_
              refine qv_istore (lo2 := [some (.ref a0), some (.int a1), some (.int x22), some (.int x23), some (.int x24), some (.int v28)]) dX9_book_140 (by decide) rfl (Nat.le_of_ble_eq_true rfl) rfl ?_
              refine qv_iload_n dX9_book_142 (i := 2) rfl rfl ?_
              refine qv_iload dX9_book_143 rfl ?_
              refine qv_iadd dX9_book_145 ?_
              refine qv_istore_n (lo2 := [some (.ref a0), some (.int a1), some (.int (x22 + v28)), some (.int x23), some (.int x24), some (.int v28)]) dX9_book_146 (i := 2) rfl (by decide) rfl (Nat.le_of_ble_eq_true rfl) rfl ?_
              refine qv_iload_n dX9_book_147 (i := 3) rfl rfl ?_
              refine qv_iload dX9_book_148 rfl ?_
              obtain ⟨m29, hj43, hs⟩ := qv_bind hs
              have K42 : qv_J l g mX9_book 161 [some (.ref a0), some (.int a1), some (.int (x22 + v28)), none, some (.int x24), none] [.int m29, .int x23] h21 (some (.int r), hz) := by
                refine qv_ior dX9_book_161 ?_
                refine qv_istore_n (lo2 := [some (.ref a0), some (.int a1), some (.int (x22 + v28)), some (.int (x23 ||| m29)), some (.int x24), none]) dX9_book_162 (i := 3) rfl (by decide) rfl (Nat.le_of_ble_eq_true rfl) rfl ?_
                refine qv_iinc (v := x24 + (1 : Int32)) (lo2 := [some (.ref a0), some (.int a1), some (.int (x22 + v28)), some (.int (x23 ||| m29)), some (.int (x24 + (1 : Int32))), none]) dX9_book_163 rfl rfl (by decide) rfl rfl ?_
                refine qv_goto (tgt := 116) dX9_book_166 rfl ?_
                cases hs
                exact qv_dp (qv_le_s (qv_le_s (qv_le_s (qv_le_s (qv_le_s (qv_le_n qv_le_0)))))) (ih28 _ _ _ (qv_nx_l eb29))
              replace hs := hj43
              by_cases c44 : v28 ≤ 0
              · have hs := qv_pos c44 hs
                refine qv_if_le (tgt := 160) dX9_book_150 rfl (fun _ => ?_) (fun q => absurd c44 q)
                refine qv_iconst (v := (0 : Int32)) dX9_book_160 rfl ?_
                cases hs
                exact qv_dp (qv_le_s (qv_le_s (qv_le_s (qv_le_n (qv_le_s (qv_le_n qv_le_0)))))) K42
              · have hs := qv_neg c44 hs
                refine qv_if_le (tgt := 160) dX9_book_150 rfl (fun q => absurd q c44) (fun _ => ?_)
                refine qv_iconst (v := (1 : Int32)) dX9_book_153 rfl ?_
                refine qv_iload dX9_book_154 rfl ?_
                refine qv_ishl dX9_book_156 ?_
                refine qv_goto (tgt := 161) dX9_book_157 rfl ?_
                cases hs
                exact qv_dp (qv_le_s (qv_le_s (qv_le_s (qv_le_n (qv_le_s (qv_le_n qv_le_0)))))) K42
        obtain ⟨n24, e18⟩ := qv_loop_of e18
        refine qv_dp (qv_le_s (qv_le_s (qv_le_s (qv_le_n (qv_le_n (qv_le_n qv_le_0)))))) (?_ : qv_J l g mX9_book 65 [some (.ref a0), some (.int a1), some (.int (0 : Int32)), none, none, none] [] h9 (some (.int r), hz))
        revert e18
        suffices lj23 : ∀ (x10 : Int32) (h11 : qv_H), qv_it _ n24 (x10, h11) = some h21 → qv_J l g mX9_book 65 [some (.ref a0), some (.int a1), some (.int x10), none, none, none] [] h11 (some (.int r), hz) from lj23 (0 : Int32) h9
        induction n24 with
        | zero =>
          intro x10 h11 e18
          cases e18
        | succ n24 ih20 =>
          intro x10 h11 e18
          obtain ⟨_, hs, eb21⟩ := qv_it_s e18
          dsimp only at hs
          refine qv_iload_n dX9_book_65 (i := 2) rfl rfl ?_
          refine qv_aload_n dX9_book_66 (i := 0) rfl rfl ?_
          obtain ⟨v12, e45, hs⟩ := qv_bind hs
          refine qv_getI dX9_book_67 qF_X9_192 e45 ?_
          by_cases c46 : v12 ≤ x10
          · have hs := qv_pos c46 hs
            refine qv_icmp_ge (tgt := 109) dX9_book_70 rfl (fun _ => ?_) (fun q => absurd c46 q)
            cases hs
            cases qv_nx_r eb21
            exact qv_dp (qv_le_s (qv_le_s (qv_le_n (qv_le_n (qv_le_n (qv_le_n qv_le_0)))))) K17
          · have hs := qv_neg c46 hs
            refine qv_icmp_ge (tgt := 109) dX9_book_70 rfl (fun q => absurd q c46) (fun _ => ?_)
            refine qv_iconst (v := (0 : Int32)) dX9_book_73 rfl ?_
            refine qv_istore_n (lo2 := [some (.ref a0), some (.int a1), some (.int x10), some (.int (0 : Int32)), none, none]) dX9_book_74 (i := 3) rfl (by decide) rfl (Nat.le_of_ble_eq_true rfl) rfl ?_
            obtain ⟨h20, e48, hs⟩ := qv_bind hs
            have K47 : qv_J l g mX9_book 103 [some (.ref a0), some (.int a1), some (.int x10), none, none, none] [] h20 (some (.int r), hz) := by
              refine qv_iinc (v := x10 + (1 : Int32)) (lo2 := [some (.ref a0), some (.int a1), some (.int (x10 + (1 : Int32))), none, none, none]) dX9_book_103 rfl rfl (by decide) rfl rfl ?_
              refine qv_goto (tgt := 65) dX9_book_106 rfl ?_
              cases hs
              exact qv_dp (qv_le_s (qv_le_s (qv_le_s (qv_le_n (qv_le_n (qv_le_n qv_le_0)))))) (ih20 _ _ (qv_nx_l eb21))
            obtain ⟨n54, e48⟩ := qv_loop_of e48
            refine qv_dp (qv_le_s (qv_le_s (qv_le_s (qv_le_s (qv_le_n (qv_le_n qv_le_0)))))) (?_ : qv_J l g mX9_book 75 [some (.ref a0), some (.int a1), some (.int x10), some (.int (0 : Int32)), none, none] [] h11 (some (.int r), hz))
            revert e48
            suffices lj53 : ∀ (x13 : Int32) (h14 : qv_H), qv_it _ n54 (x13, h14) = some h20 → qv_J l g mX9_book 75 [some (.ref a0), some (.int a1), some (.int x10), some (.int x13), none, none] [] h14 (some (.int r), hz) from lj53 (0 : Int32) h11
            induction n54 with
            | zero =>
              intro x13 h14 e48
              cases e48
            | succ n54 ih50 =>
              intro x13 h14 e48
              obtain ⟨_, hs, eb51⟩ := qv_it_s e48
              dsimp only at hs
              refine qv_iload_n dX9_book_75 (i := 3) rfl rfl ?_
              refine qv_aload_n dX9_book_76 (i := 0) rfl rfl ?_
              obtain ⟨v15, e55, hs⟩ := qv_bind hs
              refine qv_getI dX9_book_77 qF_X9_137 e55 ?_
              by_cases c56 : v15 ≤ x13
              · have hs := qv_pos c56 hs
                refine qv_icmp_ge (tgt := 103) dX9_book_80 rfl (fun _ => ?_) (fun q => absurd c56 q)
                cases hs
                cases qv_nx_r eb51
                exact qv_dp (qv_le_s (qv_le_s (qv_le_s (qv_le_n (qv_le_n (qv_le_n qv_le_0)))))) K47
              · have hs := qv_neg c56 hs
                refine qv_icmp_ge (tgt := 103) dX9_book_80 rfl (fun q => absurd q c56) (fun _ => ?_)
                refine qv_aload_n dX9_book_83 (i := 0) rfl rfl ?_
                refine qv_iload_n dX9_book_84 (i := 2) rfl rfl ?_
                refine qv_iload_n dX9_book_85 (i := 3) rfl rfl ?_
                refine qv_iconst (v := (1 : Int32)) dX9_book_86 rfl ?_
                obtain ⟨u16, e57, hs⟩ := qv_bind hs
                obtain ⟨h17, e58, hs⟩ := qv_bind hs
                refine qv_cV (d2 := mX9_walksBy) (o := a0) (ci := 8) (r := none) (h2 := h17) (av := [.int x10, .int x13, .int (1 : Int32)]) (st := []) dX9_book_87 qM_X9_297 qD_X9_walksBy e57 rfl rfl ⟨by decide, by decide⟩ rfl (Nat.le_of_ble_eq_true rfl) (Nat.le_of_ble_eq_true rfl) (sX9_walksBy e58) rfl ?_
                refine qv_aload_n dX9_book_90 (i := 0) rfl rfl ?_
                refine qv_iload_n dX9_book_91 (i := 2) rfl rfl ?_
                refine qv_iload_n dX9_book_92 (i := 3) rfl rfl ?_
                refine qv_iconst (v := (0 : Int32)) dX9_book_93 rfl ?_
                obtain ⟨u18, e59, hs⟩ := qv_bind hs
                obtain ⟨h19, e60, hs⟩ := qv_bind hs
                refine qv_cV (d2 := mX9_walksBy) (o := a0) (ci := 8) (r := none) (h2 := h19) (av := [.int x10, .int x13, .int (0 : Int32)]) (st := []) dX9_book_94 qM_X9_297 qD_X9_walksBy e59 rfl rfl ⟨by decide, by decide⟩ rfl (Nat.le_of_ble_eq_true rfl) (Nat.le_of_ble_eq_true rfl) (sX9_walksBy e60) rfl ?_
                refine qv_iinc (v := x13 + (1 : Int32)) (lo2 := [some (.ref a0), some (.int a1), some (.int x10), some (.int (x13 + (1 : Int32))), none, none]) dX9_book_97 rfl rfl (by decide) rfl rfl ?_
                refine qv_goto (tgt := 75) dX9_book_100 rfl ?_
                cases hs
                exact qv_dp (qv_le_s (qv_le_s (qv_le_s (qv_le_s (qv_le_n (qv_le_n qv_le_0)))))) (ih50 _ _ (qv_nx_l eb51))
      obtain ⟨n16, e10⟩ := qv_loop_of e10
      refine qv_dp (qv_le_s (qv_le_s (qv_le_s (qv_le_n (qv_le_n (qv_le_n qv_le_0)))))) (?_ : qv_J l g mX9_book 32 [some (.ref a0), some (.int a1), some (.int (0 : Int32)), none, none, none] [] h (some (.int r), hz))
      revert e10
      suffices lj15 : ∀ (x3 : Int32) (h4 : qv_H), qv_it _ n16 (x3, h4) = some h9 → qv_J l g mX9_book 32 [some (.ref a0), some (.int a1), some (.int x3), none, none, none] [] h4 (some (.int r), hz) from lj15 (0 : Int32) h
      induction n16 with
      | zero =>
        intro x3 h4 e10
        cases e10
      | succ n16 ih12 =>
        intro x3 h4 e10
        obtain ⟨_, hs, eb13⟩ := qv_it_s e10
        dsimp only at hs
        refine qv_iload_n dX9_book_32 (i := 2) rfl rfl ?_
        refine qv_bipush (v := (66 : Int32)) dX9_book_33 rfl ?_
        by_cases c61 : (66 : Int32) ≤ x3
        · have hs := qv_pos c61 hs
          refine qv_icmp_ge (tgt := 63) dX9_book_35 rfl (fun _ => ?_) (fun q => absurd c61 q)
          cases hs
          cases qv_nx_r eb13
          exact qv_dp (qv_le_s (qv_le_s (qv_le_n (qv_le_n (qv_le_n (qv_le_n qv_le_0)))))) K9
        · have hs := qv_neg c61 hs
          refine qv_icmp_ge (tgt := 63) dX9_book_35 rfl (fun q => absurd q c61) (fun _ => ?_)
          refine qv_aload_n dX9_book_38 (i := 0) rfl rfl ?_
          obtain ⟨v5, e62, hs⟩ := qv_bind hs
          refine qv_getR dX9_book_39 qF_X9_86 e62 ?_
          refine qv_iload_n dX9_book_42 (i := 2) rfl rfl ?_
          refine qv_iload_n dX9_book_43 (i := 2) rfl rfl ?_
          refine qv_aload_n dX9_book_44 (i := 0) rfl rfl ?_
          obtain ⟨v6, e63, hs⟩ := qv_bind hs
          refine qv_getI dX9_book_45 qF_X9_34 e63 ?_
          obtain ⟨m7, hj65, hs⟩ := qv_bind hs
          have K64 : qv_J l g mX9_book 56 [some (.ref a0), some (.int a1), some (.int x3), none, none, none] [.int m7, .int x3, .ref v5] h4 (some (.int r), hz) := by
            obtain ⟨h8, e66, hs⟩ := qv_bind hs
            refine qv_iast dX9_book_56 e66 ?_
            refine qv_iinc (v := x3 + (1 : Int32)) (lo2 := [some (.ref a0), some (.int a1), some (.int (x3 + (1 : Int32))), none, none, none]) dX9_book_57 rfl rfl (by decide) rfl rfl ?_
            refine qv_goto (tgt := 32) dX9_book_60 rfl ?_
            cases hs
            exact qv_dp (qv_le_s (qv_le_s (qv_le_s (qv_le_n (qv_le_n (qv_le_n qv_le_0)))))) (ih12 _ _ (qv_nx_l eb13))
          replace hs := hj65
          by_cases c67 : v6 ≤ x3
          · have hs := qv_pos c67 hs
            refine qv_icmp_ge (tgt := 55) dX9_book_48 rfl (fun _ => ?_) (fun q => absurd c67 q)
            refine qv_iconst (v := (0 : Int32)) dX9_book_55 rfl ?_
            cases hs
            exact qv_dp (qv_le_s (qv_le_s (qv_le_s (qv_le_n (qv_le_n (qv_le_n qv_le_0)))))) K64
          · have hs := qv_neg c67 hs
            refine qv_icmp_ge (tgt := 55) dX9_book_48 rfl (fun q => absurd q c67) (fun _ => ?_)
            refine qv_iconst (v := (1 : Int32)) dX9_book_51 rfl ?_
            refine qv_goto (tgt := 56) dX9_book_52 rfl ?_
            cases hs
            exact qv_dp (qv_le_s (qv_le_s (qv_le_s (qv_le_n (qv_le_n (qv_le_n qv_le_0)))))) K64
theorem qD_X9_book : qv_DV mX9_book 1 := ⟨(qv_i17 (List.mem_of_getElem? (i := 41) (by decide +kernel))), (qv_i17 (List.mem_of_getElem? (i := 42) (by decide +kernel))), (qv_i1 (List.mem_of_getElem? (i := 14) (by decide +kernel))), (qv_i17 (List.mem_of_getElem? (i := 43) (by decide +kernel))), by decide +kernel, by decide +kernel⟩
/-- TrueOneWayModel.next()I -/
noncomputable def fX9_next (a0 : Nat) (h : qv_H) : Option (Int32 × qv_H) :=
  (qv_ob h 8 a0).bind fun _ =>
  (fX9_findWorlds a0 (0 : Int32) h).bind fun h2 =>
  (qv_ob h2 8 a0).bind fun _ =>
  (fX9_openFacts a0 h2).bind fun v4 =>
  Option.bind (qv_loop (σ := Int32 × Int32 × Int32) (ρ := Int32) (fun (x5, x6, x7) =>
      (qv_gI h2 8 a0 8).bind fun v8 =>
      if v8 ≤ x7 then
        some (.inr x5)
      else
        Option.bind (qv_loop (σ := Int32 × Int32 × Int32) (ρ := Int32 × Int32) (fun (x9, x10, x11) =>
            (qv_gI h2 8 a0 10).bind fun v12 =>
            if v12 ≤ x11 then
              some (.inr (x9, x10))
            else
              (qv_gR h2 8 a0 7).bind fun v13 =>
              (qv_aI h2 false v13 x7).bind fun v14 =>
              Option.bind (α := Int32 × Int32) (
                  if (((v14 &&& v4) >>> (x11 &&& 31)) &&& (1 : Int32)) = 0 then
                    some (x9, x10)
                  else
                    Option.bind (qv_loop (σ := Int32 × Int32) (ρ := Int32) (fun (x15, x16) =>
                        (qv_gI h2 8 a0 33).bind fun v17 =>
                        if v17 ≤ x16 then
                          some (.inr x15)
                        else
                          (qv_gR h2 8 a0 32).bind fun v18 =>
                          (qv_aI h2 false v18 x16).bind fun v19 =>
                          some (.inl (x15 + ((v19 >>> (x11 &&& 31)) &&& (1 : Int32)), x16 + (1 : Int32)))
                      ) ((0 : Int32), (0 : Int32))) fun y20 =>
                    (qv_gI h2 8 a0 33).bind fun v21 =>
                    Option.bind (α := Int32) (
                        if ((2 : Int32) * y20) ≤ v21 then
                          (qv_gI h2 8 a0 33).bind fun v22 =>
                          some (v22 - y20)
                        else
                          some y20
                      ) fun m23 =>
                    if x9 < 0 then
                      some (x7, m23)
                    else
                      if m23 < x10 then
                        some (x7, m23)
                      else
                        some (x9, x10)
                ) fun (m24, m25) =>
              some (.inl (m24, m25, x11 + (1 : Int32)))
          ) (x5, x6, (0 : Int32))) fun (y26, y27) =>
        some (.inl (y26, y27, x7 + (1 : Int32)))
    ) ((-9 : Int32), (0 : Int32), (0 : Int32))) fun y28 =>
  some (y28, h2)
abbrev mX9_next : qv_M := (yX9_next, cX9_next, 8, (Option.some Jvm.ClassFile.FieldType.int), 4, 91)
set_option maxRecDepth 100000 in
set_option maxHeartbeats 4000000 in
theorem sX9_next {l : Launch} {g : qv_G} {a0 : Nat} {h : qv_H} {r : Int32} {hz : qv_H} (hs : fX9_next a0 h = some (r, hz)) : qv_J l g mX9_next 0 [some (.ref a0), none, none, none, none, none, none, none] [] h (some (.int r), hz) := by
  unfold fX9_next at hs
  refine qv_aload_n dX9_next_0 (i := 0) rfl rfl ?_
  refine qv_iconst (v := (0 : Int32)) dX9_next_1 rfl ?_
  obtain ⟨u1, e1, hs⟩ := qv_bind hs
  obtain ⟨h2, e2, hs⟩ := qv_bind hs
  refine qv_cV (d2 := mX9_findWorlds) (o := a0) (ci := 8) (r := none) (h2 := h2) (av := [.int (0 : Int32)]) (st := []) dX9_next_2 qM_X9_232 qD_X9_findWorlds e1 rfl rfl ⟨by decide, by decide⟩ rfl (Nat.le_of_ble_eq_true rfl) (Nat.le_of_ble_eq_true rfl) (sX9_findWorlds e2) rfl ?_
  refine qv_aload_n dX9_next_5 (i := 0) rfl rfl ?_
  obtain ⟨u3, e3, hs⟩ := qv_bind hs
  obtain ⟨v4, e4, hs⟩ := qv_bind hs
  refine qv_cV (d2 := mX9_openFacts) (o := a0) (ci := 8) (r := some (.int v4)) (h2 := h2) (av := []) (st := []) dX9_next_6 qM_X9_251 qD_X9_openFacts e3 rfl rfl ⟨by decide, by decide⟩ rfl (Nat.le_of_ble_eq_true rfl) (Nat.le_of_ble_eq_true rfl) (sX9_openFacts e4) rfl ?_
  refine qv_istore_n (lo2 := [some (.ref a0), some (.int v4), none, none, none, none, none, none]) dX9_next_9 (i := 1) rfl (by decide) rfl (Nat.le_of_ble_eq_true rfl) rfl ?_
  refine qv_bipush (v := (-9 : Int32)) dX9_next_10 rfl ?_
  refine qv_istore_n (lo2 := [some (.ref a0), some (.int v4), some (.int (-9 : Int32)), none, none, none, none, none]) dX9_next_12 (i := 2) rfl (by decide) rfl (Nat.le_of_ble_eq_true rfl) rfl ?_
  refine qv_iconst (v := (0 : Int32)) dX9_next_13 rfl ?_
  refine qv_istore_n (lo2 := [some (.ref a0), some (.int v4), some (.int (-9 : Int32)), some (.int (0 : Int32)), none, none, none, none]) dX9_next_14 (i := 3) rfl (by decide) rfl (Nat.le_of_ble_eq_true rfl) rfl ?_
  refine qv_iconst (v := (0 : Int32)) dX9_next_15 rfl ?_
  refine qv_istore (lo2 := [some (.ref a0), some (.int v4), some (.int (-9 : Int32)), some (.int (0 : Int32)), some (.int (0 : Int32)), none, none, none]) dX9_next_16 (by decide) rfl (Nat.le_of_ble_eq_true rfl) rfl ?_
  obtain ⟨y28, e6, hs⟩ := qv_bind hs
  have K5 : qv_J l g mX9_next 153 [none, none, some (.int y28), none, none, none, none, none] [] h2 (some (.int r), hz) := by
    refine qv_iload_n dX9_next_153 (i := 2) rfl rfl ?_
    obtain ⟨rfl, rfl⟩ := qv_pr hs
    exact qv_iret dX9_next_154 rfl
  obtain ⟨n12, e6⟩ := qv_loop_of e6
  refine qv_dp (qv_le_s (qv_le_s (qv_le_s (qv_le_s (qv_le_s (qv_le_n (qv_le_n (qv_le_n qv_le_0)))))))) (?_ : qv_J l g mX9_next 18 [some (.ref a0), some (.int v4), some (.int (-9 : Int32)), some (.int (0 : Int32)), some (.int (0 : Int32)), none, none, none] [] h2 (some (.int r), hz))
  revert e6
  suffices lj11 : ∀ (x5 : Int32) (x6 : Int32) (x7 : Int32), qv_it _ n12 (x5, x6, x7) = some y28 → qv_J l g mX9_next 18 [some (.ref a0), some (.int v4), some (.int x5), some (.int x6), some (.int x7), none, none, none] [] h2 (some (.int r), hz) from lj11 (-9 : Int32) (0 : Int32) (0 : Int32)
  induction n12 with
  | zero =>
    intro x5 x6 x7 e6
    cases e6
  | succ n12 ih8 =>
    intro x5 x6 x7 e6
    obtain ⟨_, hs, eb9⟩ := qv_it_s e6
    dsimp only at hs
    refine qv_iload dX9_next_18 rfl ?_
    refine qv_aload_n dX9_next_20 (i := 0) rfl rfl ?_
    obtain ⟨v8, e13, hs⟩ := qv_bind hs
    refine qv_getI dX9_next_21 qF_X9_34 e13 ?_
    by_cases c14 : v8 ≤ x7
    · have hs := qv_pos c14 hs
      refine qv_icmp_ge (tgt := 153) dX9_next_24 rfl (fun _ => ?_) (fun q => absurd c14 q)
      cases hs
      cases qv_nx_r eb9
      exact qv_dp (qv_le_n (qv_le_n (qv_le_s (qv_le_n (qv_le_n (qv_le_n (qv_le_n (qv_le_n qv_le_0)))))))) K5
    · have hs := qv_neg c14 hs
      refine qv_icmp_ge (tgt := 153) dX9_next_24 rfl (fun q => absurd q c14) (fun _ => ?_)
      refine qv_iconst (v := (0 : Int32)) dX9_next_27 rfl ?_
      refine qv_istore (lo2 := [some (.ref a0), some (.int v4), some (.int x5), some (.int x6), some (.int x7), some (.int (0 : Int32)), none, none]) dX9_next_28 (by decide) rfl (Nat.le_of_ble_eq_true rfl) rfl ?_
      obtain ⟨⟨y26, y27⟩, e16, hs⟩ := qv_bind hs
      dsimp only at hs
      have K15 : qv_J l g mX9_next 147 [some (.ref a0), some (.int v4), some (.int y26), some (.int y27), some (.int x7), none, none, none] [] h2 (some (.int r), hz) := by
        refine qv_iinc (v := x7 + (1 : Int32)) (lo2 := [some (.ref a0), some (.int v4), some (.int y26), some (.int y27), some (.int (x7 + (1 : Int32))), none, none, none]) dX9_next_147 rfl rfl (by decide) rfl rfl ?_
        refine qv_goto (tgt := 18) dX9_next_150 rfl ?_
        cases hs
        exact qv_dp (qv_le_s (qv_le_s (qv_le_s (qv_le_s (qv_le_s (qv_le_n (qv_le_n (qv_le_n qv_le_0)))))))) (ih8 _ _ _ (qv_nx_l eb9))
      obtain ⟨n22, e16⟩ := qv_loop_of e16
      refine qv_dp (qv_le_s (qv_le_s (qv_le_s (qv_le_s (qv_le_s (qv_le_s (qv_le_n (qv_le_n qv_le_0)))))))) (?_ : qv_J l g mX9_next 30 [some (.ref a0), some (.int v4), some (.int x5), some (.int x6), some (.int x7), some (.int (0 : Int32)), none, none] [] h2 (some (.int r), hz))
      revert e16
      suffices lj21 : ∀ (x9 : Int32) (x10 : Int32) (x11 : Int32), qv_it _ n22 (x9, x10, x11) = some (y26, y27) → qv_J l g mX9_next 30 [some (.ref a0), some (.int v4), some (.int x9), some (.int x10), some (.int x7), some (.int x11), none, none] [] h2 (some (.int r), hz) from lj21 x5 x6 (0 : Int32)
      induction n22 with
      | zero =>
        intro x9 x10 x11 e16
        cases e16
      | succ n22 ih18 =>
        intro x9 x10 x11 e16
        obtain ⟨_, hs, eb19⟩ := qv_it_s e16
        dsimp only at hs
        refine qv_iload dX9_next_30 rfl ?_
        refine qv_aload_n dX9_next_32 (i := 0) rfl rfl ?_
        obtain ⟨v12, e23, hs⟩ := qv_bind hs
        refine qv_getI dX9_next_33 qF_X9_89 e23 ?_
        by_cases c24 : v12 ≤ x11
        · have hs := qv_pos c24 hs
          refine qv_icmp_ge (tgt := 147) dX9_next_36 rfl (fun _ => ?_) (fun q => absurd c24 q)
          cases hs
          cases qv_nx_r eb19
          exact qv_dp (qv_le_s (qv_le_s (qv_le_s (qv_le_s (qv_le_s (qv_le_n (qv_le_n (qv_le_n qv_le_0)))))))) K15
        · have hs := qv_neg c24 hs
          refine qv_icmp_ge (tgt := 147) dX9_next_36 rfl (fun q => absurd q c24) (fun _ => ?_)
          refine qv_aload_n dX9_next_39 (i := 0) rfl rfl ?_
          obtain ⟨v13, e25, hs⟩ := qv_bind hs
          refine qv_getR dX9_next_40 qF_X9_31 e25 ?_
          refine qv_iload dX9_next_43 rfl ?_
          obtain ⟨v14, e26, hs⟩ := qv_bind hs
          refine qv_iald dX9_next_45 e26 ?_
          refine qv_iload_n dX9_next_46 (i := 1) rfl rfl ?_
          refine qv_iand dX9_next_47 ?_
          refine qv_iload dX9_next_48 rfl ?_
          refine qv_ishr dX9_next_50 ?_
          refine qv_iconst (v := (1 : Int32)) dX9_next_51 rfl ?_
          refine qv_iand dX9_next_52 ?_
          obtain ⟨⟨m24, m25⟩, hj28, hs⟩ := qv_bind hs
          dsimp only at hs
          have K27 : qv_J l g mX9_next 141 [some (.ref a0), some (.int v4), some (.int m24), some (.int m25), some (.int x7), some (.int x11), none, none] [] h2 (some (.int r), hz) := by
            refine qv_iinc (v := x11 + (1 : Int32)) (lo2 := [some (.ref a0), some (.int v4), some (.int m24), some (.int m25), some (.int x7), some (.int (x11 + (1 : Int32))), none, none]) dX9_next_141 rfl rfl (by decide) rfl rfl ?_
            refine qv_goto (tgt := 30) dX9_next_144 rfl ?_
            cases hs
            exact qv_dp (qv_le_s (qv_le_s (qv_le_s (qv_le_s (qv_le_s (qv_le_s (qv_le_n (qv_le_n qv_le_0)))))))) (ih18 _ _ _ (qv_nx_l eb19))
          replace hs := hj28
          by_cases c29 : (((v14 &&& v4) >>> (x11 &&& 31)) &&& (1 : Int32)) = 0
          · have hs := qv_pos c29 hs
            refine qv_if_ne (tgt := 59) dX9_next_53 rfl (fun q => absurd c29 q) (fun _ => ?_)
            refine qv_goto (tgt := 141) dX9_next_56 rfl ?_
            cases hs
            exact qv_dp (qv_le_s (qv_le_s (qv_le_s (qv_le_s (qv_le_s (qv_le_s (qv_le_n (qv_le_n qv_le_0)))))))) K27
          · have hs := qv_neg c29 hs
            refine qv_if_ne (tgt := 59) dX9_next_53 rfl (fun _ => ?_) (fun q => absurd q c29)
            refine qv_iconst (v := (0 : Int32)) dX9_next_59 rfl ?_
            refine qv_istore (lo2 := [some (.ref a0), some (.int v4), some (.int x9), some (.int x10), some (.int x7), some (.int x11), some (.int (0 : Int32)), none]) dX9_next_60 (by decide) rfl (Nat.le_of_ble_eq_true rfl) rfl ?_
            refine qv_iconst (v := (0 : Int32)) dX9_next_62 rfl ?_
            refine qv_istore (lo2 := [some (.ref a0), some (.int v4), some (.int x9), some (.int x10), some (.int x7), some (.int x11), some (.int (0 : Int32)), some (.int (0 : Int32))]) dX9_next_63 (by decide) rfl (Nat.le_of_ble_eq_true rfl) rfl ?_
            obtain ⟨y20, e31, hs⟩ := qv_bind hs
            have K30 : qv_J l g mX9_next 97 [some (.ref a0), some (.int v4), some (.int x9), some (.int x10), some (.int x7), some (.int x11), some (.int y20), none] [] h2 (some (.int r), hz) := by
              refine qv_iconst (v := (2 : Int32)) dX9_next_97 rfl ?_
              refine qv_iload dX9_next_98 rfl ?_
              refine qv_imul dX9_next_100 ?_
              refine qv_aload_n dX9_next_101 (i := 0) rfl rfl ?_
              obtain ⟨v21, e38, hs⟩ := qv_bind hs
              refine qv_getI dX9_next_102 qF_X9_223 e38 ?_
              obtain ⟨m23, hj40, hs⟩ := qv_bind hs
              have K39 : qv_J l g mX9_next 120 [some (.ref a0), some (.int v4), some (.int x9), some (.int x10), some (.int x7), some (.int x11), none, none] [.int m23] h2 (some (.int r), hz) := by
                refine qv_istore (lo2 := [some (.ref a0), some (.int v4), some (.int x9), some (.int x10), some (.int x7), some (.int x11), none, some (.int m23)]) dX9_next_120 (by decide) rfl (Nat.le_of_ble_eq_true rfl) rfl ?_
                refine qv_iload_n dX9_next_122 (i := 2) rfl rfl ?_
                by_cases c41 : x9 < 0
                · have hs := qv_pos c41 hs
                  refine qv_if_lt (tgt := 135) dX9_next_123 rfl (fun _ => ?_) (fun q => absurd c41 q)
                  refine qv_iload dX9_next_135 rfl ?_
                  refine qv_istore_n (lo2 := [some (.ref a0), some (.int v4), some (.int x7), some (.int x10), some (.int x7), some (.int x11), none, some (.int m23)]) dX9_next_137 (i := 2) rfl (by decide) rfl (Nat.le_of_ble_eq_true rfl) rfl ?_
                  refine qv_iload dX9_next_138 rfl ?_
                  refine qv_istore_n (lo2 := [some (.ref a0), some (.int v4), some (.int x7), some (.int m23), some (.int x7), some (.int x11), none, some (.int m23)]) dX9_next_140 (i := 3) rfl (by decide) rfl (Nat.le_of_ble_eq_true rfl) rfl ?_
                  cases hs
                  exact qv_dp (qv_le_s (qv_le_s (qv_le_s (qv_le_s (qv_le_s (qv_le_s (qv_le_n (qv_le_n qv_le_0)))))))) K27
                · have hs := qv_neg c41 hs
                  refine qv_if_lt (tgt := 135) dX9_next_123 rfl (fun q => absurd q c41) (fun _ => ?_)
                  refine qv_iload dX9_next_126 rfl ?_
                  refine qv_iload_n dX9_next_128 (i := 3) rfl rfl ?_
                  by_cases c42 : m23 < x10
                  · have hs := qv_pos c42 hs
                    refine qv_icmp_lt (tgt := 135) dX9_next_129 rfl (fun _ => ?_) (fun q => absurd c42 q)
                    refine qv_iload dX9_next_135 rfl ?_
                    refine qv_istore_n (lo2 := [some (.ref a0), some (.int v4), some (.int x7), some (.int x10), some (.int x7), some (.int x11), none, some (.int m23)]) dX9_next_137 (i := 2) rfl (by decide) rfl (Nat.le_of_ble_eq_true rfl) rfl ?_
                    refine qv_iload dX9_next_138 rfl ?_
                    refine qv_istore_n (lo2 := [some (.ref a0), some (.int v4), some (.int x7), some (.int m23), some (.int x7), some (.int x11), none, some (.int m23)]) dX9_next_140 (i := 3) rfl (by decide) rfl (Nat.le_of_ble_eq_true rfl) rfl ?_
                    cases hs
                    exact qv_dp (qv_le_s (qv_le_s (qv_le_s (qv_le_s (qv_le_s (qv_le_s (qv_le_n (qv_le_n qv_le_0)))))))) K27
                  · have hs := qv_neg c42 hs
                    refine qv_icmp_lt (tgt := 135) dX9_next_129 rfl (fun q => absurd q c42) (fun _ => ?_)
                    refine qv_goto (tgt := 141) dX9_next_132 rfl ?_
                    cases hs
                    exact qv_dp (qv_le_s (qv_le_s (qv_le_s (qv_le_s (qv_le_s (qv_le_s (qv_le_n (qv_le_n qv_le_0)))))))) K27
              replace hs := hj40
              by_cases c43 : ((2 : Int32) * y20) ≤ v21
              · have hs := qv_pos c43 hs
                refine qv_icmp_le (tgt := 113) dX9_next_105 rfl (fun _ => ?_) (fun q => absurd c43 q)
                refine qv_aload_n dX9_next_113 (i := 0) rfl rfl ?_
                obtain ⟨v22, e44, hs⟩ := qv_bind hs
                refine qv_getI dX9_next_114 qF_X9_223 e44 ?_
                refine qv_iload dX9_next_117 rfl ?_
                refine qv_isub dX9_next_119 ?_
                cases hs
                exact qv_dp (qv_le_s (qv_le_s (qv_le_s (qv_le_s (qv_le_s (qv_le_s (qv_le_n (qv_le_n qv_le_0)))))))) K39
              · have hs := qv_neg c43 hs
                refine qv_icmp_le (tgt := 113) dX9_next_105 rfl (fun q => absurd q c43) (fun _ => ?_)
                refine qv_iload dX9_next_108 rfl ?_
                refine qv_goto (tgt := 120) dX9_next_110 rfl ?_
                cases hs
                exact qv_dp (qv_le_s (qv_le_s (qv_le_s (qv_le_s (qv_le_s (qv_le_s (qv_le_n (qv_le_n qv_le_0)))))))) K39
            obtain ⟨n37, e31⟩ := qv_loop_of e31
            refine qv_dp (qv_le_s (qv_le_s (qv_le_s (qv_le_s (qv_le_s (qv_le_s (qv_le_s (qv_le_s qv_le_0)))))))) (?_ : qv_J l g mX9_next 65 [some (.ref a0), some (.int v4), some (.int x9), some (.int x10), some (.int x7), some (.int x11), some (.int (0 : Int32)), some (.int (0 : Int32))] [] h2 (some (.int r), hz))
            revert e31
            suffices lj36 : ∀ (x15 : Int32) (x16 : Int32), qv_it _ n37 (x15, x16) = some y20 → qv_J l g mX9_next 65 [some (.ref a0), some (.int v4), some (.int x9), some (.int x10), some (.int x7), some (.int x11), some (.int x15), some (.int x16)] [] h2 (some (.int r), hz) from lj36 (0 : Int32) (0 : Int32)
            induction n37 with
            | zero =>
              intro x15 x16 e31
              cases e31
            | succ n37 ih33 =>
              intro x15 x16 e31
              obtain ⟨_, hs, eb34⟩ := qv_it_s e31
              dsimp only at hs
              refine qv_iload dX9_next_65 rfl ?_
              refine qv_aload_n dX9_next_67 (i := 0) rfl rfl ?_
              obtain ⟨v17, e45, hs⟩ := qv_bind hs
              refine qv_getI dX9_next_68 qF_X9_223 e45 ?_
              by_cases c46 : v17 ≤ x16
              · have hs := qv_pos c46 hs
                refine qv_icmp_ge (tgt := 97) dX9_next_71 rfl (fun _ => ?_) (fun q => absurd c46 q)
                cases hs
                cases qv_nx_r eb34
                exact qv_dp (qv_le_s (qv_le_s (qv_le_s (qv_le_s (qv_le_s (qv_le_s (qv_le_s (qv_le_n qv_le_0)))))))) K30
              · have hs := qv_neg c46 hs
                refine qv_icmp_ge (tgt := 97) dX9_next_71 rfl (fun q => absurd q c46) (fun _ => ?_)
                refine qv_iload dX9_next_74 rfl ?_
                refine qv_aload_n dX9_next_76 (i := 0) rfl rfl ?_
                obtain ⟨v18, e47, hs⟩ := qv_bind hs
                refine qv_getR dX9_next_77 qF_X9_71 e47 ?_
                refine qv_iload dX9_next_80 rfl ?_
                obtain ⟨v19, e48, hs⟩ := qv_bind hs
                refine qv_iald dX9_next_82 e48 ?_
                refine qv_iload dX9_next_83 rfl ?_
                refine qv_ishr dX9_next_85 ?_
                refine qv_iconst (v := (1 : Int32)) dX9_next_86 rfl ?_
                refine qv_iand dX9_next_87 ?_
                refine qv_iadd dX9_next_88 ?_
                refine qv_istore (lo2 := [some (.ref a0), some (.int v4), some (.int x9), some (.int x10), some (.int x7), some (.int x11), some (.int (x15 + ((v19 >>> (x11 &&& 31)) &&& (1 : Int32)))), some (.int x16)]) dX9_next_89 (by decide) rfl (Nat.le_of_ble_eq_true rfl) rfl ?_
                refine qv_iinc (v := x16 + (1 : Int32)) (lo2 := [some (.ref a0), some (.int v4), some (.int x9), some (.int x10), some (.int x7), some (.int x11), some (.int (x15 + ((v19 >>> (x11 &&& 31)) &&& (1 : Int32)))), some (.int (x16 + (1 : Int32)))]) dX9_next_91 rfl rfl (by decide) rfl rfl ?_
                refine qv_goto (tgt := 65) dX9_next_94 rfl ?_
                cases hs
                exact qv_dp (qv_le_s (qv_le_s (qv_le_s (qv_le_s (qv_le_s (qv_le_s (qv_le_s (qv_le_s qv_le_0)))))))) (ih33 _ _ (qv_nx_l eb34))
theorem qD_X9_next : qv_DV mX9_next 0 := ⟨(qv_i17 (List.mem_of_getElem? (i := 57) (by decide +kernel))), (qv_i17 (List.mem_of_getElem? (i := 58) (by decide +kernel))), (qv_i1 (List.mem_of_getElem? (i := 14) (by decide +kernel))), (qv_i17 (List.mem_of_getElem? (i := 59) (by decide +kernel))), by decide +kernel, by decide +kernel⟩
/-- TrueOneWayModel.lands(III)I -/
noncomputable def fX9_lands (a0 : Nat) (a1 : Int32) (a2 : Int32) (a3 : Int32) (h : qv_H) : Option (Int32 × qv_H) :=
  (fX9_bound a1 (1 : Int32) (30 : Int32)).bind fun v1 =>
  Option.bind (α := Int32 × Int32 × Int32) (
      if v1 = 0 then
        (fX9_isIn a3 (0 : Int32) (1 : Int32)).bind fun v2 =>
        if v2 = 0 then
          some (a2, a3, (-2 : Int32))
        else
          some (a2, a3, v1)
      else
        some (a2, a3, v1)
    ) fun (m3, m4, m5) =>
  if m5 = 0 then
    Option.bind (qv_loop (σ := Int32 × Int32 × Int32) (ρ := Int32) (fun (x6, x7, x8) =>
        if a1 ≤ x8 then
          some (.inr x7)
        else
          (qv_ob h 8 a0).bind fun _ =>
          (fX9_allFacts a0 h).bind fun v10 =>
          (qv_ob h 8 a0).bind fun _ =>
          (fX9_allSigns a0 h).bind fun v12 =>
          (qv_ob h 8 a0).bind fun _ =>
          (fX9_wrongs a0 ((((((x6 * (1664525 : Int32)) + (1013904223 : Int32)) &&& (2147483647 : Int32)) / (256 : Int32)) - ((((x6 * (1664525 : Int32)) + (1013904223 : Int32)) &&& (2147483647 : Int32)) / (256 : Int32)) / (1024 : Int32) * (1024 : Int32)) &&& (v10 ||| (v12 <<< ((4 : Int32) &&& 31)))) h).bind fun v14 =>
          Option.bind (α := Int32) (
              if v14 = 0 then
                if m4 = 0 then
                  some (1 : Int32)
                else
                  (qv_ob h 8 a0).bind fun _ =>
                  (fX9_isGood a0 ((((((x6 * (1664525 : Int32)) + (1013904223 : Int32)) &&& (2147483647 : Int32)) / (256 : Int32)) - ((((x6 * (1664525 : Int32)) + (1013904223 : Int32)) &&& (2147483647 : Int32)) / (256 : Int32)) / (1024 : Int32) * (1024 : Int32)) &&& (v10 ||| (v12 <<< ((4 : Int32) &&& 31)))) h).bind fun v16 =>
                  if v16 = 0 then
                    some (0 : Int32)
                  else
                    some (1 : Int32)
              else
                some (0 : Int32)
            ) fun m17 =>
          some (.inl ((x6 * (1664525 : Int32)) + (1013904223 : Int32), x7 + m17, x8 + (1 : Int32)))
      ) (m3, (0 : Int32), (0 : Int32))) fun y18 =>
    some (y18, h)
  else
    (qv_ob h 8 a0).bind fun _ =>
    (fX9_no a0 m5 h).bind fun (v20, h21) =>
    some (v20, h21)
abbrev mX9_lands : qv_M := (yX9_lands, cX9_lands, 9, (Option.some Jvm.ClassFile.FieldType.int), 4, 90)
set_option maxRecDepth 100000 in
set_option maxHeartbeats 4000000 in
theorem sX9_lands {l : Launch} {g : qv_G} {a0 : Nat} {a1 : Int32} {a2 : Int32} {a3 : Int32} {h : qv_H} {r : Int32} {hz : qv_H} (hs : fX9_lands a0 a1 a2 a3 h = some (r, hz)) : qv_J l g mX9_lands 0 [some (.ref a0), some (.int a1), some (.int a2), some (.int a3), none, none, none, none, none] [] h (some (.int r), hz) := by
  unfold fX9_lands at hs
  refine qv_iload_n dX9_lands_0 (i := 1) rfl rfl ?_
  refine qv_iconst (v := (1 : Int32)) dX9_lands_1 rfl ?_
  refine qv_bipush (v := (30 : Int32)) dX9_lands_2 rfl ?_
  obtain ⟨v1, e1, hs⟩ := qv_bind hs
  refine qv_cS (d2 := mX9_bound) (r := some (.int v1)) (h2 := h) (av := [.int a1, .int (1 : Int32), .int (30 : Int32)]) (st := []) dX9_lands_4 qM_X9_95 qD_X9_bound rfl ⟨by decide, by decide⟩ rfl (Nat.le_of_ble_eq_true rfl) (Nat.le_of_ble_eq_true rfl) (sX9_bound e1) rfl ?_
  refine qv_istore (lo2 := [some (.ref a0), some (.int a1), some (.int a2), some (.int a3), some (.int v1), none, none, none, none]) dX9_lands_7 (by decide) rfl (Nat.le_of_ble_eq_true rfl) rfl ?_
  refine qv_iload dX9_lands_9 rfl ?_
  obtain ⟨⟨m3, m4, m5⟩, hj3, hs⟩ := qv_bind hs
  dsimp only at hs
  have K2 : qv_J l g mX9_lands 27 [some (.ref a0), some (.int a1), some (.int m3), some (.int m4), some (.int m5), none, none, none, none] [] h (some (.int r), hz) := by
    refine qv_iload dX9_lands_27 rfl ?_
    by_cases c4 : m5 = 0
    · have hs := qv_pos c4 hs
      refine qv_if_eq (tgt := 39) dX9_lands_29 rfl (fun _ => ?_) (fun q => absurd c4 q)
      refine qv_iload_n dX9_lands_39 (i := 2) rfl rfl ?_
      refine qv_istore (lo2 := [some (.ref a0), some (.int a1), some (.int m3), some (.int m4), some (.int m5), some (.int m3), none, none, none]) dX9_lands_40 (by decide) rfl (Nat.le_of_ble_eq_true rfl) rfl ?_
      refine qv_iconst (v := (0 : Int32)) dX9_lands_42 rfl ?_
      refine qv_istore (lo2 := [some (.ref a0), some (.int a1), some (.int m3), some (.int m4), some (.int m5), some (.int m3), some (.int (0 : Int32)), none, none]) dX9_lands_43 (by decide) rfl (Nat.le_of_ble_eq_true rfl) rfl ?_
      refine qv_iconst (v := (0 : Int32)) dX9_lands_45 rfl ?_
      refine qv_istore (lo2 := [some (.ref a0), some (.int a1), some (.int m3), some (.int m4), some (.int m5), some (.int m3), some (.int (0 : Int32)), some (.int (0 : Int32)), none]) dX9_lands_46 (by decide) rfl (Nat.le_of_ble_eq_true rfl) rfl ?_
      obtain ⟨y18, e6, hs⟩ := qv_bind hs
      have K5 : qv_J l g mX9_lands 132 [none, none, none, none, none, none, some (.int y18), none, none] [] h (some (.int r), hz) := by
        refine qv_iload dX9_lands_132 rfl ?_
        obtain ⟨rfl, rfl⟩ := qv_pr hs
        exact qv_iret dX9_lands_134 rfl
      obtain ⟨n12, e6⟩ := qv_loop_of e6
      refine qv_dp (qv_le_s (qv_le_s (qv_le_n (qv_le_s (qv_le_n (qv_le_s (qv_le_s (qv_le_s (qv_le_n qv_le_0))))))))) (?_ : qv_J l g mX9_lands 48 [some (.ref a0), some (.int a1), none, some (.int m4), none, some (.int m3), some (.int (0 : Int32)), some (.int (0 : Int32)), none] [] h (some (.int r), hz))
      revert e6
      suffices lj11 : ∀ (x6 : Int32) (x7 : Int32) (x8 : Int32), qv_it _ n12 (x6, x7, x8) = some y18 → qv_J l g mX9_lands 48 [some (.ref a0), some (.int a1), none, some (.int m4), none, some (.int x6), some (.int x7), some (.int x8), none] [] h (some (.int r), hz) from lj11 m3 (0 : Int32) (0 : Int32)
      induction n12 with
      | zero =>
        intro x6 x7 x8 e6
        cases e6
      | succ n12 ih8 =>
        intro x6 x7 x8 e6
        obtain ⟨_, hs, eb9⟩ := qv_it_s e6
        dsimp only at hs
        refine qv_iload dX9_lands_48 rfl ?_
        refine qv_iload_n dX9_lands_50 (i := 1) rfl rfl ?_
        by_cases c13 : a1 ≤ x8
        · have hs := qv_pos c13 hs
          refine qv_icmp_ge (tgt := 132) dX9_lands_51 rfl (fun _ => ?_) (fun q => absurd c13 q)
          cases hs
          cases qv_nx_r eb9
          exact qv_dp (qv_le_n (qv_le_n (qv_le_n (qv_le_n (qv_le_n (qv_le_n (qv_le_s (qv_le_n (qv_le_n qv_le_0))))))))) K5
        · have hs := qv_neg c13 hs
          refine qv_icmp_ge (tgt := 132) dX9_lands_51 rfl (fun q => absurd q c13) (fun _ => ?_)
          refine qv_iload dX9_lands_54 rfl ?_
          refine qv_ldcw qK_X9_301 dX9_lands_56 ?_
          refine qv_imul dX9_lands_59 ?_
          refine qv_ldcw qK_X9_302 dX9_lands_60 ?_
          refine qv_iadd dX9_lands_63 ?_
          refine qv_istore (lo2 := [some (.ref a0), some (.int a1), none, some (.int m4), none, some (.int ((x6 * (1664525 : Int32)) + (1013904223 : Int32))), some (.int x7), some (.int x8), none]) dX9_lands_64 (by decide) rfl (Nat.le_of_ble_eq_true rfl) rfl ?_
          refine qv_iload dX9_lands_66 rfl ?_
          refine qv_ldcw qK_X9_303 dX9_lands_68 ?_
          refine qv_iand dX9_lands_71 ?_
          refine qv_sipush (v := (256 : Int32)) dX9_lands_72 rfl ?_
          refine qv_idiv dX9_lands_75 (by decide) ?_
          refine qv_sipush (v := (1024 : Int32)) dX9_lands_76 rfl ?_
          refine qv_irem dX9_lands_79 (by decide) ?_
          refine qv_aload_n dX9_lands_80 (i := 0) rfl rfl ?_
          obtain ⟨u9, e14, hs⟩ := qv_bind hs
          obtain ⟨v10, e15, hs⟩ := qv_bind hs
          refine qv_cV (d2 := mX9_allFacts) (o := a0) (ci := 8) (r := some (.int v10)) (h2 := h) (av := []) (st := [.int (((((x6 * (1664525 : Int32)) + (1013904223 : Int32)) &&& (2147483647 : Int32)) / (256 : Int32)) - ((((x6 * (1664525 : Int32)) + (1013904223 : Int32)) &&& (2147483647 : Int32)) / (256 : Int32)) / (1024 : Int32) * (1024 : Int32))]) dX9_lands_81 qM_X9_195 qD_X9_allFacts e14 rfl rfl ⟨by decide, by decide⟩ rfl (Nat.le_of_ble_eq_true rfl) (Nat.le_of_ble_eq_true rfl) (sX9_allFacts e15) rfl ?_
          refine qv_aload_n dX9_lands_84 (i := 0) rfl rfl ?_
          obtain ⟨u11, e16, hs⟩ := qv_bind hs
          obtain ⟨v12, e17, hs⟩ := qv_bind hs
          refine qv_cV (d2 := mX9_allSigns) (o := a0) (ci := 8) (r := some (.int v12)) (h2 := h) (av := []) (st := [.int v10, .int (((((x6 * (1664525 : Int32)) + (1013904223 : Int32)) &&& (2147483647 : Int32)) / (256 : Int32)) - ((((x6 * (1664525 : Int32)) + (1013904223 : Int32)) &&& (2147483647 : Int32)) / (256 : Int32)) / (1024 : Int32) * (1024 : Int32))]) dX9_lands_85 qM_X9_198 qD_X9_allSigns e16 rfl rfl ⟨by decide, by decide⟩ rfl (Nat.le_of_ble_eq_true rfl) (Nat.le_of_ble_eq_true rfl) (sX9_allSigns e17) rfl ?_
          refine qv_iconst (v := (4 : Int32)) dX9_lands_88 rfl ?_
          refine qv_ishl dX9_lands_89 ?_
          refine qv_ior dX9_lands_90 ?_
          refine qv_iand dX9_lands_91 ?_
          refine qv_istore (lo2 := [some (.ref a0), some (.int a1), none, some (.int m4), none, some (.int ((x6 * (1664525 : Int32)) + (1013904223 : Int32))), some (.int x7), some (.int x8), some (.int ((((((x6 * (1664525 : Int32)) + (1013904223 : Int32)) &&& (2147483647 : Int32)) / (256 : Int32)) - ((((x6 * (1664525 : Int32)) + (1013904223 : Int32)) &&& (2147483647 : Int32)) / (256 : Int32)) / (1024 : Int32) * (1024 : Int32)) &&& (v10 ||| (v12 <<< ((4 : Int32) &&& 31)))))]) dX9_lands_92 (by decide) rfl (Nat.le_of_ble_eq_true rfl) rfl ?_
          refine qv_iload dX9_lands_94 rfl ?_
          refine qv_aload_n dX9_lands_96 (i := 0) rfl rfl ?_
          refine qv_iload dX9_lands_97 rfl ?_
          obtain ⟨u13, e18, hs⟩ := qv_bind hs
          obtain ⟨v14, e19, hs⟩ := qv_bind hs
          refine qv_cV (d2 := mX9_wrongs) (o := a0) (ci := 8) (r := some (.int v14)) (h2 := h) (av := [.int ((((((x6 * (1664525 : Int32)) + (1013904223 : Int32)) &&& (2147483647 : Int32)) / (256 : Int32)) - ((((x6 * (1664525 : Int32)) + (1013904223 : Int32)) &&& (2147483647 : Int32)) / (256 : Int32)) / (1024 : Int32) * (1024 : Int32)) &&& (v10 ||| (v12 <<< ((4 : Int32) &&& 31))))]) (st := [.int x7]) dX9_lands_99 qM_X9_214 qD_X9_wrongs e18 rfl rfl ⟨by decide, by decide⟩ rfl (Nat.le_of_ble_eq_true rfl) (Nat.le_of_ble_eq_true rfl) (sX9_wrongs e19) rfl ?_
          obtain ⟨m17, hj21, hs⟩ := qv_bind hs
          have K20 : qv_J l g mX9_lands 123 [some (.ref a0), some (.int a1), none, some (.int m4), none, some (.int ((x6 * (1664525 : Int32)) + (1013904223 : Int32))), none, some (.int x8), none] [.int m17, .int x7] h (some (.int r), hz) := by
            refine qv_iadd dX9_lands_123 ?_
            refine qv_istore (lo2 := [some (.ref a0), some (.int a1), none, some (.int m4), none, some (.int ((x6 * (1664525 : Int32)) + (1013904223 : Int32))), some (.int (x7 + m17)), some (.int x8), none]) dX9_lands_124 (by decide) rfl (Nat.le_of_ble_eq_true rfl) rfl ?_
            refine qv_iinc (v := x8 + (1 : Int32)) (lo2 := [some (.ref a0), some (.int a1), none, some (.int m4), none, some (.int ((x6 * (1664525 : Int32)) + (1013904223 : Int32))), some (.int (x7 + m17)), some (.int (x8 + (1 : Int32))), none]) dX9_lands_126 rfl rfl (by decide) rfl rfl ?_
            refine qv_goto (tgt := 48) dX9_lands_129 rfl ?_
            cases hs
            exact qv_dp (qv_le_s (qv_le_s (qv_le_n (qv_le_s (qv_le_n (qv_le_s (qv_le_s (qv_le_s (qv_le_n qv_le_0))))))))) (ih8 _ _ _ (qv_nx_l eb9))
          replace hs := hj21
          by_cases c22 : v14 = 0
          · have hs := qv_pos c22 hs
            refine qv_if_ne (tgt := 122) dX9_lands_102 rfl (fun q => absurd c22 q) (fun _ => ?_)
            refine qv_iload_n dX9_lands_105 (i := 3) rfl rfl ?_
            by_cases c23 : m4 = 0
            · have hs := qv_pos c23 hs
              refine qv_if_eq (tgt := 118) dX9_lands_106 rfl (fun _ => ?_) (fun q => absurd c23 q)
              refine qv_iconst (v := (1 : Int32)) dX9_lands_118 rfl ?_
              refine qv_goto (tgt := 123) dX9_lands_119 rfl ?_
              cases hs
              exact qv_dp (qv_le_s (qv_le_s (qv_le_n (qv_le_s (qv_le_n (qv_le_s (qv_le_n (qv_le_s (qv_le_n qv_le_0))))))))) K20
            · have hs := qv_neg c23 hs
              refine qv_if_eq (tgt := 118) dX9_lands_106 rfl (fun q => absurd q c23) (fun _ => ?_)
              refine qv_aload_n dX9_lands_109 (i := 0) rfl rfl ?_
              refine qv_iload dX9_lands_110 rfl ?_
              obtain ⟨u15, e24, hs⟩ := qv_bind hs
              obtain ⟨v16, e25, hs⟩ := qv_bind hs
              refine qv_cV (d2 := mX9_isGood) (o := a0) (ci := 8) (r := some (.int v16)) (h2 := h) (av := [.int ((((((x6 * (1664525 : Int32)) + (1013904223 : Int32)) &&& (2147483647 : Int32)) / (256 : Int32)) - ((((x6 * (1664525 : Int32)) + (1013904223 : Int32)) &&& (2147483647 : Int32)) / (256 : Int32)) / (1024 : Int32) * (1024 : Int32)) &&& (v10 ||| (v12 <<< ((4 : Int32) &&& 31))))]) (st := [.int x7]) dX9_lands_112 qM_X9_229 qD_X9_isGood e24 rfl rfl ⟨by decide, by decide⟩ rfl (Nat.le_of_ble_eq_true rfl) (Nat.le_of_ble_eq_true rfl) (sX9_isGood e25) rfl ?_
              by_cases c26 : v16 = 0
              · have hs := qv_pos c26 hs
                refine qv_if_eq (tgt := 122) dX9_lands_115 rfl (fun _ => ?_) (fun q => absurd c26 q)
                refine qv_iconst (v := (0 : Int32)) dX9_lands_122 rfl ?_
                cases hs
                exact qv_dp (qv_le_s (qv_le_s (qv_le_n (qv_le_s (qv_le_n (qv_le_s (qv_le_n (qv_le_s (qv_le_n qv_le_0))))))))) K20
              · have hs := qv_neg c26 hs
                refine qv_if_eq (tgt := 122) dX9_lands_115 rfl (fun q => absurd q c26) (fun _ => ?_)
                refine qv_iconst (v := (1 : Int32)) dX9_lands_118 rfl ?_
                refine qv_goto (tgt := 123) dX9_lands_119 rfl ?_
                cases hs
                exact qv_dp (qv_le_s (qv_le_s (qv_le_n (qv_le_s (qv_le_n (qv_le_s (qv_le_n (qv_le_s (qv_le_n qv_le_0))))))))) K20
          · have hs := qv_neg c22 hs
            refine qv_if_ne (tgt := 122) dX9_lands_102 rfl (fun _ => ?_) (fun q => absurd q c22)
            refine qv_iconst (v := (0 : Int32)) dX9_lands_122 rfl ?_
            cases hs
            exact qv_dp (qv_le_s (qv_le_s (qv_le_n (qv_le_s (qv_le_n (qv_le_s (qv_le_n (qv_le_s (qv_le_n qv_le_0))))))))) K20
    · have hs := qv_neg c4 hs
      refine qv_if_eq (tgt := 39) dX9_lands_29 rfl (fun q => absurd q c4) (fun _ => ?_)
      refine qv_aload_n dX9_lands_32 (i := 0) rfl rfl ?_
      refine qv_iload dX9_lands_33 rfl ?_
      obtain ⟨u19, e27, hs⟩ := qv_bind hs
      obtain ⟨⟨v20, h21⟩, e28, hs⟩ := qv_bind hs
      dsimp only at hs
      refine qv_cV (d2 := mX9_no) (o := a0) (ci := 8) (r := some (.int v20)) (h2 := h21) (av := [.int m5]) (st := []) dX9_lands_35 qM_X9_102 qD_X9_no e27 rfl rfl ⟨by decide, by decide⟩ rfl (Nat.le_of_ble_eq_true rfl) (Nat.le_of_ble_eq_true rfl) (sX9_no e28) rfl ?_
      obtain ⟨rfl, rfl⟩ := qv_pr hs
      exact qv_iret dX9_lands_38 rfl
  replace hs := hj3
  by_cases c29 : v1 = 0
  · have hs := qv_pos c29 hs
    refine qv_if_ne (tgt := 27) dX9_lands_11 rfl (fun q => absurd c29 q) (fun _ => ?_)
    refine qv_iload_n dX9_lands_14 (i := 3) rfl rfl ?_
    refine qv_iconst (v := (0 : Int32)) dX9_lands_15 rfl ?_
    refine qv_iconst (v := (1 : Int32)) dX9_lands_16 rfl ?_
    obtain ⟨v2, e30, hs⟩ := qv_bind hs
    refine qv_cS (d2 := mX9_isIn) (r := some (.int v2)) (h2 := h) (av := [.int a3, .int (0 : Int32), .int (1 : Int32)]) (st := []) dX9_lands_17 qM_X9_113 qD_X9_isIn rfl ⟨by decide, by decide⟩ rfl (Nat.le_of_ble_eq_true rfl) (Nat.le_of_ble_eq_true rfl) (sX9_isIn e30) rfl ?_
    by_cases c31 : v2 = 0
    · have hs := qv_pos c31 hs
      refine qv_if_ne (tgt := 27) dX9_lands_20 rfl (fun q => absurd c31 q) (fun _ => ?_)
      refine qv_bipush (v := (-2 : Int32)) dX9_lands_23 rfl ?_
      refine qv_istore (lo2 := [some (.ref a0), some (.int a1), some (.int a2), some (.int a3), some (.int (-2 : Int32)), none, none, none, none]) dX9_lands_25 (by decide) rfl (Nat.le_of_ble_eq_true rfl) rfl ?_
      cases hs
      exact qv_dp (qv_le_s (qv_le_s (qv_le_s (qv_le_s (qv_le_s (qv_le_n (qv_le_n (qv_le_n (qv_le_n qv_le_0))))))))) K2
    · have hs := qv_neg c31 hs
      refine qv_if_ne (tgt := 27) dX9_lands_20 rfl (fun _ => ?_) (fun q => absurd q c31)
      cases hs
      exact qv_dp (qv_le_s (qv_le_s (qv_le_s (qv_le_s (qv_le_s (qv_le_n (qv_le_n (qv_le_n (qv_le_n qv_le_0))))))))) K2
  · have hs := qv_neg c29 hs
    refine qv_if_ne (tgt := 27) dX9_lands_11 rfl (fun _ => ?_) (fun q => absurd q c29)
    cases hs
    exact qv_dp (qv_le_s (qv_le_s (qv_le_s (qv_le_s (qv_le_s (qv_le_n (qv_le_n (qv_le_n (qv_le_n qv_le_0))))))))) K2
theorem qD_X9_lands : qv_DV mX9_lands 3 := ⟨(qv_i17 (List.mem_of_getElem? (i := 61) (by decide +kernel))), (qv_i17 (List.mem_of_getElem? (i := 62) (by decide +kernel))), (qv_i1 (List.mem_of_getElem? (i := 14) (by decide +kernel))), (qv_i17 (List.mem_of_getElem? (i := 63) (by decide +kernel))), by decide +kernel, by decide +kernel⟩
/-- TrueOneWayModel.judge(I)I -/
noncomputable def fX9_judge (a0 : Nat) (a1 : Int32) (h : qv_H) : Option (Int32 × qv_H) :=
  (qv_ob h 8 a0).bind fun _ =>
  (fX9_isWorld a0 a1 h).bind fun v2 =>
  if v2 = 0 then
    (qv_ob h 8 a0).bind fun _ =>
    (fX9_no a0 (-1 : Int32) h).bind fun (v12, h13) =>
    some (v12, h13)
  else
    Option.bind (qv_loop (σ := Int32) (ρ := (Unit) ⊕ (Int32 × qv_H)) (fun x3 =>
        (qv_gI h 8 a0 17).bind fun v4 =>
        if v4 ≤ x3 then
          some (.inr (.inl ()))
        else
          (qv_ob h 8 a0).bind fun _ =>
          (fX9_isFoundSo a0 x3 a1 h).bind fun v6 =>
          if v6 = 0 then
            some (.inr (.inr (x3, h)))
          else
            some (.inl (x3 + (1 : Int32)))
      ) (0 : Int32)) fun q => match q with
    | .inl _ =>
      Option.bind (qv_loop (σ := Int32) (ρ := (Unit) ⊕ (Int32 × qv_H)) (fun x7 =>
          (qv_gI h 8 a0 11).bind fun v8 =>
          if v8 ≤ x7 then
            some (.inr (.inl ()))
          else
            (qv_ob h 8 a0).bind fun _ =>
            (fX9_isRight a0 x7 a1 h).bind fun v10 =>
            if v10 = 0 then
              some (.inr (.inr ((100 : Int32) + x7, h)))
            else
              some (.inl (x7 + (1 : Int32)))
        ) (0 : Int32)) fun q => match q with
      | .inl _ =>
        some ((-9 : Int32), h)
      | .inr q => some q
    | .inr q => some q
abbrev mX9_judge : qv_M := (yX9_judge, cX9_judge, 3, (Option.some Jvm.ClassFile.FieldType.int), 2, 46)
set_option maxRecDepth 100000 in
set_option maxHeartbeats 4000000 in
theorem sX9_judge {l : Launch} {g : qv_G} {a0 : Nat} {a1 : Int32} {h : qv_H} {r : Int32} {hz : qv_H} (hs : fX9_judge a0 a1 h = some (r, hz)) : qv_J l g mX9_judge 0 [some (.ref a0), some (.int a1), none] [] h (some (.int r), hz) := by
  unfold fX9_judge at hs
  refine qv_aload_n dX9_judge_0 (i := 0) rfl rfl ?_
  refine qv_iload_n dX9_judge_1 (i := 1) rfl rfl ?_
  obtain ⟨u1, e1, hs⟩ := qv_bind hs
  obtain ⟨v2, e2, hs⟩ := qv_bind hs
  refine qv_cV (d2 := mX9_isWorld) (o := a0) (ci := 8) (r := some (.int v2)) (h2 := h) (av := [.int a1]) (st := []) dX9_judge_2 qM_X9_211 qD_X9_isWorld e1 rfl rfl ⟨by decide, by decide⟩ rfl (Nat.le_of_ble_eq_true rfl) (Nat.le_of_ble_eq_true rfl) (sX9_isWorld e2) rfl ?_
  by_cases c3 : v2 = 0
  · have hs := qv_pos c3 hs
    refine qv_if_ne (tgt := 14) dX9_judge_5 rfl (fun q => absurd c3 q) (fun _ => ?_)
    refine qv_aload_n dX9_judge_8 (i := 0) rfl rfl ?_
    refine qv_iconst (v := (-1 : Int32)) dX9_judge_9 rfl ?_
    obtain ⟨u11, e4, hs⟩ := qv_bind hs
    obtain ⟨⟨v12, h13⟩, e5, hs⟩ := qv_bind hs
    dsimp only at hs
    refine qv_cV (d2 := mX9_no) (o := a0) (ci := 8) (r := some (.int v12)) (h2 := h13) (av := [.int (-1 : Int32)]) (st := []) dX9_judge_10 qM_X9_102 qD_X9_no e4 rfl rfl ⟨by decide, by decide⟩ rfl (Nat.le_of_ble_eq_true rfl) (Nat.le_of_ble_eq_true rfl) (sX9_no e5) rfl ?_
    obtain ⟨rfl, rfl⟩ := qv_pr hs
    exact qv_iret dX9_judge_13 rfl
  · have hs := qv_neg c3 hs
    refine qv_if_ne (tgt := 14) dX9_judge_5 rfl (fun _ => ?_) (fun q => absurd q c3)
    refine qv_iconst (v := (0 : Int32)) dX9_judge_14 rfl ?_
    refine qv_istore_n (lo2 := [some (.ref a0), some (.int a1), some (.int (0 : Int32))]) dX9_judge_15 (i := 2) rfl (by decide) rfl (Nat.le_of_ble_eq_true rfl) rfl ?_
    obtain ⟨q11, e7, hA8⟩ := qv_bind hs
    have K6 : ∀ (_ : Unit), q11 = .inl () → qv_J l g mX9_judge 41 [some (.ref a0), some (.int a1), none] [] h (some (.int r), hz) := by
      intro _ eq14
      subst eq14
      have hs := hA8
      dsimp only at hs
      refine qv_iconst (v := (0 : Int32)) dX9_judge_41 rfl ?_
      refine qv_istore_n (lo2 := [some (.ref a0), some (.int a1), some (.int (0 : Int32))]) dX9_judge_42 (i := 2) rfl (by decide) rfl (Nat.le_of_ble_eq_true rfl) rfl ?_
      obtain ⟨q20, e16, hA17⟩ := qv_bind hs
      have K15 : ∀ (_ : Unit), q20 = .inl () → qv_J l g mX9_judge 71 [none, none, none] [] h (some (.int r), hz) := by
        intro _ eq23
        subst eq23
        have hs := hA17
        dsimp only at hs
        refine qv_bipush (v := (-9 : Int32)) dX9_judge_71 rfl ?_
        obtain ⟨rfl, rfl⟩ := qv_pr hs
        exact qv_iret dX9_judge_73 rfl
      obtain ⟨n22, e16⟩ := qv_loop_of e16
      refine qv_dp (qv_le_s (qv_le_s (qv_le_s qv_le_0))) (?_ : qv_J l g mX9_judge 43 [some (.ref a0), some (.int a1), some (.int (0 : Int32))] [] h (some (.int r), hz))
      revert e16
      suffices lj21 : ∀ (x7 : Int32), qv_it _ n22 x7 = some q20 → qv_J l g mX9_judge 43 [some (.ref a0), some (.int a1), some (.int x7)] [] h (some (.int r), hz) from lj21 (0 : Int32)
      induction n22 with
      | zero =>
        intro x7 e16
        cases e16
      | succ n22 ih18 =>
        intro x7 e16
        obtain ⟨_, hs, eb19⟩ := qv_it_s e16
        refine qv_iload_n dX9_judge_43 (i := 2) rfl rfl ?_
        refine qv_aload_n dX9_judge_44 (i := 0) rfl rfl ?_
        obtain ⟨v8, e24, hs⟩ := qv_bind hs
        refine qv_getI dX9_judge_45 qF_X9_92 e24 ?_
        by_cases c25 : v8 ≤ x7
        · have hs := qv_pos c25 hs
          refine qv_icmp_ge (tgt := 71) dX9_judge_48 rfl (fun _ => ?_) (fun q => absurd c25 q)
          cases hs
          cases qv_nx_r eb19
          exact qv_dp (qv_le_n (qv_le_n (qv_le_n qv_le_0))) (K15 () rfl)
        · have hs := qv_neg c25 hs
          refine qv_icmp_ge (tgt := 71) dX9_judge_48 rfl (fun q => absurd q c25) (fun _ => ?_)
          refine qv_aload_n dX9_judge_51 (i := 0) rfl rfl ?_
          refine qv_iload_n dX9_judge_52 (i := 2) rfl rfl ?_
          refine qv_iload_n dX9_judge_53 (i := 1) rfl rfl ?_
          obtain ⟨u9, e26, hs⟩ := qv_bind hs
          obtain ⟨v10, e27, hs⟩ := qv_bind hs
          refine qv_cV (d2 := mX9_isRight) (o := a0) (ci := 8) (r := some (.int v10)) (h2 := h) (av := [.int x7, .int a1]) (st := []) dX9_judge_54 qM_X9_205 qD_X9_isRight e26 rfl rfl ⟨by decide, by decide⟩ rfl (Nat.le_of_ble_eq_true rfl) (Nat.le_of_ble_eq_true rfl) (sX9_isRight e27) rfl ?_
          by_cases c28 : v10 = 0
          · have hs := qv_pos c28 hs
            refine qv_if_ne (tgt := 65) dX9_judge_57 rfl (fun q => absurd c28 q) (fun _ => ?_)
            refine qv_bipush (v := (100 : Int32)) dX9_judge_60 rfl ?_
            refine qv_iload_n dX9_judge_62 (i := 2) rfl rfl ?_
            refine qv_iadd dX9_judge_63 ?_
            cases hs
            cases qv_nx_r eb19
            have hs := hA17
            dsimp only at hs
            obtain ⟨rfl, rfl⟩ := qv_pr hs
            exact qv_iret dX9_judge_64 rfl
          · have hs := qv_neg c28 hs
            refine qv_if_ne (tgt := 65) dX9_judge_57 rfl (fun _ => ?_) (fun q => absurd q c28)
            refine qv_iinc (v := x7 + (1 : Int32)) (lo2 := [some (.ref a0), some (.int a1), some (.int (x7 + (1 : Int32)))]) dX9_judge_65 rfl rfl (by decide) rfl rfl ?_
            refine qv_goto (tgt := 43) dX9_judge_68 rfl ?_
            cases hs
            exact qv_dp (qv_le_s (qv_le_s (qv_le_s qv_le_0))) (ih18 _ (qv_nx_l eb19))
    obtain ⟨n13, e7⟩ := qv_loop_of e7
    refine qv_dp (qv_le_s (qv_le_s (qv_le_s qv_le_0))) (?_ : qv_J l g mX9_judge 16 [some (.ref a0), some (.int a1), some (.int (0 : Int32))] [] h (some (.int r), hz))
    revert e7
    suffices lj12 : ∀ (x3 : Int32), qv_it _ n13 x3 = some q11 → qv_J l g mX9_judge 16 [some (.ref a0), some (.int a1), some (.int x3)] [] h (some (.int r), hz) from lj12 (0 : Int32)
    induction n13 with
    | zero =>
      intro x3 e7
      cases e7
    | succ n13 ih9 =>
      intro x3 e7
      obtain ⟨_, hs, eb10⟩ := qv_it_s e7
      refine qv_iload_n dX9_judge_16 (i := 2) rfl rfl ?_
      refine qv_aload_n dX9_judge_17 (i := 0) rfl rfl ?_
      obtain ⟨v4, e29, hs⟩ := qv_bind hs
      refine qv_getI dX9_judge_18 qF_X9_186 e29 ?_
      by_cases c30 : v4 ≤ x3
      · have hs := qv_pos c30 hs
        refine qv_icmp_ge (tgt := 41) dX9_judge_21 rfl (fun _ => ?_) (fun q => absurd c30 q)
        cases hs
        cases qv_nx_r eb10
        exact qv_dp (qv_le_s (qv_le_s (qv_le_n qv_le_0))) (K6 () rfl)
      · have hs := qv_neg c30 hs
        refine qv_icmp_ge (tgt := 41) dX9_judge_21 rfl (fun q => absurd q c30) (fun _ => ?_)
        refine qv_aload_n dX9_judge_24 (i := 0) rfl rfl ?_
        refine qv_iload_n dX9_judge_25 (i := 2) rfl rfl ?_
        refine qv_iload_n dX9_judge_26 (i := 1) rfl rfl ?_
        obtain ⟨u5, e31, hs⟩ := qv_bind hs
        obtain ⟨v6, e32, hs⟩ := qv_bind hs
        refine qv_cV (d2 := mX9_isFoundSo) (o := a0) (ci := 8) (r := some (.int v6)) (h2 := h) (av := [.int x3, .int a1]) (st := []) dX9_judge_27 qM_X9_208 qD_X9_isFoundSo e31 rfl rfl ⟨by decide, by decide⟩ rfl (Nat.le_of_ble_eq_true rfl) (Nat.le_of_ble_eq_true rfl) (sX9_isFoundSo e32) rfl ?_
        by_cases c33 : v6 = 0
        · have hs := qv_pos c33 hs
          refine qv_if_ne (tgt := 35) dX9_judge_30 rfl (fun q => absurd c33 q) (fun _ => ?_)
          refine qv_iload_n dX9_judge_33 (i := 2) rfl rfl ?_
          cases hs
          cases qv_nx_r eb10
          have hs := hA8
          dsimp only at hs
          obtain ⟨rfl, rfl⟩ := qv_pr hs
          exact qv_iret dX9_judge_34 rfl
        · have hs := qv_neg c33 hs
          refine qv_if_ne (tgt := 35) dX9_judge_30 rfl (fun _ => ?_) (fun q => absurd q c33)
          refine qv_iinc (v := x3 + (1 : Int32)) (lo2 := [some (.ref a0), some (.int a1), some (.int (x3 + (1 : Int32)))]) dX9_judge_35 rfl rfl (by decide) rfl rfl ?_
          refine qv_goto (tgt := 16) dX9_judge_38 rfl ?_
          cases hs
          exact qv_dp (qv_le_s (qv_le_s (qv_le_s qv_le_0))) (ih9 _ (qv_nx_l eb10))
theorem qD_X9_judge : qv_DV mX9_judge 1 := ⟨(qv_i18 (List.mem_of_getElem? (i := 4) (by decide +kernel))), (qv_i18 (List.mem_of_getElem? (i := 5) (by decide +kernel))), (qv_i1 (List.mem_of_getElem? (i := 14) (by decide +kernel))), (qv_i18 (List.mem_of_getElem? (i := 6) (by decide +kernel))), by decide +kernel, by decide +kernel⟩
/-- TrueOneWayModel.fitMany()I -/
noncomputable def fX9_fitMany (a0 : Nat) (h : qv_H) : Option (Int32) :=
  Option.bind (qv_loop (σ := Int32 × Int32) (ρ := Int32) (fun (x1, x2) =>
      if (1024 : Int32) ≤ x2 then
        some (.inr x1)
      else
        (qv_ob h 8 a0).bind fun _ =>
        (fX9_isWorld a0 x2 h).bind fun v4 =>
        Option.bind (α := Int32) (
            if v4 = 0 then
              some (0 : Int32)
            else
              (qv_ob h 8 a0).bind fun _ =>
              (fX9_wrongs a0 x2 h).bind fun v6 =>
              if v6 = 0 then
                some (1 : Int32)
              else
                some (0 : Int32)
          ) fun m7 =>
        some (.inl (x1 + m7, x2 + (1 : Int32)))
    ) ((0 : Int32), (0 : Int32))) fun y8 =>
  some y8
abbrev mX9_fitMany : qv_M := (yX9_fitMany, cX9_fitMany, 3, (Option.some Jvm.ClassFile.FieldType.int), 3, 69)
set_option maxRecDepth 100000 in
set_option maxHeartbeats 4000000 in
theorem sX9_fitMany {l : Launch} {g : qv_G} {a0 : Nat} {h : qv_H} {r : Int32} (hs : fX9_fitMany a0 h = some r) : qv_J l g mX9_fitMany 0 [some (.ref a0), none, none] [] h (some (.int r), h) := by
  unfold fX9_fitMany at hs
  refine qv_iconst (v := (0 : Int32)) dX9_fitMany_0 rfl ?_
  refine qv_istore_n (lo2 := [some (.ref a0), some (.int (0 : Int32)), none]) dX9_fitMany_1 (i := 1) rfl (by decide) rfl (Nat.le_of_ble_eq_true rfl) rfl ?_
  refine qv_iconst (v := (0 : Int32)) dX9_fitMany_2 rfl ?_
  refine qv_istore_n (lo2 := [some (.ref a0), some (.int (0 : Int32)), some (.int (0 : Int32))]) dX9_fitMany_3 (i := 2) rfl (by decide) rfl (Nat.le_of_ble_eq_true rfl) rfl ?_
  obtain ⟨y8, e2, hs⟩ := qv_bind hs
  have K1 : qv_J l g mX9_fitMany 41 [none, some (.int y8), none] [] h (some (.int r), h) := by
    refine qv_iload_n dX9_fitMany_41 (i := 1) rfl rfl ?_
    obtain rfl := qv_sm hs
    exact qv_iret dX9_fitMany_42 rfl
  obtain ⟨n8, e2⟩ := qv_loop_of e2
  refine qv_dp (qv_le_s (qv_le_s (qv_le_s qv_le_0))) (?_ : qv_J l g mX9_fitMany 4 [some (.ref a0), some (.int (0 : Int32)), some (.int (0 : Int32))] [] h (some (.int r), h))
  revert e2
  suffices lj7 : ∀ (x1 : Int32) (x2 : Int32), qv_it _ n8 (x1, x2) = some y8 → qv_J l g mX9_fitMany 4 [some (.ref a0), some (.int x1), some (.int x2)] [] h (some (.int r), h) from lj7 (0 : Int32) (0 : Int32)
  induction n8 with
  | zero =>
    intro x1 x2 e2
    cases e2
  | succ n8 ih4 =>
    intro x1 x2 e2
    obtain ⟨_, hs, eb5⟩ := qv_it_s e2
    dsimp only at hs
    refine qv_iload_n dX9_fitMany_4 (i := 2) rfl rfl ?_
    refine qv_sipush (v := (1024 : Int32)) dX9_fitMany_5 rfl ?_
    by_cases c9 : (1024 : Int32) ≤ x2
    · have hs := qv_pos c9 hs
      refine qv_icmp_ge (tgt := 41) dX9_fitMany_8 rfl (fun _ => ?_) (fun q => absurd c9 q)
      cases hs
      cases qv_nx_r eb5
      exact qv_dp (qv_le_n (qv_le_s (qv_le_n qv_le_0))) K1
    · have hs := qv_neg c9 hs
      refine qv_icmp_ge (tgt := 41) dX9_fitMany_8 rfl (fun q => absurd q c9) (fun _ => ?_)
      refine qv_iload_n dX9_fitMany_11 (i := 1) rfl rfl ?_
      refine qv_aload_n dX9_fitMany_12 (i := 0) rfl rfl ?_
      refine qv_iload_n dX9_fitMany_13 (i := 2) rfl rfl ?_
      obtain ⟨u3, e10, hs⟩ := qv_bind hs
      obtain ⟨v4, e11, hs⟩ := qv_bind hs
      refine qv_cV (d2 := mX9_isWorld) (o := a0) (ci := 8) (r := some (.int v4)) (h2 := h) (av := [.int x2]) (st := [.int x1]) dX9_fitMany_14 qM_X9_211 qD_X9_isWorld e10 rfl rfl ⟨by decide, by decide⟩ rfl (Nat.le_of_ble_eq_true rfl) (Nat.le_of_ble_eq_true rfl) (sX9_isWorld e11) rfl ?_
      obtain ⟨m7, hj13, hs⟩ := qv_bind hs
      have K12 : qv_J l g mX9_fitMany 33 [some (.ref a0), none, some (.int x2)] [.int m7, .int x1] h (some (.int r), h) := by
        refine qv_iadd dX9_fitMany_33 ?_
        refine qv_istore_n (lo2 := [some (.ref a0), some (.int (x1 + m7)), some (.int x2)]) dX9_fitMany_34 (i := 1) rfl (by decide) rfl (Nat.le_of_ble_eq_true rfl) rfl ?_
        refine qv_iinc (v := x2 + (1 : Int32)) (lo2 := [some (.ref a0), some (.int (x1 + m7)), some (.int (x2 + (1 : Int32)))]) dX9_fitMany_35 rfl rfl (by decide) rfl rfl ?_
        refine qv_goto (tgt := 4) dX9_fitMany_38 rfl ?_
        cases hs
        exact qv_dp (qv_le_s (qv_le_s (qv_le_s qv_le_0))) (ih4 _ _ (qv_nx_l eb5))
      replace hs := hj13
      by_cases c14 : v4 = 0
      · have hs := qv_pos c14 hs
        refine qv_if_eq (tgt := 32) dX9_fitMany_17 rfl (fun _ => ?_) (fun q => absurd c14 q)
        refine qv_iconst (v := (0 : Int32)) dX9_fitMany_32 rfl ?_
        cases hs
        exact qv_dp (qv_le_s (qv_le_n (qv_le_s qv_le_0))) K12
      · have hs := qv_neg c14 hs
        refine qv_if_eq (tgt := 32) dX9_fitMany_17 rfl (fun q => absurd q c14) (fun _ => ?_)
        refine qv_aload_n dX9_fitMany_20 (i := 0) rfl rfl ?_
        refine qv_iload_n dX9_fitMany_21 (i := 2) rfl rfl ?_
        obtain ⟨u5, e15, hs⟩ := qv_bind hs
        obtain ⟨v6, e16, hs⟩ := qv_bind hs
        refine qv_cV (d2 := mX9_wrongs) (o := a0) (ci := 8) (r := some (.int v6)) (h2 := h) (av := [.int x2]) (st := [.int x1]) dX9_fitMany_22 qM_X9_214 qD_X9_wrongs e15 rfl rfl ⟨by decide, by decide⟩ rfl (Nat.le_of_ble_eq_true rfl) (Nat.le_of_ble_eq_true rfl) (sX9_wrongs e16) rfl ?_
        by_cases c17 : v6 = 0
        · have hs := qv_pos c17 hs
          refine qv_if_ne (tgt := 32) dX9_fitMany_25 rfl (fun q => absurd c17 q) (fun _ => ?_)
          refine qv_iconst (v := (1 : Int32)) dX9_fitMany_28 rfl ?_
          refine qv_goto (tgt := 33) dX9_fitMany_29 rfl ?_
          cases hs
          exact qv_dp (qv_le_s (qv_le_n (qv_le_s qv_le_0))) K12
        · have hs := qv_neg c17 hs
          refine qv_if_ne (tgt := 32) dX9_fitMany_25 rfl (fun _ => ?_) (fun q => absurd q c17)
          refine qv_iconst (v := (0 : Int32)) dX9_fitMany_32 rfl ?_
          cases hs
          exact qv_dp (qv_le_s (qv_le_n (qv_le_s qv_le_0))) K12
theorem qD_X9_fitMany : qv_DV mX9_fitMany 0 := ⟨(qv_i18 (List.mem_of_getElem? (i := 12) (by decide +kernel))), (qv_i1 (List.mem_of_getElem? (i := 3) (by decide +kernel))), (qv_i1 (List.mem_of_getElem? (i := 14) (by decide +kernel))), (qv_i18 (List.mem_of_getElem? (i := 13) (by decide +kernel))), by decide +kernel, by decide +kernel⟩
/-- TrueOneWayModel.count(I)I -/
noncomputable def fX9_count (a0 : Nat) (a1 : Int32) (h : qv_H) : Option (Int32 × qv_H) :=
  (fX9_isIn a1 (11 : Int32) (16 : Int32)).bind fun v1 =>
  if v1 = 0 then
    if a1 = (0 : Int32) then
      (qv_gI h 8 a0 8).bind fun v15 =>
      some (v15, h)
    else
      if a1 = (1 : Int32) then
        (qv_gI h 8 a0 9).bind fun v14 =>
        some (v14, h)
      else
        if a1 = (2 : Int32) then
          (qv_gI h 8 a0 10).bind fun v13 =>
          some (v13, h)
        else
          if a1 = (3 : Int32) then
            (qv_gI h 8 a0 11).bind fun v12 =>
            some (v12, h)
          else
            if a1 = (4 : Int32) then
              (qv_gI h 8 a0 17).bind fun v11 =>
              some (v11, h)
            else
              if a1 = (5 : Int32) then
                (qv_ob h 8 a0).bind fun _ =>
                (fX9_fitMany a0 h).bind fun v10 =>
                some (v10, h)
              else
                if a1 = (6 : Int32) then
                  (qv_ob h 8 a0).bind fun _ =>
                  (fX9_findWorlds a0 (0 : Int32) h).bind fun h7 =>
                  (qv_gI h7 8 a0 33).bind fun v8 =>
                  some (v8, h7)
                else
                  if a1 = (7 : Int32) then
                    (qv_gI h 8 a0 39).bind fun v5 =>
                    some (v5, h)
                  else
                    if a1 = (8 : Int32) then
                      (qv_gI h 8 a0 25).bind fun v4 =>
                      some (v4, h)
                    else
                      if a1 = (9 : Int32) then
                        (qv_gI h 8 a0 14).bind fun v2 =>
                        Option.bind (α := Int32) (
                            if v2 < 0 then
                              some (0 : Int32)
                            else
                              some (1 : Int32)
                          ) fun m3 =>
                        some (m3, h)
                      else
                        some ((-9 : Int32), h)
  else
    (qv_gR h 8 a0 0).bind fun v16 =>
    (qv_aI h false v16 (a1 - (10 : Int32))).bind fun v17 =>
    some (v17, h)
abbrev mX9_count : qv_M := (yX9_count, cX9_count, 2, (Option.some Jvm.ClassFile.FieldType.int), 4, 91)
set_option maxRecDepth 100000 in
set_option maxHeartbeats 4000000 in
theorem sX9_count {l : Launch} {g : qv_G} {a0 : Nat} {a1 : Int32} {h : qv_H} {r : Int32} {hz : qv_H} (hs : fX9_count a0 a1 h = some (r, hz)) : qv_J l g mX9_count 0 [some (.ref a0), some (.int a1)] [] h (some (.int r), hz) := by
  unfold fX9_count at hs
  refine qv_iload_n dX9_count_0 (i := 1) rfl rfl ?_
  refine qv_bipush (v := (11 : Int32)) dX9_count_1 rfl ?_
  refine qv_bipush (v := (16 : Int32)) dX9_count_3 rfl ?_
  obtain ⟨v1, e1, hs⟩ := qv_bind hs
  refine qv_cS (d2 := mX9_isIn) (r := some (.int v1)) (h2 := h) (av := [.int a1, .int (11 : Int32), .int (16 : Int32)]) (st := []) dX9_count_5 qM_X9_113 qD_X9_isIn rfl ⟨by decide, by decide⟩ rfl (Nat.le_of_ble_eq_true rfl) (Nat.le_of_ble_eq_true rfl) (sX9_isIn e1) rfl ?_
  by_cases c2 : v1 = 0
  · have hs := qv_pos c2 hs
    refine qv_if_eq (tgt := 21) dX9_count_8 rfl (fun _ => ?_) (fun q => absurd c2 q)
    refine qv_iload_n dX9_count_21 (i := 1) rfl rfl ?_
    by_cases c3 : a1 = (0 : Int32)
    · have hs := qv_pos c3 hs
      refine qv_tsIn (tgt := 76) (0 : Int32) c3 dX9_count_22 (by decide) (by decide) rfl rfl ?_
      refine qv_aload_n dX9_count_76 (i := 0) rfl rfl ?_
      obtain ⟨v15, e4, hs⟩ := qv_bind hs
      refine qv_getI dX9_count_77 qF_X9_34 e4 ?_
      obtain ⟨rfl, rfl⟩ := qv_pr hs
      exact qv_iret dX9_count_80 rfl
    · have hs := qv_neg c3 hs
      by_cases c5 : a1 = (1 : Int32)
      · have hs := qv_pos c5 hs
        refine qv_tsIn (tgt := 81) (1 : Int32) c5 dX9_count_22 (by decide) (by decide) rfl rfl ?_
        refine qv_aload_n dX9_count_81 (i := 0) rfl rfl ?_
        obtain ⟨v14, e6, hs⟩ := qv_bind hs
        refine qv_getI dX9_count_82 qF_X9_137 e6 ?_
        obtain ⟨rfl, rfl⟩ := qv_pr hs
        exact qv_iret dX9_count_85 rfl
      · have hs := qv_neg c5 hs
        by_cases c7 : a1 = (2 : Int32)
        · have hs := qv_pos c7 hs
          refine qv_tsIn (tgt := 86) (2 : Int32) c7 dX9_count_22 (by decide) (by decide) rfl rfl ?_
          refine qv_aload_n dX9_count_86 (i := 0) rfl rfl ?_
          obtain ⟨v13, e8, hs⟩ := qv_bind hs
          refine qv_getI dX9_count_87 qF_X9_89 e8 ?_
          obtain ⟨rfl, rfl⟩ := qv_pr hs
          exact qv_iret dX9_count_90 rfl
        · have hs := qv_neg c7 hs
          by_cases c9 : a1 = (3 : Int32)
          · have hs := qv_pos c9 hs
            refine qv_tsIn (tgt := 91) (3 : Int32) c9 dX9_count_22 (by decide) (by decide) rfl rfl ?_
            refine qv_aload_n dX9_count_91 (i := 0) rfl rfl ?_
            obtain ⟨v12, e10, hs⟩ := qv_bind hs
            refine qv_getI dX9_count_92 qF_X9_92 e10 ?_
            obtain ⟨rfl, rfl⟩ := qv_pr hs
            exact qv_iret dX9_count_95 rfl
          · have hs := qv_neg c9 hs
            by_cases c11 : a1 = (4 : Int32)
            · have hs := qv_pos c11 hs
              refine qv_tsIn (tgt := 96) (4 : Int32) c11 dX9_count_22 (by decide) (by decide) rfl rfl ?_
              refine qv_aload_n dX9_count_96 (i := 0) rfl rfl ?_
              obtain ⟨v11, e12, hs⟩ := qv_bind hs
              refine qv_getI dX9_count_97 qF_X9_186 e12 ?_
              obtain ⟨rfl, rfl⟩ := qv_pr hs
              exact qv_iret dX9_count_100 rfl
            · have hs := qv_neg c11 hs
              by_cases c13 : a1 = (5 : Int32)
              · have hs := qv_pos c13 hs
                refine qv_tsIn (tgt := 101) (5 : Int32) c13 dX9_count_22 (by decide) (by decide) rfl rfl ?_
                refine qv_aload_n dX9_count_101 (i := 0) rfl rfl ?_
                obtain ⟨u9, e14, hs⟩ := qv_bind hs
                obtain ⟨v10, e15, hs⟩ := qv_bind hs
                refine qv_cV (d2 := mX9_fitMany) (o := a0) (ci := 8) (r := some (.int v10)) (h2 := h) (av := []) (st := []) dX9_count_102 qM_X9_304 qD_X9_fitMany e14 rfl rfl ⟨by decide, by decide⟩ rfl (Nat.le_of_ble_eq_true rfl) (Nat.le_of_ble_eq_true rfl) (sX9_fitMany e15) rfl ?_
                obtain ⟨rfl, rfl⟩ := qv_pr hs
                exact qv_iret dX9_count_105 rfl
              · have hs := qv_neg c13 hs
                by_cases c16 : a1 = (6 : Int32)
                · have hs := qv_pos c16 hs
                  refine qv_tsIn (tgt := 106) (6 : Int32) c16 dX9_count_22 (by decide) (by decide) rfl rfl ?_
                  refine qv_aload_n dX9_count_106 (i := 0) rfl rfl ?_
                  refine qv_iconst (v := (0 : Int32)) dX9_count_107 rfl ?_
                  obtain ⟨u6, e17, hs⟩ := qv_bind hs
                  obtain ⟨h7, e18, hs⟩ := qv_bind hs
                  refine qv_cV (d2 := mX9_findWorlds) (o := a0) (ci := 8) (r := none) (h2 := h7) (av := [.int (0 : Int32)]) (st := []) dX9_count_108 qM_X9_232 qD_X9_findWorlds e17 rfl rfl ⟨by decide, by decide⟩ rfl (Nat.le_of_ble_eq_true rfl) (Nat.le_of_ble_eq_true rfl) (sX9_findWorlds e18) rfl ?_
                  refine qv_aload_n dX9_count_111 (i := 0) rfl rfl ?_
                  obtain ⟨v8, e19, hs⟩ := qv_bind hs
                  refine qv_getI dX9_count_112 qF_X9_223 e19 ?_
                  obtain ⟨rfl, rfl⟩ := qv_pr hs
                  exact qv_iret dX9_count_115 rfl
                · have hs := qv_neg c16 hs
                  by_cases c20 : a1 = (7 : Int32)
                  · have hs := qv_pos c20 hs
                    refine qv_tsIn (tgt := 116) (7 : Int32) c20 dX9_count_22 (by decide) (by decide) rfl rfl ?_
                    refine qv_aload_n dX9_count_116 (i := 0) rfl rfl ?_
                    obtain ⟨v5, e21, hs⟩ := qv_bind hs
                    refine qv_getI dX9_count_117 qF_X9_192 e21 ?_
                    obtain ⟨rfl, rfl⟩ := qv_pr hs
                    exact qv_iret dX9_count_120 rfl
                  · have hs := qv_neg c20 hs
                    by_cases c22 : a1 = (8 : Int32)
                    · have hs := qv_pos c22 hs
                      refine qv_tsIn (tgt := 121) (8 : Int32) c22 dX9_count_22 (by decide) (by decide) rfl rfl ?_
                      refine qv_aload_n dX9_count_121 (i := 0) rfl rfl ?_
                      obtain ⟨v4, e23, hs⟩ := qv_bind hs
                      refine qv_getI dX9_count_122 qF_X9_99 e23 ?_
                      obtain ⟨rfl, rfl⟩ := qv_pr hs
                      exact qv_iret dX9_count_125 rfl
                    · have hs := qv_neg c22 hs
                      by_cases c24 : a1 = (9 : Int32)
                      · have hs := qv_pos c24 hs
                        refine qv_tsIn (tgt := 126) (9 : Int32) c24 dX9_count_22 (by decide) (by decide) rfl rfl ?_
                        refine qv_aload_n dX9_count_126 (i := 0) rfl rfl ?_
                        obtain ⟨v2, e25, hs⟩ := qv_bind hs
                        refine qv_getI dX9_count_127 qF_X9_38 e25 ?_
                        obtain ⟨m3, hj27, hs⟩ := qv_bind hs
                        have K26 : qv_J l g mX9_count 138 [none, none] [.int m3] h (some (.int r), hz) := by
                          obtain ⟨rfl, rfl⟩ := qv_pr hs
                          exact qv_iret dX9_count_138 rfl
                        replace hs := hj27
                        by_cases c28 : v2 < 0
                        · have hs := qv_pos c28 hs
                          refine qv_if_lt (tgt := 137) dX9_count_130 rfl (fun _ => ?_) (fun q => absurd c28 q)
                          refine qv_iconst (v := (0 : Int32)) dX9_count_137 rfl ?_
                          cases hs
                          exact qv_dp (qv_le_n (qv_le_n qv_le_0)) K26
                        · have hs := qv_neg c28 hs
                          refine qv_if_lt (tgt := 137) dX9_count_130 rfl (fun q => absurd q c28) (fun _ => ?_)
                          refine qv_iconst (v := (1 : Int32)) dX9_count_133 rfl ?_
                          refine qv_goto (tgt := 138) dX9_count_134 rfl ?_
                          cases hs
                          exact qv_dp (qv_le_n (qv_le_n qv_le_0)) K26
                      · have hs := qv_neg c24 hs
                        refine qv_tsDef (tgt := 139) dX9_count_22 (fun j hj ej => ?_) rfl ?_
                        · rcases (show j = 0 ∨ j = 1 ∨ j = 2 ∨ j = 3 ∨ j = 4 ∨ j = 5 ∨ j = 6 ∨ j = 7 ∨ j = 8 ∨ j = 9 by omega) with rfl | rfl | rfl | rfl | rfl | rfl | rfl | rfl | rfl | rfl
                          · exact absurd (Int32.toInt_inj.mp (by rw [ej]; rfl)) c3
                          · exact absurd (Int32.toInt_inj.mp (by rw [ej]; rfl)) c5
                          · exact absurd (Int32.toInt_inj.mp (by rw [ej]; rfl)) c7
                          · exact absurd (Int32.toInt_inj.mp (by rw [ej]; rfl)) c9
                          · exact absurd (Int32.toInt_inj.mp (by rw [ej]; rfl)) c11
                          · exact absurd (Int32.toInt_inj.mp (by rw [ej]; rfl)) c13
                          · exact absurd (Int32.toInt_inj.mp (by rw [ej]; rfl)) c16
                          · exact absurd (Int32.toInt_inj.mp (by rw [ej]; rfl)) c20
                          · exact absurd (Int32.toInt_inj.mp (by rw [ej]; rfl)) c22
                          · exact absurd (Int32.toInt_inj.mp (by rw [ej]; rfl)) c24
                        refine qv_bipush (v := (-9 : Int32)) dX9_count_139 rfl ?_
                        obtain ⟨rfl, rfl⟩ := qv_pr hs
                        exact qv_iret dX9_count_141 rfl
  · have hs := qv_neg c2 hs
    refine qv_if_eq (tgt := 21) dX9_count_8 rfl (fun q => absurd q c2) (fun _ => ?_)
    refine qv_aload_n dX9_count_11 (i := 0) rfl rfl ?_
    obtain ⟨v16, e29, hs⟩ := qv_bind hs
    refine qv_getR dX9_count_12 qF_X9_7 e29 ?_
    refine qv_iload_n dX9_count_15 (i := 1) rfl rfl ?_
    refine qv_bipush (v := (10 : Int32)) dX9_count_16 rfl ?_
    refine qv_isub dX9_count_18 ?_
    obtain ⟨v17, e30, hs⟩ := qv_bind hs
    refine qv_iald dX9_count_19 e30 ?_
    obtain ⟨rfl, rfl⟩ := qv_pr hs
    exact qv_iret dX9_count_20 rfl
theorem qD_X9_count : qv_DV mX9_count 1 := ⟨(qv_i18 (List.mem_of_getElem? (i := 8) (by decide +kernel))), (qv_i18 (List.mem_of_getElem? (i := 9) (by decide +kernel))), (qv_i1 (List.mem_of_getElem? (i := 14) (by decide +kernel))), (qv_i18 (List.mem_of_getElem? (i := 10) (by decide +kernel))), by decide +kernel, by decide +kernel⟩
