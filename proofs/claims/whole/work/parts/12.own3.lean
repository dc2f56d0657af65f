/-! ===== 12.own3: by program (wip/whole/gen): for each method its pure function f.., its descriptor m.., the proof s.. that the frame logic runs it ===== -/
/-- TrueOneWay.refuse(I)I -/
noncomputable def fX8_refuse (a0 : Nat) (a1 : Int32) (h : qv_H) : Option (Int32 × qv_H) :=
  Option.bind (α := Int32 × qv_H) (
      if (-a1) < (1 : Int32) then
        some (a1, h)
      else
        (qv_gR h 7 a0 10).bind fun v1 =>
        (qv_ln h v1).bind fun v2 =>
        if v2 ≤ (-a1) then
          some (a1, h)
        else
          (qv_gR h 7 a0 10).bind fun v3 =>
          (qv_aI h false v3 (-a1)).bind fun v4 =>
          (qv_sI h false v3 (-a1) (v4 + (1 : Int32))).bind fun h5 =>
          some (a1, h5)
    ) fun (m6, h7) =>
  some (m6, h7)
abbrev mX8_refuse : qv_M := (yX8_refuse, cX8_refuse, 3, (Option.some Jvm.ClassFile.FieldType.int), 0, 0)
set_option maxRecDepth 100000 in
set_option maxHeartbeats 4000000 in
theorem sX8_refuse {l : Launch} {g : qv_G} {a0 : Nat} {a1 : Int32} {h : qv_H} {r : Int32} {hz : qv_H} (hs : fX8_refuse a0 a1 h = some (r, hz)) : qv_J l g mX8_refuse 0 [some (.ref a0), some (.int a1), none] [] h (some (.int r), hz) := by
  unfold fX8_refuse at hs
  refine qv_iload_n dX8_refuse_0 (i := 1) rfl rfl ?_
  refine qv_ineg dX8_refuse_1 ?_
  refine qv_istore_n (lo2 := [some (.ref a0), some (.int a1), some (.int (-a1))]) dX8_refuse_2 (i := 2) rfl (by decide) rfl (Nat.le_of_ble_eq_true rfl) rfl ?_
  refine qv_iload_n dX8_refuse_3 (i := 2) rfl rfl ?_
  refine qv_iconst (v := (1 : Int32)) dX8_refuse_4 rfl ?_
  obtain ⟨⟨m6, h7⟩, hj2, hs⟩ := qv_bind hs
  dsimp only at hs
  have K1 : qv_J l g mX8_refuse 27 [none, some (.int m6), none] [] h7 (some (.int r), hz) := by
    refine qv_iload_n dX8_refuse_27 (i := 1) rfl rfl ?_
    obtain ⟨rfl, rfl⟩ := qv_pr hs
    exact qv_iret dX8_refuse_28 rfl
  replace hs := hj2
  by_cases c3 : (-a1) < (1 : Int32)
  · have hs := qv_pos c3 hs
    refine qv_icmp_lt (tgt := 27) dX8_refuse_5 rfl (fun _ => ?_) (fun q => absurd c3 q)
    cases hs
    exact qv_dp (qv_le_n (qv_le_s (qv_le_n qv_le_0))) K1
  · have hs := qv_neg c3 hs
    refine qv_icmp_lt (tgt := 27) dX8_refuse_5 rfl (fun q => absurd q c3) (fun _ => ?_)
    refine qv_iload_n dX8_refuse_8 (i := 2) rfl rfl ?_
    refine qv_aload_n dX8_refuse_9 (i := 0) rfl rfl ?_
    obtain ⟨v1, e4, hs⟩ := qv_bind hs
    refine qv_getR dX8_refuse_10 qF_X8_67 e4 ?_
    obtain ⟨v2, e5, hs⟩ := qv_bind hs
    refine qv_alen dX8_refuse_13 e5 ?_
    by_cases c6 : v2 ≤ (-a1)
    · have hs := qv_pos c6 hs
      refine qv_icmp_ge (tgt := 27) dX8_refuse_14 rfl (fun _ => ?_) (fun q => absurd c6 q)
      cases hs
      exact qv_dp (qv_le_n (qv_le_s (qv_le_n qv_le_0))) K1
    · have hs := qv_neg c6 hs
      refine qv_icmp_ge (tgt := 27) dX8_refuse_14 rfl (fun q => absurd q c6) (fun _ => ?_)
      refine qv_aload_n dX8_refuse_17 (i := 0) rfl rfl ?_
      obtain ⟨v3, e7, hs⟩ := qv_bind hs
      refine qv_getR dX8_refuse_18 qF_X8_67 e7 ?_
      refine qv_iload_n dX8_refuse_21 (i := 2) rfl rfl ?_
      refine qv_dup2 dX8_refuse_22 rfl rfl ?_
      obtain ⟨v4, e8, hs⟩ := qv_bind hs
      refine qv_iald dX8_refuse_23 e8 ?_
      refine qv_iconst (v := (1 : Int32)) dX8_refuse_24 rfl ?_
      refine qv_iadd dX8_refuse_25 ?_
      obtain ⟨h5, e9, hs⟩ := qv_bind hs
      refine qv_iast dX8_refuse_26 e9 ?_
      cases hs
      exact qv_dp (qv_le_n (qv_le_s (qv_le_n qv_le_0))) K1
theorem qD_X8_refuse : qv_DV mX8_refuse 1 := ⟨(qv_i4 (List.mem_of_getElem? (i := 59) (by decide +kernel))), (qv_i0 (List.mem_of_getElem? (i := 2) (by decide +kernel))), (qv_i1 (List.mem_of_getElem? (i := 5) (by decide +kernel))), (qv_i4 (List.mem_of_getElem? (i := 60) (by decide +kernel))), by decide +kernel, by decide +kernel⟩
/-- TrueOneWay.letter(I)I -/
noncomputable def fX8_letter (a0 : Nat) (a1 : Int32) (h : qv_H) : Option (Int32 × qv_H) :=
  if 0 ≤ a1 then
    if (255 : Int32) < a1 then
      (qv_ob h 7 a0).bind fun _ =>
      (fX8_refuse a0 (-6 : Int32) h).bind fun (v2, h3) =>
      some (v2, h3)
    else
      (qv_gR h 7 a0 0).bind fun v4 =>
      (qv_gI h 4 v4 0).bind fun v5 =>
      if v5 < (80 : Int32) then
        (qv_gR h 7 a0 0).bind fun v6 =>
        (qv_ob h 4 v6).bind fun _ =>
        (fX5_add v6 a1 h).bind fun h8 =>
        (qv_gR h8 7 a0 0).bind fun v9 =>
        (qv_gI h8 4 v9 0).bind fun v10 =>
        some (v10, h8)
      else
        (qv_ob h 7 a0).bind fun _ =>
        (fX8_refuse a0 (-6 : Int32) h).bind fun (v12, h13) =>
        some (v12, h13)
  else
    (qv_ob h 7 a0).bind fun _ =>
    (fX8_refuse a0 (-4 : Int32) h).bind fun (v15, h16) =>
    some (v15, h16)
abbrev mX8_letter : qv_M := (yX8_letter, cX8_letter, 2, (Option.some Jvm.ClassFile.FieldType.int), 1, 22)
set_option maxRecDepth 100000 in
set_option maxHeartbeats 4000000 in
theorem sX8_letter {l : Launch} {g : qv_G} {a0 : Nat} {a1 : Int32} {h : qv_H} {r : Int32} {hz : qv_H} (hs : fX8_letter a0 a1 h = some (r, hz)) : qv_J l g mX8_letter 0 [some (.ref a0), some (.int a1)] [] h (some (.int r), hz) := by
  unfold fX8_letter at hs
  refine qv_iload_n dX8_letter_0 (i := 1) rfl rfl ?_
  by_cases c1 : 0 ≤ a1
  · have hs := qv_pos c1 hs
    refine qv_if_ge (tgt := 11) dX8_letter_1 rfl (fun _ => ?_) (fun q => absurd c1 q)
    refine qv_iload_n dX8_letter_11 (i := 1) rfl rfl ?_
    refine qv_sipush (v := (255 : Int32)) dX8_letter_12 rfl ?_
    by_cases c2 : (255 : Int32) < a1
    · have hs := qv_pos c2 hs
      refine qv_icmp_gt (tgt := 30) dX8_letter_15 rfl (fun _ => ?_) (fun q => absurd c2 q)
      refine qv_aload_n dX8_letter_30 (i := 0) rfl rfl ?_
      refine qv_bipush (v := (-6 : Int32)) dX8_letter_31 rfl ?_
      obtain ⟨u1, e3, hs⟩ := qv_bind hs
      obtain ⟨⟨v2, h3⟩, e4, hs⟩ := qv_bind hs
      dsimp only at hs
      refine qv_cV (d2 := mX8_refuse) (o := a0) (ci := 7) (r := some (.int v2)) (h2 := h3) (av := [.int (-6 : Int32)]) (st := []) dX8_letter_33 qM_X8_83 qD_X8_refuse e3 rfl rfl ⟨by decide, by decide⟩ rfl (Nat.le_of_ble_eq_true rfl) (Nat.le_of_ble_eq_true rfl) (sX8_refuse e4) rfl ?_
      obtain ⟨rfl, rfl⟩ := qv_pr hs
      exact qv_iret dX8_letter_36 rfl
    · have hs := qv_neg c2 hs
      refine qv_icmp_gt (tgt := 30) dX8_letter_15 rfl (fun q => absurd q c2) (fun _ => ?_)
      refine qv_aload_n dX8_letter_18 (i := 0) rfl rfl ?_
      obtain ⟨v4, e5, hs⟩ := qv_bind hs
      refine qv_getR dX8_letter_19 qF_X8_10 e5 ?_
      obtain ⟨v5, e6, hs⟩ := qv_bind hs
      refine qv_getI dX8_letter_22 qF_X8_87 e6 ?_
      refine qv_bipush (v := (80 : Int32)) dX8_letter_25 rfl ?_
      by_cases c7 : v5 < (80 : Int32)
      · have hs := qv_pos c7 hs
        refine qv_icmp_lt (tgt := 37) dX8_letter_27 rfl (fun _ => ?_) (fun q => absurd c7 q)
        refine qv_aload_n dX8_letter_37 (i := 0) rfl rfl ?_
        obtain ⟨v6, e8, hs⟩ := qv_bind hs
        refine qv_getR dX8_letter_38 qF_X8_10 e8 ?_
        refine qv_iload_n dX8_letter_41 (i := 1) rfl rfl ?_
        obtain ⟨u7, e9, hs⟩ := qv_bind hs
        obtain ⟨h8, e10, hs⟩ := qv_bind hs
        refine qv_cV (d2 := mX5_add) (o := v6) (ci := 4) (r := none) (h2 := h8) (av := [.int a1]) (st := []) dX8_letter_42 qM_X8_91 qD_X5_add e9 rfl rfl ⟨by decide, by decide⟩ rfl (Nat.le_of_ble_eq_true rfl) (Nat.le_of_ble_eq_true rfl) (sX5_add e10) rfl ?_
        refine qv_aload_n dX8_letter_45 (i := 0) rfl rfl ?_
        obtain ⟨v9, e11, hs⟩ := qv_bind hs
        refine qv_getR dX8_letter_46 qF_X8_10 e11 ?_
        obtain ⟨v10, e12, hs⟩ := qv_bind hs
        refine qv_getI dX8_letter_49 qF_X8_87 e12 ?_
        obtain ⟨rfl, rfl⟩ := qv_pr hs
        exact qv_iret dX8_letter_52 rfl
      · have hs := qv_neg c7 hs
        refine qv_icmp_lt (tgt := 37) dX8_letter_27 rfl (fun q => absurd q c7) (fun _ => ?_)
        refine qv_aload_n dX8_letter_30 (i := 0) rfl rfl ?_
        refine qv_bipush (v := (-6 : Int32)) dX8_letter_31 rfl ?_
        obtain ⟨u11, e13, hs⟩ := qv_bind hs
        obtain ⟨⟨v12, h13⟩, e14, hs⟩ := qv_bind hs
        dsimp only at hs
        refine qv_cV (d2 := mX8_refuse) (o := a0) (ci := 7) (r := some (.int v12)) (h2 := h13) (av := [.int (-6 : Int32)]) (st := []) dX8_letter_33 qM_X8_83 qD_X8_refuse e13 rfl rfl ⟨by decide, by decide⟩ rfl (Nat.le_of_ble_eq_true rfl) (Nat.le_of_ble_eq_true rfl) (sX8_refuse e14) rfl ?_
        obtain ⟨rfl, rfl⟩ := qv_pr hs
        exact qv_iret dX8_letter_36 rfl
  · have hs := qv_neg c1 hs
    refine qv_if_ge (tgt := 11) dX8_letter_1 rfl (fun q => absurd q c1) (fun _ => ?_)
    refine qv_aload_n dX8_letter_4 (i := 0) rfl rfl ?_
    refine qv_bipush (v := (-4 : Int32)) dX8_letter_5 rfl ?_
    obtain ⟨u14, e15, hs⟩ := qv_bind hs
    obtain ⟨⟨v15, h16⟩, e16, hs⟩ := qv_bind hs
    dsimp only at hs
    refine qv_cV (d2 := mX8_refuse) (o := a0) (ci := 7) (r := some (.int v15)) (h2 := h16) (av := [.int (-4 : Int32)]) (st := []) dX8_letter_7 qM_X8_83 qD_X8_refuse e15 rfl rfl ⟨by decide, by decide⟩ rfl (Nat.le_of_ble_eq_true rfl) (Nat.le_of_ble_eq_true rfl) (sX8_refuse e16) rfl ?_
    obtain ⟨rfl, rfl⟩ := qv_pr hs
    exact qv_iret dX8_letter_10 rfl
theorem qD_X8_letter : qv_DV mX8_letter 1 := ⟨(qv_i4 (List.mem_of_getElem? (i := 55) (by decide +kernel))), (qv_i4 (List.mem_of_getElem? (i := 56) (by decide +kernel))), (qv_i1 (List.mem_of_getElem? (i := 5) (by decide +kernel))), (qv_i4 (List.mem_of_getElem? (i := 57) (by decide +kernel))), by decide +kernel, by decide +kernel⟩
/-- TrueOneWay.road(II)I -/
noncomputable def fX8_road (a0 : Nat) (a1 : Int32) (a2 : Int32) (h : qv_H) : Option (Int32 × qv_H) :=
  (qv_gR h 7 a0 1).bind fun v1 =>
  (qv_ob h 2 v1).bind fun _ =>
  (fX3_hasRoad v1 a1 h).bind fun v3 =>
  if v3 = 0 then
    (qv_ob h 7 a0).bind fun _ =>
    (fX8_refuse a0 (-1 : Int32) h).bind fun (v17, h18) =>
    some (v17, h18)
  else
    if a2 = (0 : Int32) then
      (qv_gR h 7 a0 1).bind fun v13 =>
      (qv_gR h 2 v13 4).bind fun v14 =>
      (qv_aI h false v14 a1).bind fun v15 =>
      some (v15, h)
    else
      if a2 = (1 : Int32) then
        (qv_gR h 7 a0 1).bind fun v10 =>
        (qv_gR h 2 v10 5).bind fun v11 =>
        (qv_aI h false v11 a1).bind fun v12 =>
        some (v12, h)
      else
        if a2 = (2 : Int32) then
          (qv_gR h 7 a0 1).bind fun v7 =>
          (qv_ob h 2 v7).bind fun _ =>
          (fX3_signsOn v7 a1 h).bind fun v9 =>
          some (v9, h)
        else
          (qv_ob h 7 a0).bind fun _ =>
          (fX8_refuse a0 (-2 : Int32) h).bind fun (v5, h6) =>
          some (v5, h6)
abbrev mX8_road : qv_M := (yX8_road, cX8_road, 3, (Option.some Jvm.ClassFile.FieldType.int), 1, 23)
set_option maxRecDepth 100000 in
set_option maxHeartbeats 4000000 in
theorem sX8_road {l : Launch} {g : qv_G} {a0 : Nat} {a1 : Int32} {a2 : Int32} {h : qv_H} {r : Int32} {hz : qv_H} (hs : fX8_road a0 a1 a2 h = some (r, hz)) : qv_J l g mX8_road 0 [some (.ref a0), some (.int a1), some (.int a2)] [] h (some (.int r), hz) := by
  unfold fX8_road at hs
  refine qv_aload_n dX8_road_0 (i := 0) rfl rfl ?_
  obtain ⟨v1, e1, hs⟩ := qv_bind hs
  refine qv_getR dX8_road_1 qF_X8_19 e1 ?_
  refine qv_iload_n dX8_road_4 (i := 1) rfl rfl ?_
  obtain ⟨u2, e2, hs⟩ := qv_bind hs
  obtain ⟨v3, e3, hs⟩ := qv_bind hs
  refine qv_cV (d2 := mX3_hasRoad) (o := v1) (ci := 2) (r := some (.int v3)) (h2 := h) (av := [.int a1]) (st := []) dX8_road_5 qM_X8_102 qD_X3_hasRoad e2 rfl rfl ⟨by decide, by decide⟩ rfl (Nat.le_of_ble_eq_true rfl) (Nat.le_of_ble_eq_true rfl) (sX3_hasRoad e3) rfl ?_
  by_cases c4 : v3 = 0
  · have hs := qv_pos c4 hs
    refine qv_if_ne (tgt := 17) dX8_road_8 rfl (fun q => absurd c4 q) (fun _ => ?_)
    refine qv_aload_n dX8_road_11 (i := 0) rfl rfl ?_
    refine qv_iconst (v := (-1 : Int32)) dX8_road_12 rfl ?_
    obtain ⟨u16, e5, hs⟩ := qv_bind hs
    obtain ⟨⟨v17, h18⟩, e6, hs⟩ := qv_bind hs
    dsimp only at hs
    refine qv_cV (d2 := mX8_refuse) (o := a0) (ci := 7) (r := some (.int v17)) (h2 := h18) (av := [.int (-1 : Int32)]) (st := []) dX8_road_13 qM_X8_83 qD_X8_refuse e5 rfl rfl ⟨by decide, by decide⟩ rfl (Nat.le_of_ble_eq_true rfl) (Nat.le_of_ble_eq_true rfl) (sX8_refuse e6) rfl ?_
    obtain ⟨rfl, rfl⟩ := qv_pr hs
    exact qv_iret dX8_road_16 rfl
  · have hs := qv_neg c4 hs
    refine qv_if_ne (tgt := 17) dX8_road_8 rfl (fun _ => ?_) (fun q => absurd q c4)
    refine qv_iload_n dX8_road_17 (i := 2) rfl rfl ?_
    by_cases c7 : a2 = (0 : Int32)
    · have hs := qv_pos c7 hs
      refine qv_tsIn (tgt := 44) (0 : Int32) c7 dX8_road_18 (by decide) (by decide) rfl rfl ?_
      refine qv_aload_n dX8_road_44 (i := 0) rfl rfl ?_
      obtain ⟨v13, e8, hs⟩ := qv_bind hs
      refine qv_getR dX8_road_45 qF_X8_19 e8 ?_
      obtain ⟨v14, e9, hs⟩ := qv_bind hs
      refine qv_getR dX8_road_48 qF_X8_106 e9 ?_
      refine qv_iload_n dX8_road_51 (i := 1) rfl rfl ?_
      obtain ⟨v15, e10, hs⟩ := qv_bind hs
      refine qv_iald dX8_road_52 e10 ?_
      obtain ⟨rfl, rfl⟩ := qv_pr hs
      exact qv_iret dX8_road_53 rfl
    · have hs := qv_neg c7 hs
      by_cases c11 : a2 = (1 : Int32)
      · have hs := qv_pos c11 hs
        refine qv_tsIn (tgt := 54) (1 : Int32) c11 dX8_road_18 (by decide) (by decide) rfl rfl ?_
        refine qv_aload_n dX8_road_54 (i := 0) rfl rfl ?_
        obtain ⟨v10, e12, hs⟩ := qv_bind hs
        refine qv_getR dX8_road_55 qF_X8_19 e12 ?_
        obtain ⟨v11, e13, hs⟩ := qv_bind hs
        refine qv_getR dX8_road_58 qF_X8_109 e13 ?_
        refine qv_iload_n dX8_road_61 (i := 1) rfl rfl ?_
        obtain ⟨v12, e14, hs⟩ := qv_bind hs
        refine qv_iald dX8_road_62 e14 ?_
        obtain ⟨rfl, rfl⟩ := qv_pr hs
        exact qv_iret dX8_road_63 rfl
      · have hs := qv_neg c11 hs
        by_cases c15 : a2 = (2 : Int32)
        · have hs := qv_pos c15 hs
          refine qv_tsIn (tgt := 64) (2 : Int32) c15 dX8_road_18 (by decide) (by decide) rfl rfl ?_
          refine qv_aload_n dX8_road_64 (i := 0) rfl rfl ?_
          obtain ⟨v7, e16, hs⟩ := qv_bind hs
          refine qv_getR dX8_road_65 qF_X8_19 e16 ?_
          refine qv_iload_n dX8_road_68 (i := 1) rfl rfl ?_
          obtain ⟨u8, e17, hs⟩ := qv_bind hs
          obtain ⟨v9, e18, hs⟩ := qv_bind hs
          refine qv_cV (d2 := mX3_signsOn) (o := v7) (ci := 2) (r := some (.int v9)) (h2 := h) (av := [.int a1]) (st := []) dX8_road_69 qM_X8_112 qD_X3_signsOn e17 rfl rfl ⟨by decide, by decide⟩ rfl (Nat.le_of_ble_eq_true rfl) (Nat.le_of_ble_eq_true rfl) (sX3_signsOn e18) rfl ?_
          obtain ⟨rfl, rfl⟩ := qv_pr hs
          exact qv_iret dX8_road_72 rfl
        · have hs := qv_neg c15 hs
          refine qv_tsDef (tgt := 73) dX8_road_18 (fun j hj ej => ?_) rfl ?_
          · rcases (show j = 0 ∨ j = 1 ∨ j = 2 by omega) with rfl | rfl | rfl
            · exact absurd (Int32.toInt_inj.mp (by rw [ej]; rfl)) c7
            · exact absurd (Int32.toInt_inj.mp (by rw [ej]; rfl)) c11
            · exact absurd (Int32.toInt_inj.mp (by rw [ej]; rfl)) c15
          refine qv_aload_n dX8_road_73 (i := 0) rfl rfl ?_
          refine qv_bipush (v := (-2 : Int32)) dX8_road_74 rfl ?_
          obtain ⟨u4, e19, hs⟩ := qv_bind hs
          obtain ⟨⟨v5, h6⟩, e20, hs⟩ := qv_bind hs
          dsimp only at hs
          refine qv_cV (d2 := mX8_refuse) (o := a0) (ci := 7) (r := some (.int v5)) (h2 := h6) (av := [.int (-2 : Int32)]) (st := []) dX8_road_76 qM_X8_83 qD_X8_refuse e19 rfl rfl ⟨by decide, by decide⟩ rfl (Nat.le_of_ble_eq_true rfl) (Nat.le_of_ble_eq_true rfl) (sX8_refuse e20) rfl ?_
          obtain ⟨rfl, rfl⟩ := qv_pr hs
          exact qv_iret dX8_road_79 rfl
theorem qD_X8_road : qv_DV mX8_road 2 := ⟨(qv_i8 (List.mem_of_getElem? (i := 3) (by decide +kernel))), (qv_i8 (List.mem_of_getElem? (i := 4) (by decide +kernel))), (qv_i1 (List.mem_of_getElem? (i := 5) (by decide +kernel))), (qv_i8 (List.mem_of_getElem? (i := 5) (by decide +kernel))), by decide +kernel, by decide +kernel⟩
/-- TrueOneWay.sign(II)I -/
noncomputable def fX8_sign (a0 : Nat) (a1 : Int32) (a2 : Int32) (h : qv_H) : Option (Int32 × qv_H) :=
  (qv_gR h 7 a0 1).bind fun v1 =>
  (qv_ob h 2 v1).bind fun _ =>
  (fX3_hasSign v1 a1 h).bind fun v3 =>
  if v3 = 0 then
    (qv_ob h 7 a0).bind fun _ =>
    (fX8_refuse a0 (-1 : Int32) h).bind fun (v20, h21) =>
    some (v20, h21)
  else
    if a2 = (0 : Int32) then
      (qv_gR h 7 a0 1).bind fun v16 =>
      (qv_gR h 2 v16 6).bind fun v17 =>
      (qv_aI h false v17 a1).bind fun v18 =>
      some (v18, h)
    else
      if a2 = (1 : Int32) then
        (qv_gR h 7 a0 1).bind fun v13 =>
        (qv_gR h 2 v13 7).bind fun v14 =>
        (qv_aI h false v14 a1).bind fun v15 =>
        some (v15, h)
      else
        if a2 = (2 : Int32) then
          (qv_gR h 7 a0 1).bind fun v10 =>
          (qv_gR h 2 v10 8).bind fun v11 =>
          (qv_aI h false v11 a1).bind fun v12 =>
          some (v12, h)
        else
          if a2 = (3 : Int32) then
            (qv_gR h 7 a0 1).bind fun v7 =>
            (qv_gR h 2 v7 9).bind fun v8 =>
            (qv_aI h false v8 a1).bind fun v9 =>
            some (v9, h)
          else
            (qv_ob h 7 a0).bind fun _ =>
            (fX8_refuse a0 (-2 : Int32) h).bind fun (v5, h6) =>
            some (v5, h6)
abbrev mX8_sign : qv_M := (yX8_sign, cX8_sign, 3, (Option.some Jvm.ClassFile.FieldType.int), 1, 22)
set_option maxRecDepth 100000 in
set_option maxHeartbeats 4000000 in
theorem sX8_sign {l : Launch} {g : qv_G} {a0 : Nat} {a1 : Int32} {a2 : Int32} {h : qv_H} {r : Int32} {hz : qv_H} (hs : fX8_sign a0 a1 a2 h = some (r, hz)) : qv_J l g mX8_sign 0 [some (.ref a0), some (.int a1), some (.int a2)] [] h (some (.int r), hz) := by
  unfold fX8_sign at hs
  refine qv_aload_n dX8_sign_0 (i := 0) rfl rfl ?_
  obtain ⟨v1, e1, hs⟩ := qv_bind hs
  refine qv_getR dX8_sign_1 qF_X8_19 e1 ?_
  refine qv_iload_n dX8_sign_4 (i := 1) rfl rfl ?_
  obtain ⟨u2, e2, hs⟩ := qv_bind hs
  obtain ⟨v3, e3, hs⟩ := qv_bind hs
  refine qv_cV (d2 := mX3_hasSign) (o := v1) (ci := 2) (r := some (.int v3)) (h2 := h) (av := [.int a1]) (st := []) dX8_sign_5 qM_X8_115 qD_X3_hasSign e2 rfl rfl ⟨by decide, by decide⟩ rfl (Nat.le_of_ble_eq_true rfl) (Nat.le_of_ble_eq_true rfl) (sX3_hasSign e3) rfl ?_
  by_cases c4 : v3 = 0
  · have hs := qv_pos c4 hs
    refine qv_if_ne (tgt := 17) dX8_sign_8 rfl (fun q => absurd c4 q) (fun _ => ?_)
    refine qv_aload_n dX8_sign_11 (i := 0) rfl rfl ?_
    refine qv_iconst (v := (-1 : Int32)) dX8_sign_12 rfl ?_
    obtain ⟨u19, e5, hs⟩ := qv_bind hs
    obtain ⟨⟨v20, h21⟩, e6, hs⟩ := qv_bind hs
    dsimp only at hs
    refine qv_cV (d2 := mX8_refuse) (o := a0) (ci := 7) (r := some (.int v20)) (h2 := h21) (av := [.int (-1 : Int32)]) (st := []) dX8_sign_13 qM_X8_83 qD_X8_refuse e5 rfl rfl ⟨by decide, by decide⟩ rfl (Nat.le_of_ble_eq_true rfl) (Nat.le_of_ble_eq_true rfl) (sX8_refuse e6) rfl ?_
    obtain ⟨rfl, rfl⟩ := qv_pr hs
    exact qv_iret dX8_sign_16 rfl
  · have hs := qv_neg c4 hs
    refine qv_if_ne (tgt := 17) dX8_sign_8 rfl (fun _ => ?_) (fun q => absurd q c4)
    refine qv_iload_n dX8_sign_17 (i := 2) rfl rfl ?_
    by_cases c7 : a2 = (0 : Int32)
    · have hs := qv_pos c7 hs
      refine qv_tsIn (tgt := 48) (0 : Int32) c7 dX8_sign_18 (by decide) (by decide) rfl rfl ?_
      refine qv_aload_n dX8_sign_48 (i := 0) rfl rfl ?_
      obtain ⟨v16, e8, hs⟩ := qv_bind hs
      refine qv_getR dX8_sign_49 qF_X8_19 e8 ?_
      obtain ⟨v17, e9, hs⟩ := qv_bind hs
      refine qv_getR dX8_sign_52 qF_X8_118 e9 ?_
      refine qv_iload_n dX8_sign_55 (i := 1) rfl rfl ?_
      obtain ⟨v18, e10, hs⟩ := qv_bind hs
      refine qv_iald dX8_sign_56 e10 ?_
      obtain ⟨rfl, rfl⟩ := qv_pr hs
      exact qv_iret dX8_sign_57 rfl
    · have hs := qv_neg c7 hs
      by_cases c11 : a2 = (1 : Int32)
      · have hs := qv_pos c11 hs
        refine qv_tsIn (tgt := 58) (1 : Int32) c11 dX8_sign_18 (by decide) (by decide) rfl rfl ?_
        refine qv_aload_n dX8_sign_58 (i := 0) rfl rfl ?_
        obtain ⟨v13, e12, hs⟩ := qv_bind hs
        refine qv_getR dX8_sign_59 qF_X8_19 e12 ?_
        obtain ⟨v14, e13, hs⟩ := qv_bind hs
        refine qv_getR dX8_sign_62 qF_X8_121 e13 ?_
        refine qv_iload_n dX8_sign_65 (i := 1) rfl rfl ?_
        obtain ⟨v15, e14, hs⟩ := qv_bind hs
        refine qv_iald dX8_sign_66 e14 ?_
        obtain ⟨rfl, rfl⟩ := qv_pr hs
        exact qv_iret dX8_sign_67 rfl
      · have hs := qv_neg c11 hs
        by_cases c15 : a2 = (2 : Int32)
        · have hs := qv_pos c15 hs
          refine qv_tsIn (tgt := 68) (2 : Int32) c15 dX8_sign_18 (by decide) (by decide) rfl rfl ?_
          refine qv_aload_n dX8_sign_68 (i := 0) rfl rfl ?_
          obtain ⟨v10, e16, hs⟩ := qv_bind hs
          refine qv_getR dX8_sign_69 qF_X8_19 e16 ?_
          obtain ⟨v11, e17, hs⟩ := qv_bind hs
          refine qv_getR dX8_sign_72 qF_X8_124 e17 ?_
          refine qv_iload_n dX8_sign_75 (i := 1) rfl rfl ?_
          obtain ⟨v12, e18, hs⟩ := qv_bind hs
          refine qv_iald dX8_sign_76 e18 ?_
          obtain ⟨rfl, rfl⟩ := qv_pr hs
          exact qv_iret dX8_sign_77 rfl
        · have hs := qv_neg c15 hs
          by_cases c19 : a2 = (3 : Int32)
          · have hs := qv_pos c19 hs
            refine qv_tsIn (tgt := 78) (3 : Int32) c19 dX8_sign_18 (by decide) (by decide) rfl rfl ?_
            refine qv_aload_n dX8_sign_78 (i := 0) rfl rfl ?_
            obtain ⟨v7, e20, hs⟩ := qv_bind hs
            refine qv_getR dX8_sign_79 qF_X8_19 e20 ?_
            obtain ⟨v8, e21, hs⟩ := qv_bind hs
            refine qv_getR dX8_sign_82 qF_X8_127 e21 ?_
            refine qv_iload_n dX8_sign_85 (i := 1) rfl rfl ?_
            obtain ⟨v9, e22, hs⟩ := qv_bind hs
            refine qv_iald dX8_sign_86 e22 ?_
            obtain ⟨rfl, rfl⟩ := qv_pr hs
            exact qv_iret dX8_sign_87 rfl
          · have hs := qv_neg c19 hs
            refine qv_tsDef (tgt := 88) dX8_sign_18 (fun j hj ej => ?_) rfl ?_
            · rcases (show j = 0 ∨ j = 1 ∨ j = 2 ∨ j = 3 by omega) with rfl | rfl | rfl | rfl
              · exact absurd (Int32.toInt_inj.mp (by rw [ej]; rfl)) c7
              · exact absurd (Int32.toInt_inj.mp (by rw [ej]; rfl)) c11
              · exact absurd (Int32.toInt_inj.mp (by rw [ej]; rfl)) c15
              · exact absurd (Int32.toInt_inj.mp (by rw [ej]; rfl)) c19
            refine qv_aload_n dX8_sign_88 (i := 0) rfl rfl ?_
            refine qv_bipush (v := (-2 : Int32)) dX8_sign_89 rfl ?_
            obtain ⟨u4, e23, hs⟩ := qv_bind hs
            obtain ⟨⟨v5, h6⟩, e24, hs⟩ := qv_bind hs
            dsimp only at hs
            refine qv_cV (d2 := mX8_refuse) (o := a0) (ci := 7) (r := some (.int v5)) (h2 := h6) (av := [.int (-2 : Int32)]) (st := []) dX8_sign_91 qM_X8_83 qD_X8_refuse e23 rfl rfl ⟨by decide, by decide⟩ rfl (Nat.le_of_ble_eq_true rfl) (Nat.le_of_ble_eq_true rfl) (sX8_refuse e24) rfl ?_
            obtain ⟨rfl, rfl⟩ := qv_pr hs
            exact qv_iret dX8_sign_94 rfl
theorem qD_X8_sign : qv_DV mX8_sign 2 := ⟨(qv_i8 (List.mem_of_getElem? (i := 12) (by decide +kernel))), (qv_i8 (List.mem_of_getElem? (i := 13) (by decide +kernel))), (qv_i1 (List.mem_of_getElem? (i := 5) (by decide +kernel))), (qv_i8 (List.mem_of_getElem? (i := 14) (by decide +kernel))), by decide +kernel, by decide +kernel⟩
/-- TrueOneWay.shown(I)I -/
noncomputable def fX8_shown (a0 : Nat) (a1 : Int32) (h : qv_H) : Option (Int32 × qv_H) :=
  (qv_gR h 7 a0 1).bind fun v1 =>
  (qv_ob h 2 v1).bind fun _ =>
  (fX3_hasPlace v1 a1 h).bind fun v3 =>
  if v3 = 0 then
    (qv_ob h 7 a0).bind fun _ =>
    (fX8_refuse a0 (-1 : Int32) h).bind fun (v8, h9) =>
    some (v8, h9)
  else
    (qv_gR h 7 a0 1).bind fun v4 =>
    (qv_gR h 2 v4 10).bind fun v5 =>
    (qv_aI h false v5 a1).bind fun v6 =>
    some (v6, h)
abbrev mX8_shown : qv_M := (yX8_shown, cX8_shown, 2, (Option.some Jvm.ClassFile.FieldType.int), 1, 22)
set_option maxRecDepth 100000 in
set_option maxHeartbeats 4000000 in
theorem sX8_shown {l : Launch} {g : qv_G} {a0 : Nat} {a1 : Int32} {h : qv_H} {r : Int32} {hz : qv_H} (hs : fX8_shown a0 a1 h = some (r, hz)) : qv_J l g mX8_shown 0 [some (.ref a0), some (.int a1)] [] h (some (.int r), hz) := by
  unfold fX8_shown at hs
  refine qv_aload_n dX8_shown_0 (i := 0) rfl rfl ?_
  obtain ⟨v1, e1, hs⟩ := qv_bind hs
  refine qv_getR dX8_shown_1 qF_X8_19 e1 ?_
  refine qv_iload_n dX8_shown_4 (i := 1) rfl rfl ?_
  obtain ⟨u2, e2, hs⟩ := qv_bind hs
  obtain ⟨v3, e3, hs⟩ := qv_bind hs
  refine qv_cV (d2 := mX3_hasPlace) (o := v1) (ci := 2) (r := some (.int v3)) (h2 := h) (av := [.int a1]) (st := []) dX8_shown_5 qM_X8_130 qD_X3_hasPlace e2 rfl rfl ⟨by decide, by decide⟩ rfl (Nat.le_of_ble_eq_true rfl) (Nat.le_of_ble_eq_true rfl) (sX3_hasPlace e3) rfl ?_
  by_cases c4 : v3 = 0
  · have hs := qv_pos c4 hs
    refine qv_if_ne (tgt := 17) dX8_shown_8 rfl (fun q => absurd c4 q) (fun _ => ?_)
    refine qv_aload_n dX8_shown_11 (i := 0) rfl rfl ?_
    refine qv_iconst (v := (-1 : Int32)) dX8_shown_12 rfl ?_
    obtain ⟨u7, e5, hs⟩ := qv_bind hs
    obtain ⟨⟨v8, h9⟩, e6, hs⟩ := qv_bind hs
    dsimp only at hs
    refine qv_cV (d2 := mX8_refuse) (o := a0) (ci := 7) (r := some (.int v8)) (h2 := h9) (av := [.int (-1 : Int32)]) (st := []) dX8_shown_13 qM_X8_83 qD_X8_refuse e5 rfl rfl ⟨by decide, by decide⟩ rfl (Nat.le_of_ble_eq_true rfl) (Nat.le_of_ble_eq_true rfl) (sX8_refuse e6) rfl ?_
    obtain ⟨rfl, rfl⟩ := qv_pr hs
    exact qv_iret dX8_shown_16 rfl
  · have hs := qv_neg c4 hs
    refine qv_if_ne (tgt := 17) dX8_shown_8 rfl (fun _ => ?_) (fun q => absurd q c4)
    refine qv_aload_n dX8_shown_17 (i := 0) rfl rfl ?_
    obtain ⟨v4, e7, hs⟩ := qv_bind hs
    refine qv_getR dX8_shown_18 qF_X8_19 e7 ?_
    obtain ⟨v5, e8, hs⟩ := qv_bind hs
    refine qv_getR dX8_shown_21 qF_X8_133 e8 ?_
    refine qv_iload_n dX8_shown_24 (i := 1) rfl rfl ?_
    obtain ⟨v6, e9, hs⟩ := qv_bind hs
    refine qv_iald dX8_shown_25 e9 ?_
    obtain ⟨rfl, rfl⟩ := qv_pr hs
    exact qv_iret dX8_shown_26 rfl
theorem qD_X8_shown : qv_DV mX8_shown 1 := ⟨(qv_i8 (List.mem_of_getElem? (i := 17) (by decide +kernel))), (qv_i8 (List.mem_of_getElem? (i := 18) (by decide +kernel))), (qv_i1 (List.mem_of_getElem? (i := 5) (by decide +kernel))), (qv_i8 (List.mem_of_getElem? (i := 19) (by decide +kernel))), by decide +kernel, by decide +kernel⟩
/-- TrueOneWay.fits(I)I -/
noncomputable def fX8_fits (a0 : Nat) (a1 : Int32) (h : qv_H) : Option (Int32 × qv_H) :=
  (qv_gR h 7 a0 6).bind fun v1 =>
  (qv_ob h 6 v1).bind fun _ =>
  (fX7_has v1 a1 h).bind fun v3 =>
  if v3 = 0 then
    (qv_ob h 7 a0).bind fun _ =>
    (fX8_refuse a0 (-1 : Int32) h).bind fun (v9, h10) =>
    some (v9, h10)
  else
    (qv_gR h 7 a0 6).bind fun v4 =>
    (qv_ob h 6 v4).bind fun _ =>
    (fX7_isFitting v4 a1 h).bind fun v6 =>
    Option.bind (α := Int32) (
        if v6 = 0 then
          some (0 : Int32)
        else
          some (1 : Int32)
      ) fun m7 =>
    some (m7, h)
abbrev mX8_fits : qv_M := (yX8_fits, cX8_fits, 2, (Option.some Jvm.ClassFile.FieldType.int), 2, 42)
set_option maxRecDepth 100000 in
set_option maxHeartbeats 4000000 in
theorem sX8_fits {l : Launch} {g : qv_G} {a0 : Nat} {a1 : Int32} {h : qv_H} {r : Int32} {hz : qv_H} (hs : fX8_fits a0 a1 h = some (r, hz)) : qv_J l g mX8_fits 0 [some (.ref a0), some (.int a1)] [] h (some (.int r), hz) := by
  unfold fX8_fits at hs
  refine qv_aload_n dX8_fits_0 (i := 0) rfl rfl ?_
  obtain ⟨v1, e1, hs⟩ := qv_bind hs
  refine qv_getR dX8_fits_1 qF_X8_42 e1 ?_
  refine qv_iload_n dX8_fits_4 (i := 1) rfl rfl ?_
  obtain ⟨u2, e2, hs⟩ := qv_bind hs
  obtain ⟨v3, e3, hs⟩ := qv_bind hs
  refine qv_cV (d2 := mX7_has) (o := v1) (ci := 6) (r := some (.int v3)) (h2 := h) (av := [.int a1]) (st := []) dX8_fits_5 qM_X8_136 qD_X7_has e2 rfl rfl ⟨by decide, by decide⟩ rfl (Nat.le_of_ble_eq_true rfl) (Nat.le_of_ble_eq_true rfl) (sX7_has e3) rfl ?_
  by_cases c4 : v3 = 0
  · have hs := qv_pos c4 hs
    refine qv_if_ne (tgt := 17) dX8_fits_8 rfl (fun q => absurd c4 q) (fun _ => ?_)
    refine qv_aload_n dX8_fits_11 (i := 0) rfl rfl ?_
    refine qv_iconst (v := (-1 : Int32)) dX8_fits_12 rfl ?_
    obtain ⟨u8, e5, hs⟩ := qv_bind hs
    obtain ⟨⟨v9, h10⟩, e6, hs⟩ := qv_bind hs
    dsimp only at hs
    refine qv_cV (d2 := mX8_refuse) (o := a0) (ci := 7) (r := some (.int v9)) (h2 := h10) (av := [.int (-1 : Int32)]) (st := []) dX8_fits_13 qM_X8_83 qD_X8_refuse e5 rfl rfl ⟨by decide, by decide⟩ rfl (Nat.le_of_ble_eq_true rfl) (Nat.le_of_ble_eq_true rfl) (sX8_refuse e6) rfl ?_
    obtain ⟨rfl, rfl⟩ := qv_pr hs
    exact qv_iret dX8_fits_16 rfl
  · have hs := qv_neg c4 hs
    refine qv_if_ne (tgt := 17) dX8_fits_8 rfl (fun _ => ?_) (fun q => absurd q c4)
    refine qv_aload_n dX8_fits_17 (i := 0) rfl rfl ?_
    obtain ⟨v4, e7, hs⟩ := qv_bind hs
    refine qv_getR dX8_fits_18 qF_X8_42 e7 ?_
    refine qv_iload_n dX8_fits_21 (i := 1) rfl rfl ?_
    obtain ⟨u5, e8, hs⟩ := qv_bind hs
    obtain ⟨v6, e9, hs⟩ := qv_bind hs
    refine qv_cV (d2 := mX7_isFitting) (o := v4) (ci := 6) (r := some (.int v6)) (h2 := h) (av := [.int a1]) (st := []) dX8_fits_22 qM_X8_139 qD_X7_isFitting e8 rfl rfl ⟨by decide, by decide⟩ rfl (Nat.le_of_ble_eq_true rfl) (Nat.le_of_ble_eq_true rfl) (sX7_isFitting e9) rfl ?_
    obtain ⟨m7, hj11, hs⟩ := qv_bind hs
    have K10 : qv_J l g mX8_fits 33 [none, none] [.int m7] h (some (.int r), hz) := by
      obtain ⟨rfl, rfl⟩ := qv_pr hs
      exact qv_iret dX8_fits_33 rfl
    replace hs := hj11
    by_cases c12 : v6 = 0
    · have hs := qv_pos c12 hs
      refine qv_if_eq (tgt := 32) dX8_fits_25 rfl (fun _ => ?_) (fun q => absurd c12 q)
      refine qv_iconst (v := (0 : Int32)) dX8_fits_32 rfl ?_
      cases hs
      exact qv_dp (qv_le_n (qv_le_n qv_le_0)) K10
    · have hs := qv_neg c12 hs
      refine qv_if_eq (tgt := 32) dX8_fits_25 rfl (fun q => absurd q c12) (fun _ => ?_)
      refine qv_iconst (v := (1 : Int32)) dX8_fits_28 rfl ?_
      refine qv_goto (tgt := 33) dX8_fits_29 rfl ?_
      cases hs
      exact qv_dp (qv_le_n (qv_le_n qv_le_0)) K10
theorem qD_X8_fits : qv_DV mX8_fits 1 := ⟨(qv_i8 (List.mem_of_getElem? (i := 22) (by decide +kernel))), (qv_i8 (List.mem_of_getElem? (i := 23) (by decide +kernel))), (qv_i1 (List.mem_of_getElem? (i := 5) (by decide +kernel))), (qv_i8 (List.mem_of_getElem? (i := 24) (by decide +kernel))), by decide +kernel, by decide +kernel⟩
/-- TrueOneWay.good(I)I -/
noncomputable def fX8_good (a0 : Nat) (a1 : Int32) (h : qv_H) : Option (Int32 × qv_H) :=
  (qv_gR h 7 a0 6).bind fun v1 =>
  (qv_ob h 6 v1).bind fun _ =>
  (fX7_has v1 a1 h).bind fun v3 =>
  if v3 = 0 then
    (qv_ob h 7 a0).bind fun _ =>
    (fX8_refuse a0 (-1 : Int32) h).bind fun (v9, h10) =>
    some (v9, h10)
  else
    (qv_gR h 7 a0 6).bind fun v4 =>
    (qv_ob h 6 v4).bind fun _ =>
    (fX7_isGood v4 a1 h).bind fun v6 =>
    Option.bind (α := Int32) (
        if v6 = 0 then
          some (0 : Int32)
        else
          some (1 : Int32)
      ) fun m7 =>
    some (m7, h)
abbrev mX8_good : qv_M := (yX8_good, cX8_good, 2, (Option.some Jvm.ClassFile.FieldType.int), 3, 64)
set_option maxRecDepth 100000 in
set_option maxHeartbeats 4000000 in
theorem sX8_good {l : Launch} {g : qv_G} {a0 : Nat} {a1 : Int32} {h : qv_H} {r : Int32} {hz : qv_H} (hs : fX8_good a0 a1 h = some (r, hz)) : qv_J l g mX8_good 0 [some (.ref a0), some (.int a1)] [] h (some (.int r), hz) := by
  unfold fX8_good at hs
  refine qv_aload_n dX8_good_0 (i := 0) rfl rfl ?_
  obtain ⟨v1, e1, hs⟩ := qv_bind hs
  refine qv_getR dX8_good_1 qF_X8_42 e1 ?_
  refine qv_iload_n dX8_good_4 (i := 1) rfl rfl ?_
  obtain ⟨u2, e2, hs⟩ := qv_bind hs
  obtain ⟨v3, e3, hs⟩ := qv_bind hs
  refine qv_cV (d2 := mX7_has) (o := v1) (ci := 6) (r := some (.int v3)) (h2 := h) (av := [.int a1]) (st := []) dX8_good_5 qM_X8_136 qD_X7_has e2 rfl rfl ⟨by decide, by decide⟩ rfl (Nat.le_of_ble_eq_true rfl) (Nat.le_of_ble_eq_true rfl) (sX7_has e3) rfl ?_
  by_cases c4 : v3 = 0
  · have hs := qv_pos c4 hs
    refine qv_if_ne (tgt := 17) dX8_good_8 rfl (fun q => absurd c4 q) (fun _ => ?_)
    refine qv_aload_n dX8_good_11 (i := 0) rfl rfl ?_
    refine qv_iconst (v := (-1 : Int32)) dX8_good_12 rfl ?_
    obtain ⟨u8, e5, hs⟩ := qv_bind hs
    obtain ⟨⟨v9, h10⟩, e6, hs⟩ := qv_bind hs
    dsimp only at hs
    refine qv_cV (d2 := mX8_refuse) (o := a0) (ci := 7) (r := some (.int v9)) (h2 := h10) (av := [.int (-1 : Int32)]) (st := []) dX8_good_13 qM_X8_83 qD_X8_refuse e5 rfl rfl ⟨by decide, by decide⟩ rfl (Nat.le_of_ble_eq_true rfl) (Nat.le_of_ble_eq_true rfl) (sX8_refuse e6) rfl ?_
    obtain ⟨rfl, rfl⟩ := qv_pr hs
    exact qv_iret dX8_good_16 rfl
  · have hs := qv_neg c4 hs
    refine qv_if_ne (tgt := 17) dX8_good_8 rfl (fun _ => ?_) (fun q => absurd q c4)
    refine qv_aload_n dX8_good_17 (i := 0) rfl rfl ?_
    obtain ⟨v4, e7, hs⟩ := qv_bind hs
    refine qv_getR dX8_good_18 qF_X8_42 e7 ?_
    refine qv_iload_n dX8_good_21 (i := 1) rfl rfl ?_
    obtain ⟨u5, e8, hs⟩ := qv_bind hs
    obtain ⟨v6, e9, hs⟩ := qv_bind hs
    refine qv_cV (d2 := mX7_isGood) (o := v4) (ci := 6) (r := some (.int v6)) (h2 := h) (av := [.int a1]) (st := []) dX8_good_22 qM_X8_142 qD_X7_isGood e8 rfl rfl ⟨by decide, by decide⟩ rfl (Nat.le_of_ble_eq_true rfl) (Nat.le_of_ble_eq_true rfl) (sX7_isGood e9) rfl ?_
    obtain ⟨m7, hj11, hs⟩ := qv_bind hs
    have K10 : qv_J l g mX8_good 33 [none, none] [.int m7] h (some (.int r), hz) := by
      obtain ⟨rfl, rfl⟩ := qv_pr hs
      exact qv_iret dX8_good_33 rfl
    replace hs := hj11
    by_cases c12 : v6 = 0
    · have hs := qv_pos c12 hs
      refine qv_if_eq (tgt := 32) dX8_good_25 rfl (fun _ => ?_) (fun q => absurd c12 q)
      refine qv_iconst (v := (0 : Int32)) dX8_good_32 rfl ?_
      cases hs
      exact qv_dp (qv_le_n (qv_le_n qv_le_0)) K10
    · have hs := qv_neg c12 hs
      refine qv_if_eq (tgt := 32) dX8_good_25 rfl (fun q => absurd q c12) (fun _ => ?_)
      refine qv_iconst (v := (1 : Int32)) dX8_good_28 rfl ?_
      refine qv_goto (tgt := 33) dX8_good_29 rfl ?_
      cases hs
      exact qv_dp (qv_le_n (qv_le_n qv_le_0)) K10
theorem qD_X8_good : qv_DV mX8_good 1 := ⟨(qv_i8 (List.mem_of_getElem? (i := 28) (by decide +kernel))), (qv_i8 (List.mem_of_getElem? (i := 29) (by decide +kernel))), (qv_i1 (List.mem_of_getElem? (i := 5) (by decide +kernel))), (qv_i8 (List.mem_of_getElem? (i := 30) (by decide +kernel))), by decide +kernel, by decide +kernel⟩
/-- TrueOneWay.says(II)I -/
noncomputable def fX8_says (a0 : Nat) (a1 : Int32) (a2 : Int32) (h : qv_H) : Option (Int32 × qv_H) :=
  (qv_gR h 7 a0 1).bind fun v1 =>
  (qv_ob h 2 v1).bind fun _ =>
  (fX3_hasSign v1 a1 h).bind fun v3 =>
  if v3 = 0 then
    (qv_ob h 7 a0).bind fun _ =>
    (fX8_refuse a0 (-1 : Int32) h).bind fun (v5, h6) =>
    some (v5, h6)
  else
    (qv_gR h 7 a0 6).bind fun v7 =>
    (qv_ob h 6 v7).bind fun _ =>
    (fX7_has v7 a2 h).bind fun v9 =>
    if v9 = 0 then
      (qv_ob h 7 a0).bind fun _ =>
      (fX8_refuse a0 (-1 : Int32) h).bind fun (v15, h16) =>
      some (v15, h16)
    else
      (qv_gR h 7 a0 1).bind fun v10 =>
      (qv_ob h 2 v10).bind fun _ =>
      (fX3_isSaidSo v10 a1 a2 h).bind fun v12 =>
      Option.bind (α := Int32) (
          if v12 = 0 then
            some (0 : Int32)
          else
            some (1 : Int32)
        ) fun m13 =>
      some (m13, h)
abbrev mX8_says : qv_M := (yX8_says, cX8_says, 3, (Option.some Jvm.ClassFile.FieldType.int), 2, 45)
set_option maxRecDepth 100000 in
set_option maxHeartbeats 4000000 in
theorem sX8_says {l : Launch} {g : qv_G} {a0 : Nat} {a1 : Int32} {a2 : Int32} {h : qv_H} {r : Int32} {hz : qv_H} (hs : fX8_says a0 a1 a2 h = some (r, hz)) : qv_J l g mX8_says 0 [some (.ref a0), some (.int a1), some (.int a2)] [] h (some (.int r), hz) := by
  unfold fX8_says at hs
  refine qv_aload_n dX8_says_0 (i := 0) rfl rfl ?_
  obtain ⟨v1, e1, hs⟩ := qv_bind hs
  refine qv_getR dX8_says_1 qF_X8_19 e1 ?_
  refine qv_iload_n dX8_says_4 (i := 1) rfl rfl ?_
  obtain ⟨u2, e2, hs⟩ := qv_bind hs
  obtain ⟨v3, e3, hs⟩ := qv_bind hs
  refine qv_cV (d2 := mX3_hasSign) (o := v1) (ci := 2) (r := some (.int v3)) (h2 := h) (av := [.int a1]) (st := []) dX8_says_5 qM_X8_115 qD_X3_hasSign e2 rfl rfl ⟨by decide, by decide⟩ rfl (Nat.le_of_ble_eq_true rfl) (Nat.le_of_ble_eq_true rfl) (sX3_hasSign e3) rfl ?_
  by_cases c4 : v3 = 0
  · have hs := qv_pos c4 hs
    refine qv_if_eq (tgt := 22) dX8_says_8 rfl (fun _ => ?_) (fun q => absurd c4 q)
    refine qv_aload_n dX8_says_22 (i := 0) rfl rfl ?_
    refine qv_iconst (v := (-1 : Int32)) dX8_says_23 rfl ?_
    obtain ⟨u4, e5, hs⟩ := qv_bind hs
    obtain ⟨⟨v5, h6⟩, e6, hs⟩ := qv_bind hs
    dsimp only at hs
    refine qv_cV (d2 := mX8_refuse) (o := a0) (ci := 7) (r := some (.int v5)) (h2 := h6) (av := [.int (-1 : Int32)]) (st := []) dX8_says_24 qM_X8_83 qD_X8_refuse e5 rfl rfl ⟨by decide, by decide⟩ rfl (Nat.le_of_ble_eq_true rfl) (Nat.le_of_ble_eq_true rfl) (sX8_refuse e6) rfl ?_
    obtain ⟨rfl, rfl⟩ := qv_pr hs
    exact qv_iret dX8_says_27 rfl
  · have hs := qv_neg c4 hs
    refine qv_if_eq (tgt := 22) dX8_says_8 rfl (fun q => absurd q c4) (fun _ => ?_)
    refine qv_aload_n dX8_says_11 (i := 0) rfl rfl ?_
    obtain ⟨v7, e7, hs⟩ := qv_bind hs
    refine qv_getR dX8_says_12 qF_X8_42 e7 ?_
    refine qv_iload_n dX8_says_15 (i := 2) rfl rfl ?_
    obtain ⟨u8, e8, hs⟩ := qv_bind hs
    obtain ⟨v9, e9, hs⟩ := qv_bind hs
    refine qv_cV (d2 := mX7_has) (o := v7) (ci := 6) (r := some (.int v9)) (h2 := h) (av := [.int a2]) (st := []) dX8_says_16 qM_X8_136 qD_X7_has e8 rfl rfl ⟨by decide, by decide⟩ rfl (Nat.le_of_ble_eq_true rfl) (Nat.le_of_ble_eq_true rfl) (sX7_has e9) rfl ?_
    by_cases c10 : v9 = 0
    · have hs := qv_pos c10 hs
      refine qv_if_ne (tgt := 28) dX8_says_19 rfl (fun q => absurd c10 q) (fun _ => ?_)
      refine qv_aload_n dX8_says_22 (i := 0) rfl rfl ?_
      refine qv_iconst (v := (-1 : Int32)) dX8_says_23 rfl ?_
      obtain ⟨u14, e11, hs⟩ := qv_bind hs
      obtain ⟨⟨v15, h16⟩, e12, hs⟩ := qv_bind hs
      dsimp only at hs
      refine qv_cV (d2 := mX8_refuse) (o := a0) (ci := 7) (r := some (.int v15)) (h2 := h16) (av := [.int (-1 : Int32)]) (st := []) dX8_says_24 qM_X8_83 qD_X8_refuse e11 rfl rfl ⟨by decide, by decide⟩ rfl (Nat.le_of_ble_eq_true rfl) (Nat.le_of_ble_eq_true rfl) (sX8_refuse e12) rfl ?_
      obtain ⟨rfl, rfl⟩ := qv_pr hs
      exact qv_iret dX8_says_27 rfl
    · have hs := qv_neg c10 hs
      refine qv_if_ne (tgt := 28) dX8_says_19 rfl (fun _ => ?_) (fun q => absurd q c10)
      refine qv_aload_n dX8_says_28 (i := 0) rfl rfl ?_
      obtain ⟨v10, e13, hs⟩ := qv_bind hs
      refine qv_getR dX8_says_29 qF_X8_19 e13 ?_
      refine qv_iload_n dX8_says_32 (i := 1) rfl rfl ?_
      refine qv_iload_n dX8_says_33 (i := 2) rfl rfl ?_
      obtain ⟨u11, e14, hs⟩ := qv_bind hs
      obtain ⟨v12, e15, hs⟩ := qv_bind hs
      refine qv_cV (d2 := mX3_isSaidSo) (o := v10) (ci := 2) (r := some (.int v12)) (h2 := h) (av := [.int a1, .int a2]) (st := []) dX8_says_34 qM_X8_145 qD_X3_isSaidSo e14 rfl rfl ⟨by decide, by decide⟩ rfl (Nat.le_of_ble_eq_true rfl) (Nat.le_of_ble_eq_true rfl) (sX3_isSaidSo e15) rfl ?_
      obtain ⟨m13, hj17, hs⟩ := qv_bind hs
      have K16 : qv_J l g mX8_says 45 [none, none, none] [.int m13] h (some (.int r), hz) := by
        obtain ⟨rfl, rfl⟩ := qv_pr hs
        exact qv_iret dX8_says_45 rfl
      replace hs := hj17
      by_cases c18 : v12 = 0
      · have hs := qv_pos c18 hs
        refine qv_if_eq (tgt := 44) dX8_says_37 rfl (fun _ => ?_) (fun q => absurd c18 q)
        refine qv_iconst (v := (0 : Int32)) dX8_says_44 rfl ?_
        cases hs
        exact qv_dp (qv_le_n (qv_le_n (qv_le_n qv_le_0))) K16
      · have hs := qv_neg c18 hs
        refine qv_if_eq (tgt := 44) dX8_says_37 rfl (fun q => absurd q c18) (fun _ => ?_)
        refine qv_iconst (v := (1 : Int32)) dX8_says_40 rfl ?_
        refine qv_goto (tgt := 45) dX8_says_41 rfl ?_
        cases hs
        exact qv_dp (qv_le_n (qv_le_n (qv_le_n qv_le_0))) K16
theorem qD_X8_says : qv_DV mX8_says 2 := ⟨(qv_i8 (List.mem_of_getElem? (i := 33) (by decide +kernel))), (qv_i8 (List.mem_of_getElem? (i := 34) (by decide +kernel))), (qv_i1 (List.mem_of_getElem? (i := 5) (by decide +kernel))), (qv_i8 (List.mem_of_getElem? (i := 35) (by decide +kernel))), by decide +kernel, by decide +kernel⟩
/-- TrueOneWay.worlds(I)I -/
noncomputable def fX8_worlds (a0 : Nat) (a1 : Int32) (h : qv_H) : Option (Int32 × qv_H) :=
  if (-1 : Int32) ≤ a1 then
    if a1 = (-1 : Int32) then
      (qv_gR h 7 a0 6).bind fun v7 =>
      (qv_gI h 6 v7 2).bind fun v8 =>
      some (v8, h)
    else
      (qv_gR h 7 a0 6).bind fun v1 =>
      (qv_gI h 6 v1 2).bind fun v2 =>
      Option.bind (α := Int32) (
          if v2 ≤ a1 then
            some (-9 : Int32)
          else
            (qv_gR h 7 a0 6).bind fun v3 =>
            (qv_gR h 6 v3 3).bind fun v4 =>
            (qv_aI h false v4 a1).bind fun v5 =>
            some v5
        ) fun m6 =>
      some (m6, h)
  else
    (qv_ob h 7 a0).bind fun _ =>
    (fX8_refuse a0 (-4 : Int32) h).bind fun (v10, h11) =>
    some (v10, h11)
abbrev mX8_worlds : qv_M := (yX8_worlds, cX8_worlds, 2, (Option.some Jvm.ClassFile.FieldType.int), 1, 22)
set_option maxRecDepth 100000 in
set_option maxHeartbeats 4000000 in
theorem sX8_worlds {l : Launch} {g : qv_G} {a0 : Nat} {a1 : Int32} {h : qv_H} {r : Int32} {hz : qv_H} (hs : fX8_worlds a0 a1 h = some (r, hz)) : qv_J l g mX8_worlds 0 [some (.ref a0), some (.int a1)] [] h (some (.int r), hz) := by
  unfold fX8_worlds at hs
  refine qv_iload_n dX8_worlds_0 (i := 1) rfl rfl ?_
  refine qv_iconst (v := (-1 : Int32)) dX8_worlds_1 rfl ?_
  by_cases c1 : (-1 : Int32) ≤ a1
  · have hs := qv_pos c1 hs
    refine qv_icmp_ge (tgt := 12) dX8_worlds_2 rfl (fun _ => ?_) (fun q => absurd c1 q)
    refine qv_iload_n dX8_worlds_12 (i := 1) rfl rfl ?_
    refine qv_iconst (v := (-1 : Int32)) dX8_worlds_13 rfl ?_
    by_cases c2 : a1 = (-1 : Int32)
    · have hs := qv_pos c2 hs
      refine qv_icmp_ne (tgt := 25) dX8_worlds_14 rfl (fun q => absurd c2 q) (fun _ => ?_)
      refine qv_aload_n dX8_worlds_17 (i := 0) rfl rfl ?_
      obtain ⟨v7, e3, hs⟩ := qv_bind hs
      refine qv_getR dX8_worlds_18 qF_X8_42 e3 ?_
      obtain ⟨v8, e4, hs⟩ := qv_bind hs
      refine qv_getI dX8_worlds_21 qF_X8_149 e4 ?_
      obtain ⟨rfl, rfl⟩ := qv_pr hs
      exact qv_iret dX8_worlds_24 rfl
    · have hs := qv_neg c2 hs
      refine qv_icmp_ne (tgt := 25) dX8_worlds_14 rfl (fun _ => ?_) (fun q => absurd q c2)
      refine qv_iload_n dX8_worlds_25 (i := 1) rfl rfl ?_
      refine qv_aload_n dX8_worlds_26 (i := 0) rfl rfl ?_
      obtain ⟨v1, e5, hs⟩ := qv_bind hs
      refine qv_getR dX8_worlds_27 qF_X8_42 e5 ?_
      obtain ⟨v2, e6, hs⟩ := qv_bind hs
      refine qv_getI dX8_worlds_30 qF_X8_149 e6 ?_
      obtain ⟨m6, hj8, hs⟩ := qv_bind hs
      have K7 : qv_J l g mX8_worlds 50 [none, none] [.int m6] h (some (.int r), hz) := by
        obtain ⟨rfl, rfl⟩ := qv_pr hs
        exact qv_iret dX8_worlds_50 rfl
      replace hs := hj8
      by_cases c9 : v2 ≤ a1
      · have hs := qv_pos c9 hs
        refine qv_icmp_ge (tgt := 48) dX8_worlds_33 rfl (fun _ => ?_) (fun q => absurd c9 q)
        refine qv_bipush (v := (-9 : Int32)) dX8_worlds_48 rfl ?_
        cases hs
        exact qv_dp (qv_le_n (qv_le_n qv_le_0)) K7
      · have hs := qv_neg c9 hs
        refine qv_icmp_ge (tgt := 48) dX8_worlds_33 rfl (fun q => absurd q c9) (fun _ => ?_)
        refine qv_aload_n dX8_worlds_36 (i := 0) rfl rfl ?_
        obtain ⟨v3, e10, hs⟩ := qv_bind hs
        refine qv_getR dX8_worlds_37 qF_X8_42 e10 ?_
        obtain ⟨v4, e11, hs⟩ := qv_bind hs
        refine qv_getR dX8_worlds_40 qF_X8_152 e11 ?_
        refine qv_iload_n dX8_worlds_43 (i := 1) rfl rfl ?_
        obtain ⟨v5, e12, hs⟩ := qv_bind hs
        refine qv_iald dX8_worlds_44 e12 ?_
        refine qv_goto (tgt := 50) dX8_worlds_45 rfl ?_
        cases hs
        exact qv_dp (qv_le_n (qv_le_n qv_le_0)) K7
  · have hs := qv_neg c1 hs
    refine qv_icmp_ge (tgt := 12) dX8_worlds_2 rfl (fun q => absurd q c1) (fun _ => ?_)
    refine qv_aload_n dX8_worlds_5 (i := 0) rfl rfl ?_
    refine qv_bipush (v := (-4 : Int32)) dX8_worlds_6 rfl ?_
    obtain ⟨u9, e13, hs⟩ := qv_bind hs
    obtain ⟨⟨v10, h11⟩, e14, hs⟩ := qv_bind hs
    dsimp only at hs
    refine qv_cV (d2 := mX8_refuse) (o := a0) (ci := 7) (r := some (.int v10)) (h2 := h11) (av := [.int (-4 : Int32)]) (st := []) dX8_worlds_8 qM_X8_83 qD_X8_refuse e13 rfl rfl ⟨by decide, by decide⟩ rfl (Nat.le_of_ble_eq_true rfl) (Nat.le_of_ble_eq_true rfl) (sX8_refuse e14) rfl ?_
    obtain ⟨rfl, rfl⟩ := qv_pr hs
    exact qv_iret dX8_worlds_11 rfl
theorem qD_X8_worlds : qv_DV mX8_worlds 1 := ⟨(qv_i8 (List.mem_of_getElem? (i := 38) (by decide +kernel))), (qv_i8 (List.mem_of_getElem? (i := 39) (by decide +kernel))), (qv_i1 (List.mem_of_getElem? (i := 5) (by decide +kernel))), (qv_i8 (List.mem_of_getElem? (i := 40) (by decide +kernel))), by decide +kernel, by decide +kernel⟩
/-- TrueOneWay.find(II)I -/
noncomputable def fX8_find (a0 : Nat) (a1 : Int32) (a2 : Int32) (h : qv_H) : Option (Int32 × qv_H) :=
  if a2 = 0 then
    (qv_gR h 7 a0 4).bind fun v1 =>
    (qv_gI h 1 v1 0).bind fun v2 =>
    if v2 < (12 : Int32) then
      (qv_gR h 7 a0 4).bind fun v3 =>
      Option.bind (α := Int32) (
          if a2 = (1 : Int32) then
            some (1 : Int32)
          else
            some (0 : Int32)
        ) fun m4 =>
      (qv_ob h 1 v3).bind fun _ =>
      (fX2_add v3 a1 m4 h).bind fun h6 =>
      (qv_gR h6 7 a0 6).bind fun v7 =>
      (qv_gR h6 7 a0 4).bind fun v8 =>
      (qv_ob h6 6 v7).bind fun _ =>
      (fX7_sift v7 v8 h6).bind fun h10 =>
      (qv_gR h10 7 a0 4).bind fun v11 =>
      (qv_gI h10 1 v11 0).bind fun v12 =>
      some (v12, h10)
    else
      (qv_ob h 7 a0).bind fun _ =>
      (fX8_refuse a0 (-6 : Int32) h).bind fun (v14, h15) =>
      some (v14, h15)
  else
    if a2 = (1 : Int32) then
      (qv_gR h 7 a0 4).bind fun v16 =>
      (qv_gI h 1 v16 0).bind fun v17 =>
      if v17 < (12 : Int32) then
        (qv_gR h 7 a0 4).bind fun v18 =>
        Option.bind (α := Int32) (
            if a2 = (1 : Int32) then
              some (1 : Int32)
            else
              some (0 : Int32)
          ) fun m19 =>
        (qv_ob h 1 v18).bind fun _ =>
        (fX2_add v18 a1 m19 h).bind fun h21 =>
        (qv_gR h21 7 a0 6).bind fun v22 =>
        (qv_gR h21 7 a0 4).bind fun v23 =>
        (qv_ob h21 6 v22).bind fun _ =>
        (fX7_sift v22 v23 h21).bind fun h25 =>
        (qv_gR h25 7 a0 4).bind fun v26 =>
        (qv_gI h25 1 v26 0).bind fun v27 =>
        some (v27, h25)
      else
        (qv_ob h 7 a0).bind fun _ =>
        (fX8_refuse a0 (-6 : Int32) h).bind fun (v29, h30) =>
        some (v29, h30)
    else
      (qv_ob h 7 a0).bind fun _ =>
      (fX8_refuse a0 (-2 : Int32) h).bind fun (v32, h33) =>
      some (v32, h33)
abbrev mX8_find : qv_M := (yX8_find, cX8_find, 3, (Option.some Jvm.ClassFile.FieldType.int), 4, 86)
set_option maxRecDepth 100000 in
set_option maxHeartbeats 4000000 in
theorem sX8_find {l : Launch} {g : qv_G} {a0 : Nat} {a1 : Int32} {a2 : Int32} {h : qv_H} {r : Int32} {hz : qv_H} (hs : fX8_find a0 a1 a2 h = some (r, hz)) : qv_J l g mX8_find 0 [some (.ref a0), some (.int a1), some (.int a2)] [] h (some (.int r), hz) := by
  unfold fX8_find at hs
  refine qv_iload_n dX8_find_0 (i := 2) rfl rfl ?_
  by_cases c1 : a2 = 0
  · have hs := qv_pos c1 hs
    refine qv_if_eq (tgt := 16) dX8_find_1 rfl (fun _ => ?_) (fun q => absurd c1 q)
    refine qv_aload_n dX8_find_16 (i := 0) rfl rfl ?_
    obtain ⟨v1, e2, hs⟩ := qv_bind hs
    refine qv_getR dX8_find_17 qF_X8_32 e2 ?_
    obtain ⟨v2, e3, hs⟩ := qv_bind hs
    refine qv_getI dX8_find_20 qF_X8_162 e3 ?_
    refine qv_bipush (v := (12 : Int32)) dX8_find_23 rfl ?_
    by_cases c4 : v2 < (12 : Int32)
    · have hs := qv_pos c4 hs
      refine qv_icmp_lt (tgt := 35) dX8_find_25 rfl (fun _ => ?_) (fun q => absurd c4 q)
      refine qv_aload_n dX8_find_35 (i := 0) rfl rfl ?_
      obtain ⟨v3, e5, hs⟩ := qv_bind hs
      refine qv_getR dX8_find_36 qF_X8_32 e5 ?_
      refine qv_iload_n dX8_find_39 (i := 1) rfl rfl ?_
      refine qv_iload_n dX8_find_40 (i := 2) rfl rfl ?_
      refine qv_iconst (v := (1 : Int32)) dX8_find_41 rfl ?_
      obtain ⟨m4, hj7, hs⟩ := qv_bind hs
      have K6 : qv_J l g mX8_find 50 [some (.ref a0), none, none] [.int m4, .int a1, .ref v3] h (some (.int r), hz) := by
        obtain ⟨u5, e8, hs⟩ := qv_bind hs
        obtain ⟨h6, e9, hs⟩ := qv_bind hs
        refine qv_cV (d2 := mX2_add) (o := v3) (ci := 1) (r := none) (h2 := h6) (av := [.int a1, .int m4]) (st := []) dX8_find_50 qM_X8_282 qD_X2_add e8 rfl rfl ⟨by decide, by decide⟩ rfl (Nat.le_of_ble_eq_true rfl) (Nat.le_of_ble_eq_true rfl) (sX2_add e9) rfl ?_
        refine qv_aload_n dX8_find_53 (i := 0) rfl rfl ?_
        obtain ⟨v7, e10, hs⟩ := qv_bind hs
        refine qv_getR dX8_find_54 qF_X8_42 e10 ?_
        refine qv_aload_n dX8_find_57 (i := 0) rfl rfl ?_
        obtain ⟨v8, e11, hs⟩ := qv_bind hs
        refine qv_getR dX8_find_58 qF_X8_32 e11 ?_
        obtain ⟨u9, e12, hs⟩ := qv_bind hs
        obtain ⟨h10, e13, hs⟩ := qv_bind hs
        refine qv_cV (d2 := mX7_sift) (o := v7) (ci := 6) (r := none) (h2 := h10) (av := [.ref v8]) (st := []) dX8_find_61 qM_X8_79 qD_X7_sift e12 rfl rfl ⟨by decide, by decide⟩ rfl (Nat.le_of_ble_eq_true rfl) (Nat.le_of_ble_eq_true rfl) (sX7_sift e13) rfl ?_
        refine qv_aload_n dX8_find_64 (i := 0) rfl rfl ?_
        obtain ⟨v11, e14, hs⟩ := qv_bind hs
        refine qv_getR dX8_find_65 qF_X8_32 e14 ?_
        obtain ⟨v12, e15, hs⟩ := qv_bind hs
        refine qv_getI dX8_find_68 qF_X8_162 e15 ?_
        obtain ⟨rfl, rfl⟩ := qv_pr hs
        exact qv_iret dX8_find_71 rfl
      replace hs := hj7
      by_cases c16 : a2 = (1 : Int32)
      · have hs := qv_pos c16 hs
        refine qv_icmp_ne (tgt := 49) dX8_find_42 rfl (fun q => absurd c16 q) (fun _ => ?_)
        refine qv_iconst (v := (1 : Int32)) dX8_find_45 rfl ?_
        refine qv_goto (tgt := 50) dX8_find_46 rfl ?_
        cases hs
        exact qv_dp (qv_le_s (qv_le_n (qv_le_n qv_le_0))) K6
      · have hs := qv_neg c16 hs
        refine qv_icmp_ne (tgt := 49) dX8_find_42 rfl (fun _ => ?_) (fun q => absurd q c16)
        refine qv_iconst (v := (0 : Int32)) dX8_find_49 rfl ?_
        cases hs
        exact qv_dp (qv_le_s (qv_le_n (qv_le_n qv_le_0))) K6
    · have hs := qv_neg c4 hs
      refine qv_icmp_lt (tgt := 35) dX8_find_25 rfl (fun q => absurd q c4) (fun _ => ?_)
      refine qv_aload_n dX8_find_28 (i := 0) rfl rfl ?_
      refine qv_bipush (v := (-6 : Int32)) dX8_find_29 rfl ?_
      obtain ⟨u13, e17, hs⟩ := qv_bind hs
      obtain ⟨⟨v14, h15⟩, e18, hs⟩ := qv_bind hs
      dsimp only at hs
      refine qv_cV (d2 := mX8_refuse) (o := a0) (ci := 7) (r := some (.int v14)) (h2 := h15) (av := [.int (-6 : Int32)]) (st := []) dX8_find_31 qM_X8_83 qD_X8_refuse e17 rfl rfl ⟨by decide, by decide⟩ rfl (Nat.le_of_ble_eq_true rfl) (Nat.le_of_ble_eq_true rfl) (sX8_refuse e18) rfl ?_
      obtain ⟨rfl, rfl⟩ := qv_pr hs
      exact qv_iret dX8_find_34 rfl
  · have hs := qv_neg c1 hs
    refine qv_if_eq (tgt := 16) dX8_find_1 rfl (fun q => absurd q c1) (fun _ => ?_)
    refine qv_iload_n dX8_find_4 (i := 2) rfl rfl ?_
    refine qv_iconst (v := (1 : Int32)) dX8_find_5 rfl ?_
    by_cases c19 : a2 = (1 : Int32)
    · have hs := qv_pos c19 hs
      refine qv_icmp_eq (tgt := 16) dX8_find_6 rfl (fun _ => ?_) (fun q => absurd c19 q)
      refine qv_aload_n dX8_find_16 (i := 0) rfl rfl ?_
      obtain ⟨v16, e20, hs⟩ := qv_bind hs
      refine qv_getR dX8_find_17 qF_X8_32 e20 ?_
      obtain ⟨v17, e21, hs⟩ := qv_bind hs
      refine qv_getI dX8_find_20 qF_X8_162 e21 ?_
      refine qv_bipush (v := (12 : Int32)) dX8_find_23 rfl ?_
      by_cases c22 : v17 < (12 : Int32)
      · have hs := qv_pos c22 hs
        refine qv_icmp_lt (tgt := 35) dX8_find_25 rfl (fun _ => ?_) (fun q => absurd c22 q)
        refine qv_aload_n dX8_find_35 (i := 0) rfl rfl ?_
        obtain ⟨v18, e23, hs⟩ := qv_bind hs
        refine qv_getR dX8_find_36 qF_X8_32 e23 ?_
        refine qv_iload_n dX8_find_39 (i := 1) rfl rfl ?_
        refine qv_iload_n dX8_find_40 (i := 2) rfl rfl ?_
        refine qv_iconst (v := (1 : Int32)) dX8_find_41 rfl ?_
        obtain ⟨m19, hj25, hs⟩ := qv_bind hs
        have K24 : qv_J l g mX8_find 50 [some (.ref a0), none, none] [.int m19, .int a1, .ref v18] h (some (.int r), hz) := by
          obtain ⟨u20, e26, hs⟩ := qv_bind hs
          obtain ⟨h21, e27, hs⟩ := qv_bind hs
          refine qv_cV (d2 := mX2_add) (o := v18) (ci := 1) (r := none) (h2 := h21) (av := [.int a1, .int m19]) (st := []) dX8_find_50 qM_X8_282 qD_X2_add e26 rfl rfl ⟨by decide, by decide⟩ rfl (Nat.le_of_ble_eq_true rfl) (Nat.le_of_ble_eq_true rfl) (sX2_add e27) rfl ?_
          refine qv_aload_n dX8_find_53 (i := 0) rfl rfl ?_
          obtain ⟨v22, e28, hs⟩ := qv_bind hs
          refine qv_getR dX8_find_54 qF_X8_42 e28 ?_
          refine qv_aload_n dX8_find_57 (i := 0) rfl rfl ?_
          obtain ⟨v23, e29, hs⟩ := qv_bind hs
          refine qv_getR dX8_find_58 qF_X8_32 e29 ?_
          obtain ⟨u24, e30, hs⟩ := qv_bind hs
          obtain ⟨h25, e31, hs⟩ := qv_bind hs
          refine qv_cV (d2 := mX7_sift) (o := v22) (ci := 6) (r := none) (h2 := h25) (av := [.ref v23]) (st := []) dX8_find_61 qM_X8_79 qD_X7_sift e30 rfl rfl ⟨by decide, by decide⟩ rfl (Nat.le_of_ble_eq_true rfl) (Nat.le_of_ble_eq_true rfl) (sX7_sift e31) rfl ?_
          refine qv_aload_n dX8_find_64 (i := 0) rfl rfl ?_
          obtain ⟨v26, e32, hs⟩ := qv_bind hs
          refine qv_getR dX8_find_65 qF_X8_32 e32 ?_
          obtain ⟨v27, e33, hs⟩ := qv_bind hs
          refine qv_getI dX8_find_68 qF_X8_162 e33 ?_
          obtain ⟨rfl, rfl⟩ := qv_pr hs
          exact qv_iret dX8_find_71 rfl
        replace hs := hj25
        by_cases c34 : a2 = (1 : Int32)
        · have hs := qv_pos c34 hs
          refine qv_icmp_ne (tgt := 49) dX8_find_42 rfl (fun q => absurd c34 q) (fun _ => ?_)
          refine qv_iconst (v := (1 : Int32)) dX8_find_45 rfl ?_
          refine qv_goto (tgt := 50) dX8_find_46 rfl ?_
          cases hs
          exact qv_dp (qv_le_s (qv_le_n (qv_le_n qv_le_0))) K24
        · have hs := qv_neg c34 hs
          refine qv_icmp_ne (tgt := 49) dX8_find_42 rfl (fun _ => ?_) (fun q => absurd q c34)
          refine qv_iconst (v := (0 : Int32)) dX8_find_49 rfl ?_
          cases hs
          exact qv_dp (qv_le_s (qv_le_n (qv_le_n qv_le_0))) K24
      · have hs := qv_neg c22 hs
        refine qv_icmp_lt (tgt := 35) dX8_find_25 rfl (fun q => absurd q c22) (fun _ => ?_)
        refine qv_aload_n dX8_find_28 (i := 0) rfl rfl ?_
        refine qv_bipush (v := (-6 : Int32)) dX8_find_29 rfl ?_
        obtain ⟨u28, e35, hs⟩ := qv_bind hs
        obtain ⟨⟨v29, h30⟩, e36, hs⟩ := qv_bind hs
        dsimp only at hs
        refine qv_cV (d2 := mX8_refuse) (o := a0) (ci := 7) (r := some (.int v29)) (h2 := h30) (av := [.int (-6 : Int32)]) (st := []) dX8_find_31 qM_X8_83 qD_X8_refuse e35 rfl rfl ⟨by decide, by decide⟩ rfl (Nat.le_of_ble_eq_true rfl) (Nat.le_of_ble_eq_true rfl) (sX8_refuse e36) rfl ?_
        obtain ⟨rfl, rfl⟩ := qv_pr hs
        exact qv_iret dX8_find_34 rfl
    · have hs := qv_neg c19 hs
      refine qv_icmp_eq (tgt := 16) dX8_find_6 rfl (fun q => absurd q c19) (fun _ => ?_)
      refine qv_aload_n dX8_find_9 (i := 0) rfl rfl ?_
      refine qv_bipush (v := (-2 : Int32)) dX8_find_10 rfl ?_
      obtain ⟨u31, e37, hs⟩ := qv_bind hs
      obtain ⟨⟨v32, h33⟩, e38, hs⟩ := qv_bind hs
      dsimp only at hs
      refine qv_cV (d2 := mX8_refuse) (o := a0) (ci := 7) (r := some (.int v32)) (h2 := h33) (av := [.int (-2 : Int32)]) (st := []) dX8_find_12 qM_X8_83 qD_X8_refuse e37 rfl rfl ⟨by decide, by decide⟩ rfl (Nat.le_of_ble_eq_true rfl) (Nat.le_of_ble_eq_true rfl) (sX8_refuse e38) rfl ?_
      obtain ⟨rfl, rfl⟩ := qv_pr hs
      exact qv_iret dX8_find_15 rfl
theorem qD_X8_find : qv_DV mX8_find 2 := ⟨(qv_i8 (List.mem_of_getElem? (i := 47) (by decide +kernel))), (qv_i0 (List.mem_of_getElem? (i := 12) (by decide +kernel))), (qv_i1 (List.mem_of_getElem? (i := 5) (by decide +kernel))), (qv_i8 (List.mem_of_getElem? (i := 48) (by decide +kernel))), by decide +kernel, by decide +kernel⟩
/-- TrueOneWay.fact(II)I -/
noncomputable def fX8_fact (a0 : Nat) (a1 : Int32) (a2 : Int32) (h : qv_H) : Option (Int32 × qv_H) :=
  (qv_gR h 7 a0 1).bind fun v1 =>
  (qv_ob h 2 v1).bind fun _ =>
  (fX3_hasFact v1 a1 h).bind fun v3 =>
  if v3 = 0 then
    (qv_ob h 7 a0).bind fun _ =>
    (fX8_refuse a0 (-1 : Int32) h).bind fun (v8, h9) =>
    some (v8, h9)
  else
    (qv_ob h 7 a0).bind fun _ =>
    (fX8_find a0 a1 a2 h).bind fun (v5, h6) =>
    some (v5, h6)
abbrev mX8_fact : qv_M := (yX8_fact, cX8_fact, 3, (Option.some Jvm.ClassFile.FieldType.int), 5, 108)
set_option maxRecDepth 100000 in
set_option maxHeartbeats 4000000 in
theorem sX8_fact {l : Launch} {g : qv_G} {a0 : Nat} {a1 : Int32} {a2 : Int32} {h : qv_H} {r : Int32} {hz : qv_H} (hs : fX8_fact a0 a1 a2 h = some (r, hz)) : qv_J l g mX8_fact 0 [some (.ref a0), some (.int a1), some (.int a2)] [] h (some (.int r), hz) := by
  unfold fX8_fact at hs
  refine qv_aload_n dX8_fact_0 (i := 0) rfl rfl ?_
  obtain ⟨v1, e1, hs⟩ := qv_bind hs
  refine qv_getR dX8_fact_1 qF_X8_19 e1 ?_
  refine qv_iload_n dX8_fact_4 (i := 1) rfl rfl ?_
  obtain ⟨u2, e2, hs⟩ := qv_bind hs
  obtain ⟨v3, e3, hs⟩ := qv_bind hs
  refine qv_cV (d2 := mX3_hasFact) (o := v1) (ci := 2) (r := some (.int v3)) (h2 := h) (av := [.int a1]) (st := []) dX8_fact_5 qM_X8_155 qD_X3_hasFact e2 rfl rfl ⟨by decide, by decide⟩ rfl (Nat.le_of_ble_eq_true rfl) (Nat.le_of_ble_eq_true rfl) (sX3_hasFact e3) rfl ?_
  by_cases c4 : v3 = 0
  · have hs := qv_pos c4 hs
    refine qv_if_ne (tgt := 17) dX8_fact_8 rfl (fun q => absurd c4 q) (fun _ => ?_)
    refine qv_aload_n dX8_fact_11 (i := 0) rfl rfl ?_
    refine qv_iconst (v := (-1 : Int32)) dX8_fact_12 rfl ?_
    obtain ⟨u7, e5, hs⟩ := qv_bind hs
    obtain ⟨⟨v8, h9⟩, e6, hs⟩ := qv_bind hs
    dsimp only at hs
    refine qv_cV (d2 := mX8_refuse) (o := a0) (ci := 7) (r := some (.int v8)) (h2 := h9) (av := [.int (-1 : Int32)]) (st := []) dX8_fact_13 qM_X8_83 qD_X8_refuse e5 rfl rfl ⟨by decide, by decide⟩ rfl (Nat.le_of_ble_eq_true rfl) (Nat.le_of_ble_eq_true rfl) (sX8_refuse e6) rfl ?_
    obtain ⟨rfl, rfl⟩ := qv_pr hs
    exact qv_iret dX8_fact_16 rfl
  · have hs := qv_neg c4 hs
    refine qv_if_ne (tgt := 17) dX8_fact_8 rfl (fun _ => ?_) (fun q => absurd q c4)
    refine qv_aload_n dX8_fact_17 (i := 0) rfl rfl ?_
    refine qv_iload_n dX8_fact_18 (i := 1) rfl rfl ?_
    refine qv_iload_n dX8_fact_19 (i := 2) rfl rfl ?_
    obtain ⟨u4, e7, hs⟩ := qv_bind hs
    obtain ⟨⟨v5, h6⟩, e8, hs⟩ := qv_bind hs
    dsimp only at hs
    refine qv_cV (d2 := mX8_find) (o := a0) (ci := 7) (r := some (.int v5)) (h2 := h6) (av := [.int a1, .int a2]) (st := []) dX8_fact_20 qM_X8_158 qD_X8_find e7 rfl rfl ⟨by decide, by decide⟩ rfl (Nat.le_of_ble_eq_true rfl) (Nat.le_of_ble_eq_true rfl) (sX8_find e8) rfl ?_
    obtain ⟨rfl, rfl⟩ := qv_pr hs
    exact qv_iret dX8_fact_23 rfl
theorem qD_X8_fact : qv_DV mX8_fact 2 := ⟨(qv_i8 (List.mem_of_getElem? (i := 42) (by decide +kernel))), (qv_i8 (List.mem_of_getElem? (i := 43) (by decide +kernel))), (qv_i1 (List.mem_of_getElem? (i := 5) (by decide +kernel))), (qv_i8 (List.mem_of_getElem? (i := 44) (by decide +kernel))), by decide +kernel, by decide +kernel⟩
/-- TrueOneWay.way(II)I -/
noncomputable def fX8_way (a0 : Nat) (a1 : Int32) (a2 : Int32) (h : qv_H) : Option (Int32 × qv_H) :=
  (qv_gR h 7 a0 1).bind fun v1 =>
  (qv_ob h 2 v1).bind fun _ =>
  (fX3_hasSign v1 a1 h).bind fun v3 =>
  if v3 = 0 then
    (qv_ob h 7 a0).bind fun _ =>
    (fX8_refuse a0 (-1 : Int32) h).bind fun (v8, h9) =>
    some (v8, h9)
  else
    (qv_ob h 7 a0).bind fun _ =>
    (fX8_find a0 ((4 : Int32) + a1) a2 h).bind fun (v5, h6) =>
    some (v5, h6)
abbrev mX8_way : qv_M := (yX8_way, cX8_way, 3, (Option.some Jvm.ClassFile.FieldType.int), 5, 108)
set_option maxRecDepth 100000 in
set_option maxHeartbeats 4000000 in
theorem sX8_way {l : Launch} {g : qv_G} {a0 : Nat} {a1 : Int32} {a2 : Int32} {h : qv_H} {r : Int32} {hz : qv_H} (hs : fX8_way a0 a1 a2 h = some (r, hz)) : qv_J l g mX8_way 0 [some (.ref a0), some (.int a1), some (.int a2)] [] h (some (.int r), hz) := by
  unfold fX8_way at hs
  refine qv_aload_n dX8_way_0 (i := 0) rfl rfl ?_
  obtain ⟨v1, e1, hs⟩ := qv_bind hs
  refine qv_getR dX8_way_1 qF_X8_19 e1 ?_
  refine qv_iload_n dX8_way_4 (i := 1) rfl rfl ?_
  obtain ⟨u2, e2, hs⟩ := qv_bind hs
  obtain ⟨v3, e3, hs⟩ := qv_bind hs
  refine qv_cV (d2 := mX3_hasSign) (o := v1) (ci := 2) (r := some (.int v3)) (h2 := h) (av := [.int a1]) (st := []) dX8_way_5 qM_X8_115 qD_X3_hasSign e2 rfl rfl ⟨by decide, by decide⟩ rfl (Nat.le_of_ble_eq_true rfl) (Nat.le_of_ble_eq_true rfl) (sX3_hasSign e3) rfl ?_
  by_cases c4 : v3 = 0
  · have hs := qv_pos c4 hs
    refine qv_if_ne (tgt := 17) dX8_way_8 rfl (fun q => absurd c4 q) (fun _ => ?_)
    refine qv_aload_n dX8_way_11 (i := 0) rfl rfl ?_
    refine qv_iconst (v := (-1 : Int32)) dX8_way_12 rfl ?_
    obtain ⟨u7, e5, hs⟩ := qv_bind hs
    obtain ⟨⟨v8, h9⟩, e6, hs⟩ := qv_bind hs
    dsimp only at hs
    refine qv_cV (d2 := mX8_refuse) (o := a0) (ci := 7) (r := some (.int v8)) (h2 := h9) (av := [.int (-1 : Int32)]) (st := []) dX8_way_13 qM_X8_83 qD_X8_refuse e5 rfl rfl ⟨by decide, by decide⟩ rfl (Nat.le_of_ble_eq_true rfl) (Nat.le_of_ble_eq_true rfl) (sX8_refuse e6) rfl ?_
    obtain ⟨rfl, rfl⟩ := qv_pr hs
    exact qv_iret dX8_way_16 rfl
  · have hs := qv_neg c4 hs
    refine qv_if_ne (tgt := 17) dX8_way_8 rfl (fun _ => ?_) (fun q => absurd q c4)
    refine qv_aload_n dX8_way_17 (i := 0) rfl rfl ?_
    refine qv_iconst (v := (4 : Int32)) dX8_way_18 rfl ?_
    refine qv_iload_n dX8_way_19 (i := 1) rfl rfl ?_
    refine qv_iadd dX8_way_20 ?_
    refine qv_iload_n dX8_way_21 (i := 2) rfl rfl ?_
    obtain ⟨u4, e7, hs⟩ := qv_bind hs
    obtain ⟨⟨v5, h6⟩, e8, hs⟩ := qv_bind hs
    dsimp only at hs
    refine qv_cV (d2 := mX8_find) (o := a0) (ci := 7) (r := some (.int v5)) (h2 := h6) (av := [.int ((4 : Int32) + a1), .int a2]) (st := []) dX8_way_22 qM_X8_158 qD_X8_find e7 rfl rfl ⟨by decide, by decide⟩ rfl (Nat.le_of_ble_eq_true rfl) (Nat.le_of_ble_eq_true rfl) (sX8_find e8) rfl ?_
    obtain ⟨rfl, rfl⟩ := qv_pr hs
    exact qv_iret dX8_way_25 rfl
theorem qD_X8_way : qv_DV mX8_way 2 := ⟨(qv_i8 (List.mem_of_getElem? (i := 54) (by decide +kernel))), (qv_i8 (List.mem_of_getElem? (i := 55) (by decide +kernel))), (qv_i1 (List.mem_of_getElem? (i := 5) (by decide +kernel))), (qv_i8 (List.mem_of_getElem? (i := 56) (by decide +kernel))), by decide +kernel, by decide +kernel⟩
/-- TrueOneWay.forget()I -/
noncomputable def fX8_forget (a0 : Nat) (h : qv_H) : Option (Int32 × qv_H) :=
  (qv_gR h 7 a0 4).bind fun v1 =>
  (qv_gI h 1 v1 0).bind fun v2 =>
  if v2 = 0 then
    (qv_ob h 7 a0).bind fun _ =>
    (fX8_refuse a0 (-3 : Int32) h).bind fun (v13, h14) =>
    some (v13, h14)
  else
    (qv_gR h 7 a0 4).bind fun v3 =>
    (qv_ob h 1 v3).bind fun _ =>
    (fX2_dropLatest v3 h).bind fun h5 =>
    (qv_gR h5 7 a0 6).bind fun v6 =>
    (qv_gR h5 7 a0 4).bind fun v7 =>
    (qv_ob h5 6 v6).bind fun _ =>
    (fX7_sift v6 v7 h5).bind fun h9 =>
    (qv_gR h9 7 a0 4).bind fun v10 =>
    (qv_gI h9 1 v10 0).bind fun v11 =>
    some (v11, h9)
abbrev mX8_forget : qv_M := (yX8_forget, cX8_forget, 1, (Option.some Jvm.ClassFile.FieldType.int), 4, 86)
set_option maxRecDepth 100000 in
set_option maxHeartbeats 4000000 in
theorem sX8_forget {l : Launch} {g : qv_G} {a0 : Nat} {h : qv_H} {r : Int32} {hz : qv_H} (hs : fX8_forget a0 h = some (r, hz)) : qv_J l g mX8_forget 0 [some (.ref a0)] [] h (some (.int r), hz) := by
  unfold fX8_forget at hs
  refine qv_aload_n dX8_forget_0 (i := 0) rfl rfl ?_
  obtain ⟨v1, e1, hs⟩ := qv_bind hs
  refine qv_getR dX8_forget_1 qF_X8_32 e1 ?_
  obtain ⟨v2, e2, hs⟩ := qv_bind hs
  refine qv_getI dX8_forget_4 qF_X8_162 e2 ?_
  by_cases c3 : v2 = 0
  · have hs := qv_pos c3 hs
    refine qv_if_ne (tgt := 17) dX8_forget_7 rfl (fun q => absurd c3 q) (fun _ => ?_)
    refine qv_aload_n dX8_forget_10 (i := 0) rfl rfl ?_
    refine qv_bipush (v := (-3 : Int32)) dX8_forget_11 rfl ?_
    obtain ⟨u12, e4, hs⟩ := qv_bind hs
    obtain ⟨⟨v13, h14⟩, e5, hs⟩ := qv_bind hs
    dsimp only at hs
    refine qv_cV (d2 := mX8_refuse) (o := a0) (ci := 7) (r := some (.int v13)) (h2 := h14) (av := [.int (-3 : Int32)]) (st := []) dX8_forget_13 qM_X8_83 qD_X8_refuse e4 rfl rfl ⟨by decide, by decide⟩ rfl (Nat.le_of_ble_eq_true rfl) (Nat.le_of_ble_eq_true rfl) (sX8_refuse e5) rfl ?_
    obtain ⟨rfl, rfl⟩ := qv_pr hs
    exact qv_iret dX8_forget_16 rfl
  · have hs := qv_neg c3 hs
    refine qv_if_ne (tgt := 17) dX8_forget_7 rfl (fun _ => ?_) (fun q => absurd q c3)
    refine qv_aload_n dX8_forget_17 (i := 0) rfl rfl ?_
    obtain ⟨v3, e6, hs⟩ := qv_bind hs
    refine qv_getR dX8_forget_18 qF_X8_32 e6 ?_
    obtain ⟨u4, e7, hs⟩ := qv_bind hs
    obtain ⟨h5, e8, hs⟩ := qv_bind hs
    refine qv_cV (d2 := mX2_dropLatest) (o := v3) (ci := 1) (r := none) (h2 := h5) (av := []) (st := []) dX8_forget_21 qM_X8_163 qD_X2_dropLatest e7 rfl rfl ⟨by decide, by decide⟩ rfl (Nat.le_of_ble_eq_true rfl) (Nat.le_of_ble_eq_true rfl) (sX2_dropLatest e8) rfl ?_
    refine qv_aload_n dX8_forget_24 (i := 0) rfl rfl ?_
    obtain ⟨v6, e9, hs⟩ := qv_bind hs
    refine qv_getR dX8_forget_25 qF_X8_42 e9 ?_
    refine qv_aload_n dX8_forget_28 (i := 0) rfl rfl ?_
    obtain ⟨v7, e10, hs⟩ := qv_bind hs
    refine qv_getR dX8_forget_29 qF_X8_32 e10 ?_
    obtain ⟨u8, e11, hs⟩ := qv_bind hs
    obtain ⟨h9, e12, hs⟩ := qv_bind hs
    refine qv_cV (d2 := mX7_sift) (o := v6) (ci := 6) (r := none) (h2 := h9) (av := [.ref v7]) (st := []) dX8_forget_32 qM_X8_79 qD_X7_sift e11 rfl rfl ⟨by decide, by decide⟩ rfl (Nat.le_of_ble_eq_true rfl) (Nat.le_of_ble_eq_true rfl) (sX7_sift e12) rfl ?_
    refine qv_aload_n dX8_forget_35 (i := 0) rfl rfl ?_
    obtain ⟨v10, e13, hs⟩ := qv_bind hs
    refine qv_getR dX8_forget_36 qF_X8_32 e13 ?_
    obtain ⟨v11, e14, hs⟩ := qv_bind hs
    refine qv_getI dX8_forget_39 qF_X8_162 e14 ?_
    obtain ⟨rfl, rfl⟩ := qv_pr hs
    exact qv_iret dX8_forget_42 rfl
theorem qD_X8_forget : qv_DV mX8_forget 0 := ⟨(qv_i8 (List.mem_of_getElem? (i := 58) (by decide +kernel))), (qv_i8 (List.mem_of_getElem? (i := 59) (by decide +kernel))), (qv_i1 (List.mem_of_getElem? (i := 5) (by decide +kernel))), (qv_i8 (List.mem_of_getElem? (i := 60) (by decide +kernel))), by decide +kernel, by decide +kernel⟩
/-- TrueOneWay.sure(I)I -/
noncomputable def fX8_sure (a0 : Nat) (a1 : Int32) (h : qv_H) : Option (Int32 × qv_H) :=
  (qv_gR h 7 a0 6).bind fun v1 =>
  (qv_ob h 6 v1).bind fun _ =>
  (fX7_alwaysSo v1 (0 : Int32) (0 : Int32) h).bind fun v3 =>
  (qv_gR h 7 a0 6).bind fun v4 =>
  (qv_ob h 6 v4).bind fun _ =>
  (fX7_everSo v4 (0 : Int32) (0 : Int32) h).bind fun v6 =>
  (qv_gR h 7 a0 6).bind fun v7 =>
  (qv_gI h 6 v7 0).bind fun v8 =>
  if a1 = (0 : Int32) then
    some (v3 &&& (15 : Int32), h)
  else
    if a1 = (1 : Int32) then
      some ((v8 &&& (v6 ^^^ (-1 : Int32))) &&& (15 : Int32), h)
    else
      if a1 = (2 : Int32) then
        some ((v6 &&& (v3 ^^^ (-1 : Int32))) &&& (15 : Int32), h)
      else
        if a1 = (3 : Int32) then
          some (v3 >>> ((4 : Int32) &&& 31), h)
        else
          if a1 = (4 : Int32) then
            some ((v8 &&& (v6 ^^^ (-1 : Int32))) >>> ((4 : Int32) &&& 31), h)
          else
            if a1 = (5 : Int32) then
              some ((v6 &&& (v3 ^^^ (-1 : Int32))) >>> ((4 : Int32) &&& 31), h)
            else
              (qv_ob h 7 a0).bind fun _ =>
              (fX8_refuse a0 (-2 : Int32) h).bind fun (v10, h11) =>
              some (v10, h11)
abbrev mX8_sure : qv_M := (yX8_sure, cX8_sure, 6, (Option.some Jvm.ClassFile.FieldType.int), 2, 46)
set_option maxRecDepth 100000 in
set_option maxHeartbeats 4000000 in
theorem sX8_sure {l : Launch} {g : qv_G} {a0 : Nat} {a1 : Int32} {h : qv_H} {r : Int32} {hz : qv_H} (hs : fX8_sure a0 a1 h = some (r, hz)) : qv_J l g mX8_sure 0 [some (.ref a0), some (.int a1), none, none, none, none] [] h (some (.int r), hz) := by
  unfold fX8_sure at hs
  refine qv_aload_n dX8_sure_0 (i := 0) rfl rfl ?_
  obtain ⟨v1, e1, hs⟩ := qv_bind hs
  refine qv_getR dX8_sure_1 qF_X8_42 e1 ?_
  refine qv_iconst (v := (0 : Int32)) dX8_sure_4 rfl ?_
  refine qv_iconst (v := (0 : Int32)) dX8_sure_5 rfl ?_
  obtain ⟨u2, e2, hs⟩ := qv_bind hs
  obtain ⟨v3, e3, hs⟩ := qv_bind hs
  refine qv_cV (d2 := mX7_alwaysSo) (o := v1) (ci := 6) (r := some (.int v3)) (h2 := h) (av := [.int (0 : Int32), .int (0 : Int32)]) (st := []) dX8_sure_6 qM_X8_166 qD_X7_alwaysSo e2 rfl rfl ⟨by decide, by decide⟩ rfl (Nat.le_of_ble_eq_true rfl) (Nat.le_of_ble_eq_true rfl) (sX7_alwaysSo e3) rfl ?_
  refine qv_istore_n (lo2 := [some (.ref a0), some (.int a1), some (.int v3), none, none, none]) dX8_sure_9 (i := 2) rfl (by decide) rfl (Nat.le_of_ble_eq_true rfl) rfl ?_
  refine qv_aload_n dX8_sure_10 (i := 0) rfl rfl ?_
  obtain ⟨v4, e4, hs⟩ := qv_bind hs
  refine qv_getR dX8_sure_11 qF_X8_42 e4 ?_
  refine qv_iconst (v := (0 : Int32)) dX8_sure_14 rfl ?_
  refine qv_iconst (v := (0 : Int32)) dX8_sure_15 rfl ?_
  obtain ⟨u5, e5, hs⟩ := qv_bind hs
  obtain ⟨v6, e6, hs⟩ := qv_bind hs
  refine qv_cV (d2 := mX7_everSo) (o := v4) (ci := 6) (r := some (.int v6)) (h2 := h) (av := [.int (0 : Int32), .int (0 : Int32)]) (st := []) dX8_sure_16 qM_X8_169 qD_X7_everSo e5 rfl rfl ⟨by decide, by decide⟩ rfl (Nat.le_of_ble_eq_true rfl) (Nat.le_of_ble_eq_true rfl) (sX7_everSo e6) rfl ?_
  refine qv_istore_n (lo2 := [some (.ref a0), some (.int a1), some (.int v3), some (.int v6), none, none]) dX8_sure_19 (i := 3) rfl (by decide) rfl (Nat.le_of_ble_eq_true rfl) rfl ?_
  refine qv_aload_n dX8_sure_20 (i := 0) rfl rfl ?_
  obtain ⟨v7, e7, hs⟩ := qv_bind hs
  refine qv_getR dX8_sure_21 qF_X8_42 e7 ?_
  obtain ⟨v8, e8, hs⟩ := qv_bind hs
  refine qv_getI dX8_sure_24 qF_X8_172 e8 ?_
  refine qv_iload_n dX8_sure_27 (i := 3) rfl rfl ?_
  refine qv_iconst (v := (-1 : Int32)) dX8_sure_28 rfl ?_
  refine qv_ixor dX8_sure_29 ?_
  refine qv_iand dX8_sure_30 ?_
  refine qv_istore (lo2 := [some (.ref a0), some (.int a1), some (.int v3), some (.int v6), some (.int (v8 &&& (v6 ^^^ (-1 : Int32)))), none]) dX8_sure_31 (by decide) rfl (Nat.le_of_ble_eq_true rfl) rfl ?_
  refine qv_iload_n dX8_sure_33 (i := 3) rfl rfl ?_
  refine qv_iload_n dX8_sure_34 (i := 2) rfl rfl ?_
  refine qv_iconst (v := (-1 : Int32)) dX8_sure_35 rfl ?_
  refine qv_ixor dX8_sure_36 ?_
  refine qv_iand dX8_sure_37 ?_
  refine qv_istore (lo2 := [some (.ref a0), some (.int a1), some (.int v3), some (.int v6), some (.int (v8 &&& (v6 ^^^ (-1 : Int32)))), some (.int (v6 &&& (v3 ^^^ (-1 : Int32))))]) dX8_sure_38 (by decide) rfl (Nat.le_of_ble_eq_true rfl) rfl ?_
  refine qv_iload_n dX8_sure_40 (i := 1) rfl rfl ?_
  by_cases c9 : a1 = (0 : Int32)
  · have hs := qv_pos c9 hs
    refine qv_tsIn (tgt := 80) (0 : Int32) c9 dX8_sure_41 (by decide) (by decide) rfl rfl ?_
    refine qv_iload_n dX8_sure_80 (i := 2) rfl rfl ?_
    refine qv_bipush (v := (15 : Int32)) dX8_sure_81 rfl ?_
    refine qv_iand dX8_sure_83 ?_
    obtain ⟨rfl, rfl⟩ := qv_pr hs
    exact qv_iret dX8_sure_84 rfl
  · have hs := qv_neg c9 hs
    by_cases c10 : a1 = (1 : Int32)
    · have hs := qv_pos c10 hs
      refine qv_tsIn (tgt := 85) (1 : Int32) c10 dX8_sure_41 (by decide) (by decide) rfl rfl ?_
      refine qv_iload dX8_sure_85 rfl ?_
      refine qv_bipush (v := (15 : Int32)) dX8_sure_87 rfl ?_
      refine qv_iand dX8_sure_89 ?_
      obtain ⟨rfl, rfl⟩ := qv_pr hs
      exact qv_iret dX8_sure_90 rfl
    · have hs := qv_neg c10 hs
      by_cases c11 : a1 = (2 : Int32)
      · have hs := qv_pos c11 hs
        refine qv_tsIn (tgt := 91) (2 : Int32) c11 dX8_sure_41 (by decide) (by decide) rfl rfl ?_
        refine qv_iload dX8_sure_91 rfl ?_
        refine qv_bipush (v := (15 : Int32)) dX8_sure_93 rfl ?_
        refine qv_iand dX8_sure_95 ?_
        obtain ⟨rfl, rfl⟩ := qv_pr hs
        exact qv_iret dX8_sure_96 rfl
      · have hs := qv_neg c11 hs
        by_cases c12 : a1 = (3 : Int32)
        · have hs := qv_pos c12 hs
          refine qv_tsIn (tgt := 97) (3 : Int32) c12 dX8_sure_41 (by decide) (by decide) rfl rfl ?_
          refine qv_iload_n dX8_sure_97 (i := 2) rfl rfl ?_
          refine qv_iconst (v := (4 : Int32)) dX8_sure_98 rfl ?_
          refine qv_ishr dX8_sure_99 ?_
          obtain ⟨rfl, rfl⟩ := qv_pr hs
          exact qv_iret dX8_sure_100 rfl
        · have hs := qv_neg c12 hs
          by_cases c13 : a1 = (4 : Int32)
          · have hs := qv_pos c13 hs
            refine qv_tsIn (tgt := 101) (4 : Int32) c13 dX8_sure_41 (by decide) (by decide) rfl rfl ?_
            refine qv_iload dX8_sure_101 rfl ?_
            refine qv_iconst (v := (4 : Int32)) dX8_sure_103 rfl ?_
            refine qv_ishr dX8_sure_104 ?_
            obtain ⟨rfl, rfl⟩ := qv_pr hs
            exact qv_iret dX8_sure_105 rfl
          · have hs := qv_neg c13 hs
            by_cases c14 : a1 = (5 : Int32)
            · have hs := qv_pos c14 hs
              refine qv_tsIn (tgt := 106) (5 : Int32) c14 dX8_sure_41 (by decide) (by decide) rfl rfl ?_
              refine qv_iload dX8_sure_106 rfl ?_
              refine qv_iconst (v := (4 : Int32)) dX8_sure_108 rfl ?_
              refine qv_ishr dX8_sure_109 ?_
              obtain ⟨rfl, rfl⟩ := qv_pr hs
              exact qv_iret dX8_sure_110 rfl
            · have hs := qv_neg c14 hs
              refine qv_tsDef (tgt := 111) dX8_sure_41 (fun j hj ej => ?_) rfl ?_
              · rcases (show j = 0 ∨ j = 1 ∨ j = 2 ∨ j = 3 ∨ j = 4 ∨ j = 5 by omega) with rfl | rfl | rfl | rfl | rfl | rfl
                · exact absurd (Int32.toInt_inj.mp (by rw [ej]; rfl)) c9
                · exact absurd (Int32.toInt_inj.mp (by rw [ej]; rfl)) c10
                · exact absurd (Int32.toInt_inj.mp (by rw [ej]; rfl)) c11
                · exact absurd (Int32.toInt_inj.mp (by rw [ej]; rfl)) c12
                · exact absurd (Int32.toInt_inj.mp (by rw [ej]; rfl)) c13
                · exact absurd (Int32.toInt_inj.mp (by rw [ej]; rfl)) c14
              refine qv_aload_n dX8_sure_111 (i := 0) rfl rfl ?_
              refine qv_bipush (v := (-2 : Int32)) dX8_sure_112 rfl ?_
              obtain ⟨u9, e15, hs⟩ := qv_bind hs
              obtain ⟨⟨v10, h11⟩, e16, hs⟩ := qv_bind hs
              dsimp only at hs
              refine qv_cV (d2 := mX8_refuse) (o := a0) (ci := 7) (r := some (.int v10)) (h2 := h11) (av := [.int (-2 : Int32)]) (st := []) dX8_sure_114 qM_X8_83 qD_X8_refuse e15 rfl rfl ⟨by decide, by decide⟩ rfl (Nat.le_of_ble_eq_true rfl) (Nat.le_of_ble_eq_true rfl) (sX8_refuse e16) rfl ?_
              obtain ⟨rfl, rfl⟩ := qv_pr hs
              exact qv_iret dX8_sure_117 rfl
theorem qD_X8_sure : qv_DV mX8_sure 1 := ⟨(qv_i9 (List.mem_of_getElem? (i := 2) (by decide +kernel))), (qv_i9 (List.mem_of_getElem? (i := 3) (by decide +kernel))), (qv_i1 (List.mem_of_getElem? (i := 5) (by decide +kernel))), (qv_i9 (List.mem_of_getElem? (i := 4) (by decide +kernel))), by decide +kernel, by decide +kernel⟩
/-- TrueOneWay.proof()I -/
noncomputable def fX8_proof (a0 : Nat) (h : qv_H) : Option (Int32 × qv_H) :=
  (qv_gR h 7 a0 6).bind fun v1 =>
  (qv_gI h 6 v1 2).bind fun v2 =>
  Option.bind (α := Int32 × qv_H) (
      if v2 ≤ 0 then
        (qv_gR h 7 a0 7).bind fun v3 =>
        (qv_gR h 7 a0 6).bind fun v4 =>
        (qv_gR h 7 a0 4).bind fun v5 =>
        (qv_ob h 0 v3).bind fun _ =>
        (fX1_fewestClashing v3 v4 v5 h).bind fun (v7, h8) =>
        some (v7, h8)
      else
        some ((0 : Int32), h)
    ) fun (m9, h10) =>
  some (m9, h10)
abbrev mX8_proof : qv_M := (yX8_proof, cX8_proof, 1, (Option.some Jvm.ClassFile.FieldType.int), 4, 95)
set_option maxRecDepth 100000 in
set_option maxHeartbeats 4000000 in
theorem sX8_proof {l : Launch} {g : qv_G} {a0 : Nat} {h : qv_H} {r : Int32} {hz : qv_H} (hs : fX8_proof a0 h = some (r, hz)) : qv_J l g mX8_proof 0 [some (.ref a0)] [] h (some (.int r), hz) := by
  unfold fX8_proof at hs
  refine qv_aload_n dX8_proof_0 (i := 0) rfl rfl ?_
  obtain ⟨v1, e1, hs⟩ := qv_bind hs
  refine qv_getR dX8_proof_1 qF_X8_42 e1 ?_
  obtain ⟨v2, e2, hs⟩ := qv_bind hs
  refine qv_getI dX8_proof_4 qF_X8_149 e2 ?_
  obtain ⟨⟨m9, h10⟩, hj4, hs⟩ := qv_bind hs
  dsimp only at hs
  have K3 : qv_J l g mX8_proof 29 [none] [.int m9] h10 (some (.int r), hz) := by
    obtain ⟨rfl, rfl⟩ := qv_pr hs
    exact qv_iret dX8_proof_29 rfl
  replace hs := hj4
  by_cases c5 : v2 ≤ 0
  · have hs := qv_pos c5 hs
    refine qv_if_le (tgt := 14) dX8_proof_7 rfl (fun _ => ?_) (fun q => absurd c5 q)
    refine qv_aload_n dX8_proof_14 (i := 0) rfl rfl ?_
    obtain ⟨v3, e6, hs⟩ := qv_bind hs
    refine qv_getR dX8_proof_15 qF_X8_49 e6 ?_
    refine qv_aload_n dX8_proof_18 (i := 0) rfl rfl ?_
    obtain ⟨v4, e7, hs⟩ := qv_bind hs
    refine qv_getR dX8_proof_19 qF_X8_42 e7 ?_
    refine qv_aload_n dX8_proof_22 (i := 0) rfl rfl ?_
    obtain ⟨v5, e8, hs⟩ := qv_bind hs
    refine qv_getR dX8_proof_23 qF_X8_32 e8 ?_
    obtain ⟨u6, e9, hs⟩ := qv_bind hs
    obtain ⟨⟨v7, h8⟩, e10, hs⟩ := qv_bind hs
    dsimp only at hs
    refine qv_cV (d2 := mX1_fewestClashing) (o := v3) (ci := 0) (r := some (.int v7)) (h2 := h8) (av := [.ref v4, .ref v5]) (st := []) dX8_proof_26 qM_X8_175 qD_X1_fewestClashing e9 rfl rfl ⟨by decide, by decide⟩ rfl (Nat.le_of_ble_eq_true rfl) (Nat.le_of_ble_eq_true rfl) (sX1_fewestClashing e10) rfl ?_
    cases hs
    exact qv_dp (qv_le_n qv_le_0) K3
  · have hs := qv_neg c5 hs
    refine qv_if_le (tgt := 14) dX8_proof_7 rfl (fun q => absurd q c5) (fun _ => ?_)
    refine qv_iconst (v := (0 : Int32)) dX8_proof_10 rfl ?_
    refine qv_goto (tgt := 29) dX8_proof_11 rfl ?_
    cases hs
    exact qv_dp (qv_le_n qv_le_0) K3
theorem qD_X8_proof : qv_DV mX8_proof 0 := ⟨(qv_i9 (List.mem_of_getElem? (i := 14) (by decide +kernel))), (qv_i9 (List.mem_of_getElem? (i := 15) (by decide +kernel))), (qv_i1 (List.mem_of_getElem? (i := 5) (by decide +kernel))), (qv_i9 (List.mem_of_getElem? (i := 16) (by decide +kernel))), by decide +kernel, by decide +kernel⟩
/-- TrueOneWay.tells(II)I -/
noncomputable def fX8_tells (a0 : Nat) (a1 : Int32) (a2 : Int32) (h : qv_H) : Option (Int32 × qv_H) :=
  (qv_gR h 7 a0 1).bind fun v1 =>
  (qv_ob h 2 v1).bind fun _ =>
  (fX3_hasSign v1 a1 h).bind fun v3 =>
  if v3 = 0 then
    (qv_ob h 7 a0).bind fun _ =>
    (fX8_refuse a0 (-1 : Int32) h).bind fun (v28, h29) =>
    some (v28, h29)
  else
    if a2 = 0 then
      (qv_gR h 7 a0 6).bind fun v4 =>
      (qv_ob h 6 v4).bind fun _ =>
      (fX7_openFacts v4 (0 : Int32) (0 : Int32) h).bind fun v6 =>
      Option.bind (α := Int32) (
          if a2 = (1 : Int32) then
            (qv_gR h 7 a0 6).bind fun v10 =>
            (qv_ob h 6 v10).bind fun _ =>
            (fX7_openFacts v10 ((1 : Int32) <<< (((4 : Int32) + a1) &&& 31)) (0 : Int32) h).bind fun v12 =>
            some v12
          else
            (qv_gR h 7 a0 6).bind fun v7 =>
            (qv_ob h 6 v7).bind fun _ =>
            (fX7_openFacts v7 (0 : Int32) ((1 : Int32) <<< (((4 : Int32) + a1) &&& 31)) h).bind fun v9 =>
            some v9
        ) fun m13 =>
      some (v6 &&& (m13 ^^^ (-1 : Int32)), h)
    else
      if a2 = (1 : Int32) then
        (qv_gR h 7 a0 6).bind fun v14 =>
        (qv_ob h 6 v14).bind fun _ =>
        (fX7_openFacts v14 (0 : Int32) (0 : Int32) h).bind fun v16 =>
        Option.bind (α := Int32) (
            if a2 = (1 : Int32) then
              (qv_gR h 7 a0 6).bind fun v20 =>
              (qv_ob h 6 v20).bind fun _ =>
              (fX7_openFacts v20 ((1 : Int32) <<< (((4 : Int32) + a1) &&& 31)) (0 : Int32) h).bind fun v22 =>
              some v22
            else
              (qv_gR h 7 a0 6).bind fun v17 =>
              (qv_ob h 6 v17).bind fun _ =>
              (fX7_openFacts v17 (0 : Int32) ((1 : Int32) <<< (((4 : Int32) + a1) &&& 31)) h).bind fun v19 =>
              some v19
          ) fun m23 =>
        some (v16 &&& (m23 ^^^ (-1 : Int32)), h)
      else
        (qv_ob h 7 a0).bind fun _ =>
        (fX8_refuse a0 (-2 : Int32) h).bind fun (v25, h26) =>
        some (v25, h26)
abbrev mX8_tells : qv_M := (yX8_tells, cX8_tells, 6, (Option.some Jvm.ClassFile.FieldType.int), 3, 68)
set_option maxRecDepth 100000 in
set_option maxHeartbeats 4000000 in
theorem sX8_tells {l : Launch} {g : qv_G} {a0 : Nat} {a1 : Int32} {a2 : Int32} {h : qv_H} {r : Int32} {hz : qv_H} (hs : fX8_tells a0 a1 a2 h = some (r, hz)) : qv_J l g mX8_tells 0 [some (.ref a0), some (.int a1), some (.int a2), none, none, none] [] h (some (.int r), hz) := by
  unfold fX8_tells at hs
  refine qv_aload_n dX8_tells_0 (i := 0) rfl rfl ?_
  obtain ⟨v1, e1, hs⟩ := qv_bind hs
  refine qv_getR dX8_tells_1 qF_X8_19 e1 ?_
  refine qv_iload_n dX8_tells_4 (i := 1) rfl rfl ?_
  obtain ⟨u2, e2, hs⟩ := qv_bind hs
  obtain ⟨v3, e3, hs⟩ := qv_bind hs
  refine qv_cV (d2 := mX3_hasSign) (o := v1) (ci := 2) (r := some (.int v3)) (h2 := h) (av := [.int a1]) (st := []) dX8_tells_5 qM_X8_115 qD_X3_hasSign e2 rfl rfl ⟨by decide, by decide⟩ rfl (Nat.le_of_ble_eq_true rfl) (Nat.le_of_ble_eq_true rfl) (sX3_hasSign e3) rfl ?_
  by_cases c4 : v3 = 0
  · have hs := qv_pos c4 hs
    refine qv_if_ne (tgt := 17) dX8_tells_8 rfl (fun q => absurd c4 q) (fun _ => ?_)
    refine qv_aload_n dX8_tells_11 (i := 0) rfl rfl ?_
    refine qv_iconst (v := (-1 : Int32)) dX8_tells_12 rfl ?_
    obtain ⟨u27, e5, hs⟩ := qv_bind hs
    obtain ⟨⟨v28, h29⟩, e6, hs⟩ := qv_bind hs
    dsimp only at hs
    refine qv_cV (d2 := mX8_refuse) (o := a0) (ci := 7) (r := some (.int v28)) (h2 := h29) (av := [.int (-1 : Int32)]) (st := []) dX8_tells_13 qM_X8_83 qD_X8_refuse e5 rfl rfl ⟨by decide, by decide⟩ rfl (Nat.le_of_ble_eq_true rfl) (Nat.le_of_ble_eq_true rfl) (sX8_refuse e6) rfl ?_
    obtain ⟨rfl, rfl⟩ := qv_pr hs
    exact qv_iret dX8_tells_16 rfl
  · have hs := qv_neg c4 hs
    refine qv_if_ne (tgt := 17) dX8_tells_8 rfl (fun _ => ?_) (fun q => absurd q c4)
    refine qv_iload_n dX8_tells_17 (i := 2) rfl rfl ?_
    by_cases c7 : a2 = 0
    · have hs := qv_pos c7 hs
      refine qv_if_eq (tgt := 33) dX8_tells_18 rfl (fun _ => ?_) (fun q => absurd c7 q)
      refine qv_iconst (v := (1 : Int32)) dX8_tells_33 rfl ?_
      refine qv_iconst (v := (4 : Int32)) dX8_tells_34 rfl ?_
      refine qv_iload_n dX8_tells_35 (i := 1) rfl rfl ?_
      refine qv_iadd dX8_tells_36 ?_
      refine qv_ishl dX8_tells_37 ?_
      refine qv_istore_n (lo2 := [some (.ref a0), some (.int a1), some (.int a2), some (.int ((1 : Int32) <<< (((4 : Int32) + a1) &&& 31))), none, none]) dX8_tells_38 (i := 3) rfl (by decide) rfl (Nat.le_of_ble_eq_true rfl) rfl ?_
      refine qv_aload_n dX8_tells_39 (i := 0) rfl rfl ?_
      obtain ⟨v4, e8, hs⟩ := qv_bind hs
      refine qv_getR dX8_tells_40 qF_X8_42 e8 ?_
      refine qv_iconst (v := (0 : Int32)) dX8_tells_43 rfl ?_
      refine qv_iconst (v := (0 : Int32)) dX8_tells_44 rfl ?_
      obtain ⟨u5, e9, hs⟩ := qv_bind hs
      obtain ⟨v6, e10, hs⟩ := qv_bind hs
      refine qv_cV (d2 := mX7_openFacts) (o := v4) (ci := 6) (r := some (.int v6)) (h2 := h) (av := [.int (0 : Int32), .int (0 : Int32)]) (st := []) dX8_tells_45 qM_X8_179 qD_X7_openFacts e9 rfl rfl ⟨by decide, by decide⟩ rfl (Nat.le_of_ble_eq_true rfl) (Nat.le_of_ble_eq_true rfl) (sX7_openFacts e10) rfl ?_
      refine qv_istore (lo2 := [some (.ref a0), some (.int a1), some (.int a2), some (.int ((1 : Int32) <<< (((4 : Int32) + a1) &&& 31))), some (.int v6), none]) dX8_tells_48 (by decide) rfl (Nat.le_of_ble_eq_true rfl) rfl ?_
      refine qv_iload_n dX8_tells_50 (i := 2) rfl rfl ?_
      refine qv_iconst (v := (1 : Int32)) dX8_tells_51 rfl ?_
      obtain ⟨m13, hj12, hs⟩ := qv_bind hs
      have K11 : qv_J l g mX8_tells 76 [none, none, none, none, some (.int v6), none] [.int m13] h (some (.int r), hz) := by
        refine qv_istore (lo2 := [none, none, none, none, some (.int v6), some (.int m13)]) dX8_tells_76 (by decide) rfl (Nat.le_of_ble_eq_true rfl) rfl ?_
        refine qv_iload dX8_tells_78 rfl ?_
        refine qv_iload dX8_tells_80 rfl ?_
        refine qv_iconst (v := (-1 : Int32)) dX8_tells_82 rfl ?_
        refine qv_ixor dX8_tells_83 ?_
        refine qv_iand dX8_tells_84 ?_
        obtain ⟨rfl, rfl⟩ := qv_pr hs
        exact qv_iret dX8_tells_85 rfl
      replace hs := hj12
      by_cases c13 : a2 = (1 : Int32)
      · have hs := qv_pos c13 hs
        refine qv_icmp_ne (tgt := 67) dX8_tells_52 rfl (fun q => absurd c13 q) (fun _ => ?_)
        refine qv_aload_n dX8_tells_55 (i := 0) rfl rfl ?_
        obtain ⟨v10, e14, hs⟩ := qv_bind hs
        refine qv_getR dX8_tells_56 qF_X8_42 e14 ?_
        refine qv_iload_n dX8_tells_59 (i := 3) rfl rfl ?_
        refine qv_iconst (v := (0 : Int32)) dX8_tells_60 rfl ?_
        obtain ⟨u11, e15, hs⟩ := qv_bind hs
        obtain ⟨v12, e16, hs⟩ := qv_bind hs
        refine qv_cV (d2 := mX7_openFacts) (o := v10) (ci := 6) (r := some (.int v12)) (h2 := h) (av := [.int ((1 : Int32) <<< (((4 : Int32) + a1) &&& 31)), .int (0 : Int32)]) (st := []) dX8_tells_61 qM_X8_179 qD_X7_openFacts e15 rfl rfl ⟨by decide, by decide⟩ rfl (Nat.le_of_ble_eq_true rfl) (Nat.le_of_ble_eq_true rfl) (sX7_openFacts e16) rfl ?_
        refine qv_goto (tgt := 76) dX8_tells_64 rfl ?_
        cases hs
        exact qv_dp (qv_le_n (qv_le_n (qv_le_n (qv_le_n (qv_le_s (qv_le_n qv_le_0)))))) K11
      · have hs := qv_neg c13 hs
        refine qv_icmp_ne (tgt := 67) dX8_tells_52 rfl (fun _ => ?_) (fun q => absurd q c13)
        refine qv_aload_n dX8_tells_67 (i := 0) rfl rfl ?_
        obtain ⟨v7, e17, hs⟩ := qv_bind hs
        refine qv_getR dX8_tells_68 qF_X8_42 e17 ?_
        refine qv_iconst (v := (0 : Int32)) dX8_tells_71 rfl ?_
        refine qv_iload_n dX8_tells_72 (i := 3) rfl rfl ?_
        obtain ⟨u8, e18, hs⟩ := qv_bind hs
        obtain ⟨v9, e19, hs⟩ := qv_bind hs
        refine qv_cV (d2 := mX7_openFacts) (o := v7) (ci := 6) (r := some (.int v9)) (h2 := h) (av := [.int (0 : Int32), .int ((1 : Int32) <<< (((4 : Int32) + a1) &&& 31))]) (st := []) dX8_tells_73 qM_X8_179 qD_X7_openFacts e18 rfl rfl ⟨by decide, by decide⟩ rfl (Nat.le_of_ble_eq_true rfl) (Nat.le_of_ble_eq_true rfl) (sX7_openFacts e19) rfl ?_
        cases hs
        exact qv_dp (qv_le_n (qv_le_n (qv_le_n (qv_le_n (qv_le_s (qv_le_n qv_le_0)))))) K11
    · have hs := qv_neg c7 hs
      refine qv_if_eq (tgt := 33) dX8_tells_18 rfl (fun q => absurd q c7) (fun _ => ?_)
      refine qv_iload_n dX8_tells_21 (i := 2) rfl rfl ?_
      refine qv_iconst (v := (1 : Int32)) dX8_tells_22 rfl ?_
      by_cases c20 : a2 = (1 : Int32)
      · have hs := qv_pos c20 hs
        refine qv_icmp_eq (tgt := 33) dX8_tells_23 rfl (fun _ => ?_) (fun q => absurd c20 q)
        refine qv_iconst (v := (1 : Int32)) dX8_tells_33 rfl ?_
        refine qv_iconst (v := (4 : Int32)) dX8_tells_34 rfl ?_
        refine qv_iload_n dX8_tells_35 (i := 1) rfl rfl ?_
        refine qv_iadd dX8_tells_36 ?_
        refine qv_ishl dX8_tells_37 ?_
        refine qv_istore_n (lo2 := [some (.ref a0), some (.int a1), some (.int a2), some (.int ((1 : Int32) <<< (((4 : Int32) + a1) &&& 31))), none, none]) dX8_tells_38 (i := 3) rfl (by decide) rfl (Nat.le_of_ble_eq_true rfl) rfl ?_
        refine qv_aload_n dX8_tells_39 (i := 0) rfl rfl ?_
        obtain ⟨v14, e21, hs⟩ := qv_bind hs
        refine qv_getR dX8_tells_40 qF_X8_42 e21 ?_
        refine qv_iconst (v := (0 : Int32)) dX8_tells_43 rfl ?_
        refine qv_iconst (v := (0 : Int32)) dX8_tells_44 rfl ?_
        obtain ⟨u15, e22, hs⟩ := qv_bind hs
        obtain ⟨v16, e23, hs⟩ := qv_bind hs
        refine qv_cV (d2 := mX7_openFacts) (o := v14) (ci := 6) (r := some (.int v16)) (h2 := h) (av := [.int (0 : Int32), .int (0 : Int32)]) (st := []) dX8_tells_45 qM_X8_179 qD_X7_openFacts e22 rfl rfl ⟨by decide, by decide⟩ rfl (Nat.le_of_ble_eq_true rfl) (Nat.le_of_ble_eq_true rfl) (sX7_openFacts e23) rfl ?_
        refine qv_istore (lo2 := [some (.ref a0), some (.int a1), some (.int a2), some (.int ((1 : Int32) <<< (((4 : Int32) + a1) &&& 31))), some (.int v16), none]) dX8_tells_48 (by decide) rfl (Nat.le_of_ble_eq_true rfl) rfl ?_
        refine qv_iload_n dX8_tells_50 (i := 2) rfl rfl ?_
        refine qv_iconst (v := (1 : Int32)) dX8_tells_51 rfl ?_
        obtain ⟨m23, hj25, hs⟩ := qv_bind hs
        have K24 : qv_J l g mX8_tells 76 [none, none, none, none, some (.int v16), none] [.int m23] h (some (.int r), hz) := by
          refine qv_istore (lo2 := [none, none, none, none, some (.int v16), some (.int m23)]) dX8_tells_76 (by decide) rfl (Nat.le_of_ble_eq_true rfl) rfl ?_
          refine qv_iload dX8_tells_78 rfl ?_
          refine qv_iload dX8_tells_80 rfl ?_
          refine qv_iconst (v := (-1 : Int32)) dX8_tells_82 rfl ?_
          refine qv_ixor dX8_tells_83 ?_
          refine qv_iand dX8_tells_84 ?_
          obtain ⟨rfl, rfl⟩ := qv_pr hs
          exact qv_iret dX8_tells_85 rfl
        replace hs := hj25
        by_cases c26 : a2 = (1 : Int32)
        · have hs := qv_pos c26 hs
          refine qv_icmp_ne (tgt := 67) dX8_tells_52 rfl (fun q => absurd c26 q) (fun _ => ?_)
          refine qv_aload_n dX8_tells_55 (i := 0) rfl rfl ?_
          obtain ⟨v20, e27, hs⟩ := qv_bind hs
          refine qv_getR dX8_tells_56 qF_X8_42 e27 ?_
          refine qv_iload_n dX8_tells_59 (i := 3) rfl rfl ?_
          refine qv_iconst (v := (0 : Int32)) dX8_tells_60 rfl ?_
          obtain ⟨u21, e28, hs⟩ := qv_bind hs
          obtain ⟨v22, e29, hs⟩ := qv_bind hs
          refine qv_cV (d2 := mX7_openFacts) (o := v20) (ci := 6) (r := some (.int v22)) (h2 := h) (av := [.int ((1 : Int32) <<< (((4 : Int32) + a1) &&& 31)), .int (0 : Int32)]) (st := []) dX8_tells_61 qM_X8_179 qD_X7_openFacts e28 rfl rfl ⟨by decide, by decide⟩ rfl (Nat.le_of_ble_eq_true rfl) (Nat.le_of_ble_eq_true rfl) (sX7_openFacts e29) rfl ?_
          refine qv_goto (tgt := 76) dX8_tells_64 rfl ?_
          cases hs
          exact qv_dp (qv_le_n (qv_le_n (qv_le_n (qv_le_n (qv_le_s (qv_le_n qv_le_0)))))) K24
        · have hs := qv_neg c26 hs
          refine qv_icmp_ne (tgt := 67) dX8_tells_52 rfl (fun _ => ?_) (fun q => absurd q c26)
          refine qv_aload_n dX8_tells_67 (i := 0) rfl rfl ?_
          obtain ⟨v17, e30, hs⟩ := qv_bind hs
          refine qv_getR dX8_tells_68 qF_X8_42 e30 ?_
          refine qv_iconst (v := (0 : Int32)) dX8_tells_71 rfl ?_
          refine qv_iload_n dX8_tells_72 (i := 3) rfl rfl ?_
          obtain ⟨u18, e31, hs⟩ := qv_bind hs
          obtain ⟨v19, e32, hs⟩ := qv_bind hs
          refine qv_cV (d2 := mX7_openFacts) (o := v17) (ci := 6) (r := some (.int v19)) (h2 := h) (av := [.int (0 : Int32), .int ((1 : Int32) <<< (((4 : Int32) + a1) &&& 31))]) (st := []) dX8_tells_73 qM_X8_179 qD_X7_openFacts e31 rfl rfl ⟨by decide, by decide⟩ rfl (Nat.le_of_ble_eq_true rfl) (Nat.le_of_ble_eq_true rfl) (sX7_openFacts e32) rfl ?_
          cases hs
          exact qv_dp (qv_le_n (qv_le_n (qv_le_n (qv_le_n (qv_le_s (qv_le_n qv_le_0)))))) K24
      · have hs := qv_neg c20 hs
        refine qv_icmp_eq (tgt := 33) dX8_tells_23 rfl (fun q => absurd q c20) (fun _ => ?_)
        refine qv_aload_n dX8_tells_26 (i := 0) rfl rfl ?_
        refine qv_bipush (v := (-2 : Int32)) dX8_tells_27 rfl ?_
        obtain ⟨u24, e33, hs⟩ := qv_bind hs
        obtain ⟨⟨v25, h26⟩, e34, hs⟩ := qv_bind hs
        dsimp only at hs
        refine qv_cV (d2 := mX8_refuse) (o := a0) (ci := 7) (r := some (.int v25)) (h2 := h26) (av := [.int (-2 : Int32)]) (st := []) dX8_tells_29 qM_X8_83 qD_X8_refuse e33 rfl rfl ⟨by decide, by decide⟩ rfl (Nat.le_of_ble_eq_true rfl) (Nat.le_of_ble_eq_true rfl) (sX8_refuse e34) rfl ?_
        obtain ⟨rfl, rfl⟩ := qv_pr hs
        exact qv_iret dX8_tells_32 rfl
theorem qD_X8_tells : qv_DV mX8_tells 2 := ⟨(qv_i9 (List.mem_of_getElem? (i := 38) (by decide +kernel))), (qv_i9 (List.mem_of_getElem? (i := 39) (by decide +kernel))), (qv_i1 (List.mem_of_getElem? (i := 5) (by decide +kernel))), (qv_i9 (List.mem_of_getElem? (i := 40) (by decide +kernel))), by decide +kernel, by decide +kernel⟩
/-- TrueOneWay.rings()I -/
noncomputable def fX8_rings (a0 : Nat) (h : qv_H) : Option (Int32) :=
  Option.bind (qv_loop (σ := Int32 × Int32) (ρ := Int32) (fun (x1, x2) =>
      (qv_gR h 7 a0 1).bind fun v3 =>
      (qv_gI h 2 v3 3).bind fun v4 =>
      if v4 ≤ x2 then
        some (.inr x1)
      else
        (qv_gR h 7 a0 1).bind fun v5 =>
        (qv_ob h 2 v5).bind fun _ =>
        (fX3_comesBack v5 x2 h).bind fun v7 =>
        Option.bind (α := Int32) (
            if v7 = 0 then
              some x1
            else
              some (x1 ||| ((1 : Int32) <<< (x2 &&& 31)))
          ) fun m8 =>
        some (.inl (m8, x2 + (1 : Int32)))
    ) ((0 : Int32), (0 : Int32))) fun y9 =>
  some y9
abbrev mX8_rings : qv_M := (yX8_rings, cX8_rings, 3, (Option.some Jvm.ClassFile.FieldType.int), 2, 44)
set_option maxRecDepth 100000 in
set_option maxHeartbeats 4000000 in
theorem sX8_rings {l : Launch} {g : qv_G} {a0 : Nat} {h : qv_H} {r : Int32} (hs : fX8_rings a0 h = some r) : qv_J l g mX8_rings 0 [some (.ref a0), none, none] [] h (some (.int r), h) := by
  unfold fX8_rings at hs
  refine qv_iconst (v := (0 : Int32)) dX8_rings_0 rfl ?_
  refine qv_istore_n (lo2 := [some (.ref a0), some (.int (0 : Int32)), none]) dX8_rings_1 (i := 1) rfl (by decide) rfl (Nat.le_of_ble_eq_true rfl) rfl ?_
  refine qv_iconst (v := (0 : Int32)) dX8_rings_2 rfl ?_
  refine qv_istore_n (lo2 := [some (.ref a0), some (.int (0 : Int32)), some (.int (0 : Int32))]) dX8_rings_3 (i := 2) rfl (by decide) rfl (Nat.le_of_ble_eq_true rfl) rfl ?_
  obtain ⟨y9, e2, hs⟩ := qv_bind hs
  have K1 : qv_J l g mX8_rings 38 [none, some (.int y9), none] [] h (some (.int r), h) := by
    refine qv_iload_n dX8_rings_38 (i := 1) rfl rfl ?_
    obtain rfl := qv_sm hs
    exact qv_iret dX8_rings_39 rfl
  obtain ⟨n8, e2⟩ := qv_loop_of e2
  refine qv_dp (qv_le_s (qv_le_s (qv_le_s qv_le_0))) (?_ : qv_J l g mX8_rings 4 [some (.ref a0), some (.int (0 : Int32)), some (.int (0 : Int32))] [] h (some (.int r), h))
  revert e2
  suffices lj7 : ∀ (x1 : Int32) (x2 : Int32), qv_it _ n8 (x1, x2) = some y9 → qv_J l g mX8_rings 4 [some (.ref a0), some (.int x1), some (.int x2)] [] h (some (.int r), h) from lj7 (0 : Int32) (0 : Int32)
  induction n8 with
  | zero =>
    intro x1 x2 e2
    cases e2
  | succ n8 ih4 =>
    intro x1 x2 e2
    obtain ⟨_, hs, eb5⟩ := qv_it_s e2
    dsimp only at hs
    refine qv_iload_n dX8_rings_4 (i := 2) rfl rfl ?_
    refine qv_aload_n dX8_rings_5 (i := 0) rfl rfl ?_
    obtain ⟨v3, e9, hs⟩ := qv_bind hs
    refine qv_getR dX8_rings_6 qF_X8_19 e9 ?_
    obtain ⟨v4, e10, hs⟩ := qv_bind hs
    refine qv_getI dX8_rings_9 qF_X8_182 e10 ?_
    by_cases c11 : v4 ≤ x2
    · have hs := qv_pos c11 hs
      refine qv_icmp_ge (tgt := 38) dX8_rings_12 rfl (fun _ => ?_) (fun q => absurd c11 q)
      cases hs
      cases qv_nx_r eb5
      exact qv_dp (qv_le_n (qv_le_s (qv_le_n qv_le_0))) K1
    · have hs := qv_neg c11 hs
      refine qv_icmp_ge (tgt := 38) dX8_rings_12 rfl (fun q => absurd q c11) (fun _ => ?_)
      refine qv_aload_n dX8_rings_15 (i := 0) rfl rfl ?_
      obtain ⟨v5, e12, hs⟩ := qv_bind hs
      refine qv_getR dX8_rings_16 qF_X8_19 e12 ?_
      refine qv_iload_n dX8_rings_19 (i := 2) rfl rfl ?_
      obtain ⟨u6, e13, hs⟩ := qv_bind hs
      obtain ⟨v7, e14, hs⟩ := qv_bind hs
      refine qv_cV (d2 := mX3_comesBack) (o := v5) (ci := 2) (r := some (.int v7)) (h2 := h) (av := [.int x2]) (st := []) dX8_rings_20 qM_X8_185 qD_X3_comesBack e13 rfl rfl ⟨by decide, by decide⟩ rfl (Nat.le_of_ble_eq_true rfl) (Nat.le_of_ble_eq_true rfl) (sX3_comesBack e14) rfl ?_
      obtain ⟨m8, hj16, hs⟩ := qv_bind hs
      have K15 : qv_J l g mX8_rings 32 [some (.ref a0), some (.int m8), some (.int x2)] [] h (some (.int r), h) := by
        refine qv_iinc (v := x2 + (1 : Int32)) (lo2 := [some (.ref a0), some (.int m8), some (.int (x2 + (1 : Int32)))]) dX8_rings_32 rfl rfl (by decide) rfl rfl ?_
        refine qv_goto (tgt := 4) dX8_rings_35 rfl ?_
        cases hs
        exact qv_dp (qv_le_s (qv_le_s (qv_le_s qv_le_0))) (ih4 _ _ (qv_nx_l eb5))
      replace hs := hj16
      by_cases c17 : v7 = 0
      · have hs := qv_pos c17 hs
        refine qv_if_eq (tgt := 32) dX8_rings_23 rfl (fun _ => ?_) (fun q => absurd c17 q)
        cases hs
        exact qv_dp (qv_le_s (qv_le_s (qv_le_s qv_le_0))) K15
      · have hs := qv_neg c17 hs
        refine qv_if_eq (tgt := 32) dX8_rings_23 rfl (fun q => absurd q c17) (fun _ => ?_)
        refine qv_iload_n dX8_rings_26 (i := 1) rfl rfl ?_
        refine qv_iconst (v := (1 : Int32)) dX8_rings_27 rfl ?_
        refine qv_iload_n dX8_rings_28 (i := 2) rfl rfl ?_
        refine qv_ishl dX8_rings_29 ?_
        refine qv_ior dX8_rings_30 ?_
        refine qv_istore_n (lo2 := [some (.ref a0), some (.int (x1 ||| ((1 : Int32) <<< (x2 &&& 31)))), some (.int x2)]) dX8_rings_31 (i := 1) rfl (by decide) rfl (Nat.le_of_ble_eq_true rfl) rfl ?_
        cases hs
        exact qv_dp (qv_le_s (qv_le_s (qv_le_s qv_le_0))) K15
theorem qD_X8_rings : qv_DV mX8_rings 0 := ⟨(qv_i9 (List.mem_of_getElem? (i := 48) (by decide +kernel))), (qv_i9 (List.mem_of_getElem? (i := 49) (by decide +kernel))), (qv_i1 (List.mem_of_getElem? (i := 5) (by decide +kernel))), (qv_i9 (List.mem_of_getElem? (i := 50) (by decide +kernel))), by decide +kernel, by decide +kernel⟩
/-- TrueOneWay.joking(I)I -/
noncomputable def fX8_joking (a0 : Nat) (a1 : Int32) (h : qv_H) : Option (Int32 × qv_H) :=
  if 0 ≤ a1 then
    if a1 ≤ (3 : Int32) then
      (qv_gR h 7 a0 6).bind fun v1 =>
      (qv_ob h 6 v1).bind fun _ =>
      (fX7_sureWithJokers v1 a1 h).bind fun v3 =>
      some (v3, h)
    else
      (qv_ob h 7 a0).bind fun _ =>
      (fX8_refuse a0 (-6 : Int32) h).bind fun (v5, h6) =>
      some (v5, h6)
  else
    (qv_ob h 7 a0).bind fun _ =>
    (fX8_refuse a0 (-4 : Int32) h).bind fun (v8, h9) =>
    some (v8, h9)
abbrev mX8_joking : qv_M := (yX8_joking, cX8_joking, 2, (Option.some Jvm.ClassFile.FieldType.int), 3, 66)
set_option maxRecDepth 100000 in
set_option maxHeartbeats 4000000 in
theorem sX8_joking {l : Launch} {g : qv_G} {a0 : Nat} {a1 : Int32} {h : qv_H} {r : Int32} {hz : qv_H} (hs : fX8_joking a0 a1 h = some (r, hz)) : qv_J l g mX8_joking 0 [some (.ref a0), some (.int a1)] [] h (some (.int r), hz) := by
  unfold fX8_joking at hs
  refine qv_iload_n dX8_joking_0 (i := 1) rfl rfl ?_
  by_cases c1 : 0 ≤ a1
  · have hs := qv_pos c1 hs
    refine qv_if_ge (tgt := 11) dX8_joking_1 rfl (fun _ => ?_) (fun q => absurd c1 q)
    refine qv_iload_n dX8_joking_11 (i := 1) rfl rfl ?_
    refine qv_iconst (v := (3 : Int32)) dX8_joking_12 rfl ?_
    by_cases c2 : a1 ≤ (3 : Int32)
    · have hs := qv_pos c2 hs
      refine qv_icmp_le (tgt := 23) dX8_joking_13 rfl (fun _ => ?_) (fun q => absurd c2 q)
      refine qv_aload_n dX8_joking_23 (i := 0) rfl rfl ?_
      obtain ⟨v1, e3, hs⟩ := qv_bind hs
      refine qv_getR dX8_joking_24 qF_X8_42 e3 ?_
      refine qv_iload_n dX8_joking_27 (i := 1) rfl rfl ?_
      obtain ⟨u2, e4, hs⟩ := qv_bind hs
      obtain ⟨v3, e5, hs⟩ := qv_bind hs
      refine qv_cV (d2 := mX7_sureWithJokers) (o := v1) (ci := 6) (r := some (.int v3)) (h2 := h) (av := [.int a1]) (st := []) dX8_joking_28 qM_X8_188 qD_X7_sureWithJokers e4 rfl rfl ⟨by decide, by decide⟩ rfl (Nat.le_of_ble_eq_true rfl) (Nat.le_of_ble_eq_true rfl) (sX7_sureWithJokers e5) rfl ?_
      obtain ⟨rfl, rfl⟩ := qv_pr hs
      exact qv_iret dX8_joking_31 rfl
    · have hs := qv_neg c2 hs
      refine qv_icmp_le (tgt := 23) dX8_joking_13 rfl (fun q => absurd q c2) (fun _ => ?_)
      refine qv_aload_n dX8_joking_16 (i := 0) rfl rfl ?_
      refine qv_bipush (v := (-6 : Int32)) dX8_joking_17 rfl ?_
      obtain ⟨u4, e6, hs⟩ := qv_bind hs
      obtain ⟨⟨v5, h6⟩, e7, hs⟩ := qv_bind hs
      dsimp only at hs
      refine qv_cV (d2 := mX8_refuse) (o := a0) (ci := 7) (r := some (.int v5)) (h2 := h6) (av := [.int (-6 : Int32)]) (st := []) dX8_joking_19 qM_X8_83 qD_X8_refuse e6 rfl rfl ⟨by decide, by decide⟩ rfl (Nat.le_of_ble_eq_true rfl) (Nat.le_of_ble_eq_true rfl) (sX8_refuse e7) rfl ?_
      obtain ⟨rfl, rfl⟩ := qv_pr hs
      exact qv_iret dX8_joking_22 rfl
  · have hs := qv_neg c1 hs
    refine qv_if_ge (tgt := 11) dX8_joking_1 rfl (fun q => absurd q c1) (fun _ => ?_)
    refine qv_aload_n dX8_joking_4 (i := 0) rfl rfl ?_
    refine qv_bipush (v := (-4 : Int32)) dX8_joking_5 rfl ?_
    obtain ⟨u7, e8, hs⟩ := qv_bind hs
    obtain ⟨⟨v8, h9⟩, e9, hs⟩ := qv_bind hs
    dsimp only at hs
    refine qv_cV (d2 := mX8_refuse) (o := a0) (ci := 7) (r := some (.int v8)) (h2 := h9) (av := [.int (-4 : Int32)]) (st := []) dX8_joking_7 qM_X8_83 qD_X8_refuse e8 rfl rfl ⟨by decide, by decide⟩ rfl (Nat.le_of_ble_eq_true rfl) (Nat.le_of_ble_eq_true rfl) (sX8_refuse e9) rfl ?_
    obtain ⟨rfl, rfl⟩ := qv_pr hs
    exact qv_iret dX8_joking_10 rfl
theorem qD_X8_joking : qv_DV mX8_joking 1 := ⟨(qv_i9 (List.mem_of_getElem? (i := 56) (by decide +kernel))), (qv_i9 (List.mem_of_getElem? (i := 57) (by decide +kernel))), (qv_i1 (List.mem_of_getElem? (i := 5) (by decide +kernel))), (qv_i9 (List.mem_of_getElem? (i := 58) (by decide +kernel))), by decide +kernel, by decide +kernel⟩
/-- TrueOneWay.bears(I)I -/
noncomputable def fX8_bears (a0 : Nat) (a1 : Int32) (h : qv_H) : Option (Int32 × qv_H) :=
  (qv_gR h 7 a0 1).bind fun v1 =>
  (qv_ob h 2 v1).bind fun _ =>
  (fX3_hasFact v1 a1 h).bind fun v3 =>
  if v3 = 0 then
    (qv_ob h 7 a0).bind fun _ =>
    (fX8_refuse a0 (-1 : Int32) h).bind fun (v12, h13) =>
    some (v12, h13)
  else
    (qv_gR h 7 a0 6).bind fun v4 =>
    (qv_ob h 6 v4).bind fun _ =>
    (fX7_leastMisfits v4 a1 (1 : Int32) h).bind fun v6 =>
    (qv_gR h 7 a0 6).bind fun v7 =>
    (qv_ob h 6 v7).bind fun _ =>
    (fX7_leastMisfits v7 a1 (0 : Int32) h).bind fun v9 =>
    Option.bind (α := Int32) (
        if (qv_mx v6 v9) = 0 then
          some (-9 : Int32)
        else
          some (qv_mn ((qv_mx v6 v9) - (1 : Int32)) (6 : Int32))
      ) fun m10 =>
    some (m10, h)
abbrev mX8_bears : qv_M := (yX8_bears, cX8_bears, 5, (Option.some Jvm.ClassFile.FieldType.int), 3, 67)
set_option maxRecDepth 100000 in
set_option maxHeartbeats 4000000 in
theorem sX8_bears {l : Launch} {g : qv_G} {a0 : Nat} {a1 : Int32} {h : qv_H} {r : Int32} {hz : qv_H} (hs : fX8_bears a0 a1 h = some (r, hz)) : qv_J l g mX8_bears 0 [some (.ref a0), some (.int a1), none, none, none] [] h (some (.int r), hz) := by
  unfold fX8_bears at hs
  refine qv_aload_n dX8_bears_0 (i := 0) rfl rfl ?_
  obtain ⟨v1, e1, hs⟩ := qv_bind hs
  refine qv_getR dX8_bears_1 qF_X8_19 e1 ?_
  refine qv_iload_n dX8_bears_4 (i := 1) rfl rfl ?_
  obtain ⟨u2, e2, hs⟩ := qv_bind hs
  obtain ⟨v3, e3, hs⟩ := qv_bind hs
  refine qv_cV (d2 := mX3_hasFact) (o := v1) (ci := 2) (r := some (.int v3)) (h2 := h) (av := [.int a1]) (st := []) dX8_bears_5 qM_X8_155 qD_X3_hasFact e2 rfl rfl ⟨by decide, by decide⟩ rfl (Nat.le_of_ble_eq_true rfl) (Nat.le_of_ble_eq_true rfl) (sX3_hasFact e3) rfl ?_
  by_cases c4 : v3 = 0
  · have hs := qv_pos c4 hs
    refine qv_if_ne (tgt := 17) dX8_bears_8 rfl (fun q => absurd c4 q) (fun _ => ?_)
    refine qv_aload_n dX8_bears_11 (i := 0) rfl rfl ?_
    refine qv_iconst (v := (-1 : Int32)) dX8_bears_12 rfl ?_
    obtain ⟨u11, e5, hs⟩ := qv_bind hs
    obtain ⟨⟨v12, h13⟩, e6, hs⟩ := qv_bind hs
    dsimp only at hs
    refine qv_cV (d2 := mX8_refuse) (o := a0) (ci := 7) (r := some (.int v12)) (h2 := h13) (av := [.int (-1 : Int32)]) (st := []) dX8_bears_13 qM_X8_83 qD_X8_refuse e5 rfl rfl ⟨by decide, by decide⟩ rfl (Nat.le_of_ble_eq_true rfl) (Nat.le_of_ble_eq_true rfl) (sX8_refuse e6) rfl ?_
    obtain ⟨rfl, rfl⟩ := qv_pr hs
    exact qv_iret dX8_bears_16 rfl
  · have hs := qv_neg c4 hs
    refine qv_if_ne (tgt := 17) dX8_bears_8 rfl (fun _ => ?_) (fun q => absurd q c4)
    refine qv_aload_n dX8_bears_17 (i := 0) rfl rfl ?_
    obtain ⟨v4, e7, hs⟩ := qv_bind hs
    refine qv_getR dX8_bears_18 qF_X8_42 e7 ?_
    refine qv_iload_n dX8_bears_21 (i := 1) rfl rfl ?_
    refine qv_iconst (v := (1 : Int32)) dX8_bears_22 rfl ?_
    obtain ⟨u5, e8, hs⟩ := qv_bind hs
    obtain ⟨v6, e9, hs⟩ := qv_bind hs
    refine qv_cV (d2 := mX7_leastMisfits) (o := v4) (ci := 6) (r := some (.int v6)) (h2 := h) (av := [.int a1, .int (1 : Int32)]) (st := []) dX8_bears_23 qM_X8_191 qD_X7_leastMisfits e8 rfl rfl ⟨by decide, by decide⟩ rfl (Nat.le_of_ble_eq_true rfl) (Nat.le_of_ble_eq_true rfl) (sX7_leastMisfits e9) rfl ?_
    refine qv_istore_n (lo2 := [some (.ref a0), some (.int a1), some (.int v6), none, none]) dX8_bears_26 (i := 2) rfl (by decide) rfl (Nat.le_of_ble_eq_true rfl) rfl ?_
    refine qv_aload_n dX8_bears_27 (i := 0) rfl rfl ?_
    obtain ⟨v7, e10, hs⟩ := qv_bind hs
    refine qv_getR dX8_bears_28 qF_X8_42 e10 ?_
    refine qv_iload_n dX8_bears_31 (i := 1) rfl rfl ?_
    refine qv_iconst (v := (0 : Int32)) dX8_bears_32 rfl ?_
    obtain ⟨u8, e11, hs⟩ := qv_bind hs
    obtain ⟨v9, e12, hs⟩ := qv_bind hs
    refine qv_cV (d2 := mX7_leastMisfits) (o := v7) (ci := 6) (r := some (.int v9)) (h2 := h) (av := [.int a1, .int (0 : Int32)]) (st := []) dX8_bears_33 qM_X8_191 qD_X7_leastMisfits e11 rfl rfl ⟨by decide, by decide⟩ rfl (Nat.le_of_ble_eq_true rfl) (Nat.le_of_ble_eq_true rfl) (sX7_leastMisfits e12) rfl ?_
    refine qv_istore_n (lo2 := [some (.ref a0), some (.int a1), some (.int v6), some (.int v9), none]) dX8_bears_36 (i := 3) rfl (by decide) rfl (Nat.le_of_ble_eq_true rfl) rfl ?_
    refine qv_iload_n dX8_bears_37 (i := 2) rfl rfl ?_
    refine qv_iload_n dX8_bears_38 (i := 3) rfl rfl ?_
    refine qv_cmx dX8_bears_39 qB_X8_195 ⟨by decide, by decide⟩ (Nat.le_of_ble_eq_true rfl) ?_
    refine qv_istore (lo2 := [some (.ref a0), some (.int a1), some (.int v6), some (.int v9), some (.int (qv_mx v6 v9))]) dX8_bears_42 (by decide) rfl (Nat.le_of_ble_eq_true rfl) rfl ?_
    refine qv_iload dX8_bears_44 rfl ?_
    obtain ⟨m10, hj14, hs⟩ := qv_bind hs
    have K13 : qv_J l g mX8_bears 63 [none, none, none, none, none] [.int m10] h (some (.int r), hz) := by
      obtain ⟨rfl, rfl⟩ := qv_pr hs
      exact qv_iret dX8_bears_63 rfl
    replace hs := hj14
    by_cases c15 : (qv_mx v6 v9) = 0
    · have hs := qv_pos c15 hs
      refine qv_if_ne (tgt := 54) dX8_bears_46 rfl (fun q => absurd c15 q) (fun _ => ?_)
      refine qv_bipush (v := (-9 : Int32)) dX8_bears_49 rfl ?_
      refine qv_goto (tgt := 63) dX8_bears_51 rfl ?_
      cases hs
      exact qv_dp (qv_le_n (qv_le_n (qv_le_n (qv_le_n (qv_le_n qv_le_0))))) K13
    · have hs := qv_neg c15 hs
      refine qv_if_ne (tgt := 54) dX8_bears_46 rfl (fun _ => ?_) (fun q => absurd q c15)
      refine qv_iload dX8_bears_54 rfl ?_
      refine qv_iconst (v := (1 : Int32)) dX8_bears_56 rfl ?_
      refine qv_isub dX8_bears_57 ?_
      refine qv_bipush (v := (6 : Int32)) dX8_bears_58 rfl ?_
      refine qv_cmn dX8_bears_60 qB_X8_200 ⟨by decide, by decide⟩ (Nat.le_of_ble_eq_true rfl) ?_
      cases hs
      exact qv_dp (qv_le_n (qv_le_n (qv_le_n (qv_le_n (qv_le_n qv_le_0))))) K13
theorem qD_X8_bears : qv_DV mX8_bears 1 := ⟨(qv_i10 (List.mem_of_getElem? (i := 0) (by decide +kernel))), (qv_i10 (List.mem_of_getElem? (i := 1) (by decide +kernel))), (qv_i1 (List.mem_of_getElem? (i := 5) (by decide +kernel))), (qv_i10 (List.mem_of_getElem? (i := 2) (by decide +kernel))), by decide +kernel, by decide +kernel⟩
/-- TrueOneWay.fewest(II)I -/
noncomputable def fX8_fewest (a0 : Nat) (a1 : Int32) (a2 : Int32) (h : qv_H) : Option (Int32 × qv_H) :=
  (qv_gR h 7 a0 1).bind fun v1 =>
  (qv_ob h 2 v1).bind fun _ =>
  (fX3_hasFact v1 a1 h).bind fun v3 =>
  if v3 = 0 then
    (qv_ob h 7 a0).bind fun _ =>
    (fX8_refuse a0 (-1 : Int32) h).bind fun (v24, h25) =>
    some (v24, h25)
  else
    if a2 = 0 then
      (qv_gR h 7 a0 6).bind fun v4 =>
      (qv_gR h 7 a0 1).bind fun v5 =>
      (qv_ob h 2 v5).bind fun _ =>
      (fX3_signMask v5 h).bind fun v7 =>
      (qv_ob h 6 v4).bind fun _ =>
      (fX7_fewestTelling v4 a1 v7 h).bind fun v9 =>
      if v9 = (-9 : Int32) then
        some ((-9 : Int32), h)
      else
        Option.bind (α := Int32) (
            if a2 = 0 then
              (fJ6_bitCount_0f7a4 v9).bind fun v10 =>
              some v10
            else
              some v9
          ) fun m11 =>
        some (m11, h)
    else
      if a2 = (1 : Int32) then
        (qv_gR h 7 a0 6).bind fun v12 =>
        (qv_gR h 7 a0 1).bind fun v13 =>
        (qv_ob h 2 v13).bind fun _ =>
        (fX3_signMask v13 h).bind fun v15 =>
        (qv_ob h 6 v12).bind fun _ =>
        (fX7_fewestTelling v12 a1 v15 h).bind fun v17 =>
        if v17 = (-9 : Int32) then
          some ((-9 : Int32), h)
        else
          Option.bind (α := Int32) (
              if a2 = 0 then
                (fJ6_bitCount_0f7a4 v17).bind fun v18 =>
                some v18
              else
                some v17
            ) fun m19 =>
          some (m19, h)
      else
        (qv_ob h 7 a0).bind fun _ =>
        (fX8_refuse a0 (-2 : Int32) h).bind fun (v21, h22) =>
        some (v21, h22)
abbrev mX8_fewest : qv_M := (yX8_fewest, cX8_fewest, 4, (Option.some Jvm.ClassFile.FieldType.int), 3, 74)
set_option maxRecDepth 100000 in
set_option maxHeartbeats 4000000 in
theorem sX8_fewest {l : Launch} {g : qv_G} {a0 : Nat} {a1 : Int32} {a2 : Int32} {h : qv_H} {r : Int32} {hz : qv_H} (hs : fX8_fewest a0 a1 a2 h = some (r, hz)) : qv_J l g mX8_fewest 0 [some (.ref a0), some (.int a1), some (.int a2), none] [] h (some (.int r), hz) := by
  unfold fX8_fewest at hs
  refine qv_aload_n dX8_fewest_0 (i := 0) rfl rfl ?_
  obtain ⟨v1, e1, hs⟩ := qv_bind hs
  refine qv_getR dX8_fewest_1 qF_X8_19 e1 ?_
  refine qv_iload_n dX8_fewest_4 (i := 1) rfl rfl ?_
  obtain ⟨u2, e2, hs⟩ := qv_bind hs
  obtain ⟨v3, e3, hs⟩ := qv_bind hs
  refine qv_cV (d2 := mX3_hasFact) (o := v1) (ci := 2) (r := some (.int v3)) (h2 := h) (av := [.int a1]) (st := []) dX8_fewest_5 qM_X8_155 qD_X3_hasFact e2 rfl rfl ⟨by decide, by decide⟩ rfl (Nat.le_of_ble_eq_true rfl) (Nat.le_of_ble_eq_true rfl) (sX3_hasFact e3) rfl ?_
  by_cases c4 : v3 = 0
  · have hs := qv_pos c4 hs
    refine qv_if_ne (tgt := 17) dX8_fewest_8 rfl (fun q => absurd c4 q) (fun _ => ?_)
    refine qv_aload_n dX8_fewest_11 (i := 0) rfl rfl ?_
    refine qv_iconst (v := (-1 : Int32)) dX8_fewest_12 rfl ?_
    obtain ⟨u23, e5, hs⟩ := qv_bind hs
    obtain ⟨⟨v24, h25⟩, e6, hs⟩ := qv_bind hs
    dsimp only at hs
    refine qv_cV (d2 := mX8_refuse) (o := a0) (ci := 7) (r := some (.int v24)) (h2 := h25) (av := [.int (-1 : Int32)]) (st := []) dX8_fewest_13 qM_X8_83 qD_X8_refuse e5 rfl rfl ⟨by decide, by decide⟩ rfl (Nat.le_of_ble_eq_true rfl) (Nat.le_of_ble_eq_true rfl) (sX8_refuse e6) rfl ?_
    obtain ⟨rfl, rfl⟩ := qv_pr hs
    exact qv_iret dX8_fewest_16 rfl
  · have hs := qv_neg c4 hs
    refine qv_if_ne (tgt := 17) dX8_fewest_8 rfl (fun _ => ?_) (fun q => absurd q c4)
    refine qv_iload_n dX8_fewest_17 (i := 2) rfl rfl ?_
    by_cases c7 : a2 = 0
    · have hs := qv_pos c7 hs
      refine qv_if_eq (tgt := 33) dX8_fewest_18 rfl (fun _ => ?_) (fun q => absurd c7 q)
      refine qv_aload_n dX8_fewest_33 (i := 0) rfl rfl ?_
      obtain ⟨v4, e8, hs⟩ := qv_bind hs
      refine qv_getR dX8_fewest_34 qF_X8_42 e8 ?_
      refine qv_iload_n dX8_fewest_37 (i := 1) rfl rfl ?_
      refine qv_aload_n dX8_fewest_38 (i := 0) rfl rfl ?_
      obtain ⟨v5, e9, hs⟩ := qv_bind hs
      refine qv_getR dX8_fewest_39 qF_X8_19 e9 ?_
      obtain ⟨u6, e10, hs⟩ := qv_bind hs
      obtain ⟨v7, e11, hs⟩ := qv_bind hs
      refine qv_cV (d2 := mX3_signMask) (o := v5) (ci := 2) (r := some (.int v7)) (h2 := h) (av := []) (st := [.int a1, .ref v4]) dX8_fewest_42 qM_X8_203 qD_X3_signMask e10 rfl rfl ⟨by decide, by decide⟩ rfl (Nat.le_of_ble_eq_true rfl) (Nat.le_of_ble_eq_true rfl) (sX3_signMask e11) rfl ?_
      obtain ⟨u8, e12, hs⟩ := qv_bind hs
      obtain ⟨v9, e13, hs⟩ := qv_bind hs
      refine qv_cV (d2 := mX7_fewestTelling) (o := v4) (ci := 6) (r := some (.int v9)) (h2 := h) (av := [.int a1, .int v7]) (st := []) dX8_fewest_45 qM_X8_206 qD_X7_fewestTelling e12 rfl rfl ⟨by decide, by decide⟩ rfl (Nat.le_of_ble_eq_true rfl) (Nat.le_of_ble_eq_true rfl) (sX7_fewestTelling e13) rfl ?_
      refine qv_istore_n (lo2 := [some (.ref a0), some (.int a1), some (.int a2), some (.int v9)]) dX8_fewest_48 (i := 3) rfl (by decide) rfl (Nat.le_of_ble_eq_true rfl) rfl ?_
      refine qv_iload_n dX8_fewest_49 (i := 3) rfl rfl ?_
      refine qv_bipush (v := (-9 : Int32)) dX8_fewest_50 rfl ?_
      by_cases c14 : v9 = (-9 : Int32)
      · have hs := qv_pos c14 hs
        refine qv_icmp_ne (tgt := 58) dX8_fewest_52 rfl (fun q => absurd c14 q) (fun _ => ?_)
        refine qv_bipush (v := (-9 : Int32)) dX8_fewest_55 rfl ?_
        obtain ⟨rfl, rfl⟩ := qv_pr hs
        exact qv_iret dX8_fewest_57 rfl
      · have hs := qv_neg c14 hs
        refine qv_icmp_ne (tgt := 58) dX8_fewest_52 rfl (fun _ => ?_) (fun q => absurd q c14)
        refine qv_iload_n dX8_fewest_58 (i := 2) rfl rfl ?_
        obtain ⟨m11, hj16, hs⟩ := qv_bind hs
        have K15 : qv_J l g mX8_fewest 70 [none, none, none, none] [.int m11] h (some (.int r), hz) := by
          obtain ⟨rfl, rfl⟩ := qv_pr hs
          exact qv_iret dX8_fewest_70 rfl
        replace hs := hj16
        by_cases c17 : a2 = 0
        · have hs := qv_pos c17 hs
          refine qv_if_ne (tgt := 69) dX8_fewest_59 rfl (fun q => absurd c17 q) (fun _ => ?_)
          refine qv_iload_n dX8_fewest_62 (i := 3) rfl rfl ?_
          obtain ⟨v10, e18, hs⟩ := qv_bind hs
          refine qv_cS (d2 := mJ6_bitCount_0f7a4) (r := some (.int v10)) (h2 := h) (av := [.int v9]) (st := []) dX8_fewest_63 qM_X8_209 qD_J6_bitCount_0f7a4 rfl ⟨by decide, by decide⟩ rfl (Nat.le_of_ble_eq_true rfl) (Nat.le_of_ble_eq_true rfl) (sJ6_bitCount_0f7a4 e18) rfl ?_
          refine qv_goto (tgt := 70) dX8_fewest_66 rfl ?_
          cases hs
          exact qv_dp (qv_le_n (qv_le_n (qv_le_n (qv_le_n qv_le_0)))) K15
        · have hs := qv_neg c17 hs
          refine qv_if_ne (tgt := 69) dX8_fewest_59 rfl (fun _ => ?_) (fun q => absurd q c17)
          refine qv_iload_n dX8_fewest_69 (i := 3) rfl rfl ?_
          cases hs
          exact qv_dp (qv_le_n (qv_le_n (qv_le_n (qv_le_n qv_le_0)))) K15
    · have hs := qv_neg c7 hs
      refine qv_if_eq (tgt := 33) dX8_fewest_18 rfl (fun q => absurd q c7) (fun _ => ?_)
      refine qv_iload_n dX8_fewest_21 (i := 2) rfl rfl ?_
      refine qv_iconst (v := (1 : Int32)) dX8_fewest_22 rfl ?_
      by_cases c19 : a2 = (1 : Int32)
      · have hs := qv_pos c19 hs
        refine qv_icmp_eq (tgt := 33) dX8_fewest_23 rfl (fun _ => ?_) (fun q => absurd c19 q)
        refine qv_aload_n dX8_fewest_33 (i := 0) rfl rfl ?_
        obtain ⟨v12, e20, hs⟩ := qv_bind hs
        refine qv_getR dX8_fewest_34 qF_X8_42 e20 ?_
        refine qv_iload_n dX8_fewest_37 (i := 1) rfl rfl ?_
        refine qv_aload_n dX8_fewest_38 (i := 0) rfl rfl ?_
        obtain ⟨v13, e21, hs⟩ := qv_bind hs
        refine qv_getR dX8_fewest_39 qF_X8_19 e21 ?_
        obtain ⟨u14, e22, hs⟩ := qv_bind hs
        obtain ⟨v15, e23, hs⟩ := qv_bind hs
        refine qv_cV (d2 := mX3_signMask) (o := v13) (ci := 2) (r := some (.int v15)) (h2 := h) (av := []) (st := [.int a1, .ref v12]) dX8_fewest_42 qM_X8_203 qD_X3_signMask e22 rfl rfl ⟨by decide, by decide⟩ rfl (Nat.le_of_ble_eq_true rfl) (Nat.le_of_ble_eq_true rfl) (sX3_signMask e23) rfl ?_
        obtain ⟨u16, e24, hs⟩ := qv_bind hs
        obtain ⟨v17, e25, hs⟩ := qv_bind hs
        refine qv_cV (d2 := mX7_fewestTelling) (o := v12) (ci := 6) (r := some (.int v17)) (h2 := h) (av := [.int a1, .int v15]) (st := []) dX8_fewest_45 qM_X8_206 qD_X7_fewestTelling e24 rfl rfl ⟨by decide, by decide⟩ rfl (Nat.le_of_ble_eq_true rfl) (Nat.le_of_ble_eq_true rfl) (sX7_fewestTelling e25) rfl ?_
        refine qv_istore_n (lo2 := [some (.ref a0), some (.int a1), some (.int a2), some (.int v17)]) dX8_fewest_48 (i := 3) rfl (by decide) rfl (Nat.le_of_ble_eq_true rfl) rfl ?_
        refine qv_iload_n dX8_fewest_49 (i := 3) rfl rfl ?_
        refine qv_bipush (v := (-9 : Int32)) dX8_fewest_50 rfl ?_
        by_cases c26 : v17 = (-9 : Int32)
        · have hs := qv_pos c26 hs
          refine qv_icmp_ne (tgt := 58) dX8_fewest_52 rfl (fun q => absurd c26 q) (fun _ => ?_)
          refine qv_bipush (v := (-9 : Int32)) dX8_fewest_55 rfl ?_
          obtain ⟨rfl, rfl⟩ := qv_pr hs
          exact qv_iret dX8_fewest_57 rfl
        · have hs := qv_neg c26 hs
          refine qv_icmp_ne (tgt := 58) dX8_fewest_52 rfl (fun _ => ?_) (fun q => absurd q c26)
          refine qv_iload_n dX8_fewest_58 (i := 2) rfl rfl ?_
          obtain ⟨m19, hj28, hs⟩ := qv_bind hs
          have K27 : qv_J l g mX8_fewest 70 [none, none, none, none] [.int m19] h (some (.int r), hz) := by
            obtain ⟨rfl, rfl⟩ := qv_pr hs
            exact qv_iret dX8_fewest_70 rfl
          replace hs := hj28
          by_cases c29 : a2 = 0
          · have hs := qv_pos c29 hs
            refine qv_if_ne (tgt := 69) dX8_fewest_59 rfl (fun q => absurd c29 q) (fun _ => ?_)
            refine qv_iload_n dX8_fewest_62 (i := 3) rfl rfl ?_
            obtain ⟨v18, e30, hs⟩ := qv_bind hs
            refine qv_cS (d2 := mJ6_bitCount_0f7a4) (r := some (.int v18)) (h2 := h) (av := [.int v17]) (st := []) dX8_fewest_63 qM_X8_209 qD_J6_bitCount_0f7a4 rfl ⟨by decide, by decide⟩ rfl (Nat.le_of_ble_eq_true rfl) (Nat.le_of_ble_eq_true rfl) (sJ6_bitCount_0f7a4 e30) rfl ?_
            refine qv_goto (tgt := 70) dX8_fewest_66 rfl ?_
            cases hs
            exact qv_dp (qv_le_n (qv_le_n (qv_le_n (qv_le_n qv_le_0)))) K27
          · have hs := qv_neg c29 hs
            refine qv_if_ne (tgt := 69) dX8_fewest_59 rfl (fun _ => ?_) (fun q => absurd q c29)
            refine qv_iload_n dX8_fewest_69 (i := 3) rfl rfl ?_
            cases hs
            exact qv_dp (qv_le_n (qv_le_n (qv_le_n (qv_le_n qv_le_0)))) K27
      · have hs := qv_neg c19 hs
        refine qv_icmp_eq (tgt := 33) dX8_fewest_23 rfl (fun q => absurd q c19) (fun _ => ?_)
        refine qv_aload_n dX8_fewest_26 (i := 0) rfl rfl ?_
        refine qv_bipush (v := (-2 : Int32)) dX8_fewest_27 rfl ?_
        obtain ⟨u20, e31, hs⟩ := qv_bind hs
        obtain ⟨⟨v21, h22⟩, e32, hs⟩ := qv_bind hs
        dsimp only at hs
        refine qv_cV (d2 := mX8_refuse) (o := a0) (ci := 7) (r := some (.int v21)) (h2 := h22) (av := [.int (-2 : Int32)]) (st := []) dX8_fewest_29 qM_X8_83 qD_X8_refuse e31 rfl rfl ⟨by decide, by decide⟩ rfl (Nat.le_of_ble_eq_true rfl) (Nat.le_of_ble_eq_true rfl) (sX8_refuse e32) rfl ?_
        obtain ⟨rfl, rfl⟩ := qv_pr hs
        exact qv_iret dX8_fewest_32 rfl
theorem qD_X8_fewest : qv_DV mX8_fewest 2 := ⟨(qv_i10 (List.mem_of_getElem? (i := 11) (by decide +kernel))), (qv_i10 (List.mem_of_getElem? (i := 12) (by decide +kernel))), (qv_i1 (List.mem_of_getElem? (i := 5) (by decide +kernel))), (qv_i10 (List.mem_of_getElem? (i := 13) (by decide +kernel))), by decide +kernel, by decide +kernel⟩
/-- TrueOneWay.together(I)I -/
noncomputable def fX8_together (a0 : Nat) (a1 : Int32) (h : qv_H) : Option (Int32 × qv_H) :=
  if a1 < 0 then
    (qv_ob h 7 a0).bind fun _ =>
    (fX8_refuse a0 (-1 : Int32) h).bind fun (v2, h3) =>
    some (v2, h3)
  else
    (qv_gR h 7 a0 1).bind fun v4 =>
    (qv_ob h 2 v4).bind fun _ =>
    (fX3_signMask v4 h).bind fun v6 =>
    if (a1 &&& (v6 ^^^ (-1 : Int32))) = 0 then
      Option.bind (qv_loop (σ := Int32 × Int32) (ρ := Int32) (fun (x7, x8) =>
          (qv_gR h 7 a0 1).bind fun v9 =>
          (qv_gI h 2 v9 2).bind fun v10 =>
          if v10 ≤ x8 then
            some (.inr x7)
          else
            (qv_gR h 7 a0 6).bind fun v11 =>
            (qv_ob h 6 v11).bind fun _ =>
            (fX7_isAlikeBy v11 x8 a1 h).bind fun v13 =>
            Option.bind (α := Int32) (
                if v13 = 0 then
                  some x7
                else
                  some (x7 ||| ((1 : Int32) <<< (x8 &&& 31)))
              ) fun m14 =>
            some (.inl (m14, x8 + (1 : Int32)))
        ) ((0 : Int32), (0 : Int32))) fun y15 =>
      some (y15, h)
    else
      (qv_ob h 7 a0).bind fun _ =>
      (fX8_refuse a0 (-1 : Int32) h).bind fun (v17, h18) =>
      some (v17, h18)
abbrev mX8_together : qv_M := (yX8_together, cX8_together, 4, (Option.some Jvm.ClassFile.FieldType.int), 2, 50)
set_option maxRecDepth 100000 in
set_option maxHeartbeats 4000000 in
theorem sX8_together {l : Launch} {g : qv_G} {a0 : Nat} {a1 : Int32} {h : qv_H} {r : Int32} {hz : qv_H} (hs : fX8_together a0 a1 h = some (r, hz)) : qv_J l g mX8_together 0 [some (.ref a0), some (.int a1), none, none] [] h (some (.int r), hz) := by
  unfold fX8_together at hs
  refine qv_iload_n dX8_together_0 (i := 1) rfl rfl ?_
  by_cases c1 : a1 < 0
  · have hs := qv_pos c1 hs
    refine qv_if_lt (tgt := 18) dX8_together_1 rfl (fun _ => ?_) (fun q => absurd c1 q)
    refine qv_aload_n dX8_together_18 (i := 0) rfl rfl ?_
    refine qv_iconst (v := (-1 : Int32)) dX8_together_19 rfl ?_
    obtain ⟨u1, e2, hs⟩ := qv_bind hs
    obtain ⟨⟨v2, h3⟩, e3, hs⟩ := qv_bind hs
    dsimp only at hs
    refine qv_cV (d2 := mX8_refuse) (o := a0) (ci := 7) (r := some (.int v2)) (h2 := h3) (av := [.int (-1 : Int32)]) (st := []) dX8_together_20 qM_X8_83 qD_X8_refuse e2 rfl rfl ⟨by decide, by decide⟩ rfl (Nat.le_of_ble_eq_true rfl) (Nat.le_of_ble_eq_true rfl) (sX8_refuse e3) rfl ?_
    obtain ⟨rfl, rfl⟩ := qv_pr hs
    exact qv_iret dX8_together_23 rfl
  · have hs := qv_neg c1 hs
    refine qv_if_lt (tgt := 18) dX8_together_1 rfl (fun q => absurd q c1) (fun _ => ?_)
    refine qv_iload_n dX8_together_4 (i := 1) rfl rfl ?_
    refine qv_aload_n dX8_together_5 (i := 0) rfl rfl ?_
    obtain ⟨v4, e4, hs⟩ := qv_bind hs
    refine qv_getR dX8_together_6 qF_X8_19 e4 ?_
    obtain ⟨u5, e5, hs⟩ := qv_bind hs
    obtain ⟨v6, e6, hs⟩ := qv_bind hs
    refine qv_cV (d2 := mX3_signMask) (o := v4) (ci := 2) (r := some (.int v6)) (h2 := h) (av := []) (st := [.int a1]) dX8_together_9 qM_X8_203 qD_X3_signMask e5 rfl rfl ⟨by decide, by decide⟩ rfl (Nat.le_of_ble_eq_true rfl) (Nat.le_of_ble_eq_true rfl) (sX3_signMask e6) rfl ?_
    refine qv_iconst (v := (-1 : Int32)) dX8_together_12 rfl ?_
    refine qv_ixor dX8_together_13 ?_
    refine qv_iand dX8_together_14 ?_
    by_cases c7 : (a1 &&& (v6 ^^^ (-1 : Int32))) = 0
    · have hs := qv_pos c7 hs
      refine qv_if_eq (tgt := 24) dX8_together_15 rfl (fun _ => ?_) (fun q => absurd c7 q)
      refine qv_iconst (v := (0 : Int32)) dX8_together_24 rfl ?_
      refine qv_istore_n (lo2 := [some (.ref a0), some (.int a1), some (.int (0 : Int32)), none]) dX8_together_25 (i := 2) rfl (by decide) rfl (Nat.le_of_ble_eq_true rfl) rfl ?_
      refine qv_iconst (v := (0 : Int32)) dX8_together_26 rfl ?_
      refine qv_istore_n (lo2 := [some (.ref a0), some (.int a1), some (.int (0 : Int32)), some (.int (0 : Int32))]) dX8_together_27 (i := 3) rfl (by decide) rfl (Nat.le_of_ble_eq_true rfl) rfl ?_
      obtain ⟨y15, e9, hs⟩ := qv_bind hs
      have K8 : qv_J l g mX8_together 63 [none, none, some (.int y15), none] [] h (some (.int r), hz) := by
        refine qv_iload_n dX8_together_63 (i := 2) rfl rfl ?_
        obtain ⟨rfl, rfl⟩ := qv_pr hs
        exact qv_iret dX8_together_64 rfl
      obtain ⟨n15, e9⟩ := qv_loop_of e9
      refine qv_dp (qv_le_s (qv_le_s (qv_le_s (qv_le_s qv_le_0)))) (?_ : qv_J l g mX8_together 28 [some (.ref a0), some (.int a1), some (.int (0 : Int32)), some (.int (0 : Int32))] [] h (some (.int r), hz))
      revert e9
      suffices lj14 : ∀ (x7 : Int32) (x8 : Int32), qv_it _ n15 (x7, x8) = some y15 → qv_J l g mX8_together 28 [some (.ref a0), some (.int a1), some (.int x7), some (.int x8)] [] h (some (.int r), hz) from lj14 (0 : Int32) (0 : Int32)
      induction n15 with
      | zero =>
        intro x7 x8 e9
        cases e9
      | succ n15 ih11 =>
        intro x7 x8 e9
        obtain ⟨_, hs, eb12⟩ := qv_it_s e9
        dsimp only at hs
        refine qv_iload_n dX8_together_28 (i := 3) rfl rfl ?_
        refine qv_aload_n dX8_together_29 (i := 0) rfl rfl ?_
        obtain ⟨v9, e16, hs⟩ := qv_bind hs
        refine qv_getR dX8_together_30 qF_X8_19 e16 ?_
        obtain ⟨v10, e17, hs⟩ := qv_bind hs
        refine qv_getI dX8_together_33 qF_X8_214 e17 ?_
        by_cases c18 : v10 ≤ x8
        · have hs := qv_pos c18 hs
          refine qv_icmp_ge (tgt := 63) dX8_together_36 rfl (fun _ => ?_) (fun q => absurd c18 q)
          cases hs
          cases qv_nx_r eb12
          exact qv_dp (qv_le_n (qv_le_n (qv_le_s (qv_le_n qv_le_0)))) K8
        · have hs := qv_neg c18 hs
          refine qv_icmp_ge (tgt := 63) dX8_together_36 rfl (fun q => absurd q c18) (fun _ => ?_)
          refine qv_aload_n dX8_together_39 (i := 0) rfl rfl ?_
          obtain ⟨v11, e19, hs⟩ := qv_bind hs
          refine qv_getR dX8_together_40 qF_X8_42 e19 ?_
          refine qv_iload_n dX8_together_43 (i := 3) rfl rfl ?_
          refine qv_iload_n dX8_together_44 (i := 1) rfl rfl ?_
          obtain ⟨u12, e20, hs⟩ := qv_bind hs
          obtain ⟨v13, e21, hs⟩ := qv_bind hs
          refine qv_cV (d2 := mX7_isAlikeBy) (o := v11) (ci := 6) (r := some (.int v13)) (h2 := h) (av := [.int x8, .int a1]) (st := []) dX8_together_45 qM_X8_217 qD_X7_isAlikeBy e20 rfl rfl ⟨by decide, by decide⟩ rfl (Nat.le_of_ble_eq_true rfl) (Nat.le_of_ble_eq_true rfl) (sX7_isAlikeBy e21) rfl ?_
          obtain ⟨m14, hj23, hs⟩ := qv_bind hs
          have K22 : qv_J l g mX8_together 57 [some (.ref a0), some (.int a1), some (.int m14), some (.int x8)] [] h (some (.int r), hz) := by
            refine qv_iinc (v := x8 + (1 : Int32)) (lo2 := [some (.ref a0), some (.int a1), some (.int m14), some (.int (x8 + (1 : Int32)))]) dX8_together_57 rfl rfl (by decide) rfl rfl ?_
            refine qv_goto (tgt := 28) dX8_together_60 rfl ?_
            cases hs
            exact qv_dp (qv_le_s (qv_le_s (qv_le_s (qv_le_s qv_le_0)))) (ih11 _ _ (qv_nx_l eb12))
          replace hs := hj23
          by_cases c24 : v13 = 0
          · have hs := qv_pos c24 hs
            refine qv_if_eq (tgt := 57) dX8_together_48 rfl (fun _ => ?_) (fun q => absurd c24 q)
            cases hs
            exact qv_dp (qv_le_s (qv_le_s (qv_le_s (qv_le_s qv_le_0)))) K22
          · have hs := qv_neg c24 hs
            refine qv_if_eq (tgt := 57) dX8_together_48 rfl (fun q => absurd q c24) (fun _ => ?_)
            refine qv_iload_n dX8_together_51 (i := 2) rfl rfl ?_
            refine qv_iconst (v := (1 : Int32)) dX8_together_52 rfl ?_
            refine qv_iload_n dX8_together_53 (i := 3) rfl rfl ?_
            refine qv_ishl dX8_together_54 ?_
            refine qv_ior dX8_together_55 ?_
            refine qv_istore_n (lo2 := [some (.ref a0), some (.int a1), some (.int (x7 ||| ((1 : Int32) <<< (x8 &&& 31)))), some (.int x8)]) dX8_together_56 (i := 2) rfl (by decide) rfl (Nat.le_of_ble_eq_true rfl) rfl ?_
            cases hs
            exact qv_dp (qv_le_s (qv_le_s (qv_le_s (qv_le_s qv_le_0)))) K22
    · have hs := qv_neg c7 hs
      refine qv_if_eq (tgt := 24) dX8_together_15 rfl (fun q => absurd q c7) (fun _ => ?_)
      refine qv_aload_n dX8_together_18 (i := 0) rfl rfl ?_
      refine qv_iconst (v := (-1 : Int32)) dX8_together_19 rfl ?_
      obtain ⟨u16, e25, hs⟩ := qv_bind hs
      obtain ⟨⟨v17, h18⟩, e26, hs⟩ := qv_bind hs
      dsimp only at hs
      refine qv_cV (d2 := mX8_refuse) (o := a0) (ci := 7) (r := some (.int v17)) (h2 := h18) (av := [.int (-1 : Int32)]) (st := []) dX8_together_20 qM_X8_83 qD_X8_refuse e25 rfl rfl ⟨by decide, by decide⟩ rfl (Nat.le_of_ble_eq_true rfl) (Nat.le_of_ble_eq_true rfl) (sX8_refuse e26) rfl ?_
      obtain ⟨rfl, rfl⟩ := qv_pr hs
      exact qv_iret dX8_together_23 rfl
theorem qD_X8_together : qv_DV mX8_together 1 := ⟨(qv_i10 (List.mem_of_getElem? (i := 26) (by decide +kernel))), (qv_i10 (List.mem_of_getElem? (i := 27) (by decide +kernel))), (qv_i1 (List.mem_of_getElem? (i := 5) (by decide +kernel))), (qv_i10 (List.mem_of_getElem? (i := 28) (by decide +kernel))), by decide +kernel, by decide +kernel⟩
/-- TrueOneWay.go(II)I -/
noncomputable def fX8_go (a0 : Nat) (a1 : Int32) (a2 : Int32) (h : qv_H) : Option (Int32 × qv_H) :=
  (qv_gR h 7 a0 1).bind fun v1 =>
  (qv_ob h 2 v1).bind fun _ =>
  (fX3_hasPlace v1 a1 h).bind fun v3 =>
  if v3 = 0 then
    (qv_ob h 7 a0).bind fun _ =>
    (fX8_refuse a0 (-1 : Int32) h).bind fun (v58, h59) =>
    some (v58, h59)
  else
    if a2 = 0 then
      (qv_gR h 7 a0 1).bind fun v4 =>
      (qv_ob h 2 v4).bind fun _ =>
      (fX3_hasInn v4 h).bind fun v6 =>
      if v6 = 0 then
        (qv_ob h 7 a0).bind fun _ =>
        (fX8_refuse a0 (-3 : Int32) h).bind fun (v27, h28) =>
        some (v27, h28)
      else
        (qv_gR h 7 a0 6).bind fun v7 =>
        (qv_gI h 6 v7 2).bind fun v8 =>
        if v8 = 0 then
          Option.bind (α := Int32) (
              if a2 = 0 then
                some (0 : Int32)
              else
                some (-9 : Int32)
            ) fun m25 =>
          some (m25, h)
        else
          (qv_gR h 7 a0 8).bind fun v9 =>
          (qv_gR h 7 a0 1).bind fun v10 =>
          (qv_gR h 7 a0 6).bind fun v11 =>
          (qv_ob h 5 v9).bind fun _ =>
          (fX6_reckon v9 v10 v11 h).bind fun h13 =>
          Option.bind (α := Int32) (
              if a2 = 0 then
                (qv_gR h13 7 a0 8).bind fun v21 =>
                (qv_ob h13 5 v21).bind fun _ =>
                (fX6_leastRoads v21 a1 h13).bind fun v23 =>
                some v23
              else
                (qv_gR h13 7 a0 8).bind fun v14 =>
                (qv_gR h13 7 a0 1).bind fun v15 =>
                (qv_gR h13 7 a0 6).bind fun v16 =>
                (qv_gR h13 6 v16 3).bind fun v17 =>
                (qv_aI h13 false v17 (0 : Int32)).bind fun v18 =>
                (qv_ob h13 5 v14).bind fun _ =>
                (fX6_firstGoal v14 v15 a1 v18 h13).bind fun v20 =>
                some v20
            ) fun m24 =>
          some (m24, h13)
    else
      if a2 = (1 : Int32) then
        (qv_gR h 7 a0 1).bind fun v29 =>
        (qv_ob h 2 v29).bind fun _ =>
        (fX3_hasInn v29 h).bind fun v31 =>
        if v31 = 0 then
          (qv_ob h 7 a0).bind fun _ =>
          (fX8_refuse a0 (-3 : Int32) h).bind fun (v52, h53) =>
          some (v52, h53)
        else
          (qv_gR h 7 a0 6).bind fun v32 =>
          (qv_gI h 6 v32 2).bind fun v33 =>
          if v33 = 0 then
            Option.bind (α := Int32) (
                if a2 = 0 then
                  some (0 : Int32)
                else
                  some (-9 : Int32)
              ) fun m50 =>
            some (m50, h)
          else
            (qv_gR h 7 a0 8).bind fun v34 =>
            (qv_gR h 7 a0 1).bind fun v35 =>
            (qv_gR h 7 a0 6).bind fun v36 =>
            (qv_ob h 5 v34).bind fun _ =>
            (fX6_reckon v34 v35 v36 h).bind fun h38 =>
            Option.bind (α := Int32) (
                if a2 = 0 then
                  (qv_gR h38 7 a0 8).bind fun v46 =>
                  (qv_ob h38 5 v46).bind fun _ =>
                  (fX6_leastRoads v46 a1 h38).bind fun v48 =>
                  some v48
                else
                  (qv_gR h38 7 a0 8).bind fun v39 =>
                  (qv_gR h38 7 a0 1).bind fun v40 =>
                  (qv_gR h38 7 a0 6).bind fun v41 =>
                  (qv_gR h38 6 v41 3).bind fun v42 =>
                  (qv_aI h38 false v42 (0 : Int32)).bind fun v43 =>
                  (qv_ob h38 5 v39).bind fun _ =>
                  (fX6_firstGoal v39 v40 a1 v43 h38).bind fun v45 =>
                  some v45
              ) fun m49 =>
            some (m49, h38)
      else
        (qv_ob h 7 a0).bind fun _ =>
        (fX8_refuse a0 (-2 : Int32) h).bind fun (v55, h56) =>
        some (v55, h56)
abbrev mX8_go : qv_M := (yX8_go, cX8_go, 3, (Option.some Jvm.ClassFile.FieldType.int), 5, 116)
set_option maxRecDepth 100000 in
set_option maxHeartbeats 4000000 in
theorem sX8_go {l : Launch} {g : qv_G} {a0 : Nat} {a1 : Int32} {a2 : Int32} {h : qv_H} {r : Int32} {hz : qv_H} (hs : fX8_go a0 a1 a2 h = some (r, hz)) : qv_J l g mX8_go 0 [some (.ref a0), some (.int a1), some (.int a2)] [] h (some (.int r), hz) := by
  unfold fX8_go at hs
  refine qv_aload_n dX8_go_0 (i := 0) rfl rfl ?_
  obtain ⟨v1, e1, hs⟩ := qv_bind hs
  refine qv_getR dX8_go_1 qF_X8_19 e1 ?_
  refine qv_iload_n dX8_go_4 (i := 1) rfl rfl ?_
  obtain ⟨u2, e2, hs⟩ := qv_bind hs
  obtain ⟨v3, e3, hs⟩ := qv_bind hs
  refine qv_cV (d2 := mX3_hasPlace) (o := v1) (ci := 2) (r := some (.int v3)) (h2 := h) (av := [.int a1]) (st := []) dX8_go_5 qM_X8_130 qD_X3_hasPlace e2 rfl rfl ⟨by decide, by decide⟩ rfl (Nat.le_of_ble_eq_true rfl) (Nat.le_of_ble_eq_true rfl) (sX3_hasPlace e3) rfl ?_
  by_cases c4 : v3 = 0
  · have hs := qv_pos c4 hs
    refine qv_if_ne (tgt := 17) dX8_go_8 rfl (fun q => absurd c4 q) (fun _ => ?_)
    refine qv_aload_n dX8_go_11 (i := 0) rfl rfl ?_
    refine qv_iconst (v := (-1 : Int32)) dX8_go_12 rfl ?_
    obtain ⟨u57, e5, hs⟩ := qv_bind hs
    obtain ⟨⟨v58, h59⟩, e6, hs⟩ := qv_bind hs
    dsimp only at hs
    refine qv_cV (d2 := mX8_refuse) (o := a0) (ci := 7) (r := some (.int v58)) (h2 := h59) (av := [.int (-1 : Int32)]) (st := []) dX8_go_13 qM_X8_83 qD_X8_refuse e5 rfl rfl ⟨by decide, by decide⟩ rfl (Nat.le_of_ble_eq_true rfl) (Nat.le_of_ble_eq_true rfl) (sX8_refuse e6) rfl ?_
    obtain ⟨rfl, rfl⟩ := qv_pr hs
    exact qv_iret dX8_go_16 rfl
  · have hs := qv_neg c4 hs
    refine qv_if_ne (tgt := 17) dX8_go_8 rfl (fun _ => ?_) (fun q => absurd q c4)
    refine qv_iload_n dX8_go_17 (i := 2) rfl rfl ?_
    by_cases c7 : a2 = 0
    · have hs := qv_pos c7 hs
      refine qv_if_eq (tgt := 33) dX8_go_18 rfl (fun _ => ?_) (fun q => absurd c7 q)
      refine qv_aload_n dX8_go_33 (i := 0) rfl rfl ?_
      obtain ⟨v4, e8, hs⟩ := qv_bind hs
      refine qv_getR dX8_go_34 qF_X8_19 e8 ?_
      obtain ⟨u5, e9, hs⟩ := qv_bind hs
      obtain ⟨v6, e10, hs⟩ := qv_bind hs
      refine qv_cV (d2 := mX3_hasInn) (o := v4) (ci := 2) (r := some (.int v6)) (h2 := h) (av := []) (st := []) dX8_go_37 qM_X8_220 qD_X3_hasInn e9 rfl rfl ⟨by decide, by decide⟩ rfl (Nat.le_of_ble_eq_true rfl) (Nat.le_of_ble_eq_true rfl) (sX3_hasInn e10) rfl ?_
      by_cases c11 : v6 = 0
      · have hs := qv_pos c11 hs
        refine qv_if_ne (tgt := 50) dX8_go_40 rfl (fun q => absurd c11 q) (fun _ => ?_)
        refine qv_aload_n dX8_go_43 (i := 0) rfl rfl ?_
        refine qv_bipush (v := (-3 : Int32)) dX8_go_44 rfl ?_
        obtain ⟨u26, e12, hs⟩ := qv_bind hs
        obtain ⟨⟨v27, h28⟩, e13, hs⟩ := qv_bind hs
        dsimp only at hs
        refine qv_cV (d2 := mX8_refuse) (o := a0) (ci := 7) (r := some (.int v27)) (h2 := h28) (av := [.int (-3 : Int32)]) (st := []) dX8_go_46 qM_X8_83 qD_X8_refuse e12 rfl rfl ⟨by decide, by decide⟩ rfl (Nat.le_of_ble_eq_true rfl) (Nat.le_of_ble_eq_true rfl) (sX8_refuse e13) rfl ?_
        obtain ⟨rfl, rfl⟩ := qv_pr hs
        exact qv_iret dX8_go_49 rfl
      · have hs := qv_neg c11 hs
        refine qv_if_ne (tgt := 50) dX8_go_40 rfl (fun _ => ?_) (fun q => absurd q c11)
        refine qv_aload_n dX8_go_50 (i := 0) rfl rfl ?_
        obtain ⟨v7, e14, hs⟩ := qv_bind hs
        refine qv_getR dX8_go_51 qF_X8_42 e14 ?_
        obtain ⟨v8, e15, hs⟩ := qv_bind hs
        refine qv_getI dX8_go_54 qF_X8_149 e15 ?_
        by_cases c16 : v8 = 0
        · have hs := qv_pos c16 hs
          refine qv_if_ne (tgt := 71) dX8_go_57 rfl (fun q => absurd c16 q) (fun _ => ?_)
          refine qv_iload_n dX8_go_60 (i := 2) rfl rfl ?_
          obtain ⟨m25, hj18, hs⟩ := qv_bind hs
          have K17 : qv_J l g mX8_go 70 [none, none, none] [.int m25] h (some (.int r), hz) := by
            obtain ⟨rfl, rfl⟩ := qv_pr hs
            exact qv_iret dX8_go_70 rfl
          replace hs := hj18
          by_cases c19 : a2 = 0
          · have hs := qv_pos c19 hs
            refine qv_if_ne (tgt := 68) dX8_go_61 rfl (fun q => absurd c19 q) (fun _ => ?_)
            refine qv_iconst (v := (0 : Int32)) dX8_go_64 rfl ?_
            refine qv_goto (tgt := 70) dX8_go_65 rfl ?_
            cases hs
            exact qv_dp (qv_le_n (qv_le_n (qv_le_n qv_le_0))) K17
          · have hs := qv_neg c19 hs
            refine qv_if_ne (tgt := 68) dX8_go_61 rfl (fun _ => ?_) (fun q => absurd q c19)
            refine qv_bipush (v := (-9 : Int32)) dX8_go_68 rfl ?_
            cases hs
            exact qv_dp (qv_le_n (qv_le_n (qv_le_n qv_le_0))) K17
        · have hs := qv_neg c16 hs
          refine qv_if_ne (tgt := 71) dX8_go_57 rfl (fun _ => ?_) (fun q => absurd q c16)
          refine qv_aload_n dX8_go_71 (i := 0) rfl rfl ?_
          obtain ⟨v9, e20, hs⟩ := qv_bind hs
          refine qv_getR dX8_go_72 qF_X8_56 e20 ?_
          refine qv_aload_n dX8_go_75 (i := 0) rfl rfl ?_
          obtain ⟨v10, e21, hs⟩ := qv_bind hs
          refine qv_getR dX8_go_76 qF_X8_19 e21 ?_
          refine qv_aload_n dX8_go_79 (i := 0) rfl rfl ?_
          obtain ⟨v11, e22, hs⟩ := qv_bind hs
          refine qv_getR dX8_go_80 qF_X8_42 e22 ?_
          obtain ⟨u12, e23, hs⟩ := qv_bind hs
          obtain ⟨h13, e24, hs⟩ := qv_bind hs
          refine qv_cV (d2 := mX6_reckon) (o := v9) (ci := 5) (r := none) (h2 := h13) (av := [.ref v10, .ref v11]) (st := []) dX8_go_83 qM_X8_224 qD_X6_reckon e23 rfl rfl ⟨by decide, by decide⟩ rfl (Nat.le_of_ble_eq_true rfl) (Nat.le_of_ble_eq_true rfl) (sX6_reckon e24) rfl ?_
          refine qv_iload_n dX8_go_86 (i := 2) rfl rfl ?_
          obtain ⟨m24, hj26, hs⟩ := qv_bind hs
          have K25 : qv_J l g mX8_go 122 [none, none, none] [.int m24] h13 (some (.int r), hz) := by
            obtain ⟨rfl, rfl⟩ := qv_pr hs
            exact qv_iret dX8_go_122 rfl
          replace hs := hj26
          by_cases c27 : a2 = 0
          · have hs := qv_pos c27 hs
            refine qv_if_ne (tgt := 101) dX8_go_87 rfl (fun q => absurd c27 q) (fun _ => ?_)
            refine qv_aload_n dX8_go_90 (i := 0) rfl rfl ?_
            obtain ⟨v21, e28, hs⟩ := qv_bind hs
            refine qv_getR dX8_go_91 qF_X8_56 e28 ?_
            refine qv_iload_n dX8_go_94 (i := 1) rfl rfl ?_
            obtain ⟨u22, e29, hs⟩ := qv_bind hs
            obtain ⟨v23, e30, hs⟩ := qv_bind hs
            refine qv_cV (d2 := mX6_leastRoads) (o := v21) (ci := 5) (r := some (.int v23)) (h2 := h13) (av := [.int a1]) (st := []) dX8_go_95 qM_X8_227 qD_X6_leastRoads e29 rfl rfl ⟨by decide, by decide⟩ rfl (Nat.le_of_ble_eq_true rfl) (Nat.le_of_ble_eq_true rfl) (sX6_leastRoads e30) rfl ?_
            refine qv_goto (tgt := 122) dX8_go_98 rfl ?_
            cases hs
            exact qv_dp (qv_le_n (qv_le_n (qv_le_n qv_le_0))) K25
          · have hs := qv_neg c27 hs
            refine qv_if_ne (tgt := 101) dX8_go_87 rfl (fun _ => ?_) (fun q => absurd q c27)
            refine qv_aload_n dX8_go_101 (i := 0) rfl rfl ?_
            obtain ⟨v14, e31, hs⟩ := qv_bind hs
            refine qv_getR dX8_go_102 qF_X8_56 e31 ?_
            refine qv_aload_n dX8_go_105 (i := 0) rfl rfl ?_
            obtain ⟨v15, e32, hs⟩ := qv_bind hs
            refine qv_getR dX8_go_106 qF_X8_19 e32 ?_
            refine qv_iload_n dX8_go_109 (i := 1) rfl rfl ?_
            refine qv_aload_n dX8_go_110 (i := 0) rfl rfl ?_
            obtain ⟨v16, e33, hs⟩ := qv_bind hs
            refine qv_getR dX8_go_111 qF_X8_42 e33 ?_
            obtain ⟨v17, e34, hs⟩ := qv_bind hs
            refine qv_getR dX8_go_114 qF_X8_152 e34 ?_
            refine qv_iconst (v := (0 : Int32)) dX8_go_117 rfl ?_
            obtain ⟨v18, e35, hs⟩ := qv_bind hs
            refine qv_iald dX8_go_118 e35 ?_
            obtain ⟨u19, e36, hs⟩ := qv_bind hs
            obtain ⟨v20, e37, hs⟩ := qv_bind hs
            refine qv_cV (d2 := mX6_firstGoal) (o := v14) (ci := 5) (r := some (.int v20)) (h2 := h13) (av := [.ref v15, .int a1, .int v18]) (st := []) dX8_go_119 qM_X8_230 qD_X6_firstGoal e36 rfl rfl ⟨by decide, by decide⟩ rfl (Nat.le_of_ble_eq_true rfl) (Nat.le_of_ble_eq_true rfl) (sX6_firstGoal e37) rfl ?_
            cases hs
            exact qv_dp (qv_le_n (qv_le_n (qv_le_n qv_le_0))) K25
    · have hs := qv_neg c7 hs
      refine qv_if_eq (tgt := 33) dX8_go_18 rfl (fun q => absurd q c7) (fun _ => ?_)
      refine qv_iload_n dX8_go_21 (i := 2) rfl rfl ?_
      refine qv_iconst (v := (1 : Int32)) dX8_go_22 rfl ?_
      by_cases c38 : a2 = (1 : Int32)
      · have hs := qv_pos c38 hs
        refine qv_icmp_eq (tgt := 33) dX8_go_23 rfl (fun _ => ?_) (fun q => absurd c38 q)
        refine qv_aload_n dX8_go_33 (i := 0) rfl rfl ?_
        obtain ⟨v29, e39, hs⟩ := qv_bind hs
        refine qv_getR dX8_go_34 qF_X8_19 e39 ?_
        obtain ⟨u30, e40, hs⟩ := qv_bind hs
        obtain ⟨v31, e41, hs⟩ := qv_bind hs
        refine qv_cV (d2 := mX3_hasInn) (o := v29) (ci := 2) (r := some (.int v31)) (h2 := h) (av := []) (st := []) dX8_go_37 qM_X8_220 qD_X3_hasInn e40 rfl rfl ⟨by decide, by decide⟩ rfl (Nat.le_of_ble_eq_true rfl) (Nat.le_of_ble_eq_true rfl) (sX3_hasInn e41) rfl ?_
        by_cases c42 : v31 = 0
        · have hs := qv_pos c42 hs
          refine qv_if_ne (tgt := 50) dX8_go_40 rfl (fun q => absurd c42 q) (fun _ => ?_)
          refine qv_aload_n dX8_go_43 (i := 0) rfl rfl ?_
          refine qv_bipush (v := (-3 : Int32)) dX8_go_44 rfl ?_
          obtain ⟨u51, e43, hs⟩ := qv_bind hs
          obtain ⟨⟨v52, h53⟩, e44, hs⟩ := qv_bind hs
          dsimp only at hs
          refine qv_cV (d2 := mX8_refuse) (o := a0) (ci := 7) (r := some (.int v52)) (h2 := h53) (av := [.int (-3 : Int32)]) (st := []) dX8_go_46 qM_X8_83 qD_X8_refuse e43 rfl rfl ⟨by decide, by decide⟩ rfl (Nat.le_of_ble_eq_true rfl) (Nat.le_of_ble_eq_true rfl) (sX8_refuse e44) rfl ?_
          obtain ⟨rfl, rfl⟩ := qv_pr hs
          exact qv_iret dX8_go_49 rfl
        · have hs := qv_neg c42 hs
          refine qv_if_ne (tgt := 50) dX8_go_40 rfl (fun _ => ?_) (fun q => absurd q c42)
          refine qv_aload_n dX8_go_50 (i := 0) rfl rfl ?_
          obtain ⟨v32, e45, hs⟩ := qv_bind hs
          refine qv_getR dX8_go_51 qF_X8_42 e45 ?_
          obtain ⟨v33, e46, hs⟩ := qv_bind hs
          refine qv_getI dX8_go_54 qF_X8_149 e46 ?_
          by_cases c47 : v33 = 0
          · have hs := qv_pos c47 hs
            refine qv_if_ne (tgt := 71) dX8_go_57 rfl (fun q => absurd c47 q) (fun _ => ?_)
            refine qv_iload_n dX8_go_60 (i := 2) rfl rfl ?_
            obtain ⟨m50, hj49, hs⟩ := qv_bind hs
            have K48 : qv_J l g mX8_go 70 [none, none, none] [.int m50] h (some (.int r), hz) := by
              obtain ⟨rfl, rfl⟩ := qv_pr hs
              exact qv_iret dX8_go_70 rfl
            replace hs := hj49
            by_cases c50 : a2 = 0
            · have hs := qv_pos c50 hs
              refine qv_if_ne (tgt := 68) dX8_go_61 rfl (fun q => absurd c50 q) (fun _ => ?_)
              refine qv_iconst (v := (0 : Int32)) dX8_go_64 rfl ?_
              refine qv_goto (tgt := 70) dX8_go_65 rfl ?_
              cases hs
              exact qv_dp (qv_le_n (qv_le_n (qv_le_n qv_le_0))) K48
            · have hs := qv_neg c50 hs
              refine qv_if_ne (tgt := 68) dX8_go_61 rfl (fun _ => ?_) (fun q => absurd q c50)
              refine qv_bipush (v := (-9 : Int32)) dX8_go_68 rfl ?_
              cases hs
              exact qv_dp (qv_le_n (qv_le_n (qv_le_n qv_le_0))) K48
          · have hs := qv_neg c47 hs
            refine qv_if_ne (tgt := 71) dX8_go_57 rfl (fun _ => ?_) (fun q => absurd q c47)
            refine qv_aload_n dX8_go_71 (i := 0) rfl rfl ?_
            obtain ⟨v34, e51, hs⟩ := qv_bind hs
            refine qv_getR dX8_go_72 qF_X8_56 e51 ?_
            refine qv_aload_n dX8_go_75 (i := 0) rfl rfl ?_
            obtain ⟨v35, e52, hs⟩ := qv_bind hs
            refine qv_getR dX8_go_76 qF_X8_19 e52 ?_
            refine qv_aload_n dX8_go_79 (i := 0) rfl rfl ?_
            obtain ⟨v36, e53, hs⟩ := qv_bind hs
            refine qv_getR dX8_go_80 qF_X8_42 e53 ?_
            obtain ⟨u37, e54, hs⟩ := qv_bind hs
            obtain ⟨h38, e55, hs⟩ := qv_bind hs
            refine qv_cV (d2 := mX6_reckon) (o := v34) (ci := 5) (r := none) (h2 := h38) (av := [.ref v35, .ref v36]) (st := []) dX8_go_83 qM_X8_224 qD_X6_reckon e54 rfl rfl ⟨by decide, by decide⟩ rfl (Nat.le_of_ble_eq_true rfl) (Nat.le_of_ble_eq_true rfl) (sX6_reckon e55) rfl ?_
            refine qv_iload_n dX8_go_86 (i := 2) rfl rfl ?_
            obtain ⟨m49, hj57, hs⟩ := qv_bind hs
            have K56 : qv_J l g mX8_go 122 [none, none, none] [.int m49] h38 (some (.int r), hz) := by
              obtain ⟨rfl, rfl⟩ := qv_pr hs
              exact qv_iret dX8_go_122 rfl
            replace hs := hj57
            by_cases c58 : a2 = 0
            · have hs := qv_pos c58 hs
              refine qv_if_ne (tgt := 101) dX8_go_87 rfl (fun q => absurd c58 q) (fun _ => ?_)
              refine qv_aload_n dX8_go_90 (i := 0) rfl rfl ?_
              obtain ⟨v46, e59, hs⟩ := qv_bind hs
              refine qv_getR dX8_go_91 qF_X8_56 e59 ?_
              refine qv_iload_n dX8_go_94 (i := 1) rfl rfl ?_
              obtain ⟨u47, e60, hs⟩ := qv_bind hs
              obtain ⟨v48, e61, hs⟩ := qv_bind hs
              refine qv_cV (d2 := mX6_leastRoads) (o := v46) (ci := 5) (r := some (.int v48)) (h2 := h38) (av := [.int a1]) (st := []) dX8_go_95 qM_X8_227 qD_X6_leastRoads e60 rfl rfl ⟨by decide, by decide⟩ rfl (Nat.le_of_ble_eq_true rfl) (Nat.le_of_ble_eq_true rfl) (sX6_leastRoads e61) rfl ?_
              refine qv_goto (tgt := 122) dX8_go_98 rfl ?_
              cases hs
              exact qv_dp (qv_le_n (qv_le_n (qv_le_n qv_le_0))) K56
            · have hs := qv_neg c58 hs
              refine qv_if_ne (tgt := 101) dX8_go_87 rfl (fun _ => ?_) (fun q => absurd q c58)
              refine qv_aload_n dX8_go_101 (i := 0) rfl rfl ?_
              obtain ⟨v39, e62, hs⟩ := qv_bind hs
              refine qv_getR dX8_go_102 qF_X8_56 e62 ?_
              refine qv_aload_n dX8_go_105 (i := 0) rfl rfl ?_
              obtain ⟨v40, e63, hs⟩ := qv_bind hs
              refine qv_getR dX8_go_106 qF_X8_19 e63 ?_
              refine qv_iload_n dX8_go_109 (i := 1) rfl rfl ?_
              refine qv_aload_n dX8_go_110 (i := 0) rfl rfl ?_
              obtain ⟨v41, e64, hs⟩ := qv_bind hs
              refine qv_getR dX8_go_111 qF_X8_42 e64 ?_
              obtain ⟨v42, e65, hs⟩ := qv_bind hs
              refine qv_getR dX8_go_114 qF_X8_152 e65 ?_
              refine qv_iconst (v := (0 : Int32)) dX8_go_117 rfl ?_
              obtain ⟨v43, e66, hs⟩ := qv_bind hs
              refine qv_iald dX8_go_118 e66 ?_
              obtain ⟨u44, e67, hs⟩ := qv_bind hs
              obtain ⟨v45, e68, hs⟩ := qv_bind hs
              refine qv_cV (d2 := mX6_firstGoal) (o := v39) (ci := 5) (r := some (.int v45)) (h2 := h38) (av := [.ref v40, .int a1, .int v43]) (st := []) dX8_go_119 qM_X8_230 qD_X6_firstGoal e67 rfl rfl ⟨by decide, by decide⟩ rfl (Nat.le_of_ble_eq_true rfl) (Nat.le_of_ble_eq_true rfl) (sX6_firstGoal e68) rfl ?_
              cases hs
              exact qv_dp (qv_le_n (qv_le_n (qv_le_n qv_le_0))) K56
      · have hs := qv_neg c38 hs
        refine qv_icmp_eq (tgt := 33) dX8_go_23 rfl (fun q => absurd q c38) (fun _ => ?_)
        refine qv_aload_n dX8_go_26 (i := 0) rfl rfl ?_
        refine qv_bipush (v := (-2 : Int32)) dX8_go_27 rfl ?_
        obtain ⟨u54, e69, hs⟩ := qv_bind hs
        obtain ⟨⟨v55, h56⟩, e70, hs⟩ := qv_bind hs
        dsimp only at hs
        refine qv_cV (d2 := mX8_refuse) (o := a0) (ci := 7) (r := some (.int v55)) (h2 := h56) (av := [.int (-2 : Int32)]) (st := []) dX8_go_29 qM_X8_83 qD_X8_refuse e69 rfl rfl ⟨by decide, by decide⟩ rfl (Nat.le_of_ble_eq_true rfl) (Nat.le_of_ble_eq_true rfl) (sX8_refuse e70) rfl ?_
        obtain ⟨rfl, rfl⟩ := qv_pr hs
        exact qv_iret dX8_go_32 rfl
theorem qD_X8_go : qv_DV mX8_go 2 := ⟨(qv_i10 (List.mem_of_getElem? (i := 31) (by decide +kernel))), (qv_i10 (List.mem_of_getElem? (i := 32) (by decide +kernel))), (qv_i1 (List.mem_of_getElem? (i := 5) (by decide +kernel))), (qv_i10 (List.mem_of_getElem? (i := 33) (by decide +kernel))), by decide +kernel, by decide +kernel⟩
/-- TrueOneWay.row(I)I -/
noncomputable def fX8_row (a0 : Nat) (a1 : Int32) (h : qv_H) : Option (Int32 × qv_H) :=
  (qv_gR h 7 a0 1).bind fun v1 =>
  (qv_ob h 2 v1).bind fun _ =>
  (fX3_hasSign v1 a1 h).bind fun v3 =>
  if v3 = 0 then
    (qv_ob h 7 a0).bind fun _ =>
    (fX8_refuse a0 (-1 : Int32) h).bind fun (v15, h16) =>
    some (v15, h16)
  else
    (qv_gR h 7 a0 9).bind fun v4 =>
    (qv_gI h 3 v4 0).bind fun v5 =>
    if v5 < (10 : Int32) then
      (qv_gR h 7 a0 9).bind fun v6 =>
      (qv_ob h 3 v6).bind fun _ =>
      (fX4_add v6 a1 h).bind fun h8 =>
      (qv_gR h8 7 a0 9).bind fun v9 =>
      (qv_gI h8 3 v9 0).bind fun v10 =>
      some (v10, h8)
    else
      (qv_ob h 7 a0).bind fun _ =>
      (fX8_refuse a0 (-6 : Int32) h).bind fun (v12, h13) =>
      some (v12, h13)
abbrev mX8_row : qv_M := (yX8_row, cX8_row, 2, (Option.some Jvm.ClassFile.FieldType.int), 1, 22)
set_option maxRecDepth 100000 in
set_option maxHeartbeats 4000000 in
theorem sX8_row {l : Launch} {g : qv_G} {a0 : Nat} {a1 : Int32} {h : qv_H} {r : Int32} {hz : qv_H} (hs : fX8_row a0 a1 h = some (r, hz)) : qv_J l g mX8_row 0 [some (.ref a0), some (.int a1)] [] h (some (.int r), hz) := by
  unfold fX8_row at hs
  refine qv_aload_n dX8_row_0 (i := 0) rfl rfl ?_
  obtain ⟨v1, e1, hs⟩ := qv_bind hs
  refine qv_getR dX8_row_1 qF_X8_19 e1 ?_
  refine qv_iload_n dX8_row_4 (i := 1) rfl rfl ?_
  obtain ⟨u2, e2, hs⟩ := qv_bind hs
  obtain ⟨v3, e3, hs⟩ := qv_bind hs
  refine qv_cV (d2 := mX3_hasSign) (o := v1) (ci := 2) (r := some (.int v3)) (h2 := h) (av := [.int a1]) (st := []) dX8_row_5 qM_X8_115 qD_X3_hasSign e2 rfl rfl ⟨by decide, by decide⟩ rfl (Nat.le_of_ble_eq_true rfl) (Nat.le_of_ble_eq_true rfl) (sX3_hasSign e3) rfl ?_
  by_cases c4 : v3 = 0
  · have hs := qv_pos c4 hs
    refine qv_if_ne (tgt := 17) dX8_row_8 rfl (fun q => absurd c4 q) (fun _ => ?_)
    refine qv_aload_n dX8_row_11 (i := 0) rfl rfl ?_
    refine qv_iconst (v := (-1 : Int32)) dX8_row_12 rfl ?_
    obtain ⟨u14, e5, hs⟩ := qv_bind hs
    obtain ⟨⟨v15, h16⟩, e6, hs⟩ := qv_bind hs
    dsimp only at hs
    refine qv_cV (d2 := mX8_refuse) (o := a0) (ci := 7) (r := some (.int v15)) (h2 := h16) (av := [.int (-1 : Int32)]) (st := []) dX8_row_13 qM_X8_83 qD_X8_refuse e5 rfl rfl ⟨by decide, by decide⟩ rfl (Nat.le_of_ble_eq_true rfl) (Nat.le_of_ble_eq_true rfl) (sX8_refuse e6) rfl ?_
    obtain ⟨rfl, rfl⟩ := qv_pr hs
    exact qv_iret dX8_row_16 rfl
  · have hs := qv_neg c4 hs
    refine qv_if_ne (tgt := 17) dX8_row_8 rfl (fun _ => ?_) (fun q => absurd q c4)
    refine qv_aload_n dX8_row_17 (i := 0) rfl rfl ?_
    obtain ⟨v4, e7, hs⟩ := qv_bind hs
    refine qv_getR dX8_row_18 qF_X8_63 e7 ?_
    obtain ⟨v5, e8, hs⟩ := qv_bind hs
    refine qv_getI dX8_row_21 qF_X8_234 e8 ?_
    refine qv_bipush (v := (10 : Int32)) dX8_row_24 rfl ?_
    by_cases c9 : v5 < (10 : Int32)
    · have hs := qv_pos c9 hs
      refine qv_icmp_lt (tgt := 36) dX8_row_26 rfl (fun _ => ?_) (fun q => absurd c9 q)
      refine qv_aload_n dX8_row_36 (i := 0) rfl rfl ?_
      obtain ⟨v6, e10, hs⟩ := qv_bind hs
      refine qv_getR dX8_row_37 qF_X8_63 e10 ?_
      refine qv_iload_n dX8_row_40 (i := 1) rfl rfl ?_
      obtain ⟨u7, e11, hs⟩ := qv_bind hs
      obtain ⟨h8, e12, hs⟩ := qv_bind hs
      refine qv_cV (d2 := mX4_add) (o := v6) (ci := 3) (r := none) (h2 := h8) (av := [.int a1]) (st := []) dX8_row_41 qM_X8_235 qD_X4_add e11 rfl rfl ⟨by decide, by decide⟩ rfl (Nat.le_of_ble_eq_true rfl) (Nat.le_of_ble_eq_true rfl) (sX4_add e12) rfl ?_
      refine qv_aload_n dX8_row_44 (i := 0) rfl rfl ?_
      obtain ⟨v9, e13, hs⟩ := qv_bind hs
      refine qv_getR dX8_row_45 qF_X8_63 e13 ?_
      obtain ⟨v10, e14, hs⟩ := qv_bind hs
      refine qv_getI dX8_row_48 qF_X8_234 e14 ?_
      obtain ⟨rfl, rfl⟩ := qv_pr hs
      exact qv_iret dX8_row_51 rfl
    · have hs := qv_neg c9 hs
      refine qv_icmp_lt (tgt := 36) dX8_row_26 rfl (fun q => absurd q c9) (fun _ => ?_)
      refine qv_aload_n dX8_row_29 (i := 0) rfl rfl ?_
      refine qv_bipush (v := (-6 : Int32)) dX8_row_30 rfl ?_
      obtain ⟨u11, e15, hs⟩ := qv_bind hs
      obtain ⟨⟨v12, h13⟩, e16, hs⟩ := qv_bind hs
      dsimp only at hs
      refine qv_cV (d2 := mX8_refuse) (o := a0) (ci := 7) (r := some (.int v12)) (h2 := h13) (av := [.int (-6 : Int32)]) (st := []) dX8_row_32 qM_X8_83 qD_X8_refuse e15 rfl rfl ⟨by decide, by decide⟩ rfl (Nat.le_of_ble_eq_true rfl) (Nat.le_of_ble_eq_true rfl) (sX8_refuse e16) rfl ?_
      obtain ⟨rfl, rfl⟩ := qv_pr hs
      exact qv_iret dX8_row_35 rfl
theorem qD_X8_row : qv_DV mX8_row 1 := ⟨(qv_i11 (List.mem_of_getElem? (i := 16) (by decide +kernel))), (qv_i11 (List.mem_of_getElem? (i := 17) (by decide +kernel))), (qv_i1 (List.mem_of_getElem? (i := 5) (by decide +kernel))), (qv_i11 (List.mem_of_getElem? (i := 18) (by decide +kernel))), by decide +kernel, by decide +kernel⟩
/-- TrueOneWay.book(I)I -/
noncomputable def fX8_book (a0 : Nat) (a1 : Int32) (h : qv_H) : Option (Int32 × qv_H) :=
  if a1 = 0 then
    (qv_gR h 7 a0 9).bind fun v1 =>
    (qv_gI h 3 v1 0).bind fun v2 =>
    if v2 = 0 then
      (qv_ob h 7 a0).bind fun _ =>
      (fX8_refuse a0 (-3 : Int32) h).bind fun (v18, h19) =>
      some (v18, h19)
    else
      (qv_gR h 7 a0 9).bind fun v3 =>
      (qv_gR h 7 a0 1).bind fun v4 =>
      (qv_ob h 3 v3).bind fun _ =>
      (fX4_trace v3 v4 h).bind fun h6 =>
      Option.bind (α := Int32) (
          if a1 = 0 then
            (qv_gR h6 7 a0 9).bind fun v10 =>
            (qv_ob h6 3 v10).bind fun _ =>
            (fX4_walkCount v10 h6).bind fun v12 =>
            some v12
          else
            (qv_gR h6 7 a0 9).bind fun v7 =>
            (qv_ob h6 3 v7).bind fun _ =>
            (fX4_endPlaces v7 h6).bind fun v9 =>
            some v9
        ) fun m13 =>
      (qv_gR h6 7 a0 9).bind fun v14 =>
      (qv_ob h6 3 v14).bind fun _ =>
      (fX4_clear v14 h6).bind fun h16 =>
      some (m13, h16)
  else
    if a1 = (1 : Int32) then
      (qv_gR h 7 a0 9).bind fun v20 =>
      (qv_gI h 3 v20 0).bind fun v21 =>
      if v21 = 0 then
        (qv_ob h 7 a0).bind fun _ =>
        (fX8_refuse a0 (-3 : Int32) h).bind fun (v37, h38) =>
        some (v37, h38)
      else
        (qv_gR h 7 a0 9).bind fun v22 =>
        (qv_gR h 7 a0 1).bind fun v23 =>
        (qv_ob h 3 v22).bind fun _ =>
        (fX4_trace v22 v23 h).bind fun h25 =>
        Option.bind (α := Int32) (
            if a1 = 0 then
              (qv_gR h25 7 a0 9).bind fun v29 =>
              (qv_ob h25 3 v29).bind fun _ =>
              (fX4_walkCount v29 h25).bind fun v31 =>
              some v31
            else
              (qv_gR h25 7 a0 9).bind fun v26 =>
              (qv_ob h25 3 v26).bind fun _ =>
              (fX4_endPlaces v26 h25).bind fun v28 =>
              some v28
          ) fun m32 =>
        (qv_gR h25 7 a0 9).bind fun v33 =>
        (qv_ob h25 3 v33).bind fun _ =>
        (fX4_clear v33 h25).bind fun h35 =>
        some (m32, h35)
    else
      (qv_ob h 7 a0).bind fun _ =>
      (fX8_refuse a0 (-2 : Int32) h).bind fun (v40, h41) =>
      some (v40, h41)
abbrev mX8_book : qv_M := (yX8_book, cX8_book, 3, (Option.some Jvm.ClassFile.FieldType.int), 3, 77)
set_option maxRecDepth 100000 in
set_option maxHeartbeats 4000000 in
theorem sX8_book {l : Launch} {g : qv_G} {a0 : Nat} {a1 : Int32} {h : qv_H} {r : Int32} {hz : qv_H} (hs : fX8_book a0 a1 h = some (r, hz)) : qv_J l g mX8_book 0 [some (.ref a0), some (.int a1), none] [] h (some (.int r), hz) := by
  unfold fX8_book at hs
  refine qv_iload_n dX8_book_0 (i := 1) rfl rfl ?_
  by_cases c1 : a1 = 0
  · have hs := qv_pos c1 hs
    refine qv_if_eq (tgt := 16) dX8_book_1 rfl (fun _ => ?_) (fun q => absurd c1 q)
    refine qv_aload_n dX8_book_16 (i := 0) rfl rfl ?_
    obtain ⟨v1, e2, hs⟩ := qv_bind hs
    refine qv_getR dX8_book_17 qF_X8_63 e2 ?_
    obtain ⟨v2, e3, hs⟩ := qv_bind hs
    refine qv_getI dX8_book_20 qF_X8_234 e3 ?_
    by_cases c4 : v2 = 0
    · have hs := qv_pos c4 hs
      refine qv_if_ne (tgt := 33) dX8_book_23 rfl (fun q => absurd c4 q) (fun _ => ?_)
      refine qv_aload_n dX8_book_26 (i := 0) rfl rfl ?_
      refine qv_bipush (v := (-3 : Int32)) dX8_book_27 rfl ?_
      obtain ⟨u17, e5, hs⟩ := qv_bind hs
      obtain ⟨⟨v18, h19⟩, e6, hs⟩ := qv_bind hs
      dsimp only at hs
      refine qv_cV (d2 := mX8_refuse) (o := a0) (ci := 7) (r := some (.int v18)) (h2 := h19) (av := [.int (-3 : Int32)]) (st := []) dX8_book_29 qM_X8_83 qD_X8_refuse e5 rfl rfl ⟨by decide, by decide⟩ rfl (Nat.le_of_ble_eq_true rfl) (Nat.le_of_ble_eq_true rfl) (sX8_refuse e6) rfl ?_
      obtain ⟨rfl, rfl⟩ := qv_pr hs
      exact qv_iret dX8_book_32 rfl
    · have hs := qv_neg c4 hs
      refine qv_if_ne (tgt := 33) dX8_book_23 rfl (fun _ => ?_) (fun q => absurd q c4)
      refine qv_aload_n dX8_book_33 (i := 0) rfl rfl ?_
      obtain ⟨v3, e7, hs⟩ := qv_bind hs
      refine qv_getR dX8_book_34 qF_X8_63 e7 ?_
      refine qv_aload_n dX8_book_37 (i := 0) rfl rfl ?_
      obtain ⟨v4, e8, hs⟩ := qv_bind hs
      refine qv_getR dX8_book_38 qF_X8_19 e8 ?_
      obtain ⟨u5, e9, hs⟩ := qv_bind hs
      obtain ⟨h6, e10, hs⟩ := qv_bind hs
      refine qv_cV (d2 := mX4_trace) (o := v3) (ci := 3) (r := none) (h2 := h6) (av := [.ref v4]) (st := []) dX8_book_41 qM_X8_236 qD_X4_trace e9 rfl rfl ⟨by decide, by decide⟩ rfl (Nat.le_of_ble_eq_true rfl) (Nat.le_of_ble_eq_true rfl) (sX4_trace e10) rfl ?_
      refine qv_iload_n dX8_book_44 (i := 1) rfl rfl ?_
      obtain ⟨m13, hj12, hs⟩ := qv_bind hs
      have K11 : qv_J l g mX8_book 65 [some (.ref a0), none, none] [.int m13] h6 (some (.int r), hz) := by
        refine qv_istore_n (lo2 := [some (.ref a0), none, some (.int m13)]) dX8_book_65 (i := 2) rfl (by decide) rfl (Nat.le_of_ble_eq_true rfl) rfl ?_
        refine qv_aload_n dX8_book_66 (i := 0) rfl rfl ?_
        obtain ⟨v14, e13, hs⟩ := qv_bind hs
        refine qv_getR dX8_book_67 qF_X8_63 e13 ?_
        obtain ⟨u15, e14, hs⟩ := qv_bind hs
        obtain ⟨h16, e15, hs⟩ := qv_bind hs
        refine qv_cV (d2 := mX4_clear) (o := v14) (ci := 3) (r := none) (h2 := h16) (av := []) (st := []) dX8_book_70 qM_X8_245 qD_X4_clear e14 rfl rfl ⟨by decide, by decide⟩ rfl (Nat.le_of_ble_eq_true rfl) (Nat.le_of_ble_eq_true rfl) (sX4_clear e15) rfl ?_
        refine qv_iload_n dX8_book_73 (i := 2) rfl rfl ?_
        obtain ⟨rfl, rfl⟩ := qv_pr hs
        exact qv_iret dX8_book_74 rfl
      replace hs := hj12
      by_cases c16 : a1 = 0
      · have hs := qv_pos c16 hs
        refine qv_if_ne (tgt := 58) dX8_book_45 rfl (fun q => absurd c16 q) (fun _ => ?_)
        refine qv_aload_n dX8_book_48 (i := 0) rfl rfl ?_
        obtain ⟨v10, e17, hs⟩ := qv_bind hs
        refine qv_getR dX8_book_49 qF_X8_63 e17 ?_
        obtain ⟨u11, e18, hs⟩ := qv_bind hs
        obtain ⟨v12, e19, hs⟩ := qv_bind hs
        refine qv_cV (d2 := mX4_walkCount) (o := v10) (ci := 3) (r := some (.int v12)) (h2 := h6) (av := []) (st := []) dX8_book_52 qM_X8_239 qD_X4_walkCount e18 rfl rfl ⟨by decide, by decide⟩ rfl (Nat.le_of_ble_eq_true rfl) (Nat.le_of_ble_eq_true rfl) (sX4_walkCount e19) rfl ?_
        refine qv_goto (tgt := 65) dX8_book_55 rfl ?_
        cases hs
        exact qv_dp (qv_le_s (qv_le_n (qv_le_n qv_le_0))) K11
      · have hs := qv_neg c16 hs
        refine qv_if_ne (tgt := 58) dX8_book_45 rfl (fun _ => ?_) (fun q => absurd q c16)
        refine qv_aload_n dX8_book_58 (i := 0) rfl rfl ?_
        obtain ⟨v7, e20, hs⟩ := qv_bind hs
        refine qv_getR dX8_book_59 qF_X8_63 e20 ?_
        obtain ⟨u8, e21, hs⟩ := qv_bind hs
        obtain ⟨v9, e22, hs⟩ := qv_bind hs
        refine qv_cV (d2 := mX4_endPlaces) (o := v7) (ci := 3) (r := some (.int v9)) (h2 := h6) (av := []) (st := []) dX8_book_62 qM_X8_242 qD_X4_endPlaces e21 rfl rfl ⟨by decide, by decide⟩ rfl (Nat.le_of_ble_eq_true rfl) (Nat.le_of_ble_eq_true rfl) (sX4_endPlaces e22) rfl ?_
        cases hs
        exact qv_dp (qv_le_s (qv_le_n (qv_le_n qv_le_0))) K11
  · have hs := qv_neg c1 hs
    refine qv_if_eq (tgt := 16) dX8_book_1 rfl (fun q => absurd q c1) (fun _ => ?_)
    refine qv_iload_n dX8_book_4 (i := 1) rfl rfl ?_
    refine qv_iconst (v := (1 : Int32)) dX8_book_5 rfl ?_
    by_cases c23 : a1 = (1 : Int32)
    · have hs := qv_pos c23 hs
      refine qv_icmp_eq (tgt := 16) dX8_book_6 rfl (fun _ => ?_) (fun q => absurd c23 q)
      refine qv_aload_n dX8_book_16 (i := 0) rfl rfl ?_
      obtain ⟨v20, e24, hs⟩ := qv_bind hs
      refine qv_getR dX8_book_17 qF_X8_63 e24 ?_
      obtain ⟨v21, e25, hs⟩ := qv_bind hs
      refine qv_getI dX8_book_20 qF_X8_234 e25 ?_
      by_cases c26 : v21 = 0
      · have hs := qv_pos c26 hs
        refine qv_if_ne (tgt := 33) dX8_book_23 rfl (fun q => absurd c26 q) (fun _ => ?_)
        refine qv_aload_n dX8_book_26 (i := 0) rfl rfl ?_
        refine qv_bipush (v := (-3 : Int32)) dX8_book_27 rfl ?_
        obtain ⟨u36, e27, hs⟩ := qv_bind hs
        obtain ⟨⟨v37, h38⟩, e28, hs⟩ := qv_bind hs
        dsimp only at hs
        refine qv_cV (d2 := mX8_refuse) (o := a0) (ci := 7) (r := some (.int v37)) (h2 := h38) (av := [.int (-3 : Int32)]) (st := []) dX8_book_29 qM_X8_83 qD_X8_refuse e27 rfl rfl ⟨by decide, by decide⟩ rfl (Nat.le_of_ble_eq_true rfl) (Nat.le_of_ble_eq_true rfl) (sX8_refuse e28) rfl ?_
        obtain ⟨rfl, rfl⟩ := qv_pr hs
        exact qv_iret dX8_book_32 rfl
      · have hs := qv_neg c26 hs
        refine qv_if_ne (tgt := 33) dX8_book_23 rfl (fun _ => ?_) (fun q => absurd q c26)
        refine qv_aload_n dX8_book_33 (i := 0) rfl rfl ?_
        obtain ⟨v22, e29, hs⟩ := qv_bind hs
        refine qv_getR dX8_book_34 qF_X8_63 e29 ?_
        refine qv_aload_n dX8_book_37 (i := 0) rfl rfl ?_
        obtain ⟨v23, e30, hs⟩ := qv_bind hs
        refine qv_getR dX8_book_38 qF_X8_19 e30 ?_
        obtain ⟨u24, e31, hs⟩ := qv_bind hs
        obtain ⟨h25, e32, hs⟩ := qv_bind hs
        refine qv_cV (d2 := mX4_trace) (o := v22) (ci := 3) (r := none) (h2 := h25) (av := [.ref v23]) (st := []) dX8_book_41 qM_X8_236 qD_X4_trace e31 rfl rfl ⟨by decide, by decide⟩ rfl (Nat.le_of_ble_eq_true rfl) (Nat.le_of_ble_eq_true rfl) (sX4_trace e32) rfl ?_
        refine qv_iload_n dX8_book_44 (i := 1) rfl rfl ?_
        obtain ⟨m32, hj34, hs⟩ := qv_bind hs
        have K33 : qv_J l g mX8_book 65 [some (.ref a0), none, none] [.int m32] h25 (some (.int r), hz) := by
          refine qv_istore_n (lo2 := [some (.ref a0), none, some (.int m32)]) dX8_book_65 (i := 2) rfl (by decide) rfl (Nat.le_of_ble_eq_true rfl) rfl ?_
          refine qv_aload_n dX8_book_66 (i := 0) rfl rfl ?_
          obtain ⟨v33, e35, hs⟩ := qv_bind hs
          refine qv_getR dX8_book_67 qF_X8_63 e35 ?_
          obtain ⟨u34, e36, hs⟩ := qv_bind hs
          obtain ⟨h35, e37, hs⟩ := qv_bind hs
          refine qv_cV (d2 := mX4_clear) (o := v33) (ci := 3) (r := none) (h2 := h35) (av := []) (st := []) dX8_book_70 qM_X8_245 qD_X4_clear e36 rfl rfl ⟨by decide, by decide⟩ rfl (Nat.le_of_ble_eq_true rfl) (Nat.le_of_ble_eq_true rfl) (sX4_clear e37) rfl ?_
          refine qv_iload_n dX8_book_73 (i := 2) rfl rfl ?_
          obtain ⟨rfl, rfl⟩ := qv_pr hs
          exact qv_iret dX8_book_74 rfl
        replace hs := hj34
        by_cases c38 : a1 = 0
        · have hs := qv_pos c38 hs
          refine qv_if_ne (tgt := 58) dX8_book_45 rfl (fun q => absurd c38 q) (fun _ => ?_)
          refine qv_aload_n dX8_book_48 (i := 0) rfl rfl ?_
          obtain ⟨v29, e39, hs⟩ := qv_bind hs
          refine qv_getR dX8_book_49 qF_X8_63 e39 ?_
          obtain ⟨u30, e40, hs⟩ := qv_bind hs
          obtain ⟨v31, e41, hs⟩ := qv_bind hs
          refine qv_cV (d2 := mX4_walkCount) (o := v29) (ci := 3) (r := some (.int v31)) (h2 := h25) (av := []) (st := []) dX8_book_52 qM_X8_239 qD_X4_walkCount e40 rfl rfl ⟨by decide, by decide⟩ rfl (Nat.le_of_ble_eq_true rfl) (Nat.le_of_ble_eq_true rfl) (sX4_walkCount e41) rfl ?_
          refine qv_goto (tgt := 65) dX8_book_55 rfl ?_
          cases hs
          exact qv_dp (qv_le_s (qv_le_n (qv_le_n qv_le_0))) K33
        · have hs := qv_neg c38 hs
          refine qv_if_ne (tgt := 58) dX8_book_45 rfl (fun _ => ?_) (fun q => absurd q c38)
          refine qv_aload_n dX8_book_58 (i := 0) rfl rfl ?_
          obtain ⟨v26, e42, hs⟩ := qv_bind hs
          refine qv_getR dX8_book_59 qF_X8_63 e42 ?_
          obtain ⟨u27, e43, hs⟩ := qv_bind hs
          obtain ⟨v28, e44, hs⟩ := qv_bind hs
          refine qv_cV (d2 := mX4_endPlaces) (o := v26) (ci := 3) (r := some (.int v28)) (h2 := h25) (av := []) (st := []) dX8_book_62 qM_X8_242 qD_X4_endPlaces e43 rfl rfl ⟨by decide, by decide⟩ rfl (Nat.le_of_ble_eq_true rfl) (Nat.le_of_ble_eq_true rfl) (sX4_endPlaces e44) rfl ?_
          cases hs
          exact qv_dp (qv_le_s (qv_le_n (qv_le_n qv_le_0))) K33
    · have hs := qv_neg c23 hs
      refine qv_icmp_eq (tgt := 16) dX8_book_6 rfl (fun q => absurd q c23) (fun _ => ?_)
      refine qv_aload_n dX8_book_9 (i := 0) rfl rfl ?_
      refine qv_bipush (v := (-2 : Int32)) dX8_book_10 rfl ?_
      obtain ⟨u39, e45, hs⟩ := qv_bind hs
      obtain ⟨⟨v40, h41⟩, e46, hs⟩ := qv_bind hs
      dsimp only at hs
      refine qv_cV (d2 := mX8_refuse) (o := a0) (ci := 7) (r := some (.int v40)) (h2 := h41) (av := [.int (-2 : Int32)]) (st := []) dX8_book_12 qM_X8_83 qD_X8_refuse e45 rfl rfl ⟨by decide, by decide⟩ rfl (Nat.le_of_ble_eq_true rfl) (Nat.le_of_ble_eq_true rfl) (sX8_refuse e46) rfl ?_
      obtain ⟨rfl, rfl⟩ := qv_pr hs
      exact qv_iret dX8_book_15 rfl
theorem qD_X8_book : qv_DV mX8_book 1 := ⟨(qv_i11 (List.mem_of_getElem? (i := 24) (by decide +kernel))), (qv_i11 (List.mem_of_getElem? (i := 25) (by decide +kernel))), (qv_i1 (List.mem_of_getElem? (i := 5) (by decide +kernel))), (qv_i11 (List.mem_of_getElem? (i := 26) (by decide +kernel))), by decide +kernel, by decide +kernel⟩
/-- TrueOneWay.leastGreaterPart(I)I -/
noncomputable def fX8_leastGreaterPart (a0 : Nat) (a1 : Int32) (h : qv_H) : Option (Int32) :=
  (qv_gR h 7 a0 6).bind fun v1 =>
  (qv_gI h 6 v1 2).bind fun v2 =>
  Option.bind (qv_loop (σ := Int32 × Int32) (ρ := Int32) (fun (x3, x4) =>
      (qv_gR h 7 a0 1).bind fun v5 =>
      (qv_gI h 2 v5 2).bind fun v6 =>
      if v6 ≤ x4 then
        some (.inr x3)
      else
        (fX0_has a1 x4).bind fun v7 =>
        Option.bind (α := Int32) (
            if v7 = 0 then
              some x3
            else
              (qv_gR h 7 a0 6).bind fun v8 =>
              (qv_ob h 6 v8).bind fun _ =>
              (fX7_goodWith v8 x4 h).bind fun v10 =>
              (qv_gR h 7 a0 6).bind fun v11 =>
              (qv_gI h 6 v11 2).bind fun v12 =>
              some (qv_mn x3 (qv_mx v10 (v12 - v10)))
          ) fun m13 =>
        some (.inl (m13, x4 + (1 : Int32)))
    ) (v2, (0 : Int32))) fun y14 =>
  some y14
abbrev mX8_leastGreaterPart : qv_M := (yX8_leastGreaterPart, cX8_leastGreaterPart, 5, (Option.some Jvm.ClassFile.FieldType.int), 2, 44)
set_option maxRecDepth 100000 in
set_option maxHeartbeats 4000000 in
theorem sX8_leastGreaterPart {l : Launch} {g : qv_G} {a0 : Nat} {a1 : Int32} {h : qv_H} {r : Int32} (hs : fX8_leastGreaterPart a0 a1 h = some r) : qv_J l g mX8_leastGreaterPart 0 [some (.ref a0), some (.int a1), none, none, none] [] h (some (.int r), h) := by
  unfold fX8_leastGreaterPart at hs
  refine qv_aload_n dX8_leastGreaterPart_0 (i := 0) rfl rfl ?_
  obtain ⟨v1, e1, hs⟩ := qv_bind hs
  refine qv_getR dX8_leastGreaterPart_1 qF_X8_42 e1 ?_
  obtain ⟨v2, e2, hs⟩ := qv_bind hs
  refine qv_getI dX8_leastGreaterPart_4 qF_X8_149 e2 ?_
  refine qv_istore_n (lo2 := [some (.ref a0), some (.int a1), some (.int v2), none, none]) dX8_leastGreaterPart_7 (i := 2) rfl (by decide) rfl (Nat.le_of_ble_eq_true rfl) rfl ?_
  refine qv_iconst (v := (0 : Int32)) dX8_leastGreaterPart_8 rfl ?_
  refine qv_istore_n (lo2 := [some (.ref a0), some (.int a1), some (.int v2), some (.int (0 : Int32)), none]) dX8_leastGreaterPart_9 (i := 3) rfl (by decide) rfl (Nat.le_of_ble_eq_true rfl) rfl ?_
  obtain ⟨y14, e4, hs⟩ := qv_bind hs
  have K3 : qv_J l g mX8_leastGreaterPart 65 [none, none, some (.int y14), none, none] [] h (some (.int r), h) := by
    refine qv_iload_n dX8_leastGreaterPart_65 (i := 2) rfl rfl ?_
    obtain rfl := qv_sm hs
    exact qv_iret dX8_leastGreaterPart_66 rfl
  obtain ⟨n10, e4⟩ := qv_loop_of e4
  refine qv_dp (qv_le_s (qv_le_s (qv_le_s (qv_le_s (qv_le_n qv_le_0))))) (?_ : qv_J l g mX8_leastGreaterPart 10 [some (.ref a0), some (.int a1), some (.int v2), some (.int (0 : Int32)), none] [] h (some (.int r), h))
  revert e4
  suffices lj9 : ∀ (x3 : Int32) (x4 : Int32), qv_it _ n10 (x3, x4) = some y14 → qv_J l g mX8_leastGreaterPart 10 [some (.ref a0), some (.int a1), some (.int x3), some (.int x4), none] [] h (some (.int r), h) from lj9 v2 (0 : Int32)
  induction n10 with
  | zero =>
    intro x3 x4 e4
    cases e4
  | succ n10 ih6 =>
    intro x3 x4 e4
    obtain ⟨_, hs, eb7⟩ := qv_it_s e4
    dsimp only at hs
    refine qv_iload_n dX8_leastGreaterPart_10 (i := 3) rfl rfl ?_
    refine qv_aload_n dX8_leastGreaterPart_11 (i := 0) rfl rfl ?_
    obtain ⟨v5, e11, hs⟩ := qv_bind hs
    refine qv_getR dX8_leastGreaterPart_12 qF_X8_19 e11 ?_
    obtain ⟨v6, e12, hs⟩ := qv_bind hs
    refine qv_getI dX8_leastGreaterPart_15 qF_X8_214 e12 ?_
    by_cases c13 : v6 ≤ x4
    · have hs := qv_pos c13 hs
      refine qv_icmp_ge (tgt := 65) dX8_leastGreaterPart_18 rfl (fun _ => ?_) (fun q => absurd c13 q)
      cases hs
      cases qv_nx_r eb7
      exact qv_dp (qv_le_n (qv_le_n (qv_le_s (qv_le_n (qv_le_n qv_le_0))))) K3
    · have hs := qv_neg c13 hs
      refine qv_icmp_ge (tgt := 65) dX8_leastGreaterPart_18 rfl (fun q => absurd q c13) (fun _ => ?_)
      refine qv_iload_n dX8_leastGreaterPart_21 (i := 1) rfl rfl ?_
      refine qv_iload_n dX8_leastGreaterPart_22 (i := 3) rfl rfl ?_
      obtain ⟨v7, e14, hs⟩ := qv_bind hs
      refine qv_cS (d2 := mX0_has) (r := some (.int v7)) (h2 := h) (av := [.int a1, .int x4]) (st := []) dX8_leastGreaterPart_23 qM_X8_285 qD_X0_has rfl ⟨by decide, by decide⟩ rfl (Nat.le_of_ble_eq_true rfl) (Nat.le_of_ble_eq_true rfl) (sX0_has e14) rfl ?_
      obtain ⟨m13, hj16, hs⟩ := qv_bind hs
      have K15 : qv_J l g mX8_leastGreaterPart 59 [some (.ref a0), some (.int a1), some (.int m13), some (.int x4), none] [] h (some (.int r), h) := by
        refine qv_iinc (v := x4 + (1 : Int32)) (lo2 := [some (.ref a0), some (.int a1), some (.int m13), some (.int (x4 + (1 : Int32))), none]) dX8_leastGreaterPart_59 rfl rfl (by decide) rfl rfl ?_
        refine qv_goto (tgt := 10) dX8_leastGreaterPart_62 rfl ?_
        cases hs
        exact qv_dp (qv_le_s (qv_le_s (qv_le_s (qv_le_s (qv_le_n qv_le_0))))) (ih6 _ _ (qv_nx_l eb7))
      replace hs := hj16
      by_cases c17 : v7 = 0
      · have hs := qv_pos c17 hs
        refine qv_if_eq (tgt := 59) dX8_leastGreaterPart_26 rfl (fun _ => ?_) (fun q => absurd c17 q)
        cases hs
        exact qv_dp (qv_le_s (qv_le_s (qv_le_s (qv_le_s (qv_le_n qv_le_0))))) K15
      · have hs := qv_neg c17 hs
        refine qv_if_eq (tgt := 59) dX8_leastGreaterPart_26 rfl (fun q => absurd q c17) (fun _ => ?_)
        refine qv_aload_n dX8_leastGreaterPart_29 (i := 0) rfl rfl ?_
        obtain ⟨v8, e18, hs⟩ := qv_bind hs
        refine qv_getR dX8_leastGreaterPart_30 qF_X8_42 e18 ?_
        refine qv_iload_n dX8_leastGreaterPart_33 (i := 3) rfl rfl ?_
        obtain ⟨u9, e19, hs⟩ := qv_bind hs
        obtain ⟨v10, e20, hs⟩ := qv_bind hs
        refine qv_cV (d2 := mX7_goodWith) (o := v8) (ci := 6) (r := some (.int v10)) (h2 := h) (av := [.int x4]) (st := []) dX8_leastGreaterPart_34 qM_X8_289 qD_X7_goodWith e19 rfl rfl ⟨by decide, by decide⟩ rfl (Nat.le_of_ble_eq_true rfl) (Nat.le_of_ble_eq_true rfl) (sX7_goodWith e20) rfl ?_
        refine qv_istore (lo2 := [some (.ref a0), some (.int a1), some (.int x3), some (.int x4), some (.int v10)]) dX8_leastGreaterPart_37 (by decide) rfl (Nat.le_of_ble_eq_true rfl) rfl ?_
        refine qv_iload_n dX8_leastGreaterPart_39 (i := 2) rfl rfl ?_
        refine qv_iload dX8_leastGreaterPart_40 rfl ?_
        refine qv_aload_n dX8_leastGreaterPart_42 (i := 0) rfl rfl ?_
        obtain ⟨v11, e21, hs⟩ := qv_bind hs
        refine qv_getR dX8_leastGreaterPart_43 qF_X8_42 e21 ?_
        obtain ⟨v12, e22, hs⟩ := qv_bind hs
        refine qv_getI dX8_leastGreaterPart_46 qF_X8_149 e22 ?_
        refine qv_iload dX8_leastGreaterPart_49 rfl ?_
        refine qv_isub dX8_leastGreaterPart_51 ?_
        refine qv_cmx dX8_leastGreaterPart_52 qB_X8_195 ⟨by decide, by decide⟩ (Nat.le_of_ble_eq_true rfl) ?_
        refine qv_cmn dX8_leastGreaterPart_55 qB_X8_200 ⟨by decide, by decide⟩ (Nat.le_of_ble_eq_true rfl) ?_
        refine qv_istore_n (lo2 := [some (.ref a0), some (.int a1), some (.int (qv_mn x3 (qv_mx v10 (v12 - v10)))), some (.int x4), some (.int v10)]) dX8_leastGreaterPart_58 (i := 2) rfl (by decide) rfl (Nat.le_of_ble_eq_true rfl) rfl ?_
        cases hs
        exact qv_dp (qv_le_s (qv_le_s (qv_le_s (qv_le_s (qv_le_n qv_le_0))))) K15
theorem qD_X8_leastGreaterPart : qv_DV mX8_leastGreaterPart 1 := ⟨(qv_i11 (List.mem_of_getElem? (i := 56) (by decide +kernel))), (qv_i0 (List.mem_of_getElem? (i := 20) (by decide +kernel))), (qv_i1 (List.mem_of_getElem? (i := 5) (by decide +kernel))), (qv_i11 (List.mem_of_getElem? (i := 57) (by decide +kernel))), by decide +kernel, by decide +kernel⟩
/-- TrueOneWay.next()I -/
noncomputable def fX8_next (a0 : Nat) (h : qv_H) : Option (Int32) :=
  (qv_gR h 7 a0 6).bind fun v1 =>
  (qv_ob h 6 v1).bind fun _ =>
  (fX7_openFacts v1 (0 : Int32) (0 : Int32) h).bind fun v3 =>
  (qv_gR h 7 a0 6).bind fun v4 =>
  (qv_gI h 6 v4 2).bind fun v5 =>
  Option.bind (qv_loop (σ := Int32 × Int32 × Int32) (ρ := Int32) (fun (x6, x7, x8) =>
      (qv_gR h 7 a0 1).bind fun v9 =>
      (qv_gI h 2 v9 0).bind fun v10 =>
      if v10 ≤ x8 then
        some (.inr x6)
      else
        (qv_gR h 7 a0 1).bind fun v11 =>
        (qv_gR h 2 v11 10).bind fun v12 =>
        (qv_aI h false v12 x8).bind fun v13 =>
        (qv_ob h 7 a0).bind fun _ =>
        (fX8_leastGreaterPart a0 (v13 &&& v3) h).bind fun v15 =>
        Option.bind (α := Int32 × Int32) (
            if x7 ≤ v15 then
              some (x6, x7)
            else
              some (x8, v15)
          ) fun (m16, m17) =>
        some (.inl (m16, m17, x8 + (1 : Int32)))
    ) ((-9 : Int32), v5, (0 : Int32))) fun y18 =>
  some y18
abbrev mX8_next : qv_M := (yX8_next, cX8_next, 6, (Option.some Jvm.ClassFile.FieldType.int), 3, 68)
set_option maxRecDepth 100000 in
set_option maxHeartbeats 4000000 in
theorem sX8_next {l : Launch} {g : qv_G} {a0 : Nat} {h : qv_H} {r : Int32} (hs : fX8_next a0 h = some r) : qv_J l g mX8_next 0 [some (.ref a0), none, none, none, none, none] [] h (some (.int r), h) := by
  unfold fX8_next at hs
  refine qv_aload_n dX8_next_0 (i := 0) rfl rfl ?_
  obtain ⟨v1, e1, hs⟩ := qv_bind hs
  refine qv_getR dX8_next_1 qF_X8_42 e1 ?_
  refine qv_iconst (v := (0 : Int32)) dX8_next_4 rfl ?_
  refine qv_iconst (v := (0 : Int32)) dX8_next_5 rfl ?_
  obtain ⟨u2, e2, hs⟩ := qv_bind hs
  obtain ⟨v3, e3, hs⟩ := qv_bind hs
  refine qv_cV (d2 := mX7_openFacts) (o := v1) (ci := 6) (r := some (.int v3)) (h2 := h) (av := [.int (0 : Int32), .int (0 : Int32)]) (st := []) dX8_next_6 qM_X8_179 qD_X7_openFacts e2 rfl rfl ⟨by decide, by decide⟩ rfl (Nat.le_of_ble_eq_true rfl) (Nat.le_of_ble_eq_true rfl) (sX7_openFacts e3) rfl ?_
  refine qv_istore_n (lo2 := [some (.ref a0), some (.int v3), none, none, none, none]) dX8_next_9 (i := 1) rfl (by decide) rfl (Nat.le_of_ble_eq_true rfl) rfl ?_
  refine qv_bipush (v := (-9 : Int32)) dX8_next_10 rfl ?_
  refine qv_istore_n (lo2 := [some (.ref a0), some (.int v3), some (.int (-9 : Int32)), none, none, none]) dX8_next_12 (i := 2) rfl (by decide) rfl (Nat.le_of_ble_eq_true rfl) rfl ?_
  refine qv_aload_n dX8_next_13 (i := 0) rfl rfl ?_
  obtain ⟨v4, e4, hs⟩ := qv_bind hs
  refine qv_getR dX8_next_14 qF_X8_42 e4 ?_
  obtain ⟨v5, e5, hs⟩ := qv_bind hs
  refine qv_getI dX8_next_17 qF_X8_149 e5 ?_
  refine qv_istore_n (lo2 := [some (.ref a0), some (.int v3), some (.int (-9 : Int32)), some (.int v5), none, none]) dX8_next_20 (i := 3) rfl (by decide) rfl (Nat.le_of_ble_eq_true rfl) rfl ?_
  refine qv_iconst (v := (0 : Int32)) dX8_next_21 rfl ?_
  refine qv_istore (lo2 := [some (.ref a0), some (.int v3), some (.int (-9 : Int32)), some (.int v5), some (.int (0 : Int32)), none]) dX8_next_22 (by decide) rfl (Nat.le_of_ble_eq_true rfl) rfl ?_
  obtain ⟨y18, e7, hs⟩ := qv_bind hs
  have K6 : qv_J l g mX8_next 72 [none, none, some (.int y18), none, none, none] [] h (some (.int r), h) := by
    refine qv_iload_n dX8_next_72 (i := 2) rfl rfl ?_
    obtain rfl := qv_sm hs
    exact qv_iret dX8_next_73 rfl
  obtain ⟨n13, e7⟩ := qv_loop_of e7
  refine qv_dp (qv_le_s (qv_le_s (qv_le_s (qv_le_s (qv_le_s (qv_le_n qv_le_0)))))) (?_ : qv_J l g mX8_next 24 [some (.ref a0), some (.int v3), some (.int (-9 : Int32)), some (.int v5), some (.int (0 : Int32)), none] [] h (some (.int r), h))
  revert e7
  suffices lj12 : ∀ (x6 : Int32) (x7 : Int32) (x8 : Int32), qv_it _ n13 (x6, x7, x8) = some y18 → qv_J l g mX8_next 24 [some (.ref a0), some (.int v3), some (.int x6), some (.int x7), some (.int x8), none] [] h (some (.int r), h) from lj12 (-9 : Int32) v5 (0 : Int32)
  induction n13 with
  | zero =>
    intro x6 x7 x8 e7
    cases e7
  | succ n13 ih9 =>
    intro x6 x7 x8 e7
    obtain ⟨_, hs, eb10⟩ := qv_it_s e7
    dsimp only at hs
    refine qv_iload dX8_next_24 rfl ?_
    refine qv_aload_n dX8_next_26 (i := 0) rfl rfl ?_
    obtain ⟨v9, e14, hs⟩ := qv_bind hs
    refine qv_getR dX8_next_27 qF_X8_19 e14 ?_
    obtain ⟨v10, e15, hs⟩ := qv_bind hs
    refine qv_getI dX8_next_30 qF_X8_246 e15 ?_
    by_cases c16 : v10 ≤ x8
    · have hs := qv_pos c16 hs
      refine qv_icmp_ge (tgt := 72) dX8_next_33 rfl (fun _ => ?_) (fun q => absurd c16 q)
      cases hs
      cases qv_nx_r eb10
      exact qv_dp (qv_le_n (qv_le_n (qv_le_s (qv_le_n (qv_le_n (qv_le_n qv_le_0)))))) K6
    · have hs := qv_neg c16 hs
      refine qv_icmp_ge (tgt := 72) dX8_next_33 rfl (fun q => absurd q c16) (fun _ => ?_)
      refine qv_aload_n dX8_next_36 (i := 0) rfl rfl ?_
      refine qv_aload_n dX8_next_37 (i := 0) rfl rfl ?_
      obtain ⟨v11, e17, hs⟩ := qv_bind hs
      refine qv_getR dX8_next_38 qF_X8_19 e17 ?_
      obtain ⟨v12, e18, hs⟩ := qv_bind hs
      refine qv_getR dX8_next_41 qF_X8_133 e18 ?_
      refine qv_iload dX8_next_44 rfl ?_
      obtain ⟨v13, e19, hs⟩ := qv_bind hs
      refine qv_iald dX8_next_46 e19 ?_
      refine qv_iload_n dX8_next_47 (i := 1) rfl rfl ?_
      refine qv_iand dX8_next_48 ?_
      obtain ⟨u14, e20, hs⟩ := qv_bind hs
      obtain ⟨v15, e21, hs⟩ := qv_bind hs
      refine qv_cV (d2 := mX8_leastGreaterPart) (o := a0) (ci := 7) (r := some (.int v15)) (h2 := h) (av := [.int (v13 &&& v3)]) (st := []) dX8_next_49 qM_X8_249 qD_X8_leastGreaterPart e20 rfl rfl ⟨by decide, by decide⟩ rfl (Nat.le_of_ble_eq_true rfl) (Nat.le_of_ble_eq_true rfl) (sX8_leastGreaterPart e21) rfl ?_
      refine qv_istore (lo2 := [some (.ref a0), some (.int v3), some (.int x6), some (.int x7), some (.int x8), some (.int v15)]) dX8_next_52 (by decide) rfl (Nat.le_of_ble_eq_true rfl) rfl ?_
      refine qv_iload dX8_next_54 rfl ?_
      refine qv_iload_n dX8_next_56 (i := 3) rfl rfl ?_
      obtain ⟨⟨m16, m17⟩, hj23, hs⟩ := qv_bind hs
      dsimp only at hs
      have K22 : qv_J l g mX8_next 66 [some (.ref a0), some (.int v3), some (.int m16), some (.int m17), some (.int x8), none] [] h (some (.int r), h) := by
        refine qv_iinc (v := x8 + (1 : Int32)) (lo2 := [some (.ref a0), some (.int v3), some (.int m16), some (.int m17), some (.int (x8 + (1 : Int32))), none]) dX8_next_66 rfl rfl (by decide) rfl rfl ?_
        refine qv_goto (tgt := 24) dX8_next_69 rfl ?_
        cases hs
        exact qv_dp (qv_le_s (qv_le_s (qv_le_s (qv_le_s (qv_le_s (qv_le_n qv_le_0)))))) (ih9 _ _ _ (qv_nx_l eb10))
      replace hs := hj23
      by_cases c24 : x7 ≤ v15
      · have hs := qv_pos c24 hs
        refine qv_icmp_ge (tgt := 66) dX8_next_57 rfl (fun _ => ?_) (fun q => absurd c24 q)
        cases hs
        exact qv_dp (qv_le_s (qv_le_s (qv_le_s (qv_le_s (qv_le_s (qv_le_n qv_le_0)))))) K22
      · have hs := qv_neg c24 hs
        refine qv_icmp_ge (tgt := 66) dX8_next_57 rfl (fun q => absurd q c24) (fun _ => ?_)
        refine qv_iload dX8_next_60 rfl ?_
        refine qv_istore_n (lo2 := [some (.ref a0), some (.int v3), some (.int x8), some (.int x7), some (.int x8), some (.int v15)]) dX8_next_62 (i := 2) rfl (by decide) rfl (Nat.le_of_ble_eq_true rfl) rfl ?_
        refine qv_iload dX8_next_63 rfl ?_
        refine qv_istore_n (lo2 := [some (.ref a0), some (.int v3), some (.int x8), some (.int v15), some (.int x8), some (.int v15)]) dX8_next_65 (i := 3) rfl (by decide) rfl (Nat.le_of_ble_eq_true rfl) rfl ?_
        cases hs
        exact qv_dp (qv_le_s (qv_le_s (qv_le_s (qv_le_s (qv_le_s (qv_le_n qv_le_0)))))) K22
theorem qD_X8_next : qv_DV mX8_next 0 := ⟨(qv_i11 (List.mem_of_getElem? (i := 52) (by decide +kernel))), (qv_i11 (List.mem_of_getElem? (i := 53) (by decide +kernel))), (qv_i1 (List.mem_of_getElem? (i := 5) (by decide +kernel))), (qv_i11 (List.mem_of_getElem? (i := 54) (by decide +kernel))), by decide +kernel, by decide +kernel⟩
/-- TrueOneWay.lands(III)I -/
noncomputable def fX8_lands (a0 : Nat) (a1 : Int32) (a2 : Int32) (a3 : Int32) (h : qv_H) : Option (Int32 × qv_H) :=
  if (1 : Int32) ≤ a1 then
    if a1 ≤ (30 : Int32) then
      if a3 = 0 then
        Option.bind (qv_loop (σ := Int32 × Int32 × Int32) (ρ := Int32) (fun (x1, x2, x3) =>
            if a1 ≤ x3 then
              some (.inr x2)
            else
              (qv_gR h 7 a0 6).bind fun v4 =>
              (qv_gI h 6 v4 0).bind fun v5 =>
              Option.bind (α := Int32) (
                  if a3 = 0 then
                    (qv_gR h 7 a0 6).bind fun v9 =>
                    (qv_ob h 6 v9).bind fun _ =>
                    (fX7_isFitting v9 ((((((x1 * (1664525 : Int32)) + (1013904223 : Int32)) &&& (2147483647 : Int32)) / (256 : Int32)) - ((((x1 * (1664525 : Int32)) + (1013904223 : Int32)) &&& (2147483647 : Int32)) / (256 : Int32)) / (1024 : Int32) * (1024 : Int32)) &&& v5) h).bind fun v11 =>
                    if v11 = 0 then
                      some x2
                    else
                      some (x2 + (1 : Int32))
                  else
                    (qv_gR h 7 a0 6).bind fun v6 =>
                    (qv_ob h 6 v6).bind fun _ =>
                    (fX7_isGood v6 ((((((x1 * (1664525 : Int32)) + (1013904223 : Int32)) &&& (2147483647 : Int32)) / (256 : Int32)) - ((((x1 * (1664525 : Int32)) + (1013904223 : Int32)) &&& (2147483647 : Int32)) / (256 : Int32)) / (1024 : Int32) * (1024 : Int32)) &&& v5) h).bind fun v8 =>
                    if v8 = 0 then
                      some x2
                    else
                      some (x2 + (1 : Int32))
                ) fun m12 =>
              some (.inl ((x1 * (1664525 : Int32)) + (1013904223 : Int32), m12, x3 + (1 : Int32)))
          ) (a2, (0 : Int32), (0 : Int32))) fun y13 =>
        some (y13, h)
      else
        if a3 = (1 : Int32) then
          Option.bind (qv_loop (σ := Int32 × Int32 × Int32) (ρ := Int32) (fun (x14, x15, x16) =>
              if a1 ≤ x16 then
                some (.inr x15)
              else
                (qv_gR h 7 a0 6).bind fun v17 =>
                (qv_gI h 6 v17 0).bind fun v18 =>
                Option.bind (α := Int32) (
                    if a3 = 0 then
                      (qv_gR h 7 a0 6).bind fun v22 =>
                      (qv_ob h 6 v22).bind fun _ =>
                      (fX7_isFitting v22 ((((((x14 * (1664525 : Int32)) + (1013904223 : Int32)) &&& (2147483647 : Int32)) / (256 : Int32)) - ((((x14 * (1664525 : Int32)) + (1013904223 : Int32)) &&& (2147483647 : Int32)) / (256 : Int32)) / (1024 : Int32) * (1024 : Int32)) &&& v18) h).bind fun v24 =>
                      if v24 = 0 then
                        some x15
                      else
                        some (x15 + (1 : Int32))
                    else
                      (qv_gR h 7 a0 6).bind fun v19 =>
                      (qv_ob h 6 v19).bind fun _ =>
                      (fX7_isGood v19 ((((((x14 * (1664525 : Int32)) + (1013904223 : Int32)) &&& (2147483647 : Int32)) / (256 : Int32)) - ((((x14 * (1664525 : Int32)) + (1013904223 : Int32)) &&& (2147483647 : Int32)) / (256 : Int32)) / (1024 : Int32) * (1024 : Int32)) &&& v18) h).bind fun v21 =>
                      if v21 = 0 then
                        some x15
                      else
                        some (x15 + (1 : Int32))
                  ) fun m25 =>
                some (.inl ((x14 * (1664525 : Int32)) + (1013904223 : Int32), m25, x16 + (1 : Int32)))
            ) (a2, (0 : Int32), (0 : Int32))) fun y26 =>
          some (y26, h)
        else
          (qv_ob h 7 a0).bind fun _ =>
          (fX8_refuse a0 (-2 : Int32) h).bind fun (v28, h29) =>
          some (v28, h29)
    else
      (qv_ob h 7 a0).bind fun _ =>
      (fX8_refuse a0 (-6 : Int32) h).bind fun (v31, h32) =>
      some (v31, h32)
  else
    (qv_ob h 7 a0).bind fun _ =>
    (fX8_refuse a0 (-4 : Int32) h).bind fun (v34, h35) =>
    some (v34, h35)
abbrev mX8_lands : qv_M := (yX8_lands, cX8_lands, 8, (Option.some Jvm.ClassFile.FieldType.int), 3, 64)
set_option maxRecDepth 100000 in
set_option maxHeartbeats 4000000 in
theorem sX8_lands {l : Launch} {g : qv_G} {a0 : Nat} {a1 : Int32} {a2 : Int32} {a3 : Int32} {h : qv_H} {r : Int32} {hz : qv_H} (hs : fX8_lands a0 a1 a2 a3 h = some (r, hz)) : qv_J l g mX8_lands 0 [some (.ref a0), some (.int a1), some (.int a2), some (.int a3), none, none, none, none] [] h (some (.int r), hz) := by
  unfold fX8_lands at hs
  refine qv_iload_n dX8_lands_0 (i := 1) rfl rfl ?_
  refine qv_iconst (v := (1 : Int32)) dX8_lands_1 rfl ?_
  by_cases c1 : (1 : Int32) ≤ a1
  · have hs := qv_pos c1 hs
    refine qv_icmp_ge (tgt := 12) dX8_lands_2 rfl (fun _ => ?_) (fun q => absurd c1 q)
    refine qv_iload_n dX8_lands_12 (i := 1) rfl rfl ?_
    refine qv_bipush (v := (30 : Int32)) dX8_lands_13 rfl ?_
    by_cases c2 : a1 ≤ (30 : Int32)
    · have hs := qv_pos c2 hs
      refine qv_icmp_le (tgt := 25) dX8_lands_15 rfl (fun _ => ?_) (fun q => absurd c2 q)
      refine qv_iload_n dX8_lands_25 (i := 3) rfl rfl ?_
      by_cases c3 : a3 = 0
      · have hs := qv_pos c3 hs
        refine qv_if_eq (tgt := 41) dX8_lands_26 rfl (fun _ => ?_) (fun q => absurd c3 q)
        refine qv_iload_n dX8_lands_41 (i := 2) rfl rfl ?_
        refine qv_istore (lo2 := [some (.ref a0), some (.int a1), some (.int a2), some (.int a3), some (.int a2), none, none, none]) dX8_lands_42 (by decide) rfl (Nat.le_of_ble_eq_true rfl) rfl ?_
        refine qv_iconst (v := (0 : Int32)) dX8_lands_44 rfl ?_
        refine qv_istore (lo2 := [some (.ref a0), some (.int a1), some (.int a2), some (.int a3), some (.int a2), some (.int (0 : Int32)), none, none]) dX8_lands_45 (by decide) rfl (Nat.le_of_ble_eq_true rfl) rfl ?_
        refine qv_iconst (v := (0 : Int32)) dX8_lands_47 rfl ?_
        refine qv_istore (lo2 := [some (.ref a0), some (.int a1), some (.int a2), some (.int a3), some (.int a2), some (.int (0 : Int32)), some (.int (0 : Int32)), none]) dX8_lands_48 (by decide) rfl (Nat.le_of_ble_eq_true rfl) rfl ?_
        obtain ⟨y13, e5, hs⟩ := qv_bind hs
        have K4 : qv_J l g mX8_lands 129 [none, none, none, none, none, some (.int y13), none, none] [] h (some (.int r), hz) := by
          refine qv_iload dX8_lands_129 rfl ?_
          obtain ⟨rfl, rfl⟩ := qv_pr hs
          exact qv_iret dX8_lands_131 rfl
        obtain ⟨n11, e5⟩ := qv_loop_of e5
        refine qv_dp (qv_le_s (qv_le_s (qv_le_n (qv_le_s (qv_le_s (qv_le_s (qv_le_s (qv_le_n qv_le_0)))))))) (?_ : qv_J l g mX8_lands 50 [some (.ref a0), some (.int a1), none, some (.int a3), some (.int a2), some (.int (0 : Int32)), some (.int (0 : Int32)), none] [] h (some (.int r), hz))
        revert e5
        suffices lj10 : ∀ (x1 : Int32) (x2 : Int32) (x3 : Int32), qv_it _ n11 (x1, x2, x3) = some y13 → qv_J l g mX8_lands 50 [some (.ref a0), some (.int a1), none, some (.int a3), some (.int x1), some (.int x2), some (.int x3), none] [] h (some (.int r), hz) from lj10 a2 (0 : Int32) (0 : Int32)
        induction n11 with
        | zero =>
          intro x1 x2 x3 e5
          cases e5
        | succ n11 ih7 =>
          intro x1 x2 x3 e5
          obtain ⟨_, hs, eb8⟩ := qv_it_s e5
          dsimp only at hs
          refine qv_iload dX8_lands_50 rfl ?_
          refine qv_iload_n dX8_lands_52 (i := 1) rfl rfl ?_
          by_cases c12 : a1 ≤ x3
          · have hs := qv_pos c12 hs
            refine qv_icmp_ge (tgt := 129) dX8_lands_53 rfl (fun _ => ?_) (fun q => absurd c12 q)
            cases hs
            cases qv_nx_r eb8
            exact qv_dp (qv_le_n (qv_le_n (qv_le_n (qv_le_n (qv_le_n (qv_le_s (qv_le_n (qv_le_n qv_le_0)))))))) K4
          · have hs := qv_neg c12 hs
            refine qv_icmp_ge (tgt := 129) dX8_lands_53 rfl (fun q => absurd q c12) (fun _ => ?_)
            refine qv_iload dX8_lands_56 rfl ?_
            refine qv_ldc qK_X8_252 dX8_lands_58 ?_
            refine qv_imul dX8_lands_60 ?_
            refine qv_ldc qK_X8_253 dX8_lands_61 ?_
            refine qv_iadd dX8_lands_63 ?_
            refine qv_istore (lo2 := [some (.ref a0), some (.int a1), none, some (.int a3), some (.int ((x1 * (1664525 : Int32)) + (1013904223 : Int32))), some (.int x2), some (.int x3), none]) dX8_lands_64 (by decide) rfl (Nat.le_of_ble_eq_true rfl) rfl ?_
            refine qv_iload dX8_lands_66 rfl ?_
            refine qv_ldc qK_X8_254 dX8_lands_68 ?_
            refine qv_iand dX8_lands_70 ?_
            refine qv_sipush (v := (256 : Int32)) dX8_lands_71 rfl ?_
            refine qv_idiv dX8_lands_74 (by decide) ?_
            refine qv_sipush (v := (1024 : Int32)) dX8_lands_75 rfl ?_
            refine qv_irem dX8_lands_78 (by decide) ?_
            refine qv_aload_n dX8_lands_79 (i := 0) rfl rfl ?_
            obtain ⟨v4, e13, hs⟩ := qv_bind hs
            refine qv_getR dX8_lands_80 qF_X8_42 e13 ?_
            obtain ⟨v5, e14, hs⟩ := qv_bind hs
            refine qv_getI dX8_lands_83 qF_X8_172 e14 ?_
            refine qv_iand dX8_lands_86 ?_
            refine qv_istore (lo2 := [some (.ref a0), some (.int a1), none, some (.int a3), some (.int ((x1 * (1664525 : Int32)) + (1013904223 : Int32))), some (.int x2), some (.int x3), some (.int ((((((x1 * (1664525 : Int32)) + (1013904223 : Int32)) &&& (2147483647 : Int32)) / (256 : Int32)) - ((((x1 * (1664525 : Int32)) + (1013904223 : Int32)) &&& (2147483647 : Int32)) / (256 : Int32)) / (1024 : Int32) * (1024 : Int32)) &&& v5))]) dX8_lands_87 (by decide) rfl (Nat.le_of_ble_eq_true rfl) rfl ?_
            refine qv_iload_n dX8_lands_89 (i := 3) rfl rfl ?_
            obtain ⟨m12, hj16, hs⟩ := qv_bind hs
            have K15 : qv_J l g mX8_lands 123 [some (.ref a0), some (.int a1), none, some (.int a3), some (.int ((x1 * (1664525 : Int32)) + (1013904223 : Int32))), some (.int m12), some (.int x3), none] [] h (some (.int r), hz) := by
              refine qv_iinc (v := x3 + (1 : Int32)) (lo2 := [some (.ref a0), some (.int a1), none, some (.int a3), some (.int ((x1 * (1664525 : Int32)) + (1013904223 : Int32))), some (.int m12), some (.int (x3 + (1 : Int32))), none]) dX8_lands_123 rfl rfl (by decide) rfl rfl ?_
              refine qv_goto (tgt := 50) dX8_lands_126 rfl ?_
              cases hs
              exact qv_dp (qv_le_s (qv_le_s (qv_le_n (qv_le_s (qv_le_s (qv_le_s (qv_le_s (qv_le_n qv_le_0)))))))) (ih7 _ _ _ (qv_nx_l eb8))
            replace hs := hj16
            by_cases c17 : a3 = 0
            · have hs := qv_pos c17 hs
              refine qv_if_ne (tgt := 108) dX8_lands_90 rfl (fun q => absurd c17 q) (fun _ => ?_)
              refine qv_aload_n dX8_lands_93 (i := 0) rfl rfl ?_
              obtain ⟨v9, e18, hs⟩ := qv_bind hs
              refine qv_getR dX8_lands_94 qF_X8_42 e18 ?_
              refine qv_iload dX8_lands_97 rfl ?_
              obtain ⟨u10, e19, hs⟩ := qv_bind hs
              obtain ⟨v11, e20, hs⟩ := qv_bind hs
              refine qv_cV (d2 := mX7_isFitting) (o := v9) (ci := 6) (r := some (.int v11)) (h2 := h) (av := [.int ((((((x1 * (1664525 : Int32)) + (1013904223 : Int32)) &&& (2147483647 : Int32)) / (256 : Int32)) - ((((x1 * (1664525 : Int32)) + (1013904223 : Int32)) &&& (2147483647 : Int32)) / (256 : Int32)) / (1024 : Int32) * (1024 : Int32)) &&& v5)]) (st := []) dX8_lands_99 qM_X8_139 qD_X7_isFitting e19 rfl rfl ⟨by decide, by decide⟩ rfl (Nat.le_of_ble_eq_true rfl) (Nat.le_of_ble_eq_true rfl) (sX7_isFitting e20) rfl ?_
              by_cases c21 : v11 = 0
              · have hs := qv_pos c21 hs
                refine qv_if_eq (tgt := 123) dX8_lands_102 rfl (fun _ => ?_) (fun q => absurd c21 q)
                cases hs
                exact qv_dp (qv_le_s (qv_le_s (qv_le_n (qv_le_s (qv_le_s (qv_le_s (qv_le_s (qv_le_n qv_le_0)))))))) K15
              · have hs := qv_neg c21 hs
                refine qv_if_eq (tgt := 123) dX8_lands_102 rfl (fun q => absurd q c21) (fun _ => ?_)
                refine qv_goto (tgt := 120) dX8_lands_105 rfl ?_
                refine qv_iinc (v := x2 + (1 : Int32)) (lo2 := [some (.ref a0), some (.int a1), none, some (.int a3), some (.int ((x1 * (1664525 : Int32)) + (1013904223 : Int32))), some (.int (x2 + (1 : Int32))), some (.int x3), some (.int ((((((x1 * (1664525 : Int32)) + (1013904223 : Int32)) &&& (2147483647 : Int32)) / (256 : Int32)) - ((((x1 * (1664525 : Int32)) + (1013904223 : Int32)) &&& (2147483647 : Int32)) / (256 : Int32)) / (1024 : Int32) * (1024 : Int32)) &&& v5))]) dX8_lands_120 rfl rfl (by decide) rfl rfl ?_
                cases hs
                exact qv_dp (qv_le_s (qv_le_s (qv_le_n (qv_le_s (qv_le_s (qv_le_s (qv_le_s (qv_le_n qv_le_0)))))))) K15
            · have hs := qv_neg c17 hs
              refine qv_if_ne (tgt := 108) dX8_lands_90 rfl (fun _ => ?_) (fun q => absurd q c17)
              refine qv_aload_n dX8_lands_108 (i := 0) rfl rfl ?_
              obtain ⟨v6, e22, hs⟩ := qv_bind hs
              refine qv_getR dX8_lands_109 qF_X8_42 e22 ?_
              refine qv_iload dX8_lands_112 rfl ?_
              obtain ⟨u7, e23, hs⟩ := qv_bind hs
              obtain ⟨v8, e24, hs⟩ := qv_bind hs
              refine qv_cV (d2 := mX7_isGood) (o := v6) (ci := 6) (r := some (.int v8)) (h2 := h) (av := [.int ((((((x1 * (1664525 : Int32)) + (1013904223 : Int32)) &&& (2147483647 : Int32)) / (256 : Int32)) - ((((x1 * (1664525 : Int32)) + (1013904223 : Int32)) &&& (2147483647 : Int32)) / (256 : Int32)) / (1024 : Int32) * (1024 : Int32)) &&& v5)]) (st := []) dX8_lands_114 qM_X8_142 qD_X7_isGood e23 rfl rfl ⟨by decide, by decide⟩ rfl (Nat.le_of_ble_eq_true rfl) (Nat.le_of_ble_eq_true rfl) (sX7_isGood e24) rfl ?_
              by_cases c25 : v8 = 0
              · have hs := qv_pos c25 hs
                refine qv_if_eq (tgt := 123) dX8_lands_117 rfl (fun _ => ?_) (fun q => absurd c25 q)
                cases hs
                exact qv_dp (qv_le_s (qv_le_s (qv_le_n (qv_le_s (qv_le_s (qv_le_s (qv_le_s (qv_le_n qv_le_0)))))))) K15
              · have hs := qv_neg c25 hs
                refine qv_if_eq (tgt := 123) dX8_lands_117 rfl (fun q => absurd q c25) (fun _ => ?_)
                refine qv_iinc (v := x2 + (1 : Int32)) (lo2 := [some (.ref a0), some (.int a1), none, some (.int a3), some (.int ((x1 * (1664525 : Int32)) + (1013904223 : Int32))), some (.int (x2 + (1 : Int32))), some (.int x3), some (.int ((((((x1 * (1664525 : Int32)) + (1013904223 : Int32)) &&& (2147483647 : Int32)) / (256 : Int32)) - ((((x1 * (1664525 : Int32)) + (1013904223 : Int32)) &&& (2147483647 : Int32)) / (256 : Int32)) / (1024 : Int32) * (1024 : Int32)) &&& v5))]) dX8_lands_120 rfl rfl (by decide) rfl rfl ?_
                cases hs
                exact qv_dp (qv_le_s (qv_le_s (qv_le_n (qv_le_s (qv_le_s (qv_le_s (qv_le_s (qv_le_n qv_le_0)))))))) K15
      · have hs := qv_neg c3 hs
        refine qv_if_eq (tgt := 41) dX8_lands_26 rfl (fun q => absurd q c3) (fun _ => ?_)
        refine qv_iload_n dX8_lands_29 (i := 3) rfl rfl ?_
        refine qv_iconst (v := (1 : Int32)) dX8_lands_30 rfl ?_
        by_cases c26 : a3 = (1 : Int32)
        · have hs := qv_pos c26 hs
          refine qv_icmp_eq (tgt := 41) dX8_lands_31 rfl (fun _ => ?_) (fun q => absurd c26 q)
          refine qv_iload_n dX8_lands_41 (i := 2) rfl rfl ?_
          refine qv_istore (lo2 := [some (.ref a0), some (.int a1), some (.int a2), some (.int a3), some (.int a2), none, none, none]) dX8_lands_42 (by decide) rfl (Nat.le_of_ble_eq_true rfl) rfl ?_
          refine qv_iconst (v := (0 : Int32)) dX8_lands_44 rfl ?_
          refine qv_istore (lo2 := [some (.ref a0), some (.int a1), some (.int a2), some (.int a3), some (.int a2), some (.int (0 : Int32)), none, none]) dX8_lands_45 (by decide) rfl (Nat.le_of_ble_eq_true rfl) rfl ?_
          refine qv_iconst (v := (0 : Int32)) dX8_lands_47 rfl ?_
          refine qv_istore (lo2 := [some (.ref a0), some (.int a1), some (.int a2), some (.int a3), some (.int a2), some (.int (0 : Int32)), some (.int (0 : Int32)), none]) dX8_lands_48 (by decide) rfl (Nat.le_of_ble_eq_true rfl) rfl ?_
          obtain ⟨y26, e28, hs⟩ := qv_bind hs
          have K27 : qv_J l g mX8_lands 129 [none, none, none, none, none, some (.int y26), none, none] [] h (some (.int r), hz) := by
            refine qv_iload dX8_lands_129 rfl ?_
            obtain ⟨rfl, rfl⟩ := qv_pr hs
            exact qv_iret dX8_lands_131 rfl
          obtain ⟨n34, e28⟩ := qv_loop_of e28
          refine qv_dp (qv_le_s (qv_le_s (qv_le_n (qv_le_s (qv_le_s (qv_le_s (qv_le_s (qv_le_n qv_le_0)))))))) (?_ : qv_J l g mX8_lands 50 [some (.ref a0), some (.int a1), none, some (.int a3), some (.int a2), some (.int (0 : Int32)), some (.int (0 : Int32)), none] [] h (some (.int r), hz))
          revert e28
          suffices lj33 : ∀ (x14 : Int32) (x15 : Int32) (x16 : Int32), qv_it _ n34 (x14, x15, x16) = some y26 → qv_J l g mX8_lands 50 [some (.ref a0), some (.int a1), none, some (.int a3), some (.int x14), some (.int x15), some (.int x16), none] [] h (some (.int r), hz) from lj33 a2 (0 : Int32) (0 : Int32)
          induction n34 with
          | zero =>
            intro x14 x15 x16 e28
            cases e28
          | succ n34 ih30 =>
            intro x14 x15 x16 e28
            obtain ⟨_, hs, eb31⟩ := qv_it_s e28
            dsimp only at hs
            refine qv_iload dX8_lands_50 rfl ?_
            refine qv_iload_n dX8_lands_52 (i := 1) rfl rfl ?_
            by_cases c35 : a1 ≤ x16
            · have hs := qv_pos c35 hs
              refine qv_icmp_ge (tgt := 129) dX8_lands_53 rfl (fun _ => ?_) (fun q => absurd c35 q)
              cases hs
              cases qv_nx_r eb31
              exact qv_dp (qv_le_n (qv_le_n (qv_le_n (qv_le_n (qv_le_n (qv_le_s (qv_le_n (qv_le_n qv_le_0)))))))) K27
            · have hs := qv_neg c35 hs
              refine qv_icmp_ge (tgt := 129) dX8_lands_53 rfl (fun q => absurd q c35) (fun _ => ?_)
              refine qv_iload dX8_lands_56 rfl ?_
              refine qv_ldc qK_X8_252 dX8_lands_58 ?_
              refine qv_imul dX8_lands_60 ?_
              refine qv_ldc qK_X8_253 dX8_lands_61 ?_
              refine qv_iadd dX8_lands_63 ?_
              refine qv_istore (lo2 := [some (.ref a0), some (.int a1), none, some (.int a3), some (.int ((x14 * (1664525 : Int32)) + (1013904223 : Int32))), some (.int x15), some (.int x16), none]) dX8_lands_64 (by decide) rfl (Nat.le_of_ble_eq_true rfl) rfl ?_
              refine qv_iload dX8_lands_66 rfl ?_
              refine qv_ldc qK_X8_254 dX8_lands_68 ?_
              refine qv_iand dX8_lands_70 ?_
              refine qv_sipush (v := (256 : Int32)) dX8_lands_71 rfl ?_
              refine qv_idiv dX8_lands_74 (by decide) ?_
              refine qv_sipush (v := (1024 : Int32)) dX8_lands_75 rfl ?_
              refine qv_irem dX8_lands_78 (by decide) ?_
              refine qv_aload_n dX8_lands_79 (i := 0) rfl rfl ?_
              obtain ⟨v17, e36, hs⟩ := qv_bind hs
              refine qv_getR dX8_lands_80 qF_X8_42 e36 ?_
              obtain ⟨v18, e37, hs⟩ := qv_bind hs
              refine qv_getI dX8_lands_83 qF_X8_172 e37 ?_
              refine qv_iand dX8_lands_86 ?_
              refine qv_istore (lo2 := [some (.ref a0), some (.int a1), none, some (.int a3), some (.int ((x14 * (1664525 : Int32)) + (1013904223 : Int32))), some (.int x15), some (.int x16), some (.int ((((((x14 * (1664525 : Int32)) + (1013904223 : Int32)) &&& (2147483647 : Int32)) / (256 : Int32)) - ((((x14 * (1664525 : Int32)) + (1013904223 : Int32)) &&& (2147483647 : Int32)) / (256 : Int32)) / (1024 : Int32) * (1024 : Int32)) &&& v18))]) dX8_lands_87 (by decide) rfl (Nat.le_of_ble_eq_true rfl) rfl ?_
              refine qv_iload_n dX8_lands_89 (i := 3) rfl rfl ?_
              obtain ⟨m25, hj39, hs⟩ := qv_bind hs
              have K38 : qv_J l g mX8_lands 123 [some (.ref a0), some (.int a1), none, some (.int a3), some (.int ((x14 * (1664525 : Int32)) + (1013904223 : Int32))), some (.int m25), some (.int x16), none] [] h (some (.int r), hz) := by
                refine qv_iinc (v := x16 + (1 : Int32)) (lo2 := [some (.ref a0), some (.int a1), none, some (.int a3), some (.int ((x14 * (1664525 : Int32)) + (1013904223 : Int32))), some (.int m25), some (.int (x16 + (1 : Int32))), none]) dX8_lands_123 rfl rfl (by decide) rfl rfl ?_
                refine qv_goto (tgt := 50) dX8_lands_126 rfl ?_
                cases hs
                exact qv_dp (qv_le_s (qv_le_s (qv_le_n (qv_le_s (qv_le_s (qv_le_s (qv_le_s (qv_le_n qv_le_0)))))))) (ih30 _ _ _ (qv_nx_l eb31))
              replace hs := hj39
              by_cases c40 : a3 = 0
              · have hs := qv_pos c40 hs
                refine qv_if_ne (tgt := 108) dX8_lands_90 rfl (fun q => absurd c40 q) (fun _ => ?_)
                refine qv_aload_n dX8_lands_93 (i := 0) rfl rfl ?_
                obtain ⟨v22, e41, hs⟩ := qv_bind hs
                refine qv_getR dX8_lands_94 qF_X8_42 e41 ?_
                refine qv_iload dX8_lands_97 rfl ?_
                obtain ⟨u23, e42, hs⟩ := qv_bind hs
                obtain ⟨v24, e43, hs⟩ := qv_bind hs
                refine qv_cV (d2 := mX7_isFitting) (o := v22) (ci := 6) (r := some (.int v24)) (h2 := h) (av := [.int ((((((x14 * (1664525 : Int32)) + (1013904223 : Int32)) &&& (2147483647 : Int32)) / (256 : Int32)) - ((((x14 * (1664525 : Int32)) + (1013904223 : Int32)) &&& (2147483647 : Int32)) / (256 : Int32)) / (1024 : Int32) * (1024 : Int32)) &&& v18)]) (st := []) dX8_lands_99 qM_X8_139 qD_X7_isFitting e42 rfl rfl ⟨by decide, by decide⟩ rfl (Nat.le_of_ble_eq_true rfl) (Nat.le_of_ble_eq_true rfl) (sX7_isFitting e43) rfl ?_
                by_cases c44 : v24 = 0
                · have hs := qv_pos c44 hs
                  refine qv_if_eq (tgt := 123) dX8_lands_102 rfl (fun _ => ?_) (fun q => absurd c44 q)
                  cases hs
                  exact qv_dp (qv_le_s (qv_le_s (qv_le_n (qv_le_s (qv_le_s (qv_le_s (qv_le_s (qv_le_n qv_le_0)))))))) K38
                · have hs := qv_neg c44 hs
                  refine qv_if_eq (tgt := 123) dX8_lands_102 rfl (fun q => absurd q c44) (fun _ => ?_)
                  refine qv_goto (tgt := 120) dX8_lands_105 rfl ?_
                  refine qv_iinc (v := x15 + (1 : Int32)) (lo2 := [some (.ref a0), some (.int a1), none, some (.int a3), some (.int ((x14 * (1664525 : Int32)) + (1013904223 : Int32))), some (.int (x15 + (1 : Int32))), some (.int x16), some (.int ((((((x14 * (1664525 : Int32)) + (1013904223 : Int32)) &&& (2147483647 : Int32)) / (256 : Int32)) - ((((x14 * (1664525 : Int32)) + (1013904223 : Int32)) &&& (2147483647 : Int32)) / (256 : Int32)) / (1024 : Int32) * (1024 : Int32)) &&& v18))]) dX8_lands_120 rfl rfl (by decide) rfl rfl ?_
                  cases hs
                  exact qv_dp (qv_le_s (qv_le_s (qv_le_n (qv_le_s (qv_le_s (qv_le_s (qv_le_s (qv_le_n qv_le_0)))))))) K38
              · have hs := qv_neg c40 hs
                refine qv_if_ne (tgt := 108) dX8_lands_90 rfl (fun _ => ?_) (fun q => absurd q c40)
                refine qv_aload_n dX8_lands_108 (i := 0) rfl rfl ?_
                obtain ⟨v19, e45, hs⟩ := qv_bind hs
                refine qv_getR dX8_lands_109 qF_X8_42 e45 ?_
                refine qv_iload dX8_lands_112 rfl ?_
                obtain ⟨u20, e46, hs⟩ := qv_bind hs
                obtain ⟨v21, e47, hs⟩ := qv_bind hs
                refine qv_cV (d2 := mX7_isGood) (o := v19) (ci := 6) (r := some (.int v21)) (h2 := h) (av := [.int ((((((x14 * (1664525 : Int32)) + (1013904223 : Int32)) &&& (2147483647 : Int32)) / (256 : Int32)) - ((((x14 * (1664525 : Int32)) + (1013904223 : Int32)) &&& (2147483647 : Int32)) / (256 : Int32)) / (1024 : Int32) * (1024 : Int32)) &&& v18)]) (st := []) dX8_lands_114 qM_X8_142 qD_X7_isGood e46 rfl rfl ⟨by decide, by decide⟩ rfl (Nat.le_of_ble_eq_true rfl) (Nat.le_of_ble_eq_true rfl) (sX7_isGood e47) rfl ?_
                by_cases c48 : v21 = 0
                · have hs := qv_pos c48 hs
                  refine qv_if_eq (tgt := 123) dX8_lands_117 rfl (fun _ => ?_) (fun q => absurd c48 q)
                  cases hs
                  exact qv_dp (qv_le_s (qv_le_s (qv_le_n (qv_le_s (qv_le_s (qv_le_s (qv_le_s (qv_le_n qv_le_0)))))))) K38
                · have hs := qv_neg c48 hs
                  refine qv_if_eq (tgt := 123) dX8_lands_117 rfl (fun q => absurd q c48) (fun _ => ?_)
                  refine qv_iinc (v := x15 + (1 : Int32)) (lo2 := [some (.ref a0), some (.int a1), none, some (.int a3), some (.int ((x14 * (1664525 : Int32)) + (1013904223 : Int32))), some (.int (x15 + (1 : Int32))), some (.int x16), some (.int ((((((x14 * (1664525 : Int32)) + (1013904223 : Int32)) &&& (2147483647 : Int32)) / (256 : Int32)) - ((((x14 * (1664525 : Int32)) + (1013904223 : Int32)) &&& (2147483647 : Int32)) / (256 : Int32)) / (1024 : Int32) * (1024 : Int32)) &&& v18))]) dX8_lands_120 rfl rfl (by decide) rfl rfl ?_
                  cases hs
                  exact qv_dp (qv_le_s (qv_le_s (qv_le_n (qv_le_s (qv_le_s (qv_le_s (qv_le_s (qv_le_n qv_le_0)))))))) K38
        · have hs := qv_neg c26 hs
          refine qv_icmp_eq (tgt := 41) dX8_lands_31 rfl (fun q => absurd q c26) (fun _ => ?_)
          refine qv_aload_n dX8_lands_34 (i := 0) rfl rfl ?_
          refine qv_bipush (v := (-2 : Int32)) dX8_lands_35 rfl ?_
          obtain ⟨u27, e49, hs⟩ := qv_bind hs
          obtain ⟨⟨v28, h29⟩, e50, hs⟩ := qv_bind hs
          dsimp only at hs
          refine qv_cV (d2 := mX8_refuse) (o := a0) (ci := 7) (r := some (.int v28)) (h2 := h29) (av := [.int (-2 : Int32)]) (st := []) dX8_lands_37 qM_X8_83 qD_X8_refuse e49 rfl rfl ⟨by decide, by decide⟩ rfl (Nat.le_of_ble_eq_true rfl) (Nat.le_of_ble_eq_true rfl) (sX8_refuse e50) rfl ?_
          obtain ⟨rfl, rfl⟩ := qv_pr hs
          exact qv_iret dX8_lands_40 rfl
    · have hs := qv_neg c2 hs
      refine qv_icmp_le (tgt := 25) dX8_lands_15 rfl (fun q => absurd q c2) (fun _ => ?_)
      refine qv_aload_n dX8_lands_18 (i := 0) rfl rfl ?_
      refine qv_bipush (v := (-6 : Int32)) dX8_lands_19 rfl ?_
      obtain ⟨u30, e51, hs⟩ := qv_bind hs
      obtain ⟨⟨v31, h32⟩, e52, hs⟩ := qv_bind hs
      dsimp only at hs
      refine qv_cV (d2 := mX8_refuse) (o := a0) (ci := 7) (r := some (.int v31)) (h2 := h32) (av := [.int (-6 : Int32)]) (st := []) dX8_lands_21 qM_X8_83 qD_X8_refuse e51 rfl rfl ⟨by decide, by decide⟩ rfl (Nat.le_of_ble_eq_true rfl) (Nat.le_of_ble_eq_true rfl) (sX8_refuse e52) rfl ?_
      obtain ⟨rfl, rfl⟩ := qv_pr hs
      exact qv_iret dX8_lands_24 rfl
  · have hs := qv_neg c1 hs
    refine qv_icmp_ge (tgt := 12) dX8_lands_2 rfl (fun q => absurd q c1) (fun _ => ?_)
    refine qv_aload_n dX8_lands_5 (i := 0) rfl rfl ?_
    refine qv_bipush (v := (-4 : Int32)) dX8_lands_6 rfl ?_
    obtain ⟨u33, e53, hs⟩ := qv_bind hs
    obtain ⟨⟨v34, h35⟩, e54, hs⟩ := qv_bind hs
    dsimp only at hs
    refine qv_cV (d2 := mX8_refuse) (o := a0) (ci := 7) (r := some (.int v34)) (h2 := h35) (av := [.int (-4 : Int32)]) (st := []) dX8_lands_8 qM_X8_83 qD_X8_refuse e53 rfl rfl ⟨by decide, by decide⟩ rfl (Nat.le_of_ble_eq_true rfl) (Nat.le_of_ble_eq_true rfl) (sX8_refuse e54) rfl ?_
    obtain ⟨rfl, rfl⟩ := qv_pr hs
    exact qv_iret dX8_lands_11 rfl
theorem qD_X8_lands : qv_DV mX8_lands 3 := ⟨(qv_i12 (List.mem_of_getElem? (i := 0) (by decide +kernel))), (qv_i12 (List.mem_of_getElem? (i := 1) (by decide +kernel))), (qv_i1 (List.mem_of_getElem? (i := 5) (by decide +kernel))), (qv_i12 (List.mem_of_getElem? (i := 2) (by decide +kernel))), by decide +kernel, by decide +kernel⟩
/-- TrueOneWay.judge(I)I -/
noncomputable def fX8_judge (a0 : Nat) (a1 : Int32) (h : qv_H) : Option (Int32 × qv_H) :=
  (qv_gR h 7 a0 6).bind fun v1 =>
  (qv_ob h 6 v1).bind fun _ =>
  (fX7_has v1 a1 h).bind fun v3 =>
  if v3 = 0 then
    (qv_ob h 7 a0).bind fun _ =>
    (fX8_refuse a0 (-1 : Int32) h).bind fun (v12, h13) =>
    some (v12, h13)
  else
    (qv_gR h 7 a0 4).bind fun v4 =>
    (qv_ob h 1 v4).bind fun _ =>
    (fX2_firstBroken v4 a1 h).bind fun v6 =>
    if v6 < 0 then
      (qv_gR h 7 a0 1).bind fun v7 =>
      (qv_ob h 2 v7).bind fun _ =>
      (fX3_firstMisfit v7 a1 h).bind fun v9 =>
      Option.bind (α := Int32) (
          if v9 < 0 then
            some (-9 : Int32)
          else
            some ((100 : Int32) + v9)
        ) fun m10 =>
      some (m10, h)
    else
      some (v6, h)
abbrev mX8_judge : qv_M := (yX8_judge, cX8_judge, 4, (Option.some Jvm.ClassFile.FieldType.int), 4, 89)
set_option maxRecDepth 100000 in
set_option maxHeartbeats 4000000 in
theorem sX8_judge {l : Launch} {g : qv_G} {a0 : Nat} {a1 : Int32} {h : qv_H} {r : Int32} {hz : qv_H} (hs : fX8_judge a0 a1 h = some (r, hz)) : qv_J l g mX8_judge 0 [some (.ref a0), some (.int a1), none, none] [] h (some (.int r), hz) := by
  unfold fX8_judge at hs
  refine qv_aload_n dX8_judge_0 (i := 0) rfl rfl ?_
  obtain ⟨v1, e1, hs⟩ := qv_bind hs
  refine qv_getR dX8_judge_1 qF_X8_42 e1 ?_
  refine qv_iload_n dX8_judge_4 (i := 1) rfl rfl ?_
  obtain ⟨u2, e2, hs⟩ := qv_bind hs
  obtain ⟨v3, e3, hs⟩ := qv_bind hs
  refine qv_cV (d2 := mX7_has) (o := v1) (ci := 6) (r := some (.int v3)) (h2 := h) (av := [.int a1]) (st := []) dX8_judge_5 qM_X8_136 qD_X7_has e2 rfl rfl ⟨by decide, by decide⟩ rfl (Nat.le_of_ble_eq_true rfl) (Nat.le_of_ble_eq_true rfl) (sX7_has e3) rfl ?_
  by_cases c4 : v3 = 0
  · have hs := qv_pos c4 hs
    refine qv_if_ne (tgt := 17) dX8_judge_8 rfl (fun q => absurd c4 q) (fun _ => ?_)
    refine qv_aload_n dX8_judge_11 (i := 0) rfl rfl ?_
    refine qv_iconst (v := (-1 : Int32)) dX8_judge_12 rfl ?_
    obtain ⟨u11, e5, hs⟩ := qv_bind hs
    obtain ⟨⟨v12, h13⟩, e6, hs⟩ := qv_bind hs
    dsimp only at hs
    refine qv_cV (d2 := mX8_refuse) (o := a0) (ci := 7) (r := some (.int v12)) (h2 := h13) (av := [.int (-1 : Int32)]) (st := []) dX8_judge_13 qM_X8_83 qD_X8_refuse e5 rfl rfl ⟨by decide, by decide⟩ rfl (Nat.le_of_ble_eq_true rfl) (Nat.le_of_ble_eq_true rfl) (sX8_refuse e6) rfl ?_
    obtain ⟨rfl, rfl⟩ := qv_pr hs
    exact qv_iret dX8_judge_16 rfl
  · have hs := qv_neg c4 hs
    refine qv_if_ne (tgt := 17) dX8_judge_8 rfl (fun _ => ?_) (fun q => absurd q c4)
    refine qv_aload_n dX8_judge_17 (i := 0) rfl rfl ?_
    obtain ⟨v4, e7, hs⟩ := qv_bind hs
    refine qv_getR dX8_judge_18 qF_X8_32 e7 ?_
    refine qv_iload_n dX8_judge_21 (i := 1) rfl rfl ?_
    obtain ⟨u5, e8, hs⟩ := qv_bind hs
    obtain ⟨v6, e9, hs⟩ := qv_bind hs
    refine qv_cV (d2 := mX2_firstBroken) (o := v4) (ci := 1) (r := some (.int v6)) (h2 := h) (av := [.int a1]) (st := []) dX8_judge_22 qM_X8_255 qD_X2_firstBroken e8 rfl rfl ⟨by decide, by decide⟩ rfl (Nat.le_of_ble_eq_true rfl) (Nat.le_of_ble_eq_true rfl) (sX2_firstBroken e9) rfl ?_
    refine qv_istore_n (lo2 := [some (.ref a0), some (.int a1), some (.int v6), none]) dX8_judge_25 (i := 2) rfl (by decide) rfl (Nat.le_of_ble_eq_true rfl) rfl ?_
    refine qv_iload_n dX8_judge_26 (i := 2) rfl rfl ?_
    by_cases c10 : v6 < 0
    · have hs := qv_pos c10 hs
      refine qv_if_lt (tgt := 32) dX8_judge_27 rfl (fun _ => ?_) (fun q => absurd c10 q)
      refine qv_aload_n dX8_judge_32 (i := 0) rfl rfl ?_
      obtain ⟨v7, e11, hs⟩ := qv_bind hs
      refine qv_getR dX8_judge_33 qF_X8_19 e11 ?_
      refine qv_iload_n dX8_judge_36 (i := 1) rfl rfl ?_
      obtain ⟨u8, e12, hs⟩ := qv_bind hs
      obtain ⟨v9, e13, hs⟩ := qv_bind hs
      refine qv_cV (d2 := mX3_firstMisfit) (o := v7) (ci := 2) (r := some (.int v9)) (h2 := h) (av := [.int a1]) (st := []) dX8_judge_37 qM_X8_258 qD_X3_firstMisfit e12 rfl rfl ⟨by decide, by decide⟩ rfl (Nat.le_of_ble_eq_true rfl) (Nat.le_of_ble_eq_true rfl) (sX3_firstMisfit e13) rfl ?_
      refine qv_istore_n (lo2 := [some (.ref a0), some (.int a1), some (.int v6), some (.int v9)]) dX8_judge_40 (i := 3) rfl (by decide) rfl (Nat.le_of_ble_eq_true rfl) rfl ?_
      refine qv_iload_n dX8_judge_41 (i := 3) rfl rfl ?_
      obtain ⟨m10, hj15, hs⟩ := qv_bind hs
      have K14 : qv_J l g mX8_judge 54 [none, none, none, none] [.int m10] h (some (.int r), hz) := by
        obtain ⟨rfl, rfl⟩ := qv_pr hs
        exact qv_iret dX8_judge_54 rfl
      replace hs := hj15
      by_cases c16 : v9 < 0
      · have hs := qv_pos c16 hs
        refine qv_if_lt (tgt := 52) dX8_judge_42 rfl (fun _ => ?_) (fun q => absurd c16 q)
        refine qv_bipush (v := (-9 : Int32)) dX8_judge_52 rfl ?_
        cases hs
        exact qv_dp (qv_le_n (qv_le_n (qv_le_n (qv_le_n qv_le_0)))) K14
      · have hs := qv_neg c16 hs
        refine qv_if_lt (tgt := 52) dX8_judge_42 rfl (fun q => absurd q c16) (fun _ => ?_)
        refine qv_bipush (v := (100 : Int32)) dX8_judge_45 rfl ?_
        refine qv_iload_n dX8_judge_47 (i := 3) rfl rfl ?_
        refine qv_iadd dX8_judge_48 ?_
        refine qv_goto (tgt := 54) dX8_judge_49 rfl ?_
        cases hs
        exact qv_dp (qv_le_n (qv_le_n (qv_le_n (qv_le_n qv_le_0)))) K14
    · have hs := qv_neg c10 hs
      refine qv_if_lt (tgt := 32) dX8_judge_27 rfl (fun q => absurd q c10) (fun _ => ?_)
      refine qv_iload_n dX8_judge_30 (i := 2) rfl rfl ?_
      obtain ⟨rfl, rfl⟩ := qv_pr hs
      exact qv_iret dX8_judge_31 rfl
theorem qD_X8_judge : qv_DV mX8_judge 1 := ⟨(qv_i12 (List.mem_of_getElem? (i := 7) (by decide +kernel))), (qv_i12 (List.mem_of_getElem? (i := 8) (by decide +kernel))), (qv_i1 (List.mem_of_getElem? (i := 5) (by decide +kernel))), (qv_i12 (List.mem_of_getElem? (i := 9) (by decide +kernel))), by decide +kernel, by decide +kernel⟩
/-- TrueOneWay.image()I -/
noncomputable def fX8_image (a0 : Nat) (h : qv_H) : Option (Int32 × qv_H) :=
  (qv_gR h 7 a0 3).bind fun v1 =>
  (qv_gR h 7 a0 1).bind fun v2 =>
  (qv_ob h 2 v1).bind fun _ =>
  (fX3_become v1 v2 h).bind fun h4 =>
  (qv_gR h4 7 a0 5).bind fun v5 =>
  (qv_gR h4 7 a0 4).bind fun v6 =>
  (qv_ob h4 1 v5).bind fun _ =>
  (fX2_become v5 v6 h4).bind fun h8 =>
  (qv_pZ h8 7 a0 11 (1 : Int32)).bind fun h9 =>
  (qv_gR h9 7 a0 4).bind fun v10 =>
  (qv_gI h9 1 v10 0).bind fun v11 =>
  some (v11, h9)
abbrev mX8_image : qv_M := (yX8_image, cX8_image, 1, (Option.some Jvm.ClassFile.FieldType.int), 2, 61)
set_option maxRecDepth 100000 in
set_option maxHeartbeats 4000000 in
theorem sX8_image {l : Launch} {g : qv_G} {a0 : Nat} {h : qv_H} {r : Int32} {hz : qv_H} (hs : fX8_image a0 h = some (r, hz)) : qv_J l g mX8_image 0 [some (.ref a0)] [] h (some (.int r), hz) := by
  unfold fX8_image at hs
  refine qv_aload_n dX8_image_0 (i := 0) rfl rfl ?_
  obtain ⟨v1, e1, hs⟩ := qv_bind hs
  refine qv_getR dX8_image_1 qF_X8_26 e1 ?_
  refine qv_aload_n dX8_image_4 (i := 0) rfl rfl ?_
  obtain ⟨v2, e2, hs⟩ := qv_bind hs
  refine qv_getR dX8_image_5 qF_X8_19 e2 ?_
  obtain ⟨u3, e3, hs⟩ := qv_bind hs
  obtain ⟨h4, e4, hs⟩ := qv_bind hs
  refine qv_cV (d2 := mX3_become) (o := v1) (ci := 2) (r := none) (h2 := h4) (av := [.ref v2]) (st := []) dX8_image_8 qM_X8_261 qD_X3_become e3 rfl rfl ⟨by decide, by decide⟩ rfl (Nat.le_of_ble_eq_true rfl) (Nat.le_of_ble_eq_true rfl) (sX3_become e4) rfl ?_
  refine qv_aload_n dX8_image_11 (i := 0) rfl rfl ?_
  obtain ⟨v5, e5, hs⟩ := qv_bind hs
  refine qv_getR dX8_image_12 qF_X8_36 e5 ?_
  refine qv_aload_n dX8_image_15 (i := 0) rfl rfl ?_
  obtain ⟨v6, e6, hs⟩ := qv_bind hs
  refine qv_getR dX8_image_16 qF_X8_32 e6 ?_
  obtain ⟨u7, e7, hs⟩ := qv_bind hs
  obtain ⟨h8, e8, hs⟩ := qv_bind hs
  refine qv_cV (d2 := mX2_become) (o := v5) (ci := 1) (r := none) (h2 := h8) (av := [.ref v6]) (st := []) dX8_image_19 qM_X8_264 qD_X2_become e7 rfl rfl ⟨by decide, by decide⟩ rfl (Nat.le_of_ble_eq_true rfl) (Nat.le_of_ble_eq_true rfl) (sX2_become e8) rfl ?_
  refine qv_aload_n dX8_image_22 (i := 0) rfl rfl ?_
  refine qv_iconst (v := (1 : Int32)) dX8_image_23 rfl ?_
  obtain ⟨h9, e9, hs⟩ := qv_bind hs
  refine qv_putZ dX8_image_24 qF_X8_71 e9 ?_
  refine qv_aload_n dX8_image_27 (i := 0) rfl rfl ?_
  obtain ⟨v10, e10, hs⟩ := qv_bind hs
  refine qv_getR dX8_image_28 qF_X8_32 e10 ?_
  obtain ⟨v11, e11, hs⟩ := qv_bind hs
  refine qv_getI dX8_image_31 qF_X8_162 e11 ?_
  obtain ⟨rfl, rfl⟩ := qv_pr hs
  exact qv_iret dX8_image_34 rfl
theorem qD_X8_image : qv_DV mX8_image 0 := ⟨(qv_i12 (List.mem_of_getElem? (i := 19) (by decide +kernel))), (qv_i12 (List.mem_of_getElem? (i := 20) (by decide +kernel))), (qv_i1 (List.mem_of_getElem? (i := 5) (by decide +kernel))), (qv_i12 (List.mem_of_getElem? (i := 21) (by decide +kernel))), by decide +kernel, by decide +kernel⟩
/-- TrueOneWay.on()I -/
noncomputable def fX8_on (a0 : Nat) (h : qv_H) : Option (Int32 × qv_H) :=
  (qv_gI h 7 a0 11).bind fun v1 =>
  if v1 = 0 then
    (qv_ob h 7 a0).bind fun _ =>
    (fX8_refuse a0 (-3 : Int32) h).bind fun (v24, h25) =>
    some (v24, h25)
  else
    (qv_gR h 7 a0 1).bind fun v2 =>
    (qv_gR h 7 a0 3).bind fun v3 =>
    (qv_ob h 2 v2).bind fun _ =>
    (fX3_become v2 v3 h).bind fun h5 =>
    (qv_gR h5 7 a0 4).bind fun v6 =>
    (qv_gR h5 7 a0 5).bind fun v7 =>
    (qv_ob h5 1 v6).bind fun _ =>
    (fX2_become v6 v7 h5).bind fun h9 =>
    (qv_gR h9 7 a0 9).bind fun v10 =>
    (qv_ob h9 3 v10).bind fun _ =>
    (fX4_clear v10 h9).bind fun h12 =>
    (qv_gR h12 7 a0 6).bind fun v13 =>
    (qv_gR h12 7 a0 1).bind fun v14 =>
    (qv_ob h12 6 v13).bind fun _ =>
    (fX7_reckon v13 v14 h12).bind fun h16 =>
    (qv_gR h16 7 a0 6).bind fun v17 =>
    (qv_gR h16 7 a0 4).bind fun v18 =>
    (qv_ob h16 6 v17).bind fun _ =>
    (fX7_sift v17 v18 h16).bind fun h20 =>
    (qv_gR h20 7 a0 4).bind fun v21 =>
    (qv_gI h20 1 v21 0).bind fun v22 =>
    some (v22, h20)
abbrev mX8_on : qv_M := (yX8_on, cX8_on, 1, (Option.some Jvm.ClassFile.FieldType.int), 5, 112)
set_option maxRecDepth 100000 in
set_option maxHeartbeats 4000000 in
theorem sX8_on {l : Launch} {g : qv_G} {a0 : Nat} {h : qv_H} {r : Int32} {hz : qv_H} (hs : fX8_on a0 h = some (r, hz)) : qv_J l g mX8_on 0 [some (.ref a0)] [] h (some (.int r), hz) := by
  unfold fX8_on at hs
  refine qv_aload_n dX8_on_0 (i := 0) rfl rfl ?_
  obtain ⟨v1, e1, hs⟩ := qv_bind hs
  refine qv_getI dX8_on_1 qF_X8_71 e1 ?_
  by_cases c2 : v1 = 0
  · have hs := qv_pos c2 hs
    refine qv_if_ne (tgt := 14) dX8_on_4 rfl (fun q => absurd c2 q) (fun _ => ?_)
    refine qv_aload_n dX8_on_7 (i := 0) rfl rfl ?_
    refine qv_bipush (v := (-3 : Int32)) dX8_on_8 rfl ?_
    obtain ⟨u23, e3, hs⟩ := qv_bind hs
    obtain ⟨⟨v24, h25⟩, e4, hs⟩ := qv_bind hs
    dsimp only at hs
    refine qv_cV (d2 := mX8_refuse) (o := a0) (ci := 7) (r := some (.int v24)) (h2 := h25) (av := [.int (-3 : Int32)]) (st := []) dX8_on_10 qM_X8_83 qD_X8_refuse e3 rfl rfl ⟨by decide, by decide⟩ rfl (Nat.le_of_ble_eq_true rfl) (Nat.le_of_ble_eq_true rfl) (sX8_refuse e4) rfl ?_
    obtain ⟨rfl, rfl⟩ := qv_pr hs
    exact qv_iret dX8_on_13 rfl
  · have hs := qv_neg c2 hs
    refine qv_if_ne (tgt := 14) dX8_on_4 rfl (fun _ => ?_) (fun q => absurd q c2)
    refine qv_aload_n dX8_on_14 (i := 0) rfl rfl ?_
    obtain ⟨v2, e5, hs⟩ := qv_bind hs
    refine qv_getR dX8_on_15 qF_X8_19 e5 ?_
    refine qv_aload_n dX8_on_18 (i := 0) rfl rfl ?_
    obtain ⟨v3, e6, hs⟩ := qv_bind hs
    refine qv_getR dX8_on_19 qF_X8_26 e6 ?_
    obtain ⟨u4, e7, hs⟩ := qv_bind hs
    obtain ⟨h5, e8, hs⟩ := qv_bind hs
    refine qv_cV (d2 := mX3_become) (o := v2) (ci := 2) (r := none) (h2 := h5) (av := [.ref v3]) (st := []) dX8_on_22 qM_X8_261 qD_X3_become e7 rfl rfl ⟨by decide, by decide⟩ rfl (Nat.le_of_ble_eq_true rfl) (Nat.le_of_ble_eq_true rfl) (sX3_become e8) rfl ?_
    refine qv_aload_n dX8_on_25 (i := 0) rfl rfl ?_
    obtain ⟨v6, e9, hs⟩ := qv_bind hs
    refine qv_getR dX8_on_26 qF_X8_32 e9 ?_
    refine qv_aload_n dX8_on_29 (i := 0) rfl rfl ?_
    obtain ⟨v7, e10, hs⟩ := qv_bind hs
    refine qv_getR dX8_on_30 qF_X8_36 e10 ?_
    obtain ⟨u8, e11, hs⟩ := qv_bind hs
    obtain ⟨h9, e12, hs⟩ := qv_bind hs
    refine qv_cV (d2 := mX2_become) (o := v6) (ci := 1) (r := none) (h2 := h9) (av := [.ref v7]) (st := []) dX8_on_33 qM_X8_264 qD_X2_become e11 rfl rfl ⟨by decide, by decide⟩ rfl (Nat.le_of_ble_eq_true rfl) (Nat.le_of_ble_eq_true rfl) (sX2_become e12) rfl ?_
    refine qv_aload_n dX8_on_36 (i := 0) rfl rfl ?_
    obtain ⟨v10, e13, hs⟩ := qv_bind hs
    refine qv_getR dX8_on_37 qF_X8_63 e13 ?_
    obtain ⟨u11, e14, hs⟩ := qv_bind hs
    obtain ⟨h12, e15, hs⟩ := qv_bind hs
    refine qv_cV (d2 := mX4_clear) (o := v10) (ci := 3) (r := none) (h2 := h12) (av := []) (st := []) dX8_on_40 qM_X8_245 qD_X4_clear e14 rfl rfl ⟨by decide, by decide⟩ rfl (Nat.le_of_ble_eq_true rfl) (Nat.le_of_ble_eq_true rfl) (sX4_clear e15) rfl ?_
    refine qv_aload_n dX8_on_43 (i := 0) rfl rfl ?_
    obtain ⟨v13, e16, hs⟩ := qv_bind hs
    refine qv_getR dX8_on_44 qF_X8_42 e16 ?_
    refine qv_aload_n dX8_on_47 (i := 0) rfl rfl ?_
    obtain ⟨v14, e17, hs⟩ := qv_bind hs
    refine qv_getR dX8_on_48 qF_X8_19 e17 ?_
    obtain ⟨u15, e18, hs⟩ := qv_bind hs
    obtain ⟨h16, e19, hs⟩ := qv_bind hs
    refine qv_cV (d2 := mX7_reckon) (o := v13) (ci := 6) (r := none) (h2 := h16) (av := [.ref v14]) (st := []) dX8_on_51 qM_X8_75 qD_X7_reckon e18 rfl rfl ⟨by decide, by decide⟩ rfl (Nat.le_of_ble_eq_true rfl) (Nat.le_of_ble_eq_true rfl) (sX7_reckon e19) rfl ?_
    refine qv_aload_n dX8_on_54 (i := 0) rfl rfl ?_
    obtain ⟨v17, e20, hs⟩ := qv_bind hs
    refine qv_getR dX8_on_55 qF_X8_42 e20 ?_
    refine qv_aload_n dX8_on_58 (i := 0) rfl rfl ?_
    obtain ⟨v18, e21, hs⟩ := qv_bind hs
    refine qv_getR dX8_on_59 qF_X8_32 e21 ?_
    obtain ⟨u19, e22, hs⟩ := qv_bind hs
    obtain ⟨h20, e23, hs⟩ := qv_bind hs
    refine qv_cV (d2 := mX7_sift) (o := v17) (ci := 6) (r := none) (h2 := h20) (av := [.ref v18]) (st := []) dX8_on_62 qM_X8_79 qD_X7_sift e22 rfl rfl ⟨by decide, by decide⟩ rfl (Nat.le_of_ble_eq_true rfl) (Nat.le_of_ble_eq_true rfl) (sX7_sift e23) rfl ?_
    refine qv_aload_n dX8_on_65 (i := 0) rfl rfl ?_
    obtain ⟨v21, e24, hs⟩ := qv_bind hs
    refine qv_getR dX8_on_66 qF_X8_32 e24 ?_
    obtain ⟨v22, e25, hs⟩ := qv_bind hs
    refine qv_getI dX8_on_69 qF_X8_162 e25 ?_
    obtain ⟨rfl, rfl⟩ := qv_pr hs
    exact qv_iret dX8_on_72 rfl
theorem qD_X8_on : qv_DV mX8_on 0 := ⟨(qv_i12 (List.mem_of_getElem? (i := 27) (by decide +kernel))), (qv_i12 (List.mem_of_getElem? (i := 28) (by decide +kernel))), (qv_i1 (List.mem_of_getElem? (i := 5) (by decide +kernel))), (qv_i12 (List.mem_of_getElem? (i := 29) (by decide +kernel))), by decide +kernel, by decide +kernel⟩
/-- TrueOneWay.count(I)I -/
noncomputable def fX8_count (a0 : Nat) (a1 : Int32) (h : qv_H) : Option (Int32) :=
  if a1 < (11 : Int32) then
    if a1 = (0 : Int32) then
      (qv_gR h 7 a0 1).bind fun v21 =>
      (qv_gI h 2 v21 0).bind fun v22 =>
      some v22
    else
      if a1 = (1 : Int32) then
        (qv_gR h 7 a0 1).bind fun v19 =>
        (qv_gI h 2 v19 1).bind fun v20 =>
        some v20
      else
        if a1 = (2 : Int32) then
          (qv_gR h 7 a0 1).bind fun v17 =>
          (qv_gI h 2 v17 2).bind fun v18 =>
          some v18
        else
          if a1 = (3 : Int32) then
            (qv_gR h 7 a0 1).bind fun v15 =>
            (qv_gI h 2 v15 3).bind fun v16 =>
            some v16
          else
            if a1 = (4 : Int32) then
              (qv_gR h 7 a0 4).bind fun v13 =>
              (qv_gI h 1 v13 0).bind fun v14 =>
              some v14
            else
              if a1 = (5 : Int32) then
                (qv_gR h 7 a0 6).bind fun v11 =>
                (qv_gI h 6 v11 1).bind fun v12 =>
                some v12
              else
                if a1 = (6 : Int32) then
                  (qv_gR h 7 a0 6).bind fun v9 =>
                  (qv_gI h 6 v9 2).bind fun v10 =>
                  some v10
                else
                  if a1 = (7 : Int32) then
                    (qv_gR h 7 a0 9).bind fun v7 =>
                    (qv_gI h 3 v7 0).bind fun v8 =>
                    some v8
                  else
                    if a1 = (8 : Int32) then
                      (qv_gR h 7 a0 0).bind fun v5 =>
                      (qv_gI h 4 v5 0).bind fun v6 =>
                      some v6
                    else
                      if a1 = (9 : Int32) then
                        (qv_gR h 7 a0 1).bind fun v1 =>
                        (qv_ob h 2 v1).bind fun _ =>
                        (fX3_hasInn v1 h).bind fun v3 =>
                        Option.bind (α := Int32) (
                            if v3 = 0 then
                              some (0 : Int32)
                            else
                              some (1 : Int32)
                          ) fun m4 =>
                        some m4
                      else
                        some (-9 : Int32)
  else
    if (16 : Int32) < a1 then
      if a1 = (0 : Int32) then
        (qv_gR h 7 a0 1).bind fun v43 =>
        (qv_gI h 2 v43 0).bind fun v44 =>
        some v44
      else
        if a1 = (1 : Int32) then
          (qv_gR h 7 a0 1).bind fun v41 =>
          (qv_gI h 2 v41 1).bind fun v42 =>
          some v42
        else
          if a1 = (2 : Int32) then
            (qv_gR h 7 a0 1).bind fun v39 =>
            (qv_gI h 2 v39 2).bind fun v40 =>
            some v40
          else
            if a1 = (3 : Int32) then
              (qv_gR h 7 a0 1).bind fun v37 =>
              (qv_gI h 2 v37 3).bind fun v38 =>
              some v38
            else
              if a1 = (4 : Int32) then
                (qv_gR h 7 a0 4).bind fun v35 =>
                (qv_gI h 1 v35 0).bind fun v36 =>
                some v36
              else
                if a1 = (5 : Int32) then
                  (qv_gR h 7 a0 6).bind fun v33 =>
                  (qv_gI h 6 v33 1).bind fun v34 =>
                  some v34
                else
                  if a1 = (6 : Int32) then
                    (qv_gR h 7 a0 6).bind fun v31 =>
                    (qv_gI h 6 v31 2).bind fun v32 =>
                    some v32
                  else
                    if a1 = (7 : Int32) then
                      (qv_gR h 7 a0 9).bind fun v29 =>
                      (qv_gI h 3 v29 0).bind fun v30 =>
                      some v30
                    else
                      if a1 = (8 : Int32) then
                        (qv_gR h 7 a0 0).bind fun v27 =>
                        (qv_gI h 4 v27 0).bind fun v28 =>
                        some v28
                      else
                        if a1 = (9 : Int32) then
                          (qv_gR h 7 a0 1).bind fun v23 =>
                          (qv_ob h 2 v23).bind fun _ =>
                          (fX3_hasInn v23 h).bind fun v25 =>
                          Option.bind (α := Int32) (
                              if v25 = 0 then
                                some (0 : Int32)
                              else
                                some (1 : Int32)
                            ) fun m26 =>
                          some m26
                        else
                          some (-9 : Int32)
    else
      (qv_gR h 7 a0 10).bind fun v45 =>
      (qv_aI h false v45 (a1 - (10 : Int32))).bind fun v46 =>
      some v46
abbrev mX8_count : qv_M := (yX8_count, cX8_count, 2, (Option.some Jvm.ClassFile.FieldType.int), 1, 20)
set_option maxRecDepth 100000 in
set_option maxHeartbeats 4000000 in
theorem sX8_count {l : Launch} {g : qv_G} {a0 : Nat} {a1 : Int32} {h : qv_H} {r : Int32} (hs : fX8_count a0 a1 h = some r) : qv_J l g mX8_count 0 [some (.ref a0), some (.int a1)] [] h (some (.int r), h) := by
  unfold fX8_count at hs
  refine qv_iload_n dX8_count_0 (i := 1) rfl rfl ?_
  refine qv_bipush (v := (11 : Int32)) dX8_count_1 rfl ?_
  by_cases c1 : a1 < (11 : Int32)
  · have hs := qv_pos c1 hs
    refine qv_icmp_lt (tgt := 22) dX8_count_3 rfl (fun _ => ?_) (fun q => absurd c1 q)
    refine qv_iload_n dX8_count_22 (i := 1) rfl rfl ?_
    by_cases c2 : a1 = (0 : Int32)
    · have hs := qv_pos c2 hs
      refine qv_tsIn (tgt := 76) (0 : Int32) c2 dX8_count_23 (by decide) (by decide) rfl rfl ?_
      refine qv_aload_n dX8_count_76 (i := 0) rfl rfl ?_
      obtain ⟨v21, e3, hs⟩ := qv_bind hs
      refine qv_getR dX8_count_77 qF_X8_19 e3 ?_
      obtain ⟨v22, e4, hs⟩ := qv_bind hs
      refine qv_getI dX8_count_80 qF_X8_246 e4 ?_
      obtain rfl := qv_sm hs
      exact qv_iret dX8_count_83 rfl
    · have hs := qv_neg c2 hs
      by_cases c5 : a1 = (1 : Int32)
      · have hs := qv_pos c5 hs
        refine qv_tsIn (tgt := 84) (1 : Int32) c5 dX8_count_23 (by decide) (by decide) rfl rfl ?_
        refine qv_aload_n dX8_count_84 (i := 0) rfl rfl ?_
        obtain ⟨v19, e6, hs⟩ := qv_bind hs
        refine qv_getR dX8_count_85 qF_X8_19 e6 ?_
        obtain ⟨v20, e7, hs⟩ := qv_bind hs
        refine qv_getI dX8_count_88 qF_X8_266 e7 ?_
        obtain rfl := qv_sm hs
        exact qv_iret dX8_count_91 rfl
      · have hs := qv_neg c5 hs
        by_cases c8 : a1 = (2 : Int32)
        · have hs := qv_pos c8 hs
          refine qv_tsIn (tgt := 92) (2 : Int32) c8 dX8_count_23 (by decide) (by decide) rfl rfl ?_
          refine qv_aload_n dX8_count_92 (i := 0) rfl rfl ?_
          obtain ⟨v17, e9, hs⟩ := qv_bind hs
          refine qv_getR dX8_count_93 qF_X8_19 e9 ?_
          obtain ⟨v18, e10, hs⟩ := qv_bind hs
          refine qv_getI dX8_count_96 qF_X8_214 e10 ?_
          obtain rfl := qv_sm hs
          exact qv_iret dX8_count_99 rfl
        · have hs := qv_neg c8 hs
          by_cases c11 : a1 = (3 : Int32)
          · have hs := qv_pos c11 hs
            refine qv_tsIn (tgt := 100) (3 : Int32) c11 dX8_count_23 (by decide) (by decide) rfl rfl ?_
            refine qv_aload_n dX8_count_100 (i := 0) rfl rfl ?_
            obtain ⟨v15, e12, hs⟩ := qv_bind hs
            refine qv_getR dX8_count_101 qF_X8_19 e12 ?_
            obtain ⟨v16, e13, hs⟩ := qv_bind hs
            refine qv_getI dX8_count_104 qF_X8_182 e13 ?_
            obtain rfl := qv_sm hs
            exact qv_iret dX8_count_107 rfl
          · have hs := qv_neg c11 hs
            by_cases c14 : a1 = (4 : Int32)
            · have hs := qv_pos c14 hs
              refine qv_tsIn (tgt := 108) (4 : Int32) c14 dX8_count_23 (by decide) (by decide) rfl rfl ?_
              refine qv_aload_n dX8_count_108 (i := 0) rfl rfl ?_
              obtain ⟨v13, e15, hs⟩ := qv_bind hs
              refine qv_getR dX8_count_109 qF_X8_32 e15 ?_
              obtain ⟨v14, e16, hs⟩ := qv_bind hs
              refine qv_getI dX8_count_112 qF_X8_162 e16 ?_
              obtain rfl := qv_sm hs
              exact qv_iret dX8_count_115 rfl
            · have hs := qv_neg c14 hs
              by_cases c17 : a1 = (5 : Int32)
              · have hs := qv_pos c17 hs
                refine qv_tsIn (tgt := 116) (5 : Int32) c17 dX8_count_23 (by decide) (by decide) rfl rfl ?_
                refine qv_aload_n dX8_count_116 (i := 0) rfl rfl ?_
                obtain ⟨v11, e18, hs⟩ := qv_bind hs
                refine qv_getR dX8_count_117 qF_X8_42 e18 ?_
                obtain ⟨v12, e19, hs⟩ := qv_bind hs
                refine qv_getI dX8_count_120 qF_X8_269 e19 ?_
                obtain rfl := qv_sm hs
                exact qv_iret dX8_count_123 rfl
              · have hs := qv_neg c17 hs
                by_cases c20 : a1 = (6 : Int32)
                · have hs := qv_pos c20 hs
                  refine qv_tsIn (tgt := 124) (6 : Int32) c20 dX8_count_23 (by decide) (by decide) rfl rfl ?_
                  refine qv_aload_n dX8_count_124 (i := 0) rfl rfl ?_
                  obtain ⟨v9, e21, hs⟩ := qv_bind hs
                  refine qv_getR dX8_count_125 qF_X8_42 e21 ?_
                  obtain ⟨v10, e22, hs⟩ := qv_bind hs
                  refine qv_getI dX8_count_128 qF_X8_149 e22 ?_
                  obtain rfl := qv_sm hs
                  exact qv_iret dX8_count_131 rfl
                · have hs := qv_neg c20 hs
                  by_cases c23 : a1 = (7 : Int32)
                  · have hs := qv_pos c23 hs
                    refine qv_tsIn (tgt := 132) (7 : Int32) c23 dX8_count_23 (by decide) (by decide) rfl rfl ?_
                    refine qv_aload_n dX8_count_132 (i := 0) rfl rfl ?_
                    obtain ⟨v7, e24, hs⟩ := qv_bind hs
                    refine qv_getR dX8_count_133 qF_X8_63 e24 ?_
                    obtain ⟨v8, e25, hs⟩ := qv_bind hs
                    refine qv_getI dX8_count_136 qF_X8_234 e25 ?_
                    obtain rfl := qv_sm hs
                    exact qv_iret dX8_count_139 rfl
                  · have hs := qv_neg c23 hs
                    by_cases c26 : a1 = (8 : Int32)
                    · have hs := qv_pos c26 hs
                      refine qv_tsIn (tgt := 140) (8 : Int32) c26 dX8_count_23 (by decide) (by decide) rfl rfl ?_
                      refine qv_aload_n dX8_count_140 (i := 0) rfl rfl ?_
                      obtain ⟨v5, e27, hs⟩ := qv_bind hs
                      refine qv_getR dX8_count_141 qF_X8_10 e27 ?_
                      obtain ⟨v6, e28, hs⟩ := qv_bind hs
                      refine qv_getI dX8_count_144 qF_X8_87 e28 ?_
                      obtain rfl := qv_sm hs
                      exact qv_iret dX8_count_147 rfl
                    · have hs := qv_neg c26 hs
                      by_cases c29 : a1 = (9 : Int32)
                      · have hs := qv_pos c29 hs
                        refine qv_tsIn (tgt := 148) (9 : Int32) c29 dX8_count_23 (by decide) (by decide) rfl rfl ?_
                        refine qv_aload_n dX8_count_148 (i := 0) rfl rfl ?_
                        obtain ⟨v1, e30, hs⟩ := qv_bind hs
                        refine qv_getR dX8_count_149 qF_X8_19 e30 ?_
                        obtain ⟨u2, e31, hs⟩ := qv_bind hs
                        obtain ⟨v3, e32, hs⟩ := qv_bind hs
                        refine qv_cV (d2 := mX3_hasInn) (o := v1) (ci := 2) (r := some (.int v3)) (h2 := h) (av := []) (st := []) dX8_count_152 qM_X8_220 qD_X3_hasInn e31 rfl rfl ⟨by decide, by decide⟩ rfl (Nat.le_of_ble_eq_true rfl) (Nat.le_of_ble_eq_true rfl) (sX3_hasInn e32) rfl ?_
                        obtain ⟨m4, hj34, hs⟩ := qv_bind hs
                        have K33 : qv_J l g mX8_count 163 [none, none] [.int m4] h (some (.int r), h) := by
                          obtain rfl := qv_sm hs
                          exact qv_iret dX8_count_163 rfl
                        replace hs := hj34
                        by_cases c35 : v3 = 0
                        · have hs := qv_pos c35 hs
                          refine qv_if_eq (tgt := 162) dX8_count_155 rfl (fun _ => ?_) (fun q => absurd c35 q)
                          refine qv_iconst (v := (0 : Int32)) dX8_count_162 rfl ?_
                          cases hs
                          exact qv_dp (qv_le_n (qv_le_n qv_le_0)) K33
                        · have hs := qv_neg c35 hs
                          refine qv_if_eq (tgt := 162) dX8_count_155 rfl (fun q => absurd q c35) (fun _ => ?_)
                          refine qv_iconst (v := (1 : Int32)) dX8_count_158 rfl ?_
                          refine qv_goto (tgt := 163) dX8_count_159 rfl ?_
                          cases hs
                          exact qv_dp (qv_le_n (qv_le_n qv_le_0)) K33
                      · have hs := qv_neg c29 hs
                        refine qv_tsDef (tgt := 164) dX8_count_23 (fun j hj ej => ?_) rfl ?_
                        · rcases (show j = 0 ∨ j = 1 ∨ j = 2 ∨ j = 3 ∨ j = 4 ∨ j = 5 ∨ j = 6 ∨ j = 7 ∨ j = 8 ∨ j = 9 by omega) with rfl | rfl | rfl | rfl | rfl | rfl | rfl | rfl | rfl | rfl
                          · exact absurd (Int32.toInt_inj.mp (by rw [ej]; rfl)) c2
                          · exact absurd (Int32.toInt_inj.mp (by rw [ej]; rfl)) c5
                          · exact absurd (Int32.toInt_inj.mp (by rw [ej]; rfl)) c8
                          · exact absurd (Int32.toInt_inj.mp (by rw [ej]; rfl)) c11
                          · exact absurd (Int32.toInt_inj.mp (by rw [ej]; rfl)) c14
                          · exact absurd (Int32.toInt_inj.mp (by rw [ej]; rfl)) c17
                          · exact absurd (Int32.toInt_inj.mp (by rw [ej]; rfl)) c20
                          · exact absurd (Int32.toInt_inj.mp (by rw [ej]; rfl)) c23
                          · exact absurd (Int32.toInt_inj.mp (by rw [ej]; rfl)) c26
                          · exact absurd (Int32.toInt_inj.mp (by rw [ej]; rfl)) c29
                        refine qv_bipush (v := (-9 : Int32)) dX8_count_164 rfl ?_
                        obtain rfl := qv_sm hs
                        exact qv_iret dX8_count_166 rfl
  · have hs := qv_neg c1 hs
    refine qv_icmp_lt (tgt := 22) dX8_count_3 rfl (fun q => absurd q c1) (fun _ => ?_)
    refine qv_iload_n dX8_count_6 (i := 1) rfl rfl ?_
    refine qv_bipush (v := (16 : Int32)) dX8_count_7 rfl ?_
    by_cases c36 : (16 : Int32) < a1
    · have hs := qv_pos c36 hs
      refine qv_icmp_gt (tgt := 22) dX8_count_9 rfl (fun _ => ?_) (fun q => absurd c36 q)
      refine qv_iload_n dX8_count_22 (i := 1) rfl rfl ?_
      by_cases c37 : a1 = (0 : Int32)
      · have hs := qv_pos c37 hs
        refine qv_tsIn (tgt := 76) (0 : Int32) c37 dX8_count_23 (by decide) (by decide) rfl rfl ?_
        refine qv_aload_n dX8_count_76 (i := 0) rfl rfl ?_
        obtain ⟨v43, e38, hs⟩ := qv_bind hs
        refine qv_getR dX8_count_77 qF_X8_19 e38 ?_
        obtain ⟨v44, e39, hs⟩ := qv_bind hs
        refine qv_getI dX8_count_80 qF_X8_246 e39 ?_
        obtain rfl := qv_sm hs
        exact qv_iret dX8_count_83 rfl
      · have hs := qv_neg c37 hs
        by_cases c40 : a1 = (1 : Int32)
        · have hs := qv_pos c40 hs
          refine qv_tsIn (tgt := 84) (1 : Int32) c40 dX8_count_23 (by decide) (by decide) rfl rfl ?_
          refine qv_aload_n dX8_count_84 (i := 0) rfl rfl ?_
          obtain ⟨v41, e41, hs⟩ := qv_bind hs
          refine qv_getR dX8_count_85 qF_X8_19 e41 ?_
          obtain ⟨v42, e42, hs⟩ := qv_bind hs
          refine qv_getI dX8_count_88 qF_X8_266 e42 ?_
          obtain rfl := qv_sm hs
          exact qv_iret dX8_count_91 rfl
        · have hs := qv_neg c40 hs
          by_cases c43 : a1 = (2 : Int32)
          · have hs := qv_pos c43 hs
            refine qv_tsIn (tgt := 92) (2 : Int32) c43 dX8_count_23 (by decide) (by decide) rfl rfl ?_
            refine qv_aload_n dX8_count_92 (i := 0) rfl rfl ?_
            obtain ⟨v39, e44, hs⟩ := qv_bind hs
            refine qv_getR dX8_count_93 qF_X8_19 e44 ?_
            obtain ⟨v40, e45, hs⟩ := qv_bind hs
            refine qv_getI dX8_count_96 qF_X8_214 e45 ?_
            obtain rfl := qv_sm hs
            exact qv_iret dX8_count_99 rfl
          · have hs := qv_neg c43 hs
            by_cases c46 : a1 = (3 : Int32)
            · have hs := qv_pos c46 hs
              refine qv_tsIn (tgt := 100) (3 : Int32) c46 dX8_count_23 (by decide) (by decide) rfl rfl ?_
              refine qv_aload_n dX8_count_100 (i := 0) rfl rfl ?_
              obtain ⟨v37, e47, hs⟩ := qv_bind hs
              refine qv_getR dX8_count_101 qF_X8_19 e47 ?_
              obtain ⟨v38, e48, hs⟩ := qv_bind hs
              refine qv_getI dX8_count_104 qF_X8_182 e48 ?_
              obtain rfl := qv_sm hs
              exact qv_iret dX8_count_107 rfl
            · have hs := qv_neg c46 hs
              by_cases c49 : a1 = (4 : Int32)
              · have hs := qv_pos c49 hs
                refine qv_tsIn (tgt := 108) (4 : Int32) c49 dX8_count_23 (by decide) (by decide) rfl rfl ?_
                refine qv_aload_n dX8_count_108 (i := 0) rfl rfl ?_
                obtain ⟨v35, e50, hs⟩ := qv_bind hs
                refine qv_getR dX8_count_109 qF_X8_32 e50 ?_
                obtain ⟨v36, e51, hs⟩ := qv_bind hs
                refine qv_getI dX8_count_112 qF_X8_162 e51 ?_
                obtain rfl := qv_sm hs
                exact qv_iret dX8_count_115 rfl
              · have hs := qv_neg c49 hs
                by_cases c52 : a1 = (5 : Int32)
                · have hs := qv_pos c52 hs
                  refine qv_tsIn (tgt := 116) (5 : Int32) c52 dX8_count_23 (by decide) (by decide) rfl rfl ?_
                  refine qv_aload_n dX8_count_116 (i := 0) rfl rfl ?_
                  obtain ⟨v33, e53, hs⟩ := qv_bind hs
                  refine qv_getR dX8_count_117 qF_X8_42 e53 ?_
                  obtain ⟨v34, e54, hs⟩ := qv_bind hs
                  refine qv_getI dX8_count_120 qF_X8_269 e54 ?_
                  obtain rfl := qv_sm hs
                  exact qv_iret dX8_count_123 rfl
                · have hs := qv_neg c52 hs
                  by_cases c55 : a1 = (6 : Int32)
                  · have hs := qv_pos c55 hs
                    refine qv_tsIn (tgt := 124) (6 : Int32) c55 dX8_count_23 (by decide) (by decide) rfl rfl ?_
                    refine qv_aload_n dX8_count_124 (i := 0) rfl rfl ?_
                    obtain ⟨v31, e56, hs⟩ := qv_bind hs
                    refine qv_getR dX8_count_125 qF_X8_42 e56 ?_
                    obtain ⟨v32, e57, hs⟩ := qv_bind hs
                    refine qv_getI dX8_count_128 qF_X8_149 e57 ?_
                    obtain rfl := qv_sm hs
                    exact qv_iret dX8_count_131 rfl
                  · have hs := qv_neg c55 hs
                    by_cases c58 : a1 = (7 : Int32)
                    · have hs := qv_pos c58 hs
                      refine qv_tsIn (tgt := 132) (7 : Int32) c58 dX8_count_23 (by decide) (by decide) rfl rfl ?_
                      refine qv_aload_n dX8_count_132 (i := 0) rfl rfl ?_
                      obtain ⟨v29, e59, hs⟩ := qv_bind hs
                      refine qv_getR dX8_count_133 qF_X8_63 e59 ?_
                      obtain ⟨v30, e60, hs⟩ := qv_bind hs
                      refine qv_getI dX8_count_136 qF_X8_234 e60 ?_
                      obtain rfl := qv_sm hs
                      exact qv_iret dX8_count_139 rfl
                    · have hs := qv_neg c58 hs
                      by_cases c61 : a1 = (8 : Int32)
                      · have hs := qv_pos c61 hs
                        refine qv_tsIn (tgt := 140) (8 : Int32) c61 dX8_count_23 (by decide) (by decide) rfl rfl ?_
                        refine qv_aload_n dX8_count_140 (i := 0) rfl rfl ?_
                        obtain ⟨v27, e62, hs⟩ := qv_bind hs
                        refine qv_getR dX8_count_141 qF_X8_10 e62 ?_
                        obtain ⟨v28, e63, hs⟩ := qv_bind hs
                        refine qv_getI dX8_count_144 qF_X8_87 e63 ?_
                        obtain rfl := qv_sm hs
                        exact qv_iret dX8_count_147 rfl
                      · have hs := qv_neg c61 hs
                        by_cases c64 : a1 = (9 : Int32)
                        · have hs := qv_pos c64 hs
                          refine qv_tsIn (tgt := 148) (9 : Int32) c64 dX8_count_23 (by decide) (by decide) rfl rfl ?_
                          refine qv_aload_n dX8_count_148 (i := 0) rfl rfl ?_
                          obtain ⟨v23, e65, hs⟩ := qv_bind hs
                          refine qv_getR dX8_count_149 qF_X8_19 e65 ?_
                          obtain ⟨u24, e66, hs⟩ := qv_bind hs
                          obtain ⟨v25, e67, hs⟩ := qv_bind hs
                          refine qv_cV (d2 := mX3_hasInn) (o := v23) (ci := 2) (r := some (.int v25)) (h2 := h) (av := []) (st := []) dX8_count_152 qM_X8_220 qD_X3_hasInn e66 rfl rfl ⟨by decide, by decide⟩ rfl (Nat.le_of_ble_eq_true rfl) (Nat.le_of_ble_eq_true rfl) (sX3_hasInn e67) rfl ?_
                          obtain ⟨m26, hj69, hs⟩ := qv_bind hs
                          have K68 : qv_J l g mX8_count 163 [none, none] [.int m26] h (some (.int r), h) := by
                            obtain rfl := qv_sm hs
                            exact qv_iret dX8_count_163 rfl
                          replace hs := hj69
                          by_cases c70 : v25 = 0
                          · have hs := qv_pos c70 hs
                            refine qv_if_eq (tgt := 162) dX8_count_155 rfl (fun _ => ?_) (fun q => absurd c70 q)
                            refine qv_iconst (v := (0 : Int32)) dX8_count_162 rfl ?_
                            cases hs
                            exact qv_dp (qv_le_n (qv_le_n qv_le_0)) K68
                          · have hs := qv_neg c70 hs
                            refine qv_if_eq (tgt := 162) dX8_count_155 rfl (fun q => absurd q c70) (fun _ => ?_)
                            refine qv_iconst (v := (1 : Int32)) dX8_count_158 rfl ?_
                            refine qv_goto (tgt := 163) dX8_count_159 rfl ?_
                            cases hs
                            exact qv_dp (qv_le_n (qv_le_n qv_le_0)) K68
                        · have hs := qv_neg c64 hs
                          refine qv_tsDef (tgt := 164) dX8_count_23 (fun j hj ej => ?_) rfl ?_
                          · rcases (show j = 0 ∨ j = 1 ∨ j = 2 ∨ j = 3 ∨ j = 4 ∨ j = 5 ∨ j = 6 ∨ j = 7 ∨ j = 8 ∨ j = 9 by omega) with rfl | rfl | rfl | rfl | rfl | rfl | rfl | rfl | rfl | rfl
                            · exact absurd (Int32.toInt_inj.mp (by rw [ej]; rfl)) c37
                            · exact absurd (Int32.toInt_inj.mp (by rw [ej]; rfl)) c40
                            · exact absurd (Int32.toInt_inj.mp (by rw [ej]; rfl)) c43
                            · exact absurd (Int32.toInt_inj.mp (by rw [ej]; rfl)) c46
                            · exact absurd (Int32.toInt_inj.mp (by rw [ej]; rfl)) c49
                            · exact absurd (Int32.toInt_inj.mp (by rw [ej]; rfl)) c52
                            · exact absurd (Int32.toInt_inj.mp (by rw [ej]; rfl)) c55
                            · exact absurd (Int32.toInt_inj.mp (by rw [ej]; rfl)) c58
                            · exact absurd (Int32.toInt_inj.mp (by rw [ej]; rfl)) c61
                            · exact absurd (Int32.toInt_inj.mp (by rw [ej]; rfl)) c64
                          refine qv_bipush (v := (-9 : Int32)) dX8_count_164 rfl ?_
                          obtain rfl := qv_sm hs
                          exact qv_iret dX8_count_166 rfl
    · have hs := qv_neg c36 hs
      refine qv_icmp_gt (tgt := 22) dX8_count_9 rfl (fun q => absurd q c36) (fun _ => ?_)
      refine qv_aload_n dX8_count_12 (i := 0) rfl rfl ?_
      obtain ⟨v45, e71, hs⟩ := qv_bind hs
      refine qv_getR dX8_count_13 qF_X8_67 e71 ?_
      refine qv_iload_n dX8_count_16 (i := 1) rfl rfl ?_
      refine qv_bipush (v := (10 : Int32)) dX8_count_17 rfl ?_
      refine qv_isub dX8_count_19 ?_
      obtain ⟨v46, e72, hs⟩ := qv_bind hs
      refine qv_iald dX8_count_20 e72 ?_
      obtain rfl := qv_sm hs
      exact qv_iret dX8_count_21 rfl
theorem qD_X8_count : qv_DV mX8_count 1 := ⟨(qv_i12 (List.mem_of_getElem? (i := 31) (by decide +kernel))), (qv_i12 (List.mem_of_getElem? (i := 32) (by decide +kernel))), (qv_i1 (List.mem_of_getElem? (i := 5) (by decide +kernel))), (qv_i12 (List.mem_of_getElem? (i := 33) (by decide +kernel))), by decide +kernel, by decide +kernel⟩
