/-! ===== 13.ref1: by program (wip/whole/gen): for each method its pure function f.., its descriptor m.., the proof s.. that the frame logic runs it ===== -/
/-- TrueOneWayModel.no(I)I -/
noncomputable def fX9_no (a0 : Nat) (a1 : Int32) (h : qv_H) : Option (Int32 × qv_H) :=
  (qv_gR h 8 a0 0).bind fun v1 =>
  (qv_aI h false v1 (-a1)).bind fun v2 =>
  (qv_sI h false v1 (-a1) (v2 + (1 : Int32))).bind fun h3 =>
  some (a1, h3)
abbrev mX9_no : qv_M := (yX9_no, cX9_no, 2, (Option.some Jvm.ClassFile.FieldType.int), 0, 0)
set_option maxRecDepth 100000 in
set_option maxHeartbeats 4000000 in
theorem sX9_no {l : Launch} {g : qv_G} {a0 : Nat} {a1 : Int32} {h : qv_H} {r : Int32} {hz : qv_H} (hs : fX9_no a0 a1 h = some (r, hz)) : qv_J l g mX9_no 0 [some (.ref a0), some (.int a1)] [] h (some (.int r), hz) := by
  unfold fX9_no at hs
  refine qv_aload_n dX9_no_0 (i := 0) rfl rfl ?_
  obtain ⟨v1, e1, hs⟩ := qv_bind hs
  refine qv_getR dX9_no_1 qF_X9_7 e1 ?_
  refine qv_iload_n dX9_no_4 (i := 1) rfl rfl ?_
  refine qv_ineg dX9_no_5 ?_
  refine qv_dup2 dX9_no_6 rfl rfl ?_
  obtain ⟨v2, e2, hs⟩ := qv_bind hs
  refine qv_iald dX9_no_7 e2 ?_
  refine qv_iconst (v := (1 : Int32)) dX9_no_8 rfl ?_
  refine qv_iadd dX9_no_9 ?_
  obtain ⟨h3, e3, hs⟩ := qv_bind hs
  refine qv_iast dX9_no_10 e3 ?_
  refine qv_iload_n dX9_no_11 (i := 1) rfl rfl ?_
  obtain ⟨rfl, rfl⟩ := qv_pr hs
  exact qv_iret dX9_no_12 rfl
theorem qD_X9_no : qv_DV mX9_no 1 := ⟨(qv_i14 (List.mem_of_getElem? (i := 0) (by decide +kernel))), (qv_i0 (List.mem_of_getElem? (i := 21) (by decide +kernel))), (qv_i1 (List.mem_of_getElem? (i := 14) (by decide +kernel))), (qv_i14 (List.mem_of_getElem? (i := 1) (by decide +kernel))), by decide +kernel, by decide +kernel⟩
/-- TrueOneWayModel.isIn(III)Z -/
noncomputable def fX9_isIn (a0 : Int32) (a1 : Int32) (a2 : Int32) : Option (Int32) :=
  Option.bind (α := Int32) (
      if a0 < a1 then
        some (0 : Int32)
      else
        if a2 < a0 then
          some (0 : Int32)
        else
          some (1 : Int32)
    ) fun m1 =>
  (qv_b1 m1).bind fun v2 =>
  some m1
abbrev mX9_isIn : qv_M := (yX9_isIn, cX9_isIn, 3, (Option.some Jvm.ClassFile.FieldType.boolean), 0, 0)
set_option maxRecDepth 100000 in
set_option maxHeartbeats 4000000 in
theorem sX9_isIn {l : Launch} {g : qv_G} {a0 : Int32} {a1 : Int32} {a2 : Int32} {h : qv_H} {r : Int32} (hs : fX9_isIn a0 a1 a2 = some r) : qv_J l g mX9_isIn 0 [some (.int a0), some (.int a1), some (.int a2)] [] h (some (.int r), h) := by
  unfold fX9_isIn at hs
  refine qv_iload_n dX9_isIn_0 (i := 0) rfl rfl ?_
  refine qv_iload_n dX9_isIn_1 (i := 1) rfl rfl ?_
  obtain ⟨m1, hj2, hs⟩ := qv_bind hs
  have K1 : qv_J l g mX9_isIn 15 [none, none, none] [.int m1] h (some (.int r), h) := by
    obtain ⟨v2, e3, hs⟩ := qv_bind hs
    obtain rfl := qv_sm hs
    exact qv_zret dX9_isIn_15 rfl (qv_b1_of e3).1
  replace hs := hj2
  by_cases c4 : a0 < a1
  · have hs := qv_pos c4 hs
    refine qv_icmp_lt (tgt := 14) dX9_isIn_2 rfl (fun _ => ?_) (fun q => absurd c4 q)
    refine qv_iconst (v := (0 : Int32)) dX9_isIn_14 rfl ?_
    cases hs
    exact qv_dp (qv_le_n (qv_le_n (qv_le_n qv_le_0))) K1
  · have hs := qv_neg c4 hs
    refine qv_icmp_lt (tgt := 14) dX9_isIn_2 rfl (fun q => absurd q c4) (fun _ => ?_)
    refine qv_iload_n dX9_isIn_5 (i := 0) rfl rfl ?_
    refine qv_iload_n dX9_isIn_6 (i := 2) rfl rfl ?_
    by_cases c5 : a2 < a0
    · have hs := qv_pos c5 hs
      refine qv_icmp_gt (tgt := 14) dX9_isIn_7 rfl (fun _ => ?_) (fun q => absurd c5 q)
      refine qv_iconst (v := (0 : Int32)) dX9_isIn_14 rfl ?_
      cases hs
      exact qv_dp (qv_le_n (qv_le_n (qv_le_n qv_le_0))) K1
    · have hs := qv_neg c5 hs
      refine qv_icmp_gt (tgt := 14) dX9_isIn_7 rfl (fun q => absurd q c5) (fun _ => ?_)
      refine qv_iconst (v := (1 : Int32)) dX9_isIn_10 rfl ?_
      refine qv_goto (tgt := 15) dX9_isIn_11 rfl ?_
      cases hs
      exact qv_dp (qv_le_n (qv_le_n (qv_le_n qv_le_0))) K1
theorem qD_X9_isIn : qv_DS mX9_isIn 3 := ⟨(qv_i14 (List.mem_of_getElem? (i := 22) (by decide +kernel))), (qv_i1 (List.mem_of_getElem? (i := 14) (by decide +kernel))), (qv_i14 (List.mem_of_getElem? (i := 23) (by decide +kernel))), by decide +kernel, by decide +kernel⟩
/-- TrueOneWayModel.bound(III)I -/
noncomputable def fX9_bound (a0 : Int32) (a1 : Int32) (a2 : Int32) : Option (Int32) :=
  Option.bind (α := Int32) (
      if a1 ≤ a0 then
        if a0 ≤ a2 then
          some (0 : Int32)
        else
          some (-6 : Int32)
      else
        some (-4 : Int32)
    ) fun m1 =>
  some m1
abbrev mX9_bound : qv_M := (yX9_bound, cX9_bound, 3, (Option.some Jvm.ClassFile.FieldType.int), 0, 0)
set_option maxRecDepth 100000 in
set_option maxHeartbeats 4000000 in
theorem sX9_bound {l : Launch} {g : qv_G} {a0 : Int32} {a1 : Int32} {a2 : Int32} {h : qv_H} {r : Int32} (hs : fX9_bound a0 a1 a2 = some r) : qv_J l g mX9_bound 0 [some (.int a0), some (.int a1), some (.int a2)] [] h (some (.int r), h) := by
  unfold fX9_bound at hs
  refine qv_iload_n dX9_bound_0 (i := 0) rfl rfl ?_
  refine qv_iload_n dX9_bound_1 (i := 1) rfl rfl ?_
  obtain ⟨m1, hj2, hs⟩ := qv_bind hs
  have K1 : qv_J l g mX9_bound 21 [none, none, none] [.int m1] h (some (.int r), h) := by
    obtain rfl := qv_sm hs
    exact qv_iret dX9_bound_21 rfl
  replace hs := hj2
  by_cases c3 : a1 ≤ a0
  · have hs := qv_pos c3 hs
    refine qv_icmp_ge (tgt := 10) dX9_bound_2 rfl (fun _ => ?_) (fun q => absurd c3 q)
    refine qv_iload_n dX9_bound_10 (i := 0) rfl rfl ?_
    refine qv_iload_n dX9_bound_11 (i := 2) rfl rfl ?_
    by_cases c4 : a0 ≤ a2
    · have hs := qv_pos c4 hs
      refine qv_icmp_le (tgt := 20) dX9_bound_12 rfl (fun _ => ?_) (fun q => absurd c4 q)
      refine qv_iconst (v := (0 : Int32)) dX9_bound_20 rfl ?_
      cases hs
      exact qv_dp (qv_le_n (qv_le_n (qv_le_n qv_le_0))) K1
    · have hs := qv_neg c4 hs
      refine qv_icmp_le (tgt := 20) dX9_bound_12 rfl (fun q => absurd q c4) (fun _ => ?_)
      refine qv_bipush (v := (-6 : Int32)) dX9_bound_15 rfl ?_
      refine qv_goto (tgt := 21) dX9_bound_17 rfl ?_
      cases hs
      exact qv_dp (qv_le_n (qv_le_n (qv_le_n qv_le_0))) K1
  · have hs := qv_neg c3 hs
    refine qv_icmp_ge (tgt := 10) dX9_bound_2 rfl (fun q => absurd q c3) (fun _ => ?_)
    refine qv_bipush (v := (-4 : Int32)) dX9_bound_5 rfl ?_
    refine qv_goto (tgt := 21) dX9_bound_7 rfl ?_
    cases hs
    exact qv_dp (qv_le_n (qv_le_n (qv_le_n qv_le_0))) K1
theorem qD_X9_bound : qv_DS mX9_bound 3 := ⟨(qv_i13 (List.mem_of_getElem? (i := 61) (by decide +kernel))), (qv_i1 (List.mem_of_getElem? (i := 14) (by decide +kernel))), (qv_i13 (List.mem_of_getElem? (i := 62) (by decide +kernel))), by decide +kernel, by decide +kernel⟩
/-- TrueOneWayModel.isPlace(I)Z -/
noncomputable def fX9_isPlace (a0 : Nat) (a1 : Int32) (h : qv_H) : Option (Int32) :=
  Option.bind (α := Int32) (
      if a1 < 0 then
        some (0 : Int32)
      else
        (qv_gI h 8 a0 8).bind fun v1 =>
        if v1 ≤ a1 then
          some (0 : Int32)
        else
          some (1 : Int32)
    ) fun m2 =>
  (qv_b1 m2).bind fun v3 =>
  some m2
abbrev mX9_isPlace : qv_M := (yX9_isPlace, cX9_isPlace, 2, (Option.some Jvm.ClassFile.FieldType.boolean), 0, 0)
set_option maxRecDepth 100000 in
set_option maxHeartbeats 4000000 in
theorem sX9_isPlace {l : Launch} {g : qv_G} {a0 : Nat} {a1 : Int32} {h : qv_H} {r : Int32} (hs : fX9_isPlace a0 a1 h = some r) : qv_J l g mX9_isPlace 0 [some (.ref a0), some (.int a1)] [] h (some (.int r), h) := by
  unfold fX9_isPlace at hs
  refine qv_iload_n dX9_isPlace_0 (i := 1) rfl rfl ?_
  obtain ⟨m2, hj2, hs⟩ := qv_bind hs
  have K1 : qv_J l g mX9_isPlace 17 [none, none] [.int m2] h (some (.int r), h) := by
    obtain ⟨v3, e3, hs⟩ := qv_bind hs
    obtain rfl := qv_sm hs
    exact qv_zret dX9_isPlace_17 rfl (qv_b1_of e3).1
  replace hs := hj2
  by_cases c4 : a1 < 0
  · have hs := qv_pos c4 hs
    refine qv_if_lt (tgt := 16) dX9_isPlace_1 rfl (fun _ => ?_) (fun q => absurd c4 q)
    refine qv_iconst (v := (0 : Int32)) dX9_isPlace_16 rfl ?_
    cases hs
    exact qv_dp (qv_le_n (qv_le_n qv_le_0)) K1
  · have hs := qv_neg c4 hs
    refine qv_if_lt (tgt := 16) dX9_isPlace_1 rfl (fun q => absurd q c4) (fun _ => ?_)
    refine qv_iload_n dX9_isPlace_4 (i := 1) rfl rfl ?_
    refine qv_aload_n dX9_isPlace_5 (i := 0) rfl rfl ?_
    obtain ⟨v1, e5, hs⟩ := qv_bind hs
    refine qv_getI dX9_isPlace_6 qF_X9_34 e5 ?_
    by_cases c6 : v1 ≤ a1
    · have hs := qv_pos c6 hs
      refine qv_icmp_ge (tgt := 16) dX9_isPlace_9 rfl (fun _ => ?_) (fun q => absurd c6 q)
      refine qv_iconst (v := (0 : Int32)) dX9_isPlace_16 rfl ?_
      cases hs
      exact qv_dp (qv_le_n (qv_le_n qv_le_0)) K1
    · have hs := qv_neg c6 hs
      refine qv_icmp_ge (tgt := 16) dX9_isPlace_9 rfl (fun q => absurd q c6) (fun _ => ?_)
      refine qv_iconst (v := (1 : Int32)) dX9_isPlace_12 rfl ?_
      refine qv_goto (tgt := 17) dX9_isPlace_13 rfl ?_
      cases hs
      exact qv_dp (qv_le_n (qv_le_n qv_le_0)) K1
theorem qD_X9_isPlace : qv_DV mX9_isPlace 1 := ⟨(qv_i14 (List.mem_of_getElem? (i := 46) (by decide +kernel))), (qv_i0 (List.mem_of_getElem? (i := 32) (by decide +kernel))), (qv_i1 (List.mem_of_getElem? (i := 14) (by decide +kernel))), (qv_i14 (List.mem_of_getElem? (i := 47) (by decide +kernel))), by decide +kernel, by decide +kernel⟩
/-- TrueOneWayModel.isFact(I)Z -/
noncomputable def fX9_isFact (a0 : Nat) (a1 : Int32) (h : qv_H) : Option (Int32) :=
  Option.bind (α := Int32) (
      if a1 < 0 then
        some (0 : Int32)
      else
        (qv_gI h 8 a0 10).bind fun v1 =>
        if v1 ≤ a1 then
          some (0 : Int32)
        else
          some (1 : Int32)
    ) fun m2 =>
  (qv_b1 m2).bind fun v3 =>
  some m2
abbrev mX9_isFact : qv_M := (yX9_isFact, cX9_isFact, 2, (Option.some Jvm.ClassFile.FieldType.boolean), 0, 0)
set_option maxRecDepth 100000 in
set_option maxHeartbeats 4000000 in
theorem sX9_isFact {l : Launch} {g : qv_G} {a0 : Nat} {a1 : Int32} {h : qv_H} {r : Int32} (hs : fX9_isFact a0 a1 h = some r) : qv_J l g mX9_isFact 0 [some (.ref a0), some (.int a1)] [] h (some (.int r), h) := by
  unfold fX9_isFact at hs
  refine qv_iload_n dX9_isFact_0 (i := 1) rfl rfl ?_
  obtain ⟨m2, hj2, hs⟩ := qv_bind hs
  have K1 : qv_J l g mX9_isFact 17 [none, none] [.int m2] h (some (.int r), h) := by
    obtain ⟨v3, e3, hs⟩ := qv_bind hs
    obtain rfl := qv_sm hs
    exact qv_zret dX9_isFact_17 rfl (qv_b1_of e3).1
  replace hs := hj2
  by_cases c4 : a1 < 0
  · have hs := qv_pos c4 hs
    refine qv_if_lt (tgt := 16) dX9_isFact_1 rfl (fun _ => ?_) (fun q => absurd c4 q)
    refine qv_iconst (v := (0 : Int32)) dX9_isFact_16 rfl ?_
    cases hs
    exact qv_dp (qv_le_n (qv_le_n qv_le_0)) K1
  · have hs := qv_neg c4 hs
    refine qv_if_lt (tgt := 16) dX9_isFact_1 rfl (fun q => absurd q c4) (fun _ => ?_)
    refine qv_iload_n dX9_isFact_4 (i := 1) rfl rfl ?_
    refine qv_aload_n dX9_isFact_5 (i := 0) rfl rfl ?_
    obtain ⟨v1, e5, hs⟩ := qv_bind hs
    refine qv_getI dX9_isFact_6 qF_X9_89 e5 ?_
    by_cases c6 : v1 ≤ a1
    · have hs := qv_pos c6 hs
      refine qv_icmp_ge (tgt := 16) dX9_isFact_9 rfl (fun _ => ?_) (fun q => absurd c6 q)
      refine qv_iconst (v := (0 : Int32)) dX9_isFact_16 rfl ?_
      cases hs
      exact qv_dp (qv_le_n (qv_le_n qv_le_0)) K1
    · have hs := qv_neg c6 hs
      refine qv_icmp_ge (tgt := 16) dX9_isFact_9 rfl (fun q => absurd q c6) (fun _ => ?_)
      refine qv_iconst (v := (1 : Int32)) dX9_isFact_12 rfl ?_
      refine qv_goto (tgt := 17) dX9_isFact_13 rfl ?_
      cases hs
      exact qv_dp (qv_le_n (qv_le_n qv_le_0)) K1
theorem qD_X9_isFact : qv_DV mX9_isFact 1 := ⟨(qv_i14 (List.mem_of_getElem? (i := 55) (by decide +kernel))), (qv_i0 (List.mem_of_getElem? (i := 35) (by decide +kernel))), (qv_i1 (List.mem_of_getElem? (i := 14) (by decide +kernel))), (qv_i14 (List.mem_of_getElem? (i := 56) (by decide +kernel))), by decide +kernel, by decide +kernel⟩
/-- TrueOneWayModel.isSign(I)Z -/
noncomputable def fX9_isSign (a0 : Nat) (a1 : Int32) (h : qv_H) : Option (Int32) :=
  Option.bind (α := Int32) (
      if a1 < 0 then
        some (0 : Int32)
      else
        (qv_gI h 8 a0 11).bind fun v1 =>
        if v1 ≤ a1 then
          some (0 : Int32)
        else
          some (1 : Int32)
    ) fun m2 =>
  (qv_b1 m2).bind fun v3 =>
  some m2
abbrev mX9_isSign : qv_M := (yX9_isSign, cX9_isSign, 2, (Option.some Jvm.ClassFile.FieldType.boolean), 0, 0)
set_option maxRecDepth 100000 in
set_option maxHeartbeats 4000000 in
theorem sX9_isSign {l : Launch} {g : qv_G} {a0 : Nat} {a1 : Int32} {h : qv_H} {r : Int32} (hs : fX9_isSign a0 a1 h = some r) : qv_J l g mX9_isSign 0 [some (.ref a0), some (.int a1)] [] h (some (.int r), h) := by
  unfold fX9_isSign at hs
  refine qv_iload_n dX9_isSign_0 (i := 1) rfl rfl ?_
  obtain ⟨m2, hj2, hs⟩ := qv_bind hs
  have K1 : qv_J l g mX9_isSign 17 [none, none] [.int m2] h (some (.int r), h) := by
    obtain ⟨v3, e3, hs⟩ := qv_bind hs
    obtain rfl := qv_sm hs
    exact qv_zret dX9_isSign_17 rfl (qv_b1_of e3).1
  replace hs := hj2
  by_cases c4 : a1 < 0
  · have hs := qv_pos c4 hs
    refine qv_if_lt (tgt := 16) dX9_isSign_1 rfl (fun _ => ?_) (fun q => absurd c4 q)
    refine qv_iconst (v := (0 : Int32)) dX9_isSign_16 rfl ?_
    cases hs
    exact qv_dp (qv_le_n (qv_le_n qv_le_0)) K1
  · have hs := qv_neg c4 hs
    refine qv_if_lt (tgt := 16) dX9_isSign_1 rfl (fun q => absurd q c4) (fun _ => ?_)
    refine qv_iload_n dX9_isSign_4 (i := 1) rfl rfl ?_
    refine qv_aload_n dX9_isSign_5 (i := 0) rfl rfl ?_
    obtain ⟨v1, e5, hs⟩ := qv_bind hs
    refine qv_getI dX9_isSign_6 qF_X9_92 e5 ?_
    by_cases c6 : v1 ≤ a1
    · have hs := qv_pos c6 hs
      refine qv_icmp_ge (tgt := 16) dX9_isSign_9 rfl (fun _ => ?_) (fun q => absurd c6 q)
      refine qv_iconst (v := (0 : Int32)) dX9_isSign_16 rfl ?_
      cases hs
      exact qv_dp (qv_le_n (qv_le_n qv_le_0)) K1
    · have hs := qv_neg c6 hs
      refine qv_icmp_ge (tgt := 16) dX9_isSign_9 rfl (fun q => absurd q c6) (fun _ => ?_)
      refine qv_iconst (v := (1 : Int32)) dX9_isSign_12 rfl ?_
      refine qv_goto (tgt := 17) dX9_isSign_13 rfl ?_
      cases hs
      exact qv_dp (qv_le_n (qv_le_n qv_le_0)) K1
theorem qD_X9_isSign : qv_DV mX9_isSign 1 := ⟨(qv_i15 (List.mem_of_getElem? (i := 10) (by decide +kernel))), (qv_i0 (List.mem_of_getElem? (i := 36) (by decide +kernel))), (qv_i1 (List.mem_of_getElem? (i := 14) (by decide +kernel))), (qv_i15 (List.mem_of_getElem? (i := 11) (by decide +kernel))), by decide +kernel, by decide +kernel⟩
/-- TrueOneWayModel.letter(I)I -/
noncomputable def fX9_letter (a0 : Nat) (a1 : Int32) (h : qv_H) : Option (Int32 × qv_H) :=
  (fX9_bound a1 (0 : Int32) (255 : Int32)).bind fun v1 =>
  Option.bind (α := Int32) (
      if v1 = 0 then
        (qv_gI h 8 a0 25).bind fun v2 =>
        if v2 = (80 : Int32) then
          some (-6 : Int32)
        else
          some v1
      else
        some v1
    ) fun m3 =>
  if m3 = 0 then
    (qv_gR h 8 a0 18).bind fun v4 =>
    (qv_gI h 8 a0 25).bind fun v5 =>
    (qv_sI h false v4 v5 a1).bind fun h6 =>
    (qv_gI h6 8 a0 25).bind fun v7 =>
    (qv_pI h6 8 a0 25 (v7 + (1 : Int32))).bind fun h8 =>
    (qv_gI h8 8 a0 25).bind fun v9 =>
    some (v9, h8)
  else
    (qv_ob h 8 a0).bind fun _ =>
    (fX9_no a0 m3 h).bind fun (v11, h12) =>
    some (v11, h12)
abbrev mX9_letter : qv_M := (yX9_letter, cX9_letter, 3, (Option.some Jvm.ClassFile.FieldType.int), 1, 22)
set_option maxRecDepth 100000 in
set_option maxHeartbeats 4000000 in
theorem sX9_letter {l : Launch} {g : qv_G} {a0 : Nat} {a1 : Int32} {h : qv_H} {r : Int32} {hz : qv_H} (hs : fX9_letter a0 a1 h = some (r, hz)) : qv_J l g mX9_letter 0 [some (.ref a0), some (.int a1), none] [] h (some (.int r), hz) := by
  unfold fX9_letter at hs
  refine qv_iload_n dX9_letter_0 (i := 1) rfl rfl ?_
  refine qv_iconst (v := (0 : Int32)) dX9_letter_1 rfl ?_
  refine qv_sipush (v := (255 : Int32)) dX9_letter_2 rfl ?_
  obtain ⟨v1, e1, hs⟩ := qv_bind hs
  refine qv_cS (d2 := mX9_bound) (r := some (.int v1)) (h2 := h) (av := [.int a1, .int (0 : Int32), .int (255 : Int32)]) (st := []) dX9_letter_5 qM_X9_95 qD_X9_bound rfl ⟨by decide, by decide⟩ rfl (Nat.le_of_ble_eq_true rfl) (Nat.le_of_ble_eq_true rfl) (sX9_bound e1) rfl ?_
  refine qv_istore_n (lo2 := [some (.ref a0), some (.int a1), some (.int v1)]) dX9_letter_8 (i := 2) rfl (by decide) rfl (Nat.le_of_ble_eq_true rfl) rfl ?_
  refine qv_iload_n dX9_letter_9 (i := 2) rfl rfl ?_
  obtain ⟨m3, hj3, hs⟩ := qv_bind hs
  have K2 : qv_J l g mX9_letter 25 [some (.ref a0), some (.int a1), some (.int m3)] [] h (some (.int r), hz) := by
    refine qv_iload_n dX9_letter_25 (i := 2) rfl rfl ?_
    by_cases c4 : m3 = 0
    · have hs := qv_pos c4 hs
      refine qv_if_eq (tgt := 35) dX9_letter_26 rfl (fun _ => ?_) (fun q => absurd c4 q)
      refine qv_aload_n dX9_letter_35 (i := 0) rfl rfl ?_
      obtain ⟨v4, e5, hs⟩ := qv_bind hs
      refine qv_getR dX9_letter_36 qF_X9_47 e5 ?_
      refine qv_aload_n dX9_letter_39 (i := 0) rfl rfl ?_
      obtain ⟨v5, e6, hs⟩ := qv_bind hs
      refine qv_getI dX9_letter_40 qF_X9_99 e6 ?_
      refine qv_iload_n dX9_letter_43 (i := 1) rfl rfl ?_
      obtain ⟨h6, e7, hs⟩ := qv_bind hs
      refine qv_iast dX9_letter_44 e7 ?_
      refine qv_aload_n dX9_letter_45 (i := 0) rfl rfl ?_
      refine qv_dup dX9_letter_46 rfl ?_
      obtain ⟨v7, e8, hs⟩ := qv_bind hs
      refine qv_getI dX9_letter_47 qF_X9_99 e8 ?_
      refine qv_iconst (v := (1 : Int32)) dX9_letter_50 rfl ?_
      refine qv_iadd dX9_letter_51 ?_
      obtain ⟨h8, e9, hs⟩ := qv_bind hs
      refine qv_putI dX9_letter_52 qF_X9_99 e9 ?_
      refine qv_aload_n dX9_letter_55 (i := 0) rfl rfl ?_
      obtain ⟨v9, e10, hs⟩ := qv_bind hs
      refine qv_getI dX9_letter_56 qF_X9_99 e10 ?_
      obtain ⟨rfl, rfl⟩ := qv_pr hs
      exact qv_iret dX9_letter_59 rfl
    · have hs := qv_neg c4 hs
      refine qv_if_eq (tgt := 35) dX9_letter_26 rfl (fun q => absurd q c4) (fun _ => ?_)
      refine qv_aload_n dX9_letter_29 (i := 0) rfl rfl ?_
      refine qv_iload_n dX9_letter_30 (i := 2) rfl rfl ?_
      obtain ⟨u10, e11, hs⟩ := qv_bind hs
      obtain ⟨⟨v11, h12⟩, e12, hs⟩ := qv_bind hs
      dsimp only at hs
      refine qv_cV (d2 := mX9_no) (o := a0) (ci := 8) (r := some (.int v11)) (h2 := h12) (av := [.int m3]) (st := []) dX9_letter_31 qM_X9_102 qD_X9_no e11 rfl rfl ⟨by decide, by decide⟩ rfl (Nat.le_of_ble_eq_true rfl) (Nat.le_of_ble_eq_true rfl) (sX9_no e12) rfl ?_
      obtain ⟨rfl, rfl⟩ := qv_pr hs
      exact qv_iret dX9_letter_34 rfl
  replace hs := hj3
  by_cases c13 : v1 = 0
  · have hs := qv_pos c13 hs
    refine qv_if_ne (tgt := 25) dX9_letter_10 rfl (fun q => absurd c13 q) (fun _ => ?_)
    refine qv_aload_n dX9_letter_13 (i := 0) rfl rfl ?_
    obtain ⟨v2, e14, hs⟩ := qv_bind hs
    refine qv_getI dX9_letter_14 qF_X9_99 e14 ?_
    refine qv_bipush (v := (80 : Int32)) dX9_letter_17 rfl ?_
    by_cases c15 : v2 = (80 : Int32)
    · have hs := qv_pos c15 hs
      refine qv_icmp_ne (tgt := 25) dX9_letter_19 rfl (fun q => absurd c15 q) (fun _ => ?_)
      refine qv_bipush (v := (-6 : Int32)) dX9_letter_22 rfl ?_
      refine qv_istore_n (lo2 := [some (.ref a0), some (.int a1), some (.int (-6 : Int32))]) dX9_letter_24 (i := 2) rfl (by decide) rfl (Nat.le_of_ble_eq_true rfl) rfl ?_
      cases hs
      exact qv_dp (qv_le_s (qv_le_s (qv_le_s qv_le_0))) K2
    · have hs := qv_neg c15 hs
      refine qv_icmp_ne (tgt := 25) dX9_letter_19 rfl (fun _ => ?_) (fun q => absurd q c15)
      cases hs
      exact qv_dp (qv_le_s (qv_le_s (qv_le_s qv_le_0))) K2
  · have hs := qv_neg c13 hs
    refine qv_if_ne (tgt := 25) dX9_letter_10 rfl (fun _ => ?_) (fun q => absurd q c13)
    cases hs
    exact qv_dp (qv_le_s (qv_le_s (qv_le_s qv_le_0))) K2
theorem qD_X9_letter : qv_DV mX9_letter 1 := ⟨(qv_i13 (List.mem_of_getElem? (i := 57) (by decide +kernel))), (qv_i13 (List.mem_of_getElem? (i := 58) (by decide +kernel))), (qv_i1 (List.mem_of_getElem? (i := 14) (by decide +kernel))), (qv_i13 (List.mem_of_getElem? (i := 59) (by decide +kernel))), by decide +kernel, by decide +kernel⟩
/-- TrueOneWayModel.nextLetter()I -/
noncomputable def fX9_nextLetter (a0 : Nat) (h : qv_H) : Option (Int32) :=
  (qv_gI h 8 a0 26).bind fun v1 =>
  (qv_gI h 8 a0 25).bind fun v2 =>
  Option.bind (α := Int32) (
      if v2 ≤ v1 then
        some (-1 : Int32)
      else
        (qv_gR h 8 a0 18).bind fun v3 =>
        (qv_gI h 8 a0 26).bind fun v4 =>
        (qv_aI h false v3 v4).bind fun v5 =>
        some v5
    ) fun m6 =>
  some m6
abbrev mX9_nextLetter : qv_M := (yX9_nextLetter, cX9_nextLetter, 1, (Option.some Jvm.ClassFile.FieldType.int), 0, 0)
set_option maxRecDepth 100000 in
set_option maxHeartbeats 4000000 in
theorem sX9_nextLetter {l : Launch} {g : qv_G} {a0 : Nat} {h : qv_H} {r : Int32} (hs : fX9_nextLetter a0 h = some r) : qv_J l g mX9_nextLetter 0 [some (.ref a0)] [] h (some (.int r), h) := by
  unfold fX9_nextLetter at hs
  refine qv_aload_n dX9_nextLetter_0 (i := 0) rfl rfl ?_
  obtain ⟨v1, e1, hs⟩ := qv_bind hs
  refine qv_getI dX9_nextLetter_1 qF_X9_106 e1 ?_
  refine qv_aload_n dX9_nextLetter_4 (i := 0) rfl rfl ?_
  obtain ⟨v2, e2, hs⟩ := qv_bind hs
  refine qv_getI dX9_nextLetter_5 qF_X9_99 e2 ?_
  obtain ⟨m6, hj4, hs⟩ := qv_bind hs
  have K3 : qv_J l g mX9_nextLetter 24 [none] [.int m6] h (some (.int r), h) := by
    obtain rfl := qv_sm hs
    exact qv_iret dX9_nextLetter_24 rfl
  replace hs := hj4
  by_cases c5 : v2 ≤ v1
  · have hs := qv_pos c5 hs
    refine qv_icmp_ge (tgt := 23) dX9_nextLetter_8 rfl (fun _ => ?_) (fun q => absurd c5 q)
    refine qv_iconst (v := (-1 : Int32)) dX9_nextLetter_23 rfl ?_
    cases hs
    exact qv_dp (qv_le_n qv_le_0) K3
  · have hs := qv_neg c5 hs
    refine qv_icmp_ge (tgt := 23) dX9_nextLetter_8 rfl (fun q => absurd q c5) (fun _ => ?_)
    refine qv_aload_n dX9_nextLetter_11 (i := 0) rfl rfl ?_
    obtain ⟨v3, e6, hs⟩ := qv_bind hs
    refine qv_getR dX9_nextLetter_12 qF_X9_47 e6 ?_
    refine qv_aload_n dX9_nextLetter_15 (i := 0) rfl rfl ?_
    obtain ⟨v4, e7, hs⟩ := qv_bind hs
    refine qv_getI dX9_nextLetter_16 qF_X9_106 e7 ?_
    obtain ⟨v5, e8, hs⟩ := qv_bind hs
    refine qv_iald dX9_nextLetter_19 e8 ?_
    refine qv_goto (tgt := 24) dX9_nextLetter_20 rfl ?_
    cases hs
    exact qv_dp (qv_le_n qv_le_0) K3
theorem qD_X9_nextLetter : qv_DV mX9_nextLetter 0 := ⟨(qv_i14 (List.mem_of_getElem? (i := 10) (by decide +kernel))), (qv_i0 (List.mem_of_getElem? (i := 23) (by decide +kernel))), (qv_i1 (List.mem_of_getElem? (i := 14) (by decide +kernel))), (qv_i14 (List.mem_of_getElem? (i := 11) (by decide +kernel))), by decide +kernel, by decide +kernel⟩
/-- TrueOneWayModel.digit()I -/
noncomputable def fX9_digit (a0 : Nat) (h : qv_H) : Option (Int32 × qv_H) :=
  (qv_ob h 8 a0).bind fun _ =>
  (fX9_nextLetter a0 h).bind fun v2 =>
  (fX9_isIn v2 (48 : Int32) (57 : Int32)).bind fun v3 =>
  if v3 = 0 then
    some ((-1 : Int32), h)
  else
    (qv_gI h 8 a0 26).bind fun v4 =>
    (qv_pI h 8 a0 26 (v4 + (1 : Int32))).bind fun h5 =>
    (qv_gR h5 8 a0 18).bind fun v6 =>
    (qv_gI h5 8 a0 26).bind fun v7 =>
    (qv_aI h5 false v6 (v7 - (1 : Int32))).bind fun v8 =>
    some (v8 - (48 : Int32), h5)
abbrev mX9_digit : qv_M := (yX9_digit, cX9_digit, 1, (Option.some Jvm.ClassFile.FieldType.int), 1, 22)
set_option maxRecDepth 100000 in
set_option maxHeartbeats 4000000 in
theorem sX9_digit {l : Launch} {g : qv_G} {a0 : Nat} {h : qv_H} {r : Int32} {hz : qv_H} (hs : fX9_digit a0 h = some (r, hz)) : qv_J l g mX9_digit 0 [some (.ref a0)] [] h (some (.int r), hz) := by
  unfold fX9_digit at hs
  refine qv_aload_n dX9_digit_0 (i := 0) rfl rfl ?_
  obtain ⟨u1, e1, hs⟩ := qv_bind hs
  obtain ⟨v2, e2, hs⟩ := qv_bind hs
  refine qv_cV (d2 := mX9_nextLetter) (o := a0) (ci := 8) (r := some (.int v2)) (h2 := h) (av := []) (st := []) dX9_digit_1 qM_X9_109 qD_X9_nextLetter e1 rfl rfl ⟨by decide, by decide⟩ rfl (Nat.le_of_ble_eq_true rfl) (Nat.le_of_ble_eq_true rfl) (sX9_nextLetter e2) rfl ?_
  refine qv_bipush (v := (48 : Int32)) dX9_digit_4 rfl ?_
  refine qv_bipush (v := (57 : Int32)) dX9_digit_6 rfl ?_
  obtain ⟨v3, e3, hs⟩ := qv_bind hs
  refine qv_cS (d2 := mX9_isIn) (r := some (.int v3)) (h2 := h) (av := [.int v2, .int (48 : Int32), .int (57 : Int32)]) (st := []) dX9_digit_8 qM_X9_113 qD_X9_isIn rfl ⟨by decide, by decide⟩ rfl (Nat.le_of_ble_eq_true rfl) (Nat.le_of_ble_eq_true rfl) (sX9_isIn e3) rfl ?_
  by_cases c4 : v3 = 0
  · have hs := qv_pos c4 hs
    refine qv_if_ne (tgt := 16) dX9_digit_11 rfl (fun q => absurd c4 q) (fun _ => ?_)
    refine qv_iconst (v := (-1 : Int32)) dX9_digit_14 rfl ?_
    obtain ⟨rfl, rfl⟩ := qv_pr hs
    exact qv_iret dX9_digit_15 rfl
  · have hs := qv_neg c4 hs
    refine qv_if_ne (tgt := 16) dX9_digit_11 rfl (fun _ => ?_) (fun q => absurd q c4)
    refine qv_aload_n dX9_digit_16 (i := 0) rfl rfl ?_
    refine qv_dup dX9_digit_17 rfl ?_
    obtain ⟨v4, e5, hs⟩ := qv_bind hs
    refine qv_getI dX9_digit_18 qF_X9_106 e5 ?_
    refine qv_iconst (v := (1 : Int32)) dX9_digit_21 rfl ?_
    refine qv_iadd dX9_digit_22 ?_
    obtain ⟨h5, e6, hs⟩ := qv_bind hs
    refine qv_putI dX9_digit_23 qF_X9_106 e6 ?_
    refine qv_aload_n dX9_digit_26 (i := 0) rfl rfl ?_
    obtain ⟨v6, e7, hs⟩ := qv_bind hs
    refine qv_getR dX9_digit_27 qF_X9_47 e7 ?_
    refine qv_aload_n dX9_digit_30 (i := 0) rfl rfl ?_
    obtain ⟨v7, e8, hs⟩ := qv_bind hs
    refine qv_getI dX9_digit_31 qF_X9_106 e8 ?_
    refine qv_iconst (v := (1 : Int32)) dX9_digit_34 rfl ?_
    refine qv_isub dX9_digit_35 ?_
    obtain ⟨v8, e9, hs⟩ := qv_bind hs
    refine qv_iald dX9_digit_36 e9 ?_
    refine qv_bipush (v := (48 : Int32)) dX9_digit_37 rfl ?_
    refine qv_isub dX9_digit_39 ?_
    obtain ⟨rfl, rfl⟩ := qv_pr hs
    exact qv_iret dX9_digit_40 rfl
theorem qD_X9_digit : qv_DV mX9_digit 0 := ⟨(qv_i14 (List.mem_of_getElem? (i := 19) (by decide +kernel))), (qv_i0 (List.mem_of_getElem? (i := 25) (by decide +kernel))), (qv_i1 (List.mem_of_getElem? (i := 14) (by decide +kernel))), (qv_i14 (List.mem_of_getElem? (i := 20) (by decide +kernel))), by decide +kernel, by decide +kernel⟩
/-- TrueOneWayModel.kindOf(I)I -/
noncomputable def fX9_kindOf (a0 : Int32) : Option (Int32) :=
  if a0 = (97 : Int32) then
    some (2 : Int32)
  else
    if a0 = (102 : Int32) then
      some (0 : Int32)
    else
      if a0 = (106 : Int32) then
        some (6 : Int32)
      else
        if a0 = (110 : Int32) then
          some (1 : Int32)
        else
          if a0 = (111 : Int32) then
            some (3 : Int32)
          else
            if a0 = (119 : Int32) then
              some (5 : Int32)
            else
              if a0 = (120 : Int32) then
                some (4 : Int32)
              else
                some (-1 : Int32)
abbrev mX9_kindOf : qv_M := (yX9_kindOf, cX9_kindOf, 1, (Option.some Jvm.ClassFile.FieldType.int), 0, 0)
set_option maxRecDepth 100000 in
set_option maxHeartbeats 4000000 in
theorem sX9_kindOf {l : Launch} {g : qv_G} {a0 : Int32} {h : qv_H} {r : Int32} (hs : fX9_kindOf a0 = some r) : qv_J l g mX9_kindOf 0 [some (.int a0)] [] h (some (.int r), h) := by
  unfold fX9_kindOf at hs
  refine qv_iload_n dX9_kindOf_0 (i := 0) rfl rfl ?_
  by_cases c1 : a0 = (97 : Int32)
  · have hs := qv_pos c1 hs
    refine qv_tsIn (tgt := 116) (97 : Int32) c1 dX9_kindOf_1 (by decide) (by decide) rfl rfl ?_
    refine qv_iconst (v := (2 : Int32)) dX9_kindOf_116 rfl ?_
    obtain rfl := qv_sm hs
    exact qv_iret dX9_kindOf_117 rfl
  · have hs := qv_neg c1 hs
    by_cases c2 : a0 = (102 : Int32)
    · have hs := qv_pos c2 hs
      refine qv_tsIn (tgt := 112) (102 : Int32) c2 dX9_kindOf_1 (by decide) (by decide) rfl rfl ?_
      refine qv_iconst (v := (0 : Int32)) dX9_kindOf_112 rfl ?_
      obtain rfl := qv_sm hs
      exact qv_iret dX9_kindOf_113 rfl
    · have hs := qv_neg c2 hs
      by_cases c3 : a0 = (106 : Int32)
      · have hs := qv_pos c3 hs
        refine qv_tsIn (tgt := 124) (106 : Int32) c3 dX9_kindOf_1 (by decide) (by decide) rfl rfl ?_
        refine qv_bipush (v := (6 : Int32)) dX9_kindOf_124 rfl ?_
        obtain rfl := qv_sm hs
        exact qv_iret dX9_kindOf_126 rfl
      · have hs := qv_neg c3 hs
        by_cases c4 : a0 = (110 : Int32)
        · have hs := qv_pos c4 hs
          refine qv_tsIn (tgt := 114) (110 : Int32) c4 dX9_kindOf_1 (by decide) (by decide) rfl rfl ?_
          refine qv_iconst (v := (1 : Int32)) dX9_kindOf_114 rfl ?_
          obtain rfl := qv_sm hs
          exact qv_iret dX9_kindOf_115 rfl
        · have hs := qv_neg c4 hs
          by_cases c5 : a0 = (111 : Int32)
          · have hs := qv_pos c5 hs
            refine qv_tsIn (tgt := 118) (111 : Int32) c5 dX9_kindOf_1 (by decide) (by decide) rfl rfl ?_
            refine qv_iconst (v := (3 : Int32)) dX9_kindOf_118 rfl ?_
            obtain rfl := qv_sm hs
            exact qv_iret dX9_kindOf_119 rfl
          · have hs := qv_neg c5 hs
            by_cases c6 : a0 = (119 : Int32)
            · have hs := qv_pos c6 hs
              refine qv_tsIn (tgt := 122) (119 : Int32) c6 dX9_kindOf_1 (by decide) (by decide) rfl rfl ?_
              refine qv_iconst (v := (5 : Int32)) dX9_kindOf_122 rfl ?_
              obtain rfl := qv_sm hs
              exact qv_iret dX9_kindOf_123 rfl
            · have hs := qv_neg c6 hs
              by_cases c7 : a0 = (120 : Int32)
              · have hs := qv_pos c7 hs
                refine qv_tsIn (tgt := 120) (120 : Int32) c7 dX9_kindOf_1 (by decide) (by decide) rfl rfl ?_
                refine qv_iconst (v := (4 : Int32)) dX9_kindOf_120 rfl ?_
                obtain rfl := qv_sm hs
                exact qv_iret dX9_kindOf_121 rfl
              · have hs := qv_neg c7 hs
                refine qv_tsDef (tgt := 127) dX9_kindOf_1 (fun j hj ej => ?_) rfl ?_
                · rcases (show j = 0 ∨ j = 1 ∨ j = 2 ∨ j = 3 ∨ j = 4 ∨ j = 5 ∨ j = 6 ∨ j = 7 ∨ j = 8 ∨ j = 9 ∨ j = 10 ∨ j = 11 ∨ j = 12 ∨ j = 13 ∨ j = 14 ∨ j = 15 ∨ j = 16 ∨ j = 17 ∨ j = 18 ∨ j = 19 ∨ j = 20 ∨ j = 21 ∨ j = 22 ∨ j = 23 by omega) with rfl | rfl | rfl | rfl | rfl | rfl | rfl | rfl | rfl | rfl | rfl | rfl | rfl | rfl | rfl | rfl | rfl | rfl | rfl | rfl | rfl | rfl | rfl | rfl
                  · exact absurd (Int32.toInt_inj.mp (by rw [ej]; rfl)) c1
                  · exact rfl
                  · exact rfl
                  · exact rfl
                  · exact rfl
                  · exact absurd (Int32.toInt_inj.mp (by rw [ej]; rfl)) c2
                  · exact rfl
                  · exact rfl
                  · exact rfl
                  · exact absurd (Int32.toInt_inj.mp (by rw [ej]; rfl)) c3
                  · exact rfl
                  · exact rfl
                  · exact rfl
                  · exact absurd (Int32.toInt_inj.mp (by rw [ej]; rfl)) c4
                  · exact absurd (Int32.toInt_inj.mp (by rw [ej]; rfl)) c5
                  · exact rfl
                  · exact rfl
                  · exact rfl
                  · exact rfl
                  · exact rfl
                  · exact rfl
                  · exact rfl
                  · exact absurd (Int32.toInt_inj.mp (by rw [ej]; rfl)) c6
                  · exact absurd (Int32.toInt_inj.mp (by rw [ej]; rfl)) c7
                refine qv_iconst (v := (-1 : Int32)) dX9_kindOf_127 rfl ?_
                obtain rfl := qv_sm hs
                exact qv_iret dX9_kindOf_128 rfl
theorem qD_X9_kindOf : qv_DS mX9_kindOf 1 := ⟨(qv_i14 (List.mem_of_getElem? (i := 25) (by decide +kernel))), (qv_i1 (List.mem_of_getElem? (i := 14) (by decide +kernel))), (qv_i14 (List.mem_of_getElem? (i := 26) (by decide +kernel))), by decide +kernel, by decide +kernel⟩
/-- TrueOneWayModel.readsSign(I)Z -/
noncomputable def fX9_readsSign (a0 : Nat) (a1 : Int32) (h : qv_H) : Option (Int32 × qv_H) :=
  (qv_gR h 8 a0 21).bind fun v1 =>
  (qv_ob h 8 a0).bind fun _ =>
  (fX9_digit a0 h).bind fun (v3, h4) =>
  (qv_sI h4 false v1 a1 v3).bind fun h5 =>
  (qv_gR h5 8 a0 21).bind fun v6 =>
  (qv_aI h5 false v6 a1).bind fun v7 =>
  if 0 ≤ v7 then
    (qv_gR h5 8 a0 22).bind fun v8 =>
    (qv_ob h5 8 a0).bind fun _ =>
    (fX9_nextLetter a0 h5).bind fun v10 =>
    (fX9_kindOf v10).bind fun v11 =>
    (qv_sI h5 false v8 a1 v11).bind fun h12 =>
    (qv_gR h12 8 a0 22).bind fun v13 =>
    (qv_aI h12 false v13 a1).bind fun v14 =>
    if 0 ≤ v14 then
      (qv_gI h12 8 a0 26).bind fun v15 =>
      (qv_pI h12 8 a0 26 (v15 + (1 : Int32))).bind fun h16 =>
      (qv_gR h16 8 a0 23).bind fun v17 =>
      (qv_ob h16 8 a0).bind fun _ =>
      (fX9_digit a0 h16).bind fun (v19, h20) =>
      (qv_sI h20 false v17 a1 v19).bind fun h21 =>
      (qv_gR h21 8 a0 23).bind fun v22 =>
      (qv_aI h21 false v22 a1).bind fun v23 =>
      if 0 ≤ v23 then
        (qv_gR h21 8 a0 24).bind fun v24 =>
        (qv_ob h21 8 a0).bind fun _ =>
        (fX9_digit a0 h21).bind fun (v26, h27) =>
        (qv_sI h27 false v24 a1 v26).bind fun h28 =>
        (qv_gR h28 8 a0 24).bind fun v29 =>
        (qv_aI h28 false v29 a1).bind fun v30 =>
        Option.bind (α := Int32) (
            if v30 < 0 then
              some (0 : Int32)
            else
              some (1 : Int32)
          ) fun m31 =>
        (qv_b1 m31).bind fun v32 =>
        some (m31, h28)
      else
        some ((0 : Int32), h21)
    else
      some ((0 : Int32), h12)
  else
    some ((0 : Int32), h5)
abbrev mX9_readsSign : qv_M := (yX9_readsSign, cX9_readsSign, 2, (Option.some Jvm.ClassFile.FieldType.boolean), 2, 42)
set_option maxRecDepth 100000 in
set_option maxHeartbeats 4000000 in
theorem sX9_readsSign {l : Launch} {g : qv_G} {a0 : Nat} {a1 : Int32} {h : qv_H} {r : Int32} {hz : qv_H} (hs : fX9_readsSign a0 a1 h = some (r, hz)) : qv_J l g mX9_readsSign 0 [some (.ref a0), some (.int a1)] [] h (some (.int r), hz) := by
  unfold fX9_readsSign at hs
  refine qv_aload_n dX9_readsSign_0 (i := 0) rfl rfl ?_
  obtain ⟨v1, e1, hs⟩ := qv_bind hs
  refine qv_getR dX9_readsSign_1 qF_X9_56 e1 ?_
  refine qv_iload_n dX9_readsSign_4 (i := 1) rfl rfl ?_
  refine qv_aload_n dX9_readsSign_5 (i := 0) rfl rfl ?_
  obtain ⟨u2, e2, hs⟩ := qv_bind hs
  obtain ⟨⟨v3, h4⟩, e3, hs⟩ := qv_bind hs
  dsimp only at hs
  refine qv_cV (d2 := mX9_digit) (o := a0) (ci := 8) (r := some (.int v3)) (h2 := h4) (av := []) (st := [.int a1, .ref v1]) dX9_readsSign_6 qM_X9_117 qD_X9_digit e2 rfl rfl ⟨by decide, by decide⟩ rfl (Nat.le_of_ble_eq_true rfl) (Nat.le_of_ble_eq_true rfl) (sX9_digit e3) rfl ?_
  obtain ⟨h5, e4, hs⟩ := qv_bind hs
  refine qv_iast dX9_readsSign_9 e4 ?_
  refine qv_aload_n dX9_readsSign_10 (i := 0) rfl rfl ?_
  obtain ⟨v6, e5, hs⟩ := qv_bind hs
  refine qv_getR dX9_readsSign_11 qF_X9_56 e5 ?_
  refine qv_iload_n dX9_readsSign_14 (i := 1) rfl rfl ?_
  obtain ⟨v7, e6, hs⟩ := qv_bind hs
  refine qv_iald dX9_readsSign_15 e6 ?_
  by_cases c7 : 0 ≤ v7
  · have hs := qv_pos c7 hs
    refine qv_if_ge (tgt := 21) dX9_readsSign_16 rfl (fun _ => ?_) (fun q => absurd c7 q)
    refine qv_aload_n dX9_readsSign_21 (i := 0) rfl rfl ?_
    obtain ⟨v8, e8, hs⟩ := qv_bind hs
    refine qv_getR dX9_readsSign_22 qF_X9_59 e8 ?_
    refine qv_iload_n dX9_readsSign_25 (i := 1) rfl rfl ?_
    refine qv_aload_n dX9_readsSign_26 (i := 0) rfl rfl ?_
    obtain ⟨u9, e9, hs⟩ := qv_bind hs
    obtain ⟨v10, e10, hs⟩ := qv_bind hs
    refine qv_cV (d2 := mX9_nextLetter) (o := a0) (ci := 8) (r := some (.int v10)) (h2 := h5) (av := []) (st := [.int a1, .ref v8]) dX9_readsSign_27 qM_X9_109 qD_X9_nextLetter e9 rfl rfl ⟨by decide, by decide⟩ rfl (Nat.le_of_ble_eq_true rfl) (Nat.le_of_ble_eq_true rfl) (sX9_nextLetter e10) rfl ?_
    obtain ⟨v11, e11, hs⟩ := qv_bind hs
    refine qv_cS (d2 := mX9_kindOf) (r := some (.int v11)) (h2 := h5) (av := [.int v10]) (st := [.int a1, .ref v8]) dX9_readsSign_30 qM_X9_120 qD_X9_kindOf rfl ⟨by decide, by decide⟩ rfl (Nat.le_of_ble_eq_true rfl) (Nat.le_of_ble_eq_true rfl) (sX9_kindOf e11) rfl ?_
    obtain ⟨h12, e12, hs⟩ := qv_bind hs
    refine qv_iast dX9_readsSign_33 e12 ?_
    refine qv_aload_n dX9_readsSign_34 (i := 0) rfl rfl ?_
    obtain ⟨v13, e13, hs⟩ := qv_bind hs
    refine qv_getR dX9_readsSign_35 qF_X9_59 e13 ?_
    refine qv_iload_n dX9_readsSign_38 (i := 1) rfl rfl ?_
    obtain ⟨v14, e14, hs⟩ := qv_bind hs
    refine qv_iald dX9_readsSign_39 e14 ?_
    by_cases c15 : 0 ≤ v14
    · have hs := qv_pos c15 hs
      refine qv_if_ge (tgt := 45) dX9_readsSign_40 rfl (fun _ => ?_) (fun q => absurd c15 q)
      refine qv_aload_n dX9_readsSign_45 (i := 0) rfl rfl ?_
      refine qv_dup dX9_readsSign_46 rfl ?_
      obtain ⟨v15, e16, hs⟩ := qv_bind hs
      refine qv_getI dX9_readsSign_47 qF_X9_106 e16 ?_
      refine qv_iconst (v := (1 : Int32)) dX9_readsSign_50 rfl ?_
      refine qv_iadd dX9_readsSign_51 ?_
      obtain ⟨h16, e17, hs⟩ := qv_bind hs
      refine qv_putI dX9_readsSign_52 qF_X9_106 e17 ?_
      refine qv_aload_n dX9_readsSign_55 (i := 0) rfl rfl ?_
      obtain ⟨v17, e18, hs⟩ := qv_bind hs
      refine qv_getR dX9_readsSign_56 qF_X9_62 e18 ?_
      refine qv_iload_n dX9_readsSign_59 (i := 1) rfl rfl ?_
      refine qv_aload_n dX9_readsSign_60 (i := 0) rfl rfl ?_
      obtain ⟨u18, e19, hs⟩ := qv_bind hs
      obtain ⟨⟨v19, h20⟩, e20, hs⟩ := qv_bind hs
      dsimp only at hs
      refine qv_cV (d2 := mX9_digit) (o := a0) (ci := 8) (r := some (.int v19)) (h2 := h20) (av := []) (st := [.int a1, .ref v17]) dX9_readsSign_61 qM_X9_117 qD_X9_digit e19 rfl rfl ⟨by decide, by decide⟩ rfl (Nat.le_of_ble_eq_true rfl) (Nat.le_of_ble_eq_true rfl) (sX9_digit e20) rfl ?_
      obtain ⟨h21, e21, hs⟩ := qv_bind hs
      refine qv_iast dX9_readsSign_64 e21 ?_
      refine qv_aload_n dX9_readsSign_65 (i := 0) rfl rfl ?_
      obtain ⟨v22, e22, hs⟩ := qv_bind hs
      refine qv_getR dX9_readsSign_66 qF_X9_62 e22 ?_
      refine qv_iload_n dX9_readsSign_69 (i := 1) rfl rfl ?_
      obtain ⟨v23, e23, hs⟩ := qv_bind hs
      refine qv_iald dX9_readsSign_70 e23 ?_
      by_cases c24 : 0 ≤ v23
      · have hs := qv_pos c24 hs
        refine qv_if_ge (tgt := 76) dX9_readsSign_71 rfl (fun _ => ?_) (fun q => absurd c24 q)
        refine qv_aload_n dX9_readsSign_76 (i := 0) rfl rfl ?_
        obtain ⟨v24, e25, hs⟩ := qv_bind hs
        refine qv_getR dX9_readsSign_77 qF_X9_65 e25 ?_
        refine qv_iload_n dX9_readsSign_80 (i := 1) rfl rfl ?_
        refine qv_aload_n dX9_readsSign_81 (i := 0) rfl rfl ?_
        obtain ⟨u25, e26, hs⟩ := qv_bind hs
        obtain ⟨⟨v26, h27⟩, e27, hs⟩ := qv_bind hs
        dsimp only at hs
        refine qv_cV (d2 := mX9_digit) (o := a0) (ci := 8) (r := some (.int v26)) (h2 := h27) (av := []) (st := [.int a1, .ref v24]) dX9_readsSign_82 qM_X9_117 qD_X9_digit e26 rfl rfl ⟨by decide, by decide⟩ rfl (Nat.le_of_ble_eq_true rfl) (Nat.le_of_ble_eq_true rfl) (sX9_digit e27) rfl ?_
        obtain ⟨h28, e28, hs⟩ := qv_bind hs
        refine qv_iast dX9_readsSign_85 e28 ?_
        refine qv_aload_n dX9_readsSign_86 (i := 0) rfl rfl ?_
        obtain ⟨v29, e29, hs⟩ := qv_bind hs
        refine qv_getR dX9_readsSign_87 qF_X9_65 e29 ?_
        refine qv_iload_n dX9_readsSign_90 (i := 1) rfl rfl ?_
        obtain ⟨v30, e30, hs⟩ := qv_bind hs
        refine qv_iald dX9_readsSign_91 e30 ?_
        obtain ⟨m31, hj32, hs⟩ := qv_bind hs
        have K31 : qv_J l g mX9_readsSign 100 [none, none] [.int m31] h28 (some (.int r), hz) := by
          obtain ⟨v32, e33, hs⟩ := qv_bind hs
          obtain ⟨rfl, rfl⟩ := qv_pr hs
          exact qv_zret dX9_readsSign_100 rfl (qv_b1_of e33).1
        replace hs := hj32
        by_cases c34 : v30 < 0
        · have hs := qv_pos c34 hs
          refine qv_if_lt (tgt := 99) dX9_readsSign_92 rfl (fun _ => ?_) (fun q => absurd c34 q)
          refine qv_iconst (v := (0 : Int32)) dX9_readsSign_99 rfl ?_
          cases hs
          exact qv_dp (qv_le_n (qv_le_n qv_le_0)) K31
        · have hs := qv_neg c34 hs
          refine qv_if_lt (tgt := 99) dX9_readsSign_92 rfl (fun q => absurd q c34) (fun _ => ?_)
          refine qv_iconst (v := (1 : Int32)) dX9_readsSign_95 rfl ?_
          refine qv_goto (tgt := 100) dX9_readsSign_96 rfl ?_
          cases hs
          exact qv_dp (qv_le_n (qv_le_n qv_le_0)) K31
      · have hs := qv_neg c24 hs
        refine qv_if_ge (tgt := 76) dX9_readsSign_71 rfl (fun q => absurd q c24) (fun _ => ?_)
        refine qv_iconst (v := (0 : Int32)) dX9_readsSign_74 rfl ?_
        obtain ⟨rfl, rfl⟩ := qv_pr hs
        exact qv_zret dX9_readsSign_75 rfl (by decide)
    · have hs := qv_neg c15 hs
      refine qv_if_ge (tgt := 45) dX9_readsSign_40 rfl (fun q => absurd q c15) (fun _ => ?_)
      refine qv_iconst (v := (0 : Int32)) dX9_readsSign_43 rfl ?_
      obtain ⟨rfl, rfl⟩ := qv_pr hs
      exact qv_zret dX9_readsSign_44 rfl (by decide)
  · have hs := qv_neg c7 hs
    refine qv_if_ge (tgt := 21) dX9_readsSign_16 rfl (fun q => absurd q c7) (fun _ => ?_)
    refine qv_iconst (v := (0 : Int32)) dX9_readsSign_19 rfl ?_
    obtain ⟨rfl, rfl⟩ := qv_pr hs
    exact qv_zret dX9_readsSign_20 rfl (by decide)
theorem qD_X9_readsSign : qv_DV mX9_readsSign 1 := ⟨(qv_i14 (List.mem_of_getElem? (i := 16) (by decide +kernel))), (qv_i0 (List.mem_of_getElem? (i := 24) (by decide +kernel))), (qv_i1 (List.mem_of_getElem? (i := 14) (by decide +kernel))), (qv_i14 (List.mem_of_getElem? (i := 17) (by decide +kernel))), by decide +kernel, by decide +kernel⟩
/-- TrueOneWayModel.readsDigits(II)Z -/
noncomputable def fX9_readsDigits (a0 : Nat) (a1 : Int32) (a2 : Int32) (h : qv_H) : Option (Int32 × qv_H) :=
  (qv_gR h 8 a0 21).bind fun v1 =>
  Option.bind (α := Int32 × Int32 × qv_H) (
      if a2 ≤ 0 then
        some (a2, (0 : Int32), h)
      else
        (qv_ob h 8 a0).bind fun _ =>
        (fX9_digit a0 h).bind fun (v3, h4) =>
        some (a2, v3, h4)
    ) fun (m5, m6, h7) =>
  (qv_sI h7 false v1 a1 m6).bind fun h8 =>
  (qv_gR h8 8 a0 21).bind fun v9 =>
  (qv_aI h8 false v9 a1).bind fun v10 =>
  if 0 ≤ v10 then
    (qv_gR h8 8 a0 22).bind fun v11 =>
    Option.bind (α := Int32 × qv_H) (
        if m5 ≤ (1 : Int32) then
          some ((0 : Int32), h8)
        else
          (qv_ob h8 8 a0).bind fun _ =>
          (fX9_digit a0 h8).bind fun (v13, h14) =>
          some (v13, h14)
      ) fun (m15, h16) =>
    (qv_sI h16 false v11 a1 m15).bind fun h17 =>
    (qv_gR h17 8 a0 22).bind fun v18 =>
    (qv_aI h17 false v18 a1).bind fun v19 =>
    if 0 ≤ v19 then
      (qv_gR h17 8 a0 23).bind fun v20 =>
      Option.bind (α := Int32 × qv_H) (
          if m5 ≤ (2 : Int32) then
            some ((0 : Int32), h17)
          else
            (qv_ob h17 8 a0).bind fun _ =>
            (fX9_digit a0 h17).bind fun (v22, h23) =>
            some (v22, h23)
        ) fun (m24, h25) =>
      (qv_sI h25 false v20 a1 m24).bind fun h26 =>
      (qv_gR h26 8 a0 23).bind fun v27 =>
      (qv_aI h26 false v27 a1).bind fun v28 =>
      Option.bind (α := Int32) (
          if v28 < 0 then
            some (0 : Int32)
          else
            some (1 : Int32)
        ) fun m29 =>
      (qv_b1 m29).bind fun v30 =>
      some (m29, h26)
    else
      some ((0 : Int32), h17)
  else
    some ((0 : Int32), h8)
abbrev mX9_readsDigits : qv_M := (yX9_readsDigits, cX9_readsDigits, 3, (Option.some Jvm.ClassFile.FieldType.boolean), 2, 42)
set_option maxRecDepth 100000 in
set_option maxHeartbeats 4000000 in
theorem sX9_readsDigits {l : Launch} {g : qv_G} {a0 : Nat} {a1 : Int32} {a2 : Int32} {h : qv_H} {r : Int32} {hz : qv_H} (hs : fX9_readsDigits a0 a1 a2 h = some (r, hz)) : qv_J l g mX9_readsDigits 0 [some (.ref a0), some (.int a1), some (.int a2)] [] h (some (.int r), hz) := by
  unfold fX9_readsDigits at hs
  refine qv_aload_n dX9_readsDigits_0 (i := 0) rfl rfl ?_
  obtain ⟨v1, e1, hs⟩ := qv_bind hs
  refine qv_getR dX9_readsDigits_1 qF_X9_56 e1 ?_
  refine qv_iload_n dX9_readsDigits_4 (i := 1) rfl rfl ?_
  refine qv_iload_n dX9_readsDigits_5 (i := 2) rfl rfl ?_
  obtain ⟨⟨m5, m6, h7⟩, hj3, hs⟩ := qv_bind hs
  dsimp only at hs
  have K2 : qv_J l g mX9_readsDigits 17 [some (.ref a0), some (.int a1), some (.int m5)] [.int m6, .int a1, .ref v1] h7 (some (.int r), hz) := by
    obtain ⟨h8, e4, hs⟩ := qv_bind hs
    refine qv_iast dX9_readsDigits_17 e4 ?_
    refine qv_aload_n dX9_readsDigits_18 (i := 0) rfl rfl ?_
    obtain ⟨v9, e5, hs⟩ := qv_bind hs
    refine qv_getR dX9_readsDigits_19 qF_X9_56 e5 ?_
    refine qv_iload_n dX9_readsDigits_22 (i := 1) rfl rfl ?_
    obtain ⟨v10, e6, hs⟩ := qv_bind hs
    refine qv_iald dX9_readsDigits_23 e6 ?_
    by_cases c7 : 0 ≤ v10
    · have hs := qv_pos c7 hs
      refine qv_if_ge (tgt := 29) dX9_readsDigits_24 rfl (fun _ => ?_) (fun q => absurd c7 q)
      refine qv_aload_n dX9_readsDigits_29 (i := 0) rfl rfl ?_
      obtain ⟨v11, e8, hs⟩ := qv_bind hs
      refine qv_getR dX9_readsDigits_30 qF_X9_59 e8 ?_
      refine qv_iload_n dX9_readsDigits_33 (i := 1) rfl rfl ?_
      refine qv_iload_n dX9_readsDigits_34 (i := 2) rfl rfl ?_
      refine qv_iconst (v := (1 : Int32)) dX9_readsDigits_35 rfl ?_
      obtain ⟨⟨m15, h16⟩, hj10, hs⟩ := qv_bind hs
      dsimp only at hs
      have K9 : qv_J l g mX9_readsDigits 47 [some (.ref a0), some (.int a1), some (.int m5)] [.int m15, .int a1, .ref v11] h16 (some (.int r), hz) := by
        obtain ⟨h17, e11, hs⟩ := qv_bind hs
        refine qv_iast dX9_readsDigits_47 e11 ?_
        refine qv_aload_n dX9_readsDigits_48 (i := 0) rfl rfl ?_
        obtain ⟨v18, e12, hs⟩ := qv_bind hs
        refine qv_getR dX9_readsDigits_49 qF_X9_59 e12 ?_
        refine qv_iload_n dX9_readsDigits_52 (i := 1) rfl rfl ?_
        obtain ⟨v19, e13, hs⟩ := qv_bind hs
        refine qv_iald dX9_readsDigits_53 e13 ?_
        by_cases c14 : 0 ≤ v19
        · have hs := qv_pos c14 hs
          refine qv_if_ge (tgt := 59) dX9_readsDigits_54 rfl (fun _ => ?_) (fun q => absurd c14 q)
          refine qv_aload_n dX9_readsDigits_59 (i := 0) rfl rfl ?_
          obtain ⟨v20, e15, hs⟩ := qv_bind hs
          refine qv_getR dX9_readsDigits_60 qF_X9_62 e15 ?_
          refine qv_iload_n dX9_readsDigits_63 (i := 1) rfl rfl ?_
          refine qv_iload_n dX9_readsDigits_64 (i := 2) rfl rfl ?_
          refine qv_iconst (v := (2 : Int32)) dX9_readsDigits_65 rfl ?_
          obtain ⟨⟨m24, h25⟩, hj17, hs⟩ := qv_bind hs
          dsimp only at hs
          have K16 : qv_J l g mX9_readsDigits 77 [some (.ref a0), some (.int a1), none] [.int m24, .int a1, .ref v20] h25 (some (.int r), hz) := by
            obtain ⟨h26, e18, hs⟩ := qv_bind hs
            refine qv_iast dX9_readsDigits_77 e18 ?_
            refine qv_aload_n dX9_readsDigits_78 (i := 0) rfl rfl ?_
            obtain ⟨v27, e19, hs⟩ := qv_bind hs
            refine qv_getR dX9_readsDigits_79 qF_X9_62 e19 ?_
            refine qv_iload_n dX9_readsDigits_82 (i := 1) rfl rfl ?_
            obtain ⟨v28, e20, hs⟩ := qv_bind hs
            refine qv_iald dX9_readsDigits_83 e20 ?_
            obtain ⟨m29, hj22, hs⟩ := qv_bind hs
            have K21 : qv_J l g mX9_readsDigits 92 [none, none, none] [.int m29] h26 (some (.int r), hz) := by
              obtain ⟨v30, e23, hs⟩ := qv_bind hs
              obtain ⟨rfl, rfl⟩ := qv_pr hs
              exact qv_zret dX9_readsDigits_92 rfl (qv_b1_of e23).1
            replace hs := hj22
            by_cases c24 : v28 < 0
            · have hs := qv_pos c24 hs
              refine qv_if_lt (tgt := 91) dX9_readsDigits_84 rfl (fun _ => ?_) (fun q => absurd c24 q)
              refine qv_iconst (v := (0 : Int32)) dX9_readsDigits_91 rfl ?_
              cases hs
              exact qv_dp (qv_le_n (qv_le_n (qv_le_n qv_le_0))) K21
            · have hs := qv_neg c24 hs
              refine qv_if_lt (tgt := 91) dX9_readsDigits_84 rfl (fun q => absurd q c24) (fun _ => ?_)
              refine qv_iconst (v := (1 : Int32)) dX9_readsDigits_87 rfl ?_
              refine qv_goto (tgt := 92) dX9_readsDigits_88 rfl ?_
              cases hs
              exact qv_dp (qv_le_n (qv_le_n (qv_le_n qv_le_0))) K21
          replace hs := hj17
          by_cases c25 : m5 ≤ (2 : Int32)
          · have hs := qv_pos c25 hs
            refine qv_icmp_le (tgt := 76) dX9_readsDigits_66 rfl (fun _ => ?_) (fun q => absurd c25 q)
            refine qv_iconst (v := (0 : Int32)) dX9_readsDigits_76 rfl ?_
            cases hs
            exact qv_dp (qv_le_s (qv_le_s (qv_le_n qv_le_0))) K16
          · have hs := qv_neg c25 hs
            refine qv_icmp_le (tgt := 76) dX9_readsDigits_66 rfl (fun q => absurd q c25) (fun _ => ?_)
            refine qv_aload_n dX9_readsDigits_69 (i := 0) rfl rfl ?_
            obtain ⟨u21, e26, hs⟩ := qv_bind hs
            obtain ⟨⟨v22, h23⟩, e27, hs⟩ := qv_bind hs
            dsimp only at hs
            refine qv_cV (d2 := mX9_digit) (o := a0) (ci := 8) (r := some (.int v22)) (h2 := h23) (av := []) (st := [.int a1, .ref v20]) dX9_readsDigits_70 qM_X9_117 qD_X9_digit e26 rfl rfl ⟨by decide, by decide⟩ rfl (Nat.le_of_ble_eq_true rfl) (Nat.le_of_ble_eq_true rfl) (sX9_digit e27) rfl ?_
            refine qv_goto (tgt := 77) dX9_readsDigits_73 rfl ?_
            cases hs
            exact qv_dp (qv_le_s (qv_le_s (qv_le_n qv_le_0))) K16
        · have hs := qv_neg c14 hs
          refine qv_if_ge (tgt := 59) dX9_readsDigits_54 rfl (fun q => absurd q c14) (fun _ => ?_)
          refine qv_iconst (v := (0 : Int32)) dX9_readsDigits_57 rfl ?_
          obtain ⟨rfl, rfl⟩ := qv_pr hs
          exact qv_zret dX9_readsDigits_58 rfl (by decide)
      replace hs := hj10
      by_cases c28 : m5 ≤ (1 : Int32)
      · have hs := qv_pos c28 hs
        refine qv_icmp_le (tgt := 46) dX9_readsDigits_36 rfl (fun _ => ?_) (fun q => absurd c28 q)
        refine qv_iconst (v := (0 : Int32)) dX9_readsDigits_46 rfl ?_
        cases hs
        exact qv_dp (qv_le_s (qv_le_s (qv_le_s qv_le_0))) K9
      · have hs := qv_neg c28 hs
        refine qv_icmp_le (tgt := 46) dX9_readsDigits_36 rfl (fun q => absurd q c28) (fun _ => ?_)
        refine qv_aload_n dX9_readsDigits_39 (i := 0) rfl rfl ?_
        obtain ⟨u12, e29, hs⟩ := qv_bind hs
        obtain ⟨⟨v13, h14⟩, e30, hs⟩ := qv_bind hs
        dsimp only at hs
        refine qv_cV (d2 := mX9_digit) (o := a0) (ci := 8) (r := some (.int v13)) (h2 := h14) (av := []) (st := [.int a1, .ref v11]) dX9_readsDigits_40 qM_X9_117 qD_X9_digit e29 rfl rfl ⟨by decide, by decide⟩ rfl (Nat.le_of_ble_eq_true rfl) (Nat.le_of_ble_eq_true rfl) (sX9_digit e30) rfl ?_
        refine qv_goto (tgt := 47) dX9_readsDigits_43 rfl ?_
        cases hs
        exact qv_dp (qv_le_s (qv_le_s (qv_le_s qv_le_0))) K9
    · have hs := qv_neg c7 hs
      refine qv_if_ge (tgt := 29) dX9_readsDigits_24 rfl (fun q => absurd q c7) (fun _ => ?_)
      refine qv_iconst (v := (0 : Int32)) dX9_readsDigits_27 rfl ?_
      obtain ⟨rfl, rfl⟩ := qv_pr hs
      exact qv_zret dX9_readsDigits_28 rfl (by decide)
  replace hs := hj3
  by_cases c31 : a2 ≤ 0
  · have hs := qv_pos c31 hs
    refine qv_if_le (tgt := 16) dX9_readsDigits_6 rfl (fun _ => ?_) (fun q => absurd c31 q)
    refine qv_iconst (v := (0 : Int32)) dX9_readsDigits_16 rfl ?_
    cases hs
    exact qv_dp (qv_le_s (qv_le_s (qv_le_s qv_le_0))) K2
  · have hs := qv_neg c31 hs
    refine qv_if_le (tgt := 16) dX9_readsDigits_6 rfl (fun q => absurd q c31) (fun _ => ?_)
    refine qv_aload_n dX9_readsDigits_9 (i := 0) rfl rfl ?_
    obtain ⟨u2, e32, hs⟩ := qv_bind hs
    obtain ⟨⟨v3, h4⟩, e33, hs⟩ := qv_bind hs
    dsimp only at hs
    refine qv_cV (d2 := mX9_digit) (o := a0) (ci := 8) (r := some (.int v3)) (h2 := h4) (av := []) (st := [.int a1, .ref v1]) dX9_readsDigits_10 qM_X9_117 qD_X9_digit e32 rfl rfl ⟨by decide, by decide⟩ rfl (Nat.le_of_ble_eq_true rfl) (Nat.le_of_ble_eq_true rfl) (sX9_digit e33) rfl ?_
    refine qv_goto (tgt := 17) dX9_readsDigits_13 rfl ?_
    cases hs
    exact qv_dp (qv_le_s (qv_le_s (qv_le_s qv_le_0))) K2
theorem qD_X9_readsDigits : qv_DV mX9_readsDigits 2 := ⟨(qv_i14 (List.mem_of_getElem? (i := 28) (by decide +kernel))), (qv_i0 (List.mem_of_getElem? (i := 26) (by decide +kernel))), (qv_i1 (List.mem_of_getElem? (i := 14) (by decide +kernel))), (qv_i14 (List.mem_of_getElem? (i := 29) (by decide +kernel))), by decide +kernel, by decide +kernel⟩
/-- TrueOneWayModel.digitsOf(I)I -/
noncomputable def fX9_digitsOf (a0 : Int32) : Option (Int32) :=
  if a0 = (102 : Int32) then
    some (0 : Int32)
  else
    if a0 = (105 : Int32) then
      some (3 : Int32)
    else
      if a0 = (108 : Int32) then
        some (2 : Int32)
      else
        if a0 = (110 : Int32) then
          some (1 : Int32)
        else
          if a0 = (114 : Int32) then
            some (2 : Int32)
          else
            if a0 = (115 : Int32) then
              some (4 : Int32)
            else
              some (-1 : Int32)
abbrev mX9_digitsOf : qv_M := (yX9_digitsOf, cX9_digitsOf, 1, (Option.some Jvm.ClassFile.FieldType.int), 0, 0)
set_option maxRecDepth 100000 in
set_option maxHeartbeats 4000000 in
theorem sX9_digitsOf {l : Launch} {g : qv_G} {a0 : Int32} {h : qv_H} {r : Int32} (hs : fX9_digitsOf a0 = some r) : qv_J l g mX9_digitsOf 0 [some (.int a0)] [] h (some (.int r), h) := by
  unfold fX9_digitsOf at hs
  refine qv_iload_n dX9_digitsOf_0 (i := 0) rfl rfl ?_
  by_cases c1 : a0 = (102 : Int32)
  · have hs := qv_pos c1 hs
    refine qv_tsIn (tgt := 76) (102 : Int32) c1 dX9_digitsOf_1 (by decide) (by decide) rfl rfl ?_
    refine qv_iconst (v := (0 : Int32)) dX9_digitsOf_76 rfl ?_
    obtain rfl := qv_sm hs
    exact qv_iret dX9_digitsOf_77 rfl
  · have hs := qv_neg c1 hs
    by_cases c2 : a0 = (105 : Int32)
    · have hs := qv_pos c2 hs
      refine qv_tsIn (tgt := 78) (105 : Int32) c2 dX9_digitsOf_1 (by decide) (by decide) rfl rfl ?_
      refine qv_iconst (v := (3 : Int32)) dX9_digitsOf_78 rfl ?_
      obtain rfl := qv_sm hs
      exact qv_iret dX9_digitsOf_79 rfl
    · have hs := qv_neg c2 hs
      by_cases c3 : a0 = (108 : Int32)
      · have hs := qv_pos c3 hs
        refine qv_tsIn (tgt := 74) (108 : Int32) c3 dX9_digitsOf_1 (by decide) (by decide) rfl rfl ?_
        refine qv_iconst (v := (2 : Int32)) dX9_digitsOf_74 rfl ?_
        obtain rfl := qv_sm hs
        exact qv_iret dX9_digitsOf_75 rfl
      · have hs := qv_neg c3 hs
        by_cases c4 : a0 = (110 : Int32)
        · have hs := qv_pos c4 hs
          refine qv_tsIn (tgt := 72) (110 : Int32) c4 dX9_digitsOf_1 (by decide) (by decide) rfl rfl ?_
          refine qv_iconst (v := (1 : Int32)) dX9_digitsOf_72 rfl ?_
          obtain rfl := qv_sm hs
          exact qv_iret dX9_digitsOf_73 rfl
        · have hs := qv_neg c4 hs
          by_cases c5 : a0 = (114 : Int32)
          · have hs := qv_pos c5 hs
            refine qv_tsIn (tgt := 74) (114 : Int32) c5 dX9_digitsOf_1 (by decide) (by decide) rfl rfl ?_
            refine qv_iconst (v := (2 : Int32)) dX9_digitsOf_74 rfl ?_
            obtain rfl := qv_sm hs
            exact qv_iret dX9_digitsOf_75 rfl
          · have hs := qv_neg c5 hs
            by_cases c6 : a0 = (115 : Int32)
            · have hs := qv_pos c6 hs
              refine qv_tsIn (tgt := 80) (115 : Int32) c6 dX9_digitsOf_1 (by decide) (by decide) rfl rfl ?_
              refine qv_iconst (v := (4 : Int32)) dX9_digitsOf_80 rfl ?_
              obtain rfl := qv_sm hs
              exact qv_iret dX9_digitsOf_81 rfl
            · have hs := qv_neg c6 hs
              refine qv_tsDef (tgt := 82) dX9_digitsOf_1 (fun j hj ej => ?_) rfl ?_
              · rcases (show j = 0 ∨ j = 1 ∨ j = 2 ∨ j = 3 ∨ j = 4 ∨ j = 5 ∨ j = 6 ∨ j = 7 ∨ j = 8 ∨ j = 9 ∨ j = 10 ∨ j = 11 ∨ j = 12 ∨ j = 13 by omega) with rfl | rfl | rfl | rfl | rfl | rfl | rfl | rfl | rfl | rfl | rfl | rfl | rfl | rfl
                · exact absurd (Int32.toInt_inj.mp (by rw [ej]; rfl)) c1
                · exact rfl
                · exact rfl
                · exact absurd (Int32.toInt_inj.mp (by rw [ej]; rfl)) c2
                · exact rfl
                · exact rfl
                · exact absurd (Int32.toInt_inj.mp (by rw [ej]; rfl)) c3
                · exact rfl
                · exact absurd (Int32.toInt_inj.mp (by rw [ej]; rfl)) c4
                · exact rfl
                · exact rfl
                · exact rfl
                · exact absurd (Int32.toInt_inj.mp (by rw [ej]; rfl)) c5
                · exact absurd (Int32.toInt_inj.mp (by rw [ej]; rfl)) c6
              refine qv_iconst (v := (-1 : Int32)) dX9_digitsOf_82 rfl ?_
              obtain rfl := qv_sm hs
              exact qv_iret dX9_digitsOf_83 rfl
theorem qD_X9_digitsOf : qv_DS mX9_digitsOf 1 := ⟨(qv_i14 (List.mem_of_getElem? (i := 13) (by decide +kernel))), (qv_i1 (List.mem_of_getElem? (i := 14) (by decide +kernel))), (qv_i14 (List.mem_of_getElem? (i := 14) (by decide +kernel))), by decide +kernel, by decide +kernel⟩
/-- TrueOneWayModel.statement()Z -/
noncomputable def fX9_statement (a0 : Nat) (h : qv_H) : Option (Int32 × qv_H) :=
  (qv_gI h 8 a0 27).bind fun v1 =>
  (qv_ob h 8 a0).bind fun _ =>
  (fX9_nextLetter a0 h).bind fun v3 =>
  (fX9_digitsOf v3).bind fun v4 =>
  if 0 ≤ v4 then
    (qv_gR h 8 a0 19).bind fun v5 =>
    (qv_ob h 8 a0).bind fun _ =>
    (fX9_nextLetter a0 h).bind fun v7 =>
    (qv_sI h false v5 v1 v7).bind fun h8 =>
    (qv_gR h8 8 a0 20).bind fun v9 =>
    (qv_gI h8 8 a0 26).bind fun v10 =>
    (qv_sI h8 false v9 v1 v10).bind fun h11 =>
    (qv_gI h11 8 a0 26).bind fun v12 =>
    (qv_pI h11 8 a0 26 (v12 + (1 : Int32))).bind fun h13 =>
    if v4 = (4 : Int32) then
      (qv_ob h13 8 a0).bind fun _ =>
      (fX9_readsSign a0 v1 h13).bind fun (v22, h23) =>
      if v22 = 0 then
        some ((0 : Int32), h23)
      else
        (qv_ob h23 8 a0).bind fun _ =>
        (fX9_nextLetter a0 h23).bind fun v25 =>
        if v25 = (59 : Int32) then
          (qv_gI h23 8 a0 26).bind fun v26 =>
          (qv_pI h23 8 a0 26 (v26 + (1 : Int32))).bind fun h27 =>
          some ((1 : Int32), h27)
        else
          some ((0 : Int32), h23)
    else
      (qv_ob h13 8 a0).bind fun _ =>
      (fX9_readsDigits a0 v1 v4 h13).bind fun (v15, h16) =>
      if v15 = 0 then
        some ((0 : Int32), h16)
      else
        (qv_ob h16 8 a0).bind fun _ =>
        (fX9_nextLetter a0 h16).bind fun v18 =>
        if v18 = (59 : Int32) then
          (qv_gI h16 8 a0 26).bind fun v19 =>
          (qv_pI h16 8 a0 26 (v19 + (1 : Int32))).bind fun h20 =>
          some ((1 : Int32), h20)
        else
          some ((0 : Int32), h16)
  else
    some ((0 : Int32), h)
abbrev mX9_statement : qv_M := (yX9_statement, cX9_statement, 3, (Option.some Jvm.ClassFile.FieldType.boolean), 3, 64)
set_option maxRecDepth 100000 in
set_option maxHeartbeats 4000000 in
theorem sX9_statement {l : Launch} {g : qv_G} {a0 : Nat} {h : qv_H} {r : Int32} {hz : qv_H} (hs : fX9_statement a0 h = some (r, hz)) : qv_J l g mX9_statement 0 [some (.ref a0), none, none] [] h (some (.int r), hz) := by
  unfold fX9_statement at hs
  refine qv_aload_n dX9_statement_0 (i := 0) rfl rfl ?_
  obtain ⟨v1, e1, hs⟩ := qv_bind hs
  refine qv_getI dX9_statement_1 qF_X9_123 e1 ?_
  refine qv_istore_n (lo2 := [some (.ref a0), some (.int v1), none]) dX9_statement_4 (i := 1) rfl (by decide) rfl (Nat.le_of_ble_eq_true rfl) rfl ?_
  refine qv_aload_n dX9_statement_5 (i := 0) rfl rfl ?_
  obtain ⟨u2, e2, hs⟩ := qv_bind hs
  obtain ⟨v3, e3, hs⟩ := qv_bind hs
  refine qv_cV (d2 := mX9_nextLetter) (o := a0) (ci := 8) (r := some (.int v3)) (h2 := h) (av := []) (st := []) dX9_statement_6 qM_X9_109 qD_X9_nextLetter e2 rfl rfl ⟨by decide, by decide⟩ rfl (Nat.le_of_ble_eq_true rfl) (Nat.le_of_ble_eq_true rfl) (sX9_nextLetter e3) rfl ?_
  obtain ⟨v4, e4, hs⟩ := qv_bind hs
  refine qv_cS (d2 := mX9_digitsOf) (r := some (.int v4)) (h2 := h) (av := [.int v3]) (st := []) dX9_statement_9 qM_X9_126 qD_X9_digitsOf rfl ⟨by decide, by decide⟩ rfl (Nat.le_of_ble_eq_true rfl) (Nat.le_of_ble_eq_true rfl) (sX9_digitsOf e4) rfl ?_
  refine qv_istore_n (lo2 := [some (.ref a0), some (.int v1), some (.int v4)]) dX9_statement_12 (i := 2) rfl (by decide) rfl (Nat.le_of_ble_eq_true rfl) rfl ?_
  refine qv_iload_n dX9_statement_13 (i := 2) rfl rfl ?_
  by_cases c5 : 0 ≤ v4
  · have hs := qv_pos c5 hs
    refine qv_if_ge (tgt := 19) dX9_statement_14 rfl (fun _ => ?_) (fun q => absurd c5 q)
    refine qv_aload_n dX9_statement_19 (i := 0) rfl rfl ?_
    obtain ⟨v5, e6, hs⟩ := qv_bind hs
    refine qv_getR dX9_statement_20 qF_X9_50 e6 ?_
    refine qv_iload_n dX9_statement_23 (i := 1) rfl rfl ?_
    refine qv_aload_n dX9_statement_24 (i := 0) rfl rfl ?_
    obtain ⟨u6, e7, hs⟩ := qv_bind hs
    obtain ⟨v7, e8, hs⟩ := qv_bind hs
    refine qv_cV (d2 := mX9_nextLetter) (o := a0) (ci := 8) (r := some (.int v7)) (h2 := h) (av := []) (st := [.int v1, .ref v5]) dX9_statement_25 qM_X9_109 qD_X9_nextLetter e7 rfl rfl ⟨by decide, by decide⟩ rfl (Nat.le_of_ble_eq_true rfl) (Nat.le_of_ble_eq_true rfl) (sX9_nextLetter e8) rfl ?_
    obtain ⟨h8, e9, hs⟩ := qv_bind hs
    refine qv_iast dX9_statement_28 e9 ?_
    refine qv_aload_n dX9_statement_29 (i := 0) rfl rfl ?_
    obtain ⟨v9, e10, hs⟩ := qv_bind hs
    refine qv_getR dX9_statement_30 qF_X9_53 e10 ?_
    refine qv_iload_n dX9_statement_33 (i := 1) rfl rfl ?_
    refine qv_aload_n dX9_statement_34 (i := 0) rfl rfl ?_
    obtain ⟨v10, e11, hs⟩ := qv_bind hs
    refine qv_getI dX9_statement_35 qF_X9_106 e11 ?_
    obtain ⟨h11, e12, hs⟩ := qv_bind hs
    refine qv_iast dX9_statement_38 e12 ?_
    refine qv_aload_n dX9_statement_39 (i := 0) rfl rfl ?_
    refine qv_dup dX9_statement_40 rfl ?_
    obtain ⟨v12, e13, hs⟩ := qv_bind hs
    refine qv_getI dX9_statement_41 qF_X9_106 e13 ?_
    refine qv_iconst (v := (1 : Int32)) dX9_statement_44 rfl ?_
    refine qv_iadd dX9_statement_45 ?_
    obtain ⟨h13, e14, hs⟩ := qv_bind hs
    refine qv_putI dX9_statement_46 qF_X9_106 e14 ?_
    refine qv_iload_n dX9_statement_49 (i := 2) rfl rfl ?_
    refine qv_iconst (v := (4 : Int32)) dX9_statement_50 rfl ?_
    by_cases c15 : v4 = (4 : Int32)
    · have hs := qv_pos c15 hs
      refine qv_icmp_ne (tgt := 65) dX9_statement_51 rfl (fun q => absurd c15 q) (fun _ => ?_)
      refine qv_aload_n dX9_statement_54 (i := 0) rfl rfl ?_
      refine qv_iload_n dX9_statement_55 (i := 1) rfl rfl ?_
      obtain ⟨u21, e16, hs⟩ := qv_bind hs
      obtain ⟨⟨v22, h23⟩, e17, hs⟩ := qv_bind hs
      dsimp only at hs
      refine qv_cV (d2 := mX9_readsSign) (o := a0) (ci := 8) (r := some (.int v22)) (h2 := h23) (av := [.int v1]) (st := []) dX9_statement_56 qM_X9_129 qD_X9_readsSign e16 rfl rfl ⟨by decide, by decide⟩ rfl (Nat.le_of_ble_eq_true rfl) (Nat.le_of_ble_eq_true rfl) (sX9_readsSign e17) rfl ?_
      by_cases c18 : v22 = 0
      · have hs := qv_pos c18 hs
        refine qv_if_eq (tgt := 83) dX9_statement_59 rfl (fun _ => ?_) (fun q => absurd c18 q)
        refine qv_iconst (v := (0 : Int32)) dX9_statement_83 rfl ?_
        obtain ⟨rfl, rfl⟩ := qv_pr hs
        exact qv_zret dX9_statement_84 rfl (by decide)
      · have hs := qv_neg c18 hs
        refine qv_if_eq (tgt := 83) dX9_statement_59 rfl (fun q => absurd q c18) (fun _ => ?_)
        refine qv_goto (tgt := 74) dX9_statement_62 rfl ?_
        refine qv_aload_n dX9_statement_74 (i := 0) rfl rfl ?_
        obtain ⟨u24, e19, hs⟩ := qv_bind hs
        obtain ⟨v25, e20, hs⟩ := qv_bind hs
        refine qv_cV (d2 := mX9_nextLetter) (o := a0) (ci := 8) (r := some (.int v25)) (h2 := h23) (av := []) (st := []) dX9_statement_75 qM_X9_109 qD_X9_nextLetter e19 rfl rfl ⟨by decide, by decide⟩ rfl (Nat.le_of_ble_eq_true rfl) (Nat.le_of_ble_eq_true rfl) (sX9_nextLetter e20) rfl ?_
        refine qv_bipush (v := (59 : Int32)) dX9_statement_78 rfl ?_
        by_cases c21 : v25 = (59 : Int32)
        · have hs := qv_pos c21 hs
          refine qv_icmp_eq (tgt := 85) dX9_statement_80 rfl (fun _ => ?_) (fun q => absurd c21 q)
          refine qv_aload_n dX9_statement_85 (i := 0) rfl rfl ?_
          refine qv_dup dX9_statement_86 rfl ?_
          obtain ⟨v26, e22, hs⟩ := qv_bind hs
          refine qv_getI dX9_statement_87 qF_X9_106 e22 ?_
          refine qv_iconst (v := (1 : Int32)) dX9_statement_90 rfl ?_
          refine qv_iadd dX9_statement_91 ?_
          obtain ⟨h27, e23, hs⟩ := qv_bind hs
          refine qv_putI dX9_statement_92 qF_X9_106 e23 ?_
          refine qv_iconst (v := (1 : Int32)) dX9_statement_95 rfl ?_
          obtain ⟨rfl, rfl⟩ := qv_pr hs
          exact qv_zret dX9_statement_96 rfl (by decide)
        · have hs := qv_neg c21 hs
          refine qv_icmp_eq (tgt := 85) dX9_statement_80 rfl (fun q => absurd q c21) (fun _ => ?_)
          refine qv_iconst (v := (0 : Int32)) dX9_statement_83 rfl ?_
          obtain ⟨rfl, rfl⟩ := qv_pr hs
          exact qv_zret dX9_statement_84 rfl (by decide)
    · have hs := qv_neg c15 hs
      refine qv_icmp_ne (tgt := 65) dX9_statement_51 rfl (fun _ => ?_) (fun q => absurd q c15)
      refine qv_aload_n dX9_statement_65 (i := 0) rfl rfl ?_
      refine qv_iload_n dX9_statement_66 (i := 1) rfl rfl ?_
      refine qv_iload_n dX9_statement_67 (i := 2) rfl rfl ?_
      obtain ⟨u14, e24, hs⟩ := qv_bind hs
      obtain ⟨⟨v15, h16⟩, e25, hs⟩ := qv_bind hs
      dsimp only at hs
      refine qv_cV (d2 := mX9_readsDigits) (o := a0) (ci := 8) (r := some (.int v15)) (h2 := h16) (av := [.int v1, .int v4]) (st := []) dX9_statement_68 qM_X9_133 qD_X9_readsDigits e24 rfl rfl ⟨by decide, by decide⟩ rfl (Nat.le_of_ble_eq_true rfl) (Nat.le_of_ble_eq_true rfl) (sX9_readsDigits e25) rfl ?_
      by_cases c26 : v15 = 0
      · have hs := qv_pos c26 hs
        refine qv_if_eq (tgt := 83) dX9_statement_71 rfl (fun _ => ?_) (fun q => absurd c26 q)
        refine qv_iconst (v := (0 : Int32)) dX9_statement_83 rfl ?_
        obtain ⟨rfl, rfl⟩ := qv_pr hs
        exact qv_zret dX9_statement_84 rfl (by decide)
      · have hs := qv_neg c26 hs
        refine qv_if_eq (tgt := 83) dX9_statement_71 rfl (fun q => absurd q c26) (fun _ => ?_)
        refine qv_aload_n dX9_statement_74 (i := 0) rfl rfl ?_
        obtain ⟨u17, e27, hs⟩ := qv_bind hs
        obtain ⟨v18, e28, hs⟩ := qv_bind hs
        refine qv_cV (d2 := mX9_nextLetter) (o := a0) (ci := 8) (r := some (.int v18)) (h2 := h16) (av := []) (st := []) dX9_statement_75 qM_X9_109 qD_X9_nextLetter e27 rfl rfl ⟨by decide, by decide⟩ rfl (Nat.le_of_ble_eq_true rfl) (Nat.le_of_ble_eq_true rfl) (sX9_nextLetter e28) rfl ?_
        refine qv_bipush (v := (59 : Int32)) dX9_statement_78 rfl ?_
        by_cases c29 : v18 = (59 : Int32)
        · have hs := qv_pos c29 hs
          refine qv_icmp_eq (tgt := 85) dX9_statement_80 rfl (fun _ => ?_) (fun q => absurd c29 q)
          refine qv_aload_n dX9_statement_85 (i := 0) rfl rfl ?_
          refine qv_dup dX9_statement_86 rfl ?_
          obtain ⟨v19, e30, hs⟩ := qv_bind hs
          refine qv_getI dX9_statement_87 qF_X9_106 e30 ?_
          refine qv_iconst (v := (1 : Int32)) dX9_statement_90 rfl ?_
          refine qv_iadd dX9_statement_91 ?_
          obtain ⟨h20, e31, hs⟩ := qv_bind hs
          refine qv_putI dX9_statement_92 qF_X9_106 e31 ?_
          refine qv_iconst (v := (1 : Int32)) dX9_statement_95 rfl ?_
          obtain ⟨rfl, rfl⟩ := qv_pr hs
          exact qv_zret dX9_statement_96 rfl (by decide)
        · have hs := qv_neg c29 hs
          refine qv_icmp_eq (tgt := 85) dX9_statement_80 rfl (fun q => absurd q c29) (fun _ => ?_)
          refine qv_iconst (v := (0 : Int32)) dX9_statement_83 rfl ?_
          obtain ⟨rfl, rfl⟩ := qv_pr hs
          exact qv_zret dX9_statement_84 rfl (by decide)
  · have hs := qv_neg c5 hs
    refine qv_if_ge (tgt := 19) dX9_statement_14 rfl (fun q => absurd q c5) (fun _ => ?_)
    refine qv_iconst (v := (0 : Int32)) dX9_statement_17 rfl ?_
    obtain ⟨rfl, rfl⟩ := qv_pr hs
    exact qv_zret dX9_statement_18 rfl (by decide)
theorem qD_X9_statement : qv_DV mX9_statement 0 := ⟨(qv_i14 (List.mem_of_getElem? (i := 7) (by decide +kernel))), (qv_i0 (List.mem_of_getElem? (i := 22) (by decide +kernel))), (qv_i1 (List.mem_of_getElem? (i := 14) (by decide +kernel))), (qv_i14 (List.mem_of_getElem? (i := 8) (by decide +kernel))), by decide +kernel, by decide +kernel⟩
/-- TrueOneWayModel.toldPlaces()I -/
noncomputable def fX9_toldPlaces (a0 : Nat) (h : qv_H) : Option (Int32) :=
  Option.bind (qv_loop (σ := Int32 × Int32) (ρ := Int32) (fun (x1, x2) =>
      (qv_gI h 8 a0 9).bind fun v3 =>
      if v3 ≤ x2 then
        some (.inr x1)
      else
        (qv_gR h 8 a0 1).bind fun v4 =>
        (qv_aI h false v4 x2).bind fun v5 =>
        Option.bind (α := Int32) (
            if v5 < x1 then
              some x1
            else
              (qv_gR h 8 a0 1).bind fun v6 =>
              (qv_aI h false v6 x2).bind fun v7 =>
              some (v7 + (1 : Int32))
          ) fun m8 =>
        (qv_gR h 8 a0 2).bind fun v9 =>
        (qv_aI h false v9 x2).bind fun v10 =>
        Option.bind (α := Int32) (
            if v10 < m8 then
              some m8
            else
              (qv_gR h 8 a0 2).bind fun v11 =>
              (qv_aI h false v11 x2).bind fun v12 =>
              some (v12 + (1 : Int32))
          ) fun m13 =>
        some (.inl (m13, x2 + (1 : Int32)))
    ) ((0 : Int32), (0 : Int32))) fun y14 =>
  Option.bind (qv_loop (σ := Int32 × Int32) (ρ := Int32) (fun (x15, x16) =>
      if (6 : Int32) ≤ x16 then
        some (.inr x15)
      else
        (qv_gR h 8 a0 7).bind fun v17 =>
        (qv_aI h false v17 x16).bind fun v18 =>
        Option.bind (α := Int32) (
            if v18 = 0 then
              some x15
            else
              if x16 < x15 then
                some x15
              else
                some (x16 + (1 : Int32))
          ) fun m19 =>
        some (.inl (m19, x16 + (1 : Int32)))
    ) (y14, (0 : Int32))) fun y20 =>
  (qv_gI h 8 a0 14).bind fun v21 =>
  Option.bind (α := Int32) (
      if v21 < 0 then
        some y20
      else
        (qv_gI h 8 a0 12).bind fun v22 =>
        Option.bind (α := Int32) (
            if v22 < y20 then
              some y20
            else
              (qv_gI h 8 a0 12).bind fun v23 =>
              some (v23 + (1 : Int32))
          ) fun m24 =>
        (qv_gI h 8 a0 13).bind fun v25 =>
        Option.bind (α := Int32) (
            if v25 < m24 then
              some m24
            else
              (qv_gI h 8 a0 13).bind fun v26 =>
              some (v26 + (1 : Int32))
          ) fun m27 =>
        some m27
    ) fun m28 =>
  some m28
abbrev mX9_toldPlaces : qv_M := (yX9_toldPlaces, cX9_toldPlaces, 3, (Option.some Jvm.ClassFile.FieldType.int), 0, 0)
set_option maxRecDepth 100000 in
set_option maxHeartbeats 4000000 in
theorem sX9_toldPlaces {l : Launch} {g : qv_G} {a0 : Nat} {h : qv_H} {r : Int32} (hs : fX9_toldPlaces a0 h = some r) : qv_J l g mX9_toldPlaces 0 [some (.ref a0), none, none] [] h (some (.int r), h) := by
  unfold fX9_toldPlaces at hs
  refine qv_iconst (v := (0 : Int32)) dX9_toldPlaces_0 rfl ?_
  refine qv_istore_n (lo2 := [some (.ref a0), some (.int (0 : Int32)), none]) dX9_toldPlaces_1 (i := 1) rfl (by decide) rfl (Nat.le_of_ble_eq_true rfl) rfl ?_
  refine qv_iconst (v := (0 : Int32)) dX9_toldPlaces_2 rfl ?_
  refine qv_istore_n (lo2 := [some (.ref a0), some (.int (0 : Int32)), some (.int (0 : Int32))]) dX9_toldPlaces_3 (i := 2) rfl (by decide) rfl (Nat.le_of_ble_eq_true rfl) rfl ?_
  obtain ⟨y14, e2, hs⟩ := qv_bind hs
  have K1 : qv_J l g mX9_toldPlaces 64 [some (.ref a0), some (.int y14), none] [] h (some (.int r), h) := by
    refine qv_iconst (v := (0 : Int32)) dX9_toldPlaces_64 rfl ?_
    refine qv_istore_n (lo2 := [some (.ref a0), some (.int y14), some (.int (0 : Int32))]) dX9_toldPlaces_65 (i := 2) rfl (by decide) rfl (Nat.le_of_ble_eq_true rfl) rfl ?_
    obtain ⟨y20, e10, hs⟩ := qv_bind hs
    have K9 : qv_J l g mX9_toldPlaces 100 [some (.ref a0), some (.int y20), none] [] h (some (.int r), h) := by
      refine qv_aload_n dX9_toldPlaces_100 (i := 0) rfl rfl ?_
      obtain ⟨v21, e17, hs⟩ := qv_bind hs
      refine qv_getI dX9_toldPlaces_101 qF_X9_38 e17 ?_
      obtain ⟨m28, hj19, hs⟩ := qv_bind hs
      have K18 : qv_J l g mX9_toldPlaces 145 [none, some (.int m28), none] [] h (some (.int r), h) := by
        refine qv_iload_n dX9_toldPlaces_145 (i := 1) rfl rfl ?_
        obtain rfl := qv_sm hs
        exact qv_iret dX9_toldPlaces_146 rfl
      replace hs := hj19
      by_cases c20 : v21 < 0
      · have hs := qv_pos c20 hs
        refine qv_if_lt (tgt := 145) dX9_toldPlaces_104 rfl (fun _ => ?_) (fun q => absurd c20 q)
        cases hs
        exact qv_dp (qv_le_n (qv_le_s (qv_le_n qv_le_0))) K18
      · have hs := qv_neg c20 hs
        refine qv_if_lt (tgt := 145) dX9_toldPlaces_104 rfl (fun q => absurd q c20) (fun _ => ?_)
        refine qv_aload_n dX9_toldPlaces_107 (i := 0) rfl rfl ?_
        obtain ⟨v22, e21, hs⟩ := qv_bind hs
        refine qv_getI dX9_toldPlaces_108 qF_X9_140 e21 ?_
        refine qv_iload_n dX9_toldPlaces_111 (i := 1) rfl rfl ?_
        obtain ⟨m24, hj23, hs⟩ := qv_bind hs
        have K22 : qv_J l g mX9_toldPlaces 125 [some (.ref a0), none, none] [.int m24] h (some (.int r), h) := by
          refine qv_istore_n (lo2 := [some (.ref a0), some (.int m24), none]) dX9_toldPlaces_125 (i := 1) rfl (by decide) rfl (Nat.le_of_ble_eq_true rfl) rfl ?_
          refine qv_aload_n dX9_toldPlaces_126 (i := 0) rfl rfl ?_
          obtain ⟨v25, e24, hs⟩ := qv_bind hs
          refine qv_getI dX9_toldPlaces_127 qF_X9_143 e24 ?_
          refine qv_iload_n dX9_toldPlaces_130 (i := 1) rfl rfl ?_
          obtain ⟨m27, hj26, hs⟩ := qv_bind hs
          have K25 : qv_J l g mX9_toldPlaces 144 [none, none, none] [.int m27] h (some (.int r), h) := by
            refine qv_istore_n (lo2 := [none, some (.int m27), none]) dX9_toldPlaces_144 (i := 1) rfl (by decide) rfl (Nat.le_of_ble_eq_true rfl) rfl ?_
            cases hs
            exact qv_dp (qv_le_n (qv_le_s (qv_le_n qv_le_0))) K18
          replace hs := hj26
          by_cases c27 : v25 < m24
          · have hs := qv_pos c27 hs
            refine qv_icmp_lt (tgt := 143) dX9_toldPlaces_131 rfl (fun _ => ?_) (fun q => absurd c27 q)
            refine qv_iload_n dX9_toldPlaces_143 (i := 1) rfl rfl ?_
            cases hs
            exact qv_dp (qv_le_n (qv_le_n (qv_le_n qv_le_0))) K25
          · have hs := qv_neg c27 hs
            refine qv_icmp_lt (tgt := 143) dX9_toldPlaces_131 rfl (fun q => absurd q c27) (fun _ => ?_)
            refine qv_aload_n dX9_toldPlaces_134 (i := 0) rfl rfl ?_
            obtain ⟨v26, e28, hs⟩ := qv_bind hs
            refine qv_getI dX9_toldPlaces_135 qF_X9_143 e28 ?_
            refine qv_iconst (v := (1 : Int32)) dX9_toldPlaces_138 rfl ?_
            refine qv_iadd dX9_toldPlaces_139 ?_
            refine qv_goto (tgt := 144) dX9_toldPlaces_140 rfl ?_
            cases hs
            exact qv_dp (qv_le_n (qv_le_n (qv_le_n qv_le_0))) K25
        replace hs := hj23
        by_cases c29 : v22 < y20
        · have hs := qv_pos c29 hs
          refine qv_icmp_lt (tgt := 124) dX9_toldPlaces_112 rfl (fun _ => ?_) (fun q => absurd c29 q)
          refine qv_iload_n dX9_toldPlaces_124 (i := 1) rfl rfl ?_
          cases hs
          exact qv_dp (qv_le_s (qv_le_n (qv_le_n qv_le_0))) K22
        · have hs := qv_neg c29 hs
          refine qv_icmp_lt (tgt := 124) dX9_toldPlaces_112 rfl (fun q => absurd q c29) (fun _ => ?_)
          refine qv_aload_n dX9_toldPlaces_115 (i := 0) rfl rfl ?_
          obtain ⟨v23, e30, hs⟩ := qv_bind hs
          refine qv_getI dX9_toldPlaces_116 qF_X9_140 e30 ?_
          refine qv_iconst (v := (1 : Int32)) dX9_toldPlaces_119 rfl ?_
          refine qv_iadd dX9_toldPlaces_120 ?_
          refine qv_goto (tgt := 125) dX9_toldPlaces_121 rfl ?_
          cases hs
          exact qv_dp (qv_le_s (qv_le_n (qv_le_n qv_le_0))) K22
    obtain ⟨n16, e10⟩ := qv_loop_of e10
    refine qv_dp (qv_le_s (qv_le_s (qv_le_s qv_le_0))) (?_ : qv_J l g mX9_toldPlaces 66 [some (.ref a0), some (.int y14), some (.int (0 : Int32))] [] h (some (.int r), h))
    revert e10
    suffices lj15 : ∀ (x15 : Int32) (x16 : Int32), qv_it _ n16 (x15, x16) = some y20 → qv_J l g mX9_toldPlaces 66 [some (.ref a0), some (.int x15), some (.int x16)] [] h (some (.int r), h) from lj15 y14 (0 : Int32)
    induction n16 with
    | zero =>
      intro x15 x16 e10
      cases e10
    | succ n16 ih12 =>
      intro x15 x16 e10
      obtain ⟨_, hs, eb13⟩ := qv_it_s e10
      dsimp only at hs
      refine qv_iload_n dX9_toldPlaces_66 (i := 2) rfl rfl ?_
      refine qv_bipush (v := (6 : Int32)) dX9_toldPlaces_67 rfl ?_
      by_cases c31 : (6 : Int32) ≤ x16
      · have hs := qv_pos c31 hs
        refine qv_icmp_ge (tgt := 100) dX9_toldPlaces_69 rfl (fun _ => ?_) (fun q => absurd c31 q)
        cases hs
        cases qv_nx_r eb13
        exact qv_dp (qv_le_s (qv_le_s (qv_le_n qv_le_0))) K9
      · have hs := qv_neg c31 hs
        refine qv_icmp_ge (tgt := 100) dX9_toldPlaces_69 rfl (fun q => absurd q c31) (fun _ => ?_)
        refine qv_aload_n dX9_toldPlaces_72 (i := 0) rfl rfl ?_
        obtain ⟨v17, e32, hs⟩ := qv_bind hs
        refine qv_getR dX9_toldPlaces_73 qF_X9_31 e32 ?_
        refine qv_iload_n dX9_toldPlaces_76 (i := 2) rfl rfl ?_
        obtain ⟨v18, e33, hs⟩ := qv_bind hs
        refine qv_iald dX9_toldPlaces_77 e33 ?_
        obtain ⟨m19, hj35, hs⟩ := qv_bind hs
        have K34 : qv_J l g mX9_toldPlaces 93 [some (.ref a0), none, some (.int x16)] [.int m19] h (some (.int r), h) := by
          refine qv_istore_n (lo2 := [some (.ref a0), some (.int m19), some (.int x16)]) dX9_toldPlaces_93 (i := 1) rfl (by decide) rfl (Nat.le_of_ble_eq_true rfl) rfl ?_
          refine qv_iinc (v := x16 + (1 : Int32)) (lo2 := [some (.ref a0), some (.int m19), some (.int (x16 + (1 : Int32)))]) dX9_toldPlaces_94 rfl rfl (by decide) rfl rfl ?_
          refine qv_goto (tgt := 66) dX9_toldPlaces_97 rfl ?_
          cases hs
          exact qv_dp (qv_le_s (qv_le_s (qv_le_s qv_le_0))) (ih12 _ _ (qv_nx_l eb13))
        replace hs := hj35
        by_cases c36 : v18 = 0
        · have hs := qv_pos c36 hs
          refine qv_if_eq (tgt := 92) dX9_toldPlaces_78 rfl (fun _ => ?_) (fun q => absurd c36 q)
          refine qv_iload_n dX9_toldPlaces_92 (i := 1) rfl rfl ?_
          cases hs
          exact qv_dp (qv_le_s (qv_le_n (qv_le_s qv_le_0))) K34
        · have hs := qv_neg c36 hs
          refine qv_if_eq (tgt := 92) dX9_toldPlaces_78 rfl (fun q => absurd q c36) (fun _ => ?_)
          refine qv_iload_n dX9_toldPlaces_81 (i := 2) rfl rfl ?_
          refine qv_iload_n dX9_toldPlaces_82 (i := 1) rfl rfl ?_
          by_cases c37 : x16 < x15
          · have hs := qv_pos c37 hs
            refine qv_icmp_lt (tgt := 92) dX9_toldPlaces_83 rfl (fun _ => ?_) (fun q => absurd c37 q)
            refine qv_iload_n dX9_toldPlaces_92 (i := 1) rfl rfl ?_
            cases hs
            exact qv_dp (qv_le_s (qv_le_n (qv_le_s qv_le_0))) K34
          · have hs := qv_neg c37 hs
            refine qv_icmp_lt (tgt := 92) dX9_toldPlaces_83 rfl (fun q => absurd q c37) (fun _ => ?_)
            refine qv_iload_n dX9_toldPlaces_86 (i := 2) rfl rfl ?_
            refine qv_iconst (v := (1 : Int32)) dX9_toldPlaces_87 rfl ?_
            refine qv_iadd dX9_toldPlaces_88 ?_
            refine qv_goto (tgt := 93) dX9_toldPlaces_89 rfl ?_
            cases hs
            exact qv_dp (qv_le_s (qv_le_n (qv_le_s qv_le_0))) K34
  obtain ⟨n8, e2⟩ := qv_loop_of e2
  refine qv_dp (qv_le_s (qv_le_s (qv_le_s qv_le_0))) (?_ : qv_J l g mX9_toldPlaces 4 [some (.ref a0), some (.int (0 : Int32)), some (.int (0 : Int32))] [] h (some (.int r), h))
  revert e2
  suffices lj7 : ∀ (x1 : Int32) (x2 : Int32), qv_it _ n8 (x1, x2) = some y14 → qv_J l g mX9_toldPlaces 4 [some (.ref a0), some (.int x1), some (.int x2)] [] h (some (.int r), h) from lj7 (0 : Int32) (0 : Int32)
  induction n8 with
  | zero =>
    intro x1 x2 e2
    cases e2
  | succ n8 ih4 =>
    intro x1 x2 e2
    obtain ⟨_, hs, eb5⟩ := qv_it_s e2
    dsimp only at hs
    refine qv_iload_n dX9_toldPlaces_4 (i := 2) rfl rfl ?_
    refine qv_aload_n dX9_toldPlaces_5 (i := 0) rfl rfl ?_
    obtain ⟨v3, e38, hs⟩ := qv_bind hs
    refine qv_getI dX9_toldPlaces_6 qF_X9_137 e38 ?_
    by_cases c39 : v3 ≤ x2
    · have hs := qv_pos c39 hs
      refine qv_icmp_ge (tgt := 64) dX9_toldPlaces_9 rfl (fun _ => ?_) (fun q => absurd c39 q)
      cases hs
      cases qv_nx_r eb5
      exact qv_dp (qv_le_s (qv_le_s (qv_le_n qv_le_0))) K1
    · have hs := qv_neg c39 hs
      refine qv_icmp_ge (tgt := 64) dX9_toldPlaces_9 rfl (fun q => absurd q c39) (fun _ => ?_)
      refine qv_aload_n dX9_toldPlaces_12 (i := 0) rfl rfl ?_
      obtain ⟨v4, e40, hs⟩ := qv_bind hs
      refine qv_getR dX9_toldPlaces_13 qF_X9_13 e40 ?_
      refine qv_iload_n dX9_toldPlaces_16 (i := 2) rfl rfl ?_
      obtain ⟨v5, e41, hs⟩ := qv_bind hs
      refine qv_iald dX9_toldPlaces_17 e41 ?_
      refine qv_iload_n dX9_toldPlaces_18 (i := 1) rfl rfl ?_
      obtain ⟨m8, hj43, hs⟩ := qv_bind hs
      have K42 : qv_J l g mX9_toldPlaces 34 [some (.ref a0), none, some (.int x2)] [.int m8] h (some (.int r), h) := by
        refine qv_istore_n (lo2 := [some (.ref a0), some (.int m8), some (.int x2)]) dX9_toldPlaces_34 (i := 1) rfl (by decide) rfl (Nat.le_of_ble_eq_true rfl) rfl ?_
        refine qv_aload_n dX9_toldPlaces_35 (i := 0) rfl rfl ?_
        obtain ⟨v9, e44, hs⟩ := qv_bind hs
        refine qv_getR dX9_toldPlaces_36 qF_X9_16 e44 ?_
        refine qv_iload_n dX9_toldPlaces_39 (i := 2) rfl rfl ?_
        obtain ⟨v10, e45, hs⟩ := qv_bind hs
        refine qv_iald dX9_toldPlaces_40 e45 ?_
        refine qv_iload_n dX9_toldPlaces_41 (i := 1) rfl rfl ?_
        obtain ⟨m13, hj47, hs⟩ := qv_bind hs
        have K46 : qv_J l g mX9_toldPlaces 57 [some (.ref a0), none, some (.int x2)] [.int m13] h (some (.int r), h) := by
          refine qv_istore_n (lo2 := [some (.ref a0), some (.int m13), some (.int x2)]) dX9_toldPlaces_57 (i := 1) rfl (by decide) rfl (Nat.le_of_ble_eq_true rfl) rfl ?_
          refine qv_iinc (v := x2 + (1 : Int32)) (lo2 := [some (.ref a0), some (.int m13), some (.int (x2 + (1 : Int32)))]) dX9_toldPlaces_58 rfl rfl (by decide) rfl rfl ?_
          refine qv_goto (tgt := 4) dX9_toldPlaces_61 rfl ?_
          cases hs
          exact qv_dp (qv_le_s (qv_le_s (qv_le_s qv_le_0))) (ih4 _ _ (qv_nx_l eb5))
        replace hs := hj47
        by_cases c48 : v10 < m8
        · have hs := qv_pos c48 hs
          refine qv_icmp_lt (tgt := 56) dX9_toldPlaces_42 rfl (fun _ => ?_) (fun q => absurd c48 q)
          refine qv_iload_n dX9_toldPlaces_56 (i := 1) rfl rfl ?_
          cases hs
          exact qv_dp (qv_le_s (qv_le_n (qv_le_s qv_le_0))) K46
        · have hs := qv_neg c48 hs
          refine qv_icmp_lt (tgt := 56) dX9_toldPlaces_42 rfl (fun q => absurd q c48) (fun _ => ?_)
          refine qv_aload_n dX9_toldPlaces_45 (i := 0) rfl rfl ?_
          obtain ⟨v11, e49, hs⟩ := qv_bind hs
          refine qv_getR dX9_toldPlaces_46 qF_X9_16 e49 ?_
          refine qv_iload_n dX9_toldPlaces_49 (i := 2) rfl rfl ?_
          obtain ⟨v12, e50, hs⟩ := qv_bind hs
          refine qv_iald dX9_toldPlaces_50 e50 ?_
          refine qv_iconst (v := (1 : Int32)) dX9_toldPlaces_51 rfl ?_
          refine qv_iadd dX9_toldPlaces_52 ?_
          refine qv_goto (tgt := 57) dX9_toldPlaces_53 rfl ?_
          cases hs
          exact qv_dp (qv_le_s (qv_le_n (qv_le_s qv_le_0))) K46
      replace hs := hj43
      by_cases c51 : v5 < x1
      · have hs := qv_pos c51 hs
        refine qv_icmp_lt (tgt := 33) dX9_toldPlaces_19 rfl (fun _ => ?_) (fun q => absurd c51 q)
        refine qv_iload_n dX9_toldPlaces_33 (i := 1) rfl rfl ?_
        cases hs
        exact qv_dp (qv_le_s (qv_le_n (qv_le_s qv_le_0))) K42
      · have hs := qv_neg c51 hs
        refine qv_icmp_lt (tgt := 33) dX9_toldPlaces_19 rfl (fun q => absurd q c51) (fun _ => ?_)
        refine qv_aload_n dX9_toldPlaces_22 (i := 0) rfl rfl ?_
        obtain ⟨v6, e52, hs⟩ := qv_bind hs
        refine qv_getR dX9_toldPlaces_23 qF_X9_13 e52 ?_
        refine qv_iload_n dX9_toldPlaces_26 (i := 2) rfl rfl ?_
        obtain ⟨v7, e53, hs⟩ := qv_bind hs
        refine qv_iald dX9_toldPlaces_27 e53 ?_
        refine qv_iconst (v := (1 : Int32)) dX9_toldPlaces_28 rfl ?_
        refine qv_iadd dX9_toldPlaces_29 ?_
        refine qv_goto (tgt := 34) dX9_toldPlaces_30 rfl ?_
        cases hs
        exact qv_dp (qv_le_s (qv_le_n (qv_le_s qv_le_0))) K42
theorem qD_X9_toldPlaces : qv_DV mX9_toldPlaces 0 := ⟨(qv_i14 (List.mem_of_getElem? (i := 43) (by decide +kernel))), (qv_i0 (List.mem_of_getElem? (i := 31) (by decide +kernel))), (qv_i1 (List.mem_of_getElem? (i := 14) (by decide +kernel))), (qv_i14 (List.mem_of_getElem? (i := 44) (by decide +kernel))), by decide +kernel, by decide +kernel⟩
/-- TrueOneWayModel.maySay(III)Z -/
noncomputable def fX9_maySay (a0 : Nat) (a1 : Int32) (a2 : Int32) (a3 : Int32) (h : qv_H) : Option (Int32) :=
  if (2 : Int32) ≤ a1 then
    if (5 : Int32) ≤ a1 then
      Option.bind (α := Int32) (
          if a1 = (6 : Int32) then
            some (1 : Int32)
          else
            (qv_gI h 8 a0 11).bind fun v1 =>
            if v1 < a2 then
              some (0 : Int32)
            else
              some (1 : Int32)
        ) fun m2 =>
      (qv_b1 m2).bind fun v3 =>
      some m2
    else
      (qv_ob h 8 a0).bind fun _ =>
      (fX9_isFact a0 a2 h).bind fun v5 =>
      Option.bind (α := Int32) (
          if v5 = 0 then
            some (0 : Int32)
          else
            (qv_ob h 8 a0).bind fun _ =>
            (fX9_isFact a0 a3 h).bind fun v7 =>
            if v7 = 0 then
              some (0 : Int32)
            else
              some (1 : Int32)
        ) fun m8 =>
      (qv_b1 m8).bind fun v9 =>
      some m8
  else
    (qv_ob h 8 a0).bind fun _ =>
    (fX9_isFact a0 a2 h).bind fun v11 =>
    (qv_b1 v11).bind fun v12 =>
    some v11
abbrev mX9_maySay : qv_M := (yX9_maySay, cX9_maySay, 4, (Option.some Jvm.ClassFile.FieldType.boolean), 1, 21)
set_option maxRecDepth 100000 in
set_option maxHeartbeats 4000000 in
theorem sX9_maySay {l : Launch} {g : qv_G} {a0 : Nat} {a1 : Int32} {a2 : Int32} {a3 : Int32} {h : qv_H} {r : Int32} (hs : fX9_maySay a0 a1 a2 a3 h = some r) : qv_J l g mX9_maySay 0 [some (.ref a0), some (.int a1), some (.int a2), some (.int a3)] [] h (some (.int r), h) := by
  unfold fX9_maySay at hs
  refine qv_iload_n dX9_maySay_0 (i := 1) rfl rfl ?_
  refine qv_iconst (v := (2 : Int32)) dX9_maySay_1 rfl ?_
  by_cases c1 : (2 : Int32) ≤ a1
  · have hs := qv_pos c1 hs
    refine qv_icmp_ge (tgt := 11) dX9_maySay_2 rfl (fun _ => ?_) (fun q => absurd c1 q)
    refine qv_iload_n dX9_maySay_11 (i := 1) rfl rfl ?_
    refine qv_iconst (v := (5 : Int32)) dX9_maySay_12 rfl ?_
    by_cases c2 : (5 : Int32) ≤ a1
    · have hs := qv_pos c2 hs
      refine qv_icmp_ge (tgt := 38) dX9_maySay_13 rfl (fun _ => ?_) (fun q => absurd c2 q)
      refine qv_iload_n dX9_maySay_38 (i := 1) rfl rfl ?_
      refine qv_bipush (v := (6 : Int32)) dX9_maySay_39 rfl ?_
      obtain ⟨m2, hj4, hs⟩ := qv_bind hs
      have K3 : qv_J l g mX9_maySay 57 [none, none, none, none] [.int m2] h (some (.int r), h) := by
        obtain ⟨v3, e5, hs⟩ := qv_bind hs
        obtain rfl := qv_sm hs
        exact qv_zret dX9_maySay_57 rfl (qv_b1_of e5).1
      replace hs := hj4
      by_cases c6 : a1 = (6 : Int32)
      · have hs := qv_pos c6 hs
        refine qv_icmp_eq (tgt := 52) dX9_maySay_41 rfl (fun _ => ?_) (fun q => absurd c6 q)
        refine qv_iconst (v := (1 : Int32)) dX9_maySay_52 rfl ?_
        refine qv_goto (tgt := 57) dX9_maySay_53 rfl ?_
        cases hs
        exact qv_dp (qv_le_n (qv_le_n (qv_le_n (qv_le_n qv_le_0)))) K3
      · have hs := qv_neg c6 hs
        refine qv_icmp_eq (tgt := 52) dX9_maySay_41 rfl (fun q => absurd q c6) (fun _ => ?_)
        refine qv_iload_n dX9_maySay_44 (i := 2) rfl rfl ?_
        refine qv_aload_n dX9_maySay_45 (i := 0) rfl rfl ?_
        obtain ⟨v1, e7, hs⟩ := qv_bind hs
        refine qv_getI dX9_maySay_46 qF_X9_92 e7 ?_
        by_cases c8 : v1 < a2
        · have hs := qv_pos c8 hs
          refine qv_icmp_gt (tgt := 56) dX9_maySay_49 rfl (fun _ => ?_) (fun q => absurd c8 q)
          refine qv_iconst (v := (0 : Int32)) dX9_maySay_56 rfl ?_
          cases hs
          exact qv_dp (qv_le_n (qv_le_n (qv_le_n (qv_le_n qv_le_0)))) K3
        · have hs := qv_neg c8 hs
          refine qv_icmp_gt (tgt := 56) dX9_maySay_49 rfl (fun q => absurd q c8) (fun _ => ?_)
          refine qv_iconst (v := (1 : Int32)) dX9_maySay_52 rfl ?_
          refine qv_goto (tgt := 57) dX9_maySay_53 rfl ?_
          cases hs
          exact qv_dp (qv_le_n (qv_le_n (qv_le_n (qv_le_n qv_le_0)))) K3
    · have hs := qv_neg c2 hs
      refine qv_icmp_ge (tgt := 38) dX9_maySay_13 rfl (fun q => absurd q c2) (fun _ => ?_)
      refine qv_aload_n dX9_maySay_16 (i := 0) rfl rfl ?_
      refine qv_iload_n dX9_maySay_17 (i := 2) rfl rfl ?_
      obtain ⟨u4, e9, hs⟩ := qv_bind hs
      obtain ⟨v5, e10, hs⟩ := qv_bind hs
      refine qv_cV (d2 := mX9_isFact) (o := a0) (ci := 8) (r := some (.int v5)) (h2 := h) (av := [.int a2]) (st := []) dX9_maySay_18 qM_X9_146 qD_X9_isFact e9 rfl rfl ⟨by decide, by decide⟩ rfl (Nat.le_of_ble_eq_true rfl) (Nat.le_of_ble_eq_true rfl) (sX9_isFact e10) rfl ?_
      obtain ⟨m8, hj12, hs⟩ := qv_bind hs
      have K11 : qv_J l g mX9_maySay 37 [none, none, none, none] [.int m8] h (some (.int r), h) := by
        obtain ⟨v9, e13, hs⟩ := qv_bind hs
        obtain rfl := qv_sm hs
        exact qv_zret dX9_maySay_37 rfl (qv_b1_of e13).1
      replace hs := hj12
      by_cases c14 : v5 = 0
      · have hs := qv_pos c14 hs
        refine qv_if_eq (tgt := 36) dX9_maySay_21 rfl (fun _ => ?_) (fun q => absurd c14 q)
        refine qv_iconst (v := (0 : Int32)) dX9_maySay_36 rfl ?_
        cases hs
        exact qv_dp (qv_le_n (qv_le_n (qv_le_n (qv_le_n qv_le_0)))) K11
      · have hs := qv_neg c14 hs
        refine qv_if_eq (tgt := 36) dX9_maySay_21 rfl (fun q => absurd q c14) (fun _ => ?_)
        refine qv_aload_n dX9_maySay_24 (i := 0) rfl rfl ?_
        refine qv_iload_n dX9_maySay_25 (i := 3) rfl rfl ?_
        obtain ⟨u6, e15, hs⟩ := qv_bind hs
        obtain ⟨v7, e16, hs⟩ := qv_bind hs
        refine qv_cV (d2 := mX9_isFact) (o := a0) (ci := 8) (r := some (.int v7)) (h2 := h) (av := [.int a3]) (st := []) dX9_maySay_26 qM_X9_146 qD_X9_isFact e15 rfl rfl ⟨by decide, by decide⟩ rfl (Nat.le_of_ble_eq_true rfl) (Nat.le_of_ble_eq_true rfl) (sX9_isFact e16) rfl ?_
        by_cases c17 : v7 = 0
        · have hs := qv_pos c17 hs
          refine qv_if_eq (tgt := 36) dX9_maySay_29 rfl (fun _ => ?_) (fun q => absurd c17 q)
          refine qv_iconst (v := (0 : Int32)) dX9_maySay_36 rfl ?_
          cases hs
          exact qv_dp (qv_le_n (qv_le_n (qv_le_n (qv_le_n qv_le_0)))) K11
        · have hs := qv_neg c17 hs
          refine qv_if_eq (tgt := 36) dX9_maySay_29 rfl (fun q => absurd q c17) (fun _ => ?_)
          refine qv_iconst (v := (1 : Int32)) dX9_maySay_32 rfl ?_
          refine qv_goto (tgt := 37) dX9_maySay_33 rfl ?_
          cases hs
          exact qv_dp (qv_le_n (qv_le_n (qv_le_n (qv_le_n qv_le_0)))) K11
  · have hs := qv_neg c1 hs
    refine qv_icmp_ge (tgt := 11) dX9_maySay_2 rfl (fun q => absurd q c1) (fun _ => ?_)
    refine qv_aload_n dX9_maySay_5 (i := 0) rfl rfl ?_
    refine qv_iload_n dX9_maySay_6 (i := 2) rfl rfl ?_
    obtain ⟨u10, e18, hs⟩ := qv_bind hs
    obtain ⟨v11, e19, hs⟩ := qv_bind hs
    refine qv_cV (d2 := mX9_isFact) (o := a0) (ci := 8) (r := some (.int v11)) (h2 := h) (av := [.int a2]) (st := []) dX9_maySay_7 qM_X9_146 qD_X9_isFact e18 rfl rfl ⟨by decide, by decide⟩ rfl (Nat.le_of_ble_eq_true rfl) (Nat.le_of_ble_eq_true rfl) (sX9_isFact e19) rfl ?_
    obtain ⟨v12, e20, hs⟩ := qv_bind hs
    obtain rfl := qv_sm hs
    exact qv_zret dX9_maySay_10 rfl (qv_b1_of e20).1
theorem qD_X9_maySay : qv_DV mX9_maySay 3 := ⟨(qv_i14 (List.mem_of_getElem? (i := 52) (by decide +kernel))), (qv_i0 (List.mem_of_getElem? (i := 34) (by decide +kernel))), (qv_i1 (List.mem_of_getElem? (i := 14) (by decide +kernel))), (qv_i14 (List.mem_of_getElem? (i := 53) (by decide +kernel))), by decide +kernel, by decide +kernel⟩
/-- TrueOneWayModel.comesSign(I)Z -/
noncomputable def fX9_comesSign (a0 : Nat) (a1 : Int32) (h : qv_H) : Option (Int32 × qv_H) :=
  (qv_gR h 8 a0 21).bind fun v1 =>
  (qv_aI h false v1 a1).bind fun v2 =>
  (qv_gI h 8 a0 9).bind fun v3 =>
  if v3 ≤ v2 then
    some ((0 : Int32), h)
  else
    (qv_gI h 8 a0 11).bind fun v4 =>
    if v4 = (6 : Int32) then
      some ((0 : Int32), h)
    else
      (qv_gR h 8 a0 22).bind fun v5 =>
      (qv_aI h false v5 a1).bind fun v6 =>
      (qv_gR h 8 a0 23).bind fun v7 =>
      (qv_aI h false v7 a1).bind fun v8 =>
      (qv_gR h 8 a0 24).bind fun v9 =>
      (qv_aI h false v9 a1).bind fun v10 =>
      (qv_ob h 8 a0).bind fun _ =>
      (fX9_maySay a0 v6 v8 v10 h).bind fun v12 =>
      if v12 = 0 then
        some ((0 : Int32), h)
      else
        (qv_gR h 8 a0 4).bind fun v13 =>
        (qv_gI h 8 a0 11).bind fun v14 =>
        (qv_gR h 8 a0 21).bind fun v15 =>
        (qv_aI h false v15 a1).bind fun v16 =>
        (qv_sI h false v13 v14 v16).bind fun h17 =>
        (qv_gR h17 8 a0 3).bind fun v18 =>
        (qv_gI h17 8 a0 11).bind fun v19 =>
        (qv_gR h17 8 a0 22).bind fun v20 =>
        (qv_aI h17 false v20 a1).bind fun v21 =>
        (qv_sI h17 false v18 v19 v21).bind fun h22 =>
        (qv_gR h22 8 a0 5).bind fun v23 =>
        (qv_gI h22 8 a0 11).bind fun v24 =>
        (qv_gR h22 8 a0 23).bind fun v25 =>
        (qv_aI h22 false v25 a1).bind fun v26 =>
        (qv_sI h22 false v23 v24 v26).bind fun h27 =>
        (qv_gR h27 8 a0 6).bind fun v28 =>
        (qv_gI h27 8 a0 11).bind fun v29 =>
        (qv_gR h27 8 a0 24).bind fun v30 =>
        (qv_aI h27 false v30 a1).bind fun v31 =>
        (qv_sI h27 false v28 v29 v31).bind fun h32 =>
        (qv_gI h32 8 a0 11).bind fun v33 =>
        (qv_pI h32 8 a0 11 (v33 + (1 : Int32))).bind fun h34 =>
        some ((1 : Int32), h34)
abbrev mX9_comesSign : qv_M := (yX9_comesSign, cX9_comesSign, 2, (Option.some Jvm.ClassFile.FieldType.boolean), 2, 44)
set_option maxRecDepth 100000 in
set_option maxHeartbeats 4000000 in
theorem sX9_comesSign {l : Launch} {g : qv_G} {a0 : Nat} {a1 : Int32} {h : qv_H} {r : Int32} {hz : qv_H} (hs : fX9_comesSign a0 a1 h = some (r, hz)) : qv_J l g mX9_comesSign 0 [some (.ref a0), some (.int a1)] [] h (some (.int r), hz) := by
  unfold fX9_comesSign at hs
  refine qv_aload_n dX9_comesSign_0 (i := 0) rfl rfl ?_
  obtain ⟨v1, e1, hs⟩ := qv_bind hs
  refine qv_getR dX9_comesSign_1 qF_X9_56 e1 ?_
  refine qv_iload_n dX9_comesSign_4 (i := 1) rfl rfl ?_
  obtain ⟨v2, e2, hs⟩ := qv_bind hs
  refine qv_iald dX9_comesSign_5 e2 ?_
  refine qv_aload_n dX9_comesSign_6 (i := 0) rfl rfl ?_
  obtain ⟨v3, e3, hs⟩ := qv_bind hs
  refine qv_getI dX9_comesSign_7 qF_X9_137 e3 ?_
  by_cases c4 : v3 ≤ v2
  · have hs := qv_pos c4 hs
    refine qv_icmp_ge (tgt := 47) dX9_comesSign_10 rfl (fun _ => ?_) (fun q => absurd c4 q)
    refine qv_iconst (v := (0 : Int32)) dX9_comesSign_47 rfl ?_
    obtain ⟨rfl, rfl⟩ := qv_pr hs
    exact qv_zret dX9_comesSign_48 rfl (by decide)
  · have hs := qv_neg c4 hs
    refine qv_icmp_ge (tgt := 47) dX9_comesSign_10 rfl (fun q => absurd q c4) (fun _ => ?_)
    refine qv_aload_n dX9_comesSign_13 (i := 0) rfl rfl ?_
    obtain ⟨v4, e5, hs⟩ := qv_bind hs
    refine qv_getI dX9_comesSign_14 qF_X9_92 e5 ?_
    refine qv_bipush (v := (6 : Int32)) dX9_comesSign_17 rfl ?_
    by_cases c6 : v4 = (6 : Int32)
    · have hs := qv_pos c6 hs
      refine qv_icmp_eq (tgt := 47) dX9_comesSign_19 rfl (fun _ => ?_) (fun q => absurd c6 q)
      refine qv_iconst (v := (0 : Int32)) dX9_comesSign_47 rfl ?_
      obtain ⟨rfl, rfl⟩ := qv_pr hs
      exact qv_zret dX9_comesSign_48 rfl (by decide)
    · have hs := qv_neg c6 hs
      refine qv_icmp_eq (tgt := 47) dX9_comesSign_19 rfl (fun q => absurd q c6) (fun _ => ?_)
      refine qv_aload_n dX9_comesSign_22 (i := 0) rfl rfl ?_
      refine qv_aload_n dX9_comesSign_23 (i := 0) rfl rfl ?_
      obtain ⟨v5, e7, hs⟩ := qv_bind hs
      refine qv_getR dX9_comesSign_24 qF_X9_59 e7 ?_
      refine qv_iload_n dX9_comesSign_27 (i := 1) rfl rfl ?_
      obtain ⟨v6, e8, hs⟩ := qv_bind hs
      refine qv_iald dX9_comesSign_28 e8 ?_
      refine qv_aload_n dX9_comesSign_29 (i := 0) rfl rfl ?_
      obtain ⟨v7, e9, hs⟩ := qv_bind hs
      refine qv_getR dX9_comesSign_30 qF_X9_62 e9 ?_
      refine qv_iload_n dX9_comesSign_33 (i := 1) rfl rfl ?_
      obtain ⟨v8, e10, hs⟩ := qv_bind hs
      refine qv_iald dX9_comesSign_34 e10 ?_
      refine qv_aload_n dX9_comesSign_35 (i := 0) rfl rfl ?_
      obtain ⟨v9, e11, hs⟩ := qv_bind hs
      refine qv_getR dX9_comesSign_36 qF_X9_65 e11 ?_
      refine qv_iload_n dX9_comesSign_39 (i := 1) rfl rfl ?_
      obtain ⟨v10, e12, hs⟩ := qv_bind hs
      refine qv_iald dX9_comesSign_40 e12 ?_
      obtain ⟨u11, e13, hs⟩ := qv_bind hs
      obtain ⟨v12, e14, hs⟩ := qv_bind hs
      refine qv_cV (d2 := mX9_maySay) (o := a0) (ci := 8) (r := some (.int v12)) (h2 := h) (av := [.int v6, .int v8, .int v10]) (st := []) dX9_comesSign_41 qM_X9_149 qD_X9_maySay e13 rfl rfl ⟨by decide, by decide⟩ rfl (Nat.le_of_ble_eq_true rfl) (Nat.le_of_ble_eq_true rfl) (sX9_maySay e14) rfl ?_
      by_cases c15 : v12 = 0
      · have hs := qv_pos c15 hs
        refine qv_if_ne (tgt := 49) dX9_comesSign_44 rfl (fun q => absurd c15 q) (fun _ => ?_)
        refine qv_iconst (v := (0 : Int32)) dX9_comesSign_47 rfl ?_
        obtain ⟨rfl, rfl⟩ := qv_pr hs
        exact qv_zret dX9_comesSign_48 rfl (by decide)
      · have hs := qv_neg c15 hs
        refine qv_if_ne (tgt := 49) dX9_comesSign_44 rfl (fun _ => ?_) (fun q => absurd q c15)
        refine qv_aload_n dX9_comesSign_49 (i := 0) rfl rfl ?_
        obtain ⟨v13, e16, hs⟩ := qv_bind hs
        refine qv_getR dX9_comesSign_50 qF_X9_22 e16 ?_
        refine qv_aload_n dX9_comesSign_53 (i := 0) rfl rfl ?_
        obtain ⟨v14, e17, hs⟩ := qv_bind hs
        refine qv_getI dX9_comesSign_54 qF_X9_92 e17 ?_
        refine qv_aload_n dX9_comesSign_57 (i := 0) rfl rfl ?_
        obtain ⟨v15, e18, hs⟩ := qv_bind hs
        refine qv_getR dX9_comesSign_58 qF_X9_56 e18 ?_
        refine qv_iload_n dX9_comesSign_61 (i := 1) rfl rfl ?_
        obtain ⟨v16, e19, hs⟩ := qv_bind hs
        refine qv_iald dX9_comesSign_62 e19 ?_
        obtain ⟨h17, e20, hs⟩ := qv_bind hs
        refine qv_iast dX9_comesSign_63 e20 ?_
        refine qv_aload_n dX9_comesSign_64 (i := 0) rfl rfl ?_
        obtain ⟨v18, e21, hs⟩ := qv_bind hs
        refine qv_getR dX9_comesSign_65 qF_X9_19 e21 ?_
        refine qv_aload_n dX9_comesSign_68 (i := 0) rfl rfl ?_
        obtain ⟨v19, e22, hs⟩ := qv_bind hs
        refine qv_getI dX9_comesSign_69 qF_X9_92 e22 ?_
        refine qv_aload_n dX9_comesSign_72 (i := 0) rfl rfl ?_
        obtain ⟨v20, e23, hs⟩ := qv_bind hs
        refine qv_getR dX9_comesSign_73 qF_X9_59 e23 ?_
        refine qv_iload_n dX9_comesSign_76 (i := 1) rfl rfl ?_
        obtain ⟨v21, e24, hs⟩ := qv_bind hs
        refine qv_iald dX9_comesSign_77 e24 ?_
        obtain ⟨h22, e25, hs⟩ := qv_bind hs
        refine qv_iast dX9_comesSign_78 e25 ?_
        refine qv_aload_n dX9_comesSign_79 (i := 0) rfl rfl ?_
        obtain ⟨v23, e26, hs⟩ := qv_bind hs
        refine qv_getR dX9_comesSign_80 qF_X9_25 e26 ?_
        refine qv_aload_n dX9_comesSign_83 (i := 0) rfl rfl ?_
        obtain ⟨v24, e27, hs⟩ := qv_bind hs
        refine qv_getI dX9_comesSign_84 qF_X9_92 e27 ?_
        refine qv_aload_n dX9_comesSign_87 (i := 0) rfl rfl ?_
        obtain ⟨v25, e28, hs⟩ := qv_bind hs
        refine qv_getR dX9_comesSign_88 qF_X9_62 e28 ?_
        refine qv_iload_n dX9_comesSign_91 (i := 1) rfl rfl ?_
        obtain ⟨v26, e29, hs⟩ := qv_bind hs
        refine qv_iald dX9_comesSign_92 e29 ?_
        obtain ⟨h27, e30, hs⟩ := qv_bind hs
        refine qv_iast dX9_comesSign_93 e30 ?_
        refine qv_aload_n dX9_comesSign_94 (i := 0) rfl rfl ?_
        obtain ⟨v28, e31, hs⟩ := qv_bind hs
        refine qv_getR dX9_comesSign_95 qF_X9_28 e31 ?_
        refine qv_aload_n dX9_comesSign_98 (i := 0) rfl rfl ?_
        obtain ⟨v29, e32, hs⟩ := qv_bind hs
        refine qv_getI dX9_comesSign_99 qF_X9_92 e32 ?_
        refine qv_aload_n dX9_comesSign_102 (i := 0) rfl rfl ?_
        obtain ⟨v30, e33, hs⟩ := qv_bind hs
        refine qv_getR dX9_comesSign_103 qF_X9_65 e33 ?_
        refine qv_iload_n dX9_comesSign_106 (i := 1) rfl rfl ?_
        obtain ⟨v31, e34, hs⟩ := qv_bind hs
        refine qv_iald dX9_comesSign_107 e34 ?_
        obtain ⟨h32, e35, hs⟩ := qv_bind hs
        refine qv_iast dX9_comesSign_108 e35 ?_
        refine qv_aload_n dX9_comesSign_109 (i := 0) rfl rfl ?_
        refine qv_dup dX9_comesSign_110 rfl ?_
        obtain ⟨v33, e36, hs⟩ := qv_bind hs
        refine qv_getI dX9_comesSign_111 qF_X9_92 e36 ?_
        refine qv_iconst (v := (1 : Int32)) dX9_comesSign_114 rfl ?_
        refine qv_iadd dX9_comesSign_115 ?_
        obtain ⟨h34, e37, hs⟩ := qv_bind hs
        refine qv_putI dX9_comesSign_116 qF_X9_92 e37 ?_
        refine qv_iconst (v := (1 : Int32)) dX9_comesSign_119 rfl ?_
        obtain ⟨rfl, rfl⟩ := qv_pr hs
        exact qv_zret dX9_comesSign_120 rfl (by decide)
theorem qD_X9_comesSign : qv_DV mX9_comesSign 1 := ⟨(qv_i14 (List.mem_of_getElem? (i := 49) (by decide +kernel))), (qv_i0 (List.mem_of_getElem? (i := 33) (by decide +kernel))), (qv_i1 (List.mem_of_getElem? (i := 14) (by decide +kernel))), (qv_i14 (List.mem_of_getElem? (i := 50) (by decide +kernel))), by decide +kernel, by decide +kernel⟩
/-- TrueOneWayModel.comes(I)Z -/
noncomputable def fX9_comes (a0 : Nat) (a1 : Int32) (h : qv_H) : Option (Int32 × qv_H) :=
  (qv_gR h 8 a0 19).bind fun v1 =>
  (qv_aI h false v1 a1).bind fun v2 =>
  if v2 = (102 : Int32) then
    (qv_gI h 8 a0 10).bind fun v82 =>
    (qv_pI h 8 a0 10 (v82 + (1 : Int32))).bind fun h83 =>
    (qv_gI h83 8 a0 10).bind fun v84 =>
    Option.bind (α := Int32) (
        if (4 : Int32) < v84 then
          some (0 : Int32)
        else
          some (1 : Int32)
      ) fun m85 =>
    (qv_b1 m85).bind fun v86 =>
    some (m85, h83)
  else
    if v2 = (108 : Int32) then
      (qv_gR h 8 a0 21).bind fun v67 =>
      (qv_aI h false v67 a1).bind fun v68 =>
      (qv_ob h 8 a0).bind fun _ =>
      (fX9_isPlace a0 v68 h).bind fun v70 =>
      if v70 = 0 then
        some ((0 : Int32), h)
      else
        (qv_gR h 8 a0 22).bind fun v71 =>
        (qv_aI h false v71 a1).bind fun v72 =>
        (qv_ob h 8 a0).bind fun _ =>
        (fX9_isFact a0 v72 h).bind fun v74 =>
        if v74 = 0 then
          some ((0 : Int32), h)
        else
          (qv_gR h 8 a0 7).bind fun v75 =>
          (qv_gR h 8 a0 21).bind fun v76 =>
          (qv_aI h false v76 a1).bind fun v77 =>
          (qv_aI h false v75 v77).bind fun v78 =>
          (qv_gR h 8 a0 22).bind fun v79 =>
          (qv_aI h false v79 a1).bind fun v80 =>
          (qv_sI h false v75 v77 (v78 ||| ((1 : Int32) <<< (v80 &&& 31)))).bind fun h81 =>
          some ((1 : Int32), h81)
    else
      if v2 = (110 : Int32) then
        (qv_gR h 8 a0 21).bind fun v57 =>
        (qv_aI h false v57 a1).bind fun v58 =>
        (fX9_isIn v58 (2 : Int32) (6 : Int32)).bind fun v59 =>
        if v59 = 0 then
          some ((0 : Int32), h)
        else
          (qv_gR h 8 a0 21).bind fun v60 =>
          (qv_aI h false v60 a1).bind fun v61 =>
          (qv_ob h 8 a0).bind fun _ =>
          (fX9_toldPlaces a0 h).bind fun v63 =>
          if v63 ≤ v61 then
            (qv_gR h 8 a0 21).bind fun v64 =>
            (qv_aI h false v64 a1).bind fun v65 =>
            (qv_pI h 8 a0 8 v65).bind fun h66 =>
            some ((1 : Int32), h66)
          else
            some ((0 : Int32), h)
      else
        if v2 = (114 : Int32) then
          (qv_gR h 8 a0 21).bind fun v32 =>
          (qv_aI h false v32 a1).bind fun v33 =>
          (qv_ob h 8 a0).bind fun _ =>
          (fX9_isPlace a0 v33 h).bind fun v35 =>
          if v35 = 0 then
            some ((0 : Int32), h)
          else
            (qv_gR h 8 a0 22).bind fun v36 =>
            (qv_aI h false v36 a1).bind fun v37 =>
            (qv_ob h 8 a0).bind fun _ =>
            (fX9_isPlace a0 v37 h).bind fun v39 =>
            if v39 = 0 then
              some ((0 : Int32), h)
            else
              (qv_gR h 8 a0 21).bind fun v40 =>
              (qv_aI h false v40 a1).bind fun v41 =>
              (qv_gR h 8 a0 22).bind fun v42 =>
              (qv_aI h false v42 a1).bind fun v43 =>
              if v41 = v43 then
                some ((0 : Int32), h)
              else
                (qv_gI h 8 a0 9).bind fun v44 =>
                if v44 = (8 : Int32) then
                  some ((0 : Int32), h)
                else
                  (qv_gR h 8 a0 1).bind fun v45 =>
                  (qv_gI h 8 a0 9).bind fun v46 =>
                  (qv_gR h 8 a0 21).bind fun v47 =>
                  (qv_aI h false v47 a1).bind fun v48 =>
                  (qv_sI h false v45 v46 v48).bind fun h49 =>
                  (qv_gR h49 8 a0 2).bind fun v50 =>
                  (qv_gI h49 8 a0 9).bind fun v51 =>
                  (qv_gR h49 8 a0 22).bind fun v52 =>
                  (qv_aI h49 false v52 a1).bind fun v53 =>
                  (qv_sI h49 false v50 v51 v53).bind fun h54 =>
                  (qv_gI h54 8 a0 9).bind fun v55 =>
                  (qv_pI h54 8 a0 9 (v55 + (1 : Int32))).bind fun h56 =>
                  some ((1 : Int32), h56)
        else
          if v2 = (115 : Int32) then
            (qv_ob h 8 a0).bind fun _ =>
            (fX9_comesSign a0 a1 h).bind fun (v29, h30) =>
            (qv_b1 v29).bind fun v31 =>
            some (v29, h30)
          else
            (qv_gR h 8 a0 21).bind fun v3 =>
            (qv_aI h false v3 a1).bind fun v4 =>
            (qv_ob h 8 a0).bind fun _ =>
            (fX9_isPlace a0 v4 h).bind fun v6 =>
            if v6 = 0 then
              some ((0 : Int32), h)
            else
              (qv_gR h 8 a0 22).bind fun v7 =>
              (qv_aI h false v7 a1).bind fun v8 =>
              (qv_ob h 8 a0).bind fun _ =>
              (fX9_isPlace a0 v8 h).bind fun v10 =>
              if v10 = 0 then
                some ((0 : Int32), h)
              else
                (qv_gR h 8 a0 21).bind fun v11 =>
                (qv_aI h false v11 a1).bind fun v12 =>
                (qv_gR h 8 a0 22).bind fun v13 =>
                (qv_aI h false v13 a1).bind fun v14 =>
                if v12 = v14 then
                  some ((0 : Int32), h)
                else
                  (qv_gR h 8 a0 23).bind fun v15 =>
                  (qv_aI h false v15 a1).bind fun v16 =>
                  (qv_ob h 8 a0).bind fun _ =>
                  (fX9_isFact a0 v16 h).bind fun v18 =>
                  if v18 = 0 then
                    some ((0 : Int32), h)
                  else
                    (qv_gR h 8 a0 21).bind fun v19 =>
                    (qv_aI h false v19 a1).bind fun v20 =>
                    (qv_pI h 8 a0 12 v20).bind fun h21 =>
                    (qv_gR h21 8 a0 22).bind fun v22 =>
                    (qv_aI h21 false v22 a1).bind fun v23 =>
                    (qv_pI h21 8 a0 13 v23).bind fun h24 =>
                    (qv_gR h24 8 a0 23).bind fun v25 =>
                    (qv_aI h24 false v25 a1).bind fun v26 =>
                    (qv_pI h24 8 a0 14 v26).bind fun h27 =>
                    some ((1 : Int32), h27)
abbrev mX9_comes : qv_M := (yX9_comes, cX9_comes, 2, (Option.some Jvm.ClassFile.FieldType.boolean), 3, 65)
set_option maxRecDepth 100000 in
set_option maxHeartbeats 4000000 in
theorem sX9_comes {l : Launch} {g : qv_G} {a0 : Nat} {a1 : Int32} {h : qv_H} {r : Int32} {hz : qv_H} (hs : fX9_comes a0 a1 h = some (r, hz)) : qv_J l g mX9_comes 0 [some (.ref a0), some (.int a1)] [] h (some (.int r), hz) := by
  unfold fX9_comes at hs
  refine qv_aload_n dX9_comes_0 (i := 0) rfl rfl ?_
  obtain ⟨v1, e1, hs⟩ := qv_bind hs
  refine qv_getR dX9_comes_1 qF_X9_50 e1 ?_
  refine qv_iload_n dX9_comes_4 (i := 1) rfl rfl ?_
  obtain ⟨v2, e2, hs⟩ := qv_bind hs
  refine qv_iald dX9_comes_5 e2 ?_
  by_cases c3 : v2 = (102 : Int32)
  · have hs := qv_pos c3 hs
    refine qv_tsIn (tgt := 212) (102 : Int32) c3 dX9_comes_6 (by decide) (by decide) rfl rfl ?_
    refine qv_aload_n dX9_comes_212 (i := 0) rfl rfl ?_
    refine qv_dup dX9_comes_213 rfl ?_
    obtain ⟨v82, e4, hs⟩ := qv_bind hs
    refine qv_getI dX9_comes_214 qF_X9_89 e4 ?_
    refine qv_iconst (v := (1 : Int32)) dX9_comes_217 rfl ?_
    refine qv_iadd dX9_comes_218 ?_
    obtain ⟨h83, e5, hs⟩ := qv_bind hs
    refine qv_putI dX9_comes_219 qF_X9_89 e5 ?_
    refine qv_aload_n dX9_comes_222 (i := 0) rfl rfl ?_
    obtain ⟨v84, e6, hs⟩ := qv_bind hs
    refine qv_getI dX9_comes_223 qF_X9_89 e6 ?_
    refine qv_iconst (v := (4 : Int32)) dX9_comes_226 rfl ?_
    obtain ⟨m85, hj8, hs⟩ := qv_bind hs
    have K7 : qv_J l g mX9_comes 235 [none, none] [.int m85] h83 (some (.int r), hz) := by
      obtain ⟨v86, e9, hs⟩ := qv_bind hs
      obtain ⟨rfl, rfl⟩ := qv_pr hs
      exact qv_zret dX9_comes_235 rfl (qv_b1_of e9).1
    replace hs := hj8
    by_cases c10 : (4 : Int32) < v84
    · have hs := qv_pos c10 hs
      refine qv_icmp_gt (tgt := 234) dX9_comes_227 rfl (fun _ => ?_) (fun q => absurd c10 q)
      refine qv_iconst (v := (0 : Int32)) dX9_comes_234 rfl ?_
      cases hs
      exact qv_dp (qv_le_n (qv_le_n qv_le_0)) K7
    · have hs := qv_neg c10 hs
      refine qv_icmp_gt (tgt := 234) dX9_comes_227 rfl (fun q => absurd q c10) (fun _ => ?_)
      refine qv_iconst (v := (1 : Int32)) dX9_comes_230 rfl ?_
      refine qv_goto (tgt := 235) dX9_comes_231 rfl ?_
      cases hs
      exact qv_dp (qv_le_n (qv_le_n qv_le_0)) K7
  · have hs := qv_neg c3 hs
    by_cases c11 : v2 = (108 : Int32)
    · have hs := qv_pos c11 hs
      refine qv_tsIn (tgt := 242) (108 : Int32) c11 dX9_comes_6 (by decide) (by decide) rfl rfl ?_
      refine qv_aload_n dX9_comes_242 (i := 0) rfl rfl ?_
      refine qv_aload_n dX9_comes_243 (i := 0) rfl rfl ?_
      obtain ⟨v67, e12, hs⟩ := qv_bind hs
      refine qv_getR dX9_comes_244 qF_X9_56 e12 ?_
      refine qv_iload_n dX9_comes_247 (i := 1) rfl rfl ?_
      obtain ⟨v68, e13, hs⟩ := qv_bind hs
      refine qv_iald dX9_comes_248 e13 ?_
      obtain ⟨u69, e14, hs⟩ := qv_bind hs
      obtain ⟨v70, e15, hs⟩ := qv_bind hs
      refine qv_cV (d2 := mX9_isPlace) (o := a0) (ci := 8) (r := some (.int v70)) (h2 := h) (av := [.int v68]) (st := []) dX9_comes_249 qM_X9_155 qD_X9_isPlace e14 rfl rfl ⟨by decide, by decide⟩ rfl (Nat.le_of_ble_eq_true rfl) (Nat.le_of_ble_eq_true rfl) (sX9_isPlace e15) rfl ?_
      by_cases c16 : v70 = 0
      · have hs := qv_pos c16 hs
        refine qv_if_eq (tgt := 268) dX9_comes_252 rfl (fun _ => ?_) (fun q => absurd c16 q)
        refine qv_iconst (v := (0 : Int32)) dX9_comes_268 rfl ?_
        obtain ⟨rfl, rfl⟩ := qv_pr hs
        exact qv_zret dX9_comes_269 rfl (by decide)
      · have hs := qv_neg c16 hs
        refine qv_if_eq (tgt := 268) dX9_comes_252 rfl (fun q => absurd q c16) (fun _ => ?_)
        refine qv_aload_n dX9_comes_255 (i := 0) rfl rfl ?_
        refine qv_aload_n dX9_comes_256 (i := 0) rfl rfl ?_
        obtain ⟨v71, e17, hs⟩ := qv_bind hs
        refine qv_getR dX9_comes_257 qF_X9_59 e17 ?_
        refine qv_iload_n dX9_comes_260 (i := 1) rfl rfl ?_
        obtain ⟨v72, e18, hs⟩ := qv_bind hs
        refine qv_iald dX9_comes_261 e18 ?_
        obtain ⟨u73, e19, hs⟩ := qv_bind hs
        obtain ⟨v74, e20, hs⟩ := qv_bind hs
        refine qv_cV (d2 := mX9_isFact) (o := a0) (ci := 8) (r := some (.int v74)) (h2 := h) (av := [.int v72]) (st := []) dX9_comes_262 qM_X9_146 qD_X9_isFact e19 rfl rfl ⟨by decide, by decide⟩ rfl (Nat.le_of_ble_eq_true rfl) (Nat.le_of_ble_eq_true rfl) (sX9_isFact e20) rfl ?_
        by_cases c21 : v74 = 0
        · have hs := qv_pos c21 hs
          refine qv_if_ne (tgt := 270) dX9_comes_265 rfl (fun q => absurd c21 q) (fun _ => ?_)
          refine qv_iconst (v := (0 : Int32)) dX9_comes_268 rfl ?_
          obtain ⟨rfl, rfl⟩ := qv_pr hs
          exact qv_zret dX9_comes_269 rfl (by decide)
        · have hs := qv_neg c21 hs
          refine qv_if_ne (tgt := 270) dX9_comes_265 rfl (fun _ => ?_) (fun q => absurd q c21)
          refine qv_aload_n dX9_comes_270 (i := 0) rfl rfl ?_
          obtain ⟨v75, e22, hs⟩ := qv_bind hs
          refine qv_getR dX9_comes_271 qF_X9_31 e22 ?_
          refine qv_aload_n dX9_comes_274 (i := 0) rfl rfl ?_
          obtain ⟨v76, e23, hs⟩ := qv_bind hs
          refine qv_getR dX9_comes_275 qF_X9_56 e23 ?_
          refine qv_iload_n dX9_comes_278 (i := 1) rfl rfl ?_
          obtain ⟨v77, e24, hs⟩ := qv_bind hs
          refine qv_iald dX9_comes_279 e24 ?_
          refine qv_dup2 dX9_comes_280 rfl rfl ?_
          obtain ⟨v78, e25, hs⟩ := qv_bind hs
          refine qv_iald dX9_comes_281 e25 ?_
          refine qv_iconst (v := (1 : Int32)) dX9_comes_282 rfl ?_
          refine qv_aload_n dX9_comes_283 (i := 0) rfl rfl ?_
          obtain ⟨v79, e26, hs⟩ := qv_bind hs
          refine qv_getR dX9_comes_284 qF_X9_59 e26 ?_
          refine qv_iload_n dX9_comes_287 (i := 1) rfl rfl ?_
          obtain ⟨v80, e27, hs⟩ := qv_bind hs
          refine qv_iald dX9_comes_288 e27 ?_
          refine qv_ishl dX9_comes_289 ?_
          refine qv_ior dX9_comes_290 ?_
          obtain ⟨h81, e28, hs⟩ := qv_bind hs
          refine qv_iast dX9_comes_291 e28 ?_
          refine qv_iconst (v := (1 : Int32)) dX9_comes_292 rfl ?_
          obtain ⟨rfl, rfl⟩ := qv_pr hs
          exact qv_zret dX9_comes_293 rfl (by decide)
    · have hs := qv_neg c11 hs
      by_cases c29 : v2 = (110 : Int32)
      · have hs := qv_pos c29 hs
        refine qv_tsIn (tgt := 76) (110 : Int32) c29 dX9_comes_6 (by decide) (by decide) rfl rfl ?_
        refine qv_aload_n dX9_comes_76 (i := 0) rfl rfl ?_
        obtain ⟨v57, e30, hs⟩ := qv_bind hs
        refine qv_getR dX9_comes_77 qF_X9_56 e30 ?_
        refine qv_iload_n dX9_comes_80 (i := 1) rfl rfl ?_
        obtain ⟨v58, e31, hs⟩ := qv_bind hs
        refine qv_iald dX9_comes_81 e31 ?_
        refine qv_iconst (v := (2 : Int32)) dX9_comes_82 rfl ?_
        refine qv_bipush (v := (6 : Int32)) dX9_comes_83 rfl ?_
        obtain ⟨v59, e32, hs⟩ := qv_bind hs
        refine qv_cS (d2 := mX9_isIn) (r := some (.int v59)) (h2 := h) (av := [.int v58, .int (2 : Int32), .int (6 : Int32)]) (st := []) dX9_comes_85 qM_X9_113 qD_X9_isIn rfl ⟨by decide, by decide⟩ rfl (Nat.le_of_ble_eq_true rfl) (Nat.le_of_ble_eq_true rfl) (sX9_isIn e32) rfl ?_
        by_cases c33 : v59 = 0
        · have hs := qv_pos c33 hs
          refine qv_if_eq (tgt := 104) dX9_comes_88 rfl (fun _ => ?_) (fun q => absurd c33 q)
          refine qv_iconst (v := (0 : Int32)) dX9_comes_104 rfl ?_
          obtain ⟨rfl, rfl⟩ := qv_pr hs
          exact qv_zret dX9_comes_105 rfl (by decide)
        · have hs := qv_neg c33 hs
          refine qv_if_eq (tgt := 104) dX9_comes_88 rfl (fun q => absurd q c33) (fun _ => ?_)
          refine qv_aload_n dX9_comes_91 (i := 0) rfl rfl ?_
          obtain ⟨v60, e34, hs⟩ := qv_bind hs
          refine qv_getR dX9_comes_92 qF_X9_56 e34 ?_
          refine qv_iload_n dX9_comes_95 (i := 1) rfl rfl ?_
          obtain ⟨v61, e35, hs⟩ := qv_bind hs
          refine qv_iald dX9_comes_96 e35 ?_
          refine qv_aload_n dX9_comes_97 (i := 0) rfl rfl ?_
          obtain ⟨u62, e36, hs⟩ := qv_bind hs
          obtain ⟨v63, e37, hs⟩ := qv_bind hs
          refine qv_cV (d2 := mX9_toldPlaces) (o := a0) (ci := 8) (r := some (.int v63)) (h2 := h) (av := []) (st := [.int v61]) dX9_comes_98 qM_X9_152 qD_X9_toldPlaces e36 rfl rfl ⟨by decide, by decide⟩ rfl (Nat.le_of_ble_eq_true rfl) (Nat.le_of_ble_eq_true rfl) (sX9_toldPlaces e37) rfl ?_
          by_cases c38 : v63 ≤ v61
          · have hs := qv_pos c38 hs
            refine qv_icmp_ge (tgt := 106) dX9_comes_101 rfl (fun _ => ?_) (fun q => absurd c38 q)
            refine qv_aload_n dX9_comes_106 (i := 0) rfl rfl ?_
            refine qv_aload_n dX9_comes_107 (i := 0) rfl rfl ?_
            obtain ⟨v64, e39, hs⟩ := qv_bind hs
            refine qv_getR dX9_comes_108 qF_X9_56 e39 ?_
            refine qv_iload_n dX9_comes_111 (i := 1) rfl rfl ?_
            obtain ⟨v65, e40, hs⟩ := qv_bind hs
            refine qv_iald dX9_comes_112 e40 ?_
            obtain ⟨h66, e41, hs⟩ := qv_bind hs
            refine qv_putI dX9_comes_113 qF_X9_34 e41 ?_
            refine qv_iconst (v := (1 : Int32)) dX9_comes_116 rfl ?_
            obtain ⟨rfl, rfl⟩ := qv_pr hs
            exact qv_zret dX9_comes_117 rfl (by decide)
          · have hs := qv_neg c38 hs
            refine qv_icmp_ge (tgt := 106) dX9_comes_101 rfl (fun q => absurd q c38) (fun _ => ?_)
            refine qv_iconst (v := (0 : Int32)) dX9_comes_104 rfl ?_
            obtain ⟨rfl, rfl⟩ := qv_pr hs
            exact qv_zret dX9_comes_105 rfl (by decide)
      · have hs := qv_neg c29 hs
        by_cases c42 : v2 = (114 : Int32)
        · have hs := qv_pos c42 hs
          refine qv_tsIn (tgt := 118) (114 : Int32) c42 dX9_comes_6 (by decide) (by decide) rfl rfl ?_
          refine qv_aload_n dX9_comes_118 (i := 0) rfl rfl ?_
          refine qv_aload_n dX9_comes_119 (i := 0) rfl rfl ?_
          obtain ⟨v32, e43, hs⟩ := qv_bind hs
          refine qv_getR dX9_comes_120 qF_X9_56 e43 ?_
          refine qv_iload_n dX9_comes_123 (i := 1) rfl rfl ?_
          obtain ⟨v33, e44, hs⟩ := qv_bind hs
          refine qv_iald dX9_comes_124 e44 ?_
          obtain ⟨u34, e45, hs⟩ := qv_bind hs
          obtain ⟨v35, e46, hs⟩ := qv_bind hs
          refine qv_cV (d2 := mX9_isPlace) (o := a0) (ci := 8) (r := some (.int v35)) (h2 := h) (av := [.int v33]) (st := []) dX9_comes_125 qM_X9_155 qD_X9_isPlace e45 rfl rfl ⟨by decide, by decide⟩ rfl (Nat.le_of_ble_eq_true rfl) (Nat.le_of_ble_eq_true rfl) (sX9_isPlace e46) rfl ?_
          by_cases c47 : v35 = 0
          · have hs := qv_pos c47 hs
            refine qv_if_eq (tgt := 168) dX9_comes_128 rfl (fun _ => ?_) (fun q => absurd c47 q)
            refine qv_iconst (v := (0 : Int32)) dX9_comes_168 rfl ?_
            obtain ⟨rfl, rfl⟩ := qv_pr hs
            exact qv_zret dX9_comes_169 rfl (by decide)
          · have hs := qv_neg c47 hs
            refine qv_if_eq (tgt := 168) dX9_comes_128 rfl (fun q => absurd q c47) (fun _ => ?_)
            refine qv_aload_n dX9_comes_131 (i := 0) rfl rfl ?_
            refine qv_aload_n dX9_comes_132 (i := 0) rfl rfl ?_
            obtain ⟨v36, e48, hs⟩ := qv_bind hs
            refine qv_getR dX9_comes_133 qF_X9_59 e48 ?_
            refine qv_iload_n dX9_comes_136 (i := 1) rfl rfl ?_
            obtain ⟨v37, e49, hs⟩ := qv_bind hs
            refine qv_iald dX9_comes_137 e49 ?_
            obtain ⟨u38, e50, hs⟩ := qv_bind hs
            obtain ⟨v39, e51, hs⟩ := qv_bind hs
            refine qv_cV (d2 := mX9_isPlace) (o := a0) (ci := 8) (r := some (.int v39)) (h2 := h) (av := [.int v37]) (st := []) dX9_comes_138 qM_X9_155 qD_X9_isPlace e50 rfl rfl ⟨by decide, by decide⟩ rfl (Nat.le_of_ble_eq_true rfl) (Nat.le_of_ble_eq_true rfl) (sX9_isPlace e51) rfl ?_
            by_cases c52 : v39 = 0
            · have hs := qv_pos c52 hs
              refine qv_if_eq (tgt := 168) dX9_comes_141 rfl (fun _ => ?_) (fun q => absurd c52 q)
              refine qv_iconst (v := (0 : Int32)) dX9_comes_168 rfl ?_
              obtain ⟨rfl, rfl⟩ := qv_pr hs
              exact qv_zret dX9_comes_169 rfl (by decide)
            · have hs := qv_neg c52 hs
              refine qv_if_eq (tgt := 168) dX9_comes_141 rfl (fun q => absurd q c52) (fun _ => ?_)
              refine qv_aload_n dX9_comes_144 (i := 0) rfl rfl ?_
              obtain ⟨v40, e53, hs⟩ := qv_bind hs
              refine qv_getR dX9_comes_145 qF_X9_56 e53 ?_
              refine qv_iload_n dX9_comes_148 (i := 1) rfl rfl ?_
              obtain ⟨v41, e54, hs⟩ := qv_bind hs
              refine qv_iald dX9_comes_149 e54 ?_
              refine qv_aload_n dX9_comes_150 (i := 0) rfl rfl ?_
              obtain ⟨v42, e55, hs⟩ := qv_bind hs
              refine qv_getR dX9_comes_151 qF_X9_59 e55 ?_
              refine qv_iload_n dX9_comes_154 (i := 1) rfl rfl ?_
              obtain ⟨v43, e56, hs⟩ := qv_bind hs
              refine qv_iald dX9_comes_155 e56 ?_
              by_cases c57 : v41 = v43
              · have hs := qv_pos c57 hs
                refine qv_icmp_eq (tgt := 168) dX9_comes_156 rfl (fun _ => ?_) (fun q => absurd c57 q)
                refine qv_iconst (v := (0 : Int32)) dX9_comes_168 rfl ?_
                obtain ⟨rfl, rfl⟩ := qv_pr hs
                exact qv_zret dX9_comes_169 rfl (by decide)
              · have hs := qv_neg c57 hs
                refine qv_icmp_eq (tgt := 168) dX9_comes_156 rfl (fun q => absurd q c57) (fun _ => ?_)
                refine qv_aload_n dX9_comes_159 (i := 0) rfl rfl ?_
                obtain ⟨v44, e58, hs⟩ := qv_bind hs
                refine qv_getI dX9_comes_160 qF_X9_137 e58 ?_
                refine qv_bipush (v := (8 : Int32)) dX9_comes_163 rfl ?_
                by_cases c59 : v44 = (8 : Int32)
                · have hs := qv_pos c59 hs
                  refine qv_icmp_ne (tgt := 170) dX9_comes_165 rfl (fun q => absurd c59 q) (fun _ => ?_)
                  refine qv_iconst (v := (0 : Int32)) dX9_comes_168 rfl ?_
                  obtain ⟨rfl, rfl⟩ := qv_pr hs
                  exact qv_zret dX9_comes_169 rfl (by decide)
                · have hs := qv_neg c59 hs
                  refine qv_icmp_ne (tgt := 170) dX9_comes_165 rfl (fun _ => ?_) (fun q => absurd q c59)
                  refine qv_aload_n dX9_comes_170 (i := 0) rfl rfl ?_
                  obtain ⟨v45, e60, hs⟩ := qv_bind hs
                  refine qv_getR dX9_comes_171 qF_X9_13 e60 ?_
                  refine qv_aload_n dX9_comes_174 (i := 0) rfl rfl ?_
                  obtain ⟨v46, e61, hs⟩ := qv_bind hs
                  refine qv_getI dX9_comes_175 qF_X9_137 e61 ?_
                  refine qv_aload_n dX9_comes_178 (i := 0) rfl rfl ?_
                  obtain ⟨v47, e62, hs⟩ := qv_bind hs
                  refine qv_getR dX9_comes_179 qF_X9_56 e62 ?_
                  refine qv_iload_n dX9_comes_182 (i := 1) rfl rfl ?_
                  obtain ⟨v48, e63, hs⟩ := qv_bind hs
                  refine qv_iald dX9_comes_183 e63 ?_
                  obtain ⟨h49, e64, hs⟩ := qv_bind hs
                  refine qv_iast dX9_comes_184 e64 ?_
                  refine qv_aload_n dX9_comes_185 (i := 0) rfl rfl ?_
                  obtain ⟨v50, e65, hs⟩ := qv_bind hs
                  refine qv_getR dX9_comes_186 qF_X9_16 e65 ?_
                  refine qv_aload_n dX9_comes_189 (i := 0) rfl rfl ?_
                  obtain ⟨v51, e66, hs⟩ := qv_bind hs
                  refine qv_getI dX9_comes_190 qF_X9_137 e66 ?_
                  refine qv_aload_n dX9_comes_193 (i := 0) rfl rfl ?_
                  obtain ⟨v52, e67, hs⟩ := qv_bind hs
                  refine qv_getR dX9_comes_194 qF_X9_59 e67 ?_
                  refine qv_iload_n dX9_comes_197 (i := 1) rfl rfl ?_
                  obtain ⟨v53, e68, hs⟩ := qv_bind hs
                  refine qv_iald dX9_comes_198 e68 ?_
                  obtain ⟨h54, e69, hs⟩ := qv_bind hs
                  refine qv_iast dX9_comes_199 e69 ?_
                  refine qv_aload_n dX9_comes_200 (i := 0) rfl rfl ?_
                  refine qv_dup dX9_comes_201 rfl ?_
                  obtain ⟨v55, e70, hs⟩ := qv_bind hs
                  refine qv_getI dX9_comes_202 qF_X9_137 e70 ?_
                  refine qv_iconst (v := (1 : Int32)) dX9_comes_205 rfl ?_
                  refine qv_iadd dX9_comes_206 ?_
                  obtain ⟨h56, e71, hs⟩ := qv_bind hs
                  refine qv_putI dX9_comes_207 qF_X9_137 e71 ?_
                  refine qv_iconst (v := (1 : Int32)) dX9_comes_210 rfl ?_
                  obtain ⟨rfl, rfl⟩ := qv_pr hs
                  exact qv_zret dX9_comes_211 rfl (by decide)
        · have hs := qv_neg c42 hs
          by_cases c72 : v2 = (115 : Int32)
          · have hs := qv_pos c72 hs
            refine qv_tsIn (tgt := 236) (115 : Int32) c72 dX9_comes_6 (by decide) (by decide) rfl rfl ?_
            refine qv_aload_n dX9_comes_236 (i := 0) rfl rfl ?_
            refine qv_iload_n dX9_comes_237 (i := 1) rfl rfl ?_
            obtain ⟨u28, e73, hs⟩ := qv_bind hs
            obtain ⟨⟨v29, h30⟩, e74, hs⟩ := qv_bind hs
            dsimp only at hs
            refine qv_cV (d2 := mX9_comesSign) (o := a0) (ci := 8) (r := some (.int v29)) (h2 := h30) (av := [.int a1]) (st := []) dX9_comes_238 qM_X9_158 qD_X9_comesSign e73 rfl rfl ⟨by decide, by decide⟩ rfl (Nat.le_of_ble_eq_true rfl) (Nat.le_of_ble_eq_true rfl) (sX9_comesSign e74) rfl ?_
            obtain ⟨v31, e75, hs⟩ := qv_bind hs
            obtain ⟨rfl, rfl⟩ := qv_pr hs
            exact qv_zret dX9_comes_241 rfl (qv_b1_of e75).1
          · have hs := qv_neg c72 hs
            refine qv_tsDef (tgt := 294) dX9_comes_6 (fun j hj ej => ?_) rfl ?_
            · rcases (show j = 0 ∨ j = 1 ∨ j = 2 ∨ j = 3 ∨ j = 4 ∨ j = 5 ∨ j = 6 ∨ j = 7 ∨ j = 8 ∨ j = 9 ∨ j = 10 ∨ j = 11 ∨ j = 12 ∨ j = 13 by omega) with rfl | rfl | rfl | rfl | rfl | rfl | rfl | rfl | rfl | rfl | rfl | rfl | rfl | rfl
              · exact absurd (Int32.toInt_inj.mp (by rw [ej]; rfl)) c3
              · exact rfl
              · exact rfl
              · exact rfl
              · exact rfl
              · exact rfl
              · exact absurd (Int32.toInt_inj.mp (by rw [ej]; rfl)) c11
              · exact rfl
              · exact absurd (Int32.toInt_inj.mp (by rw [ej]; rfl)) c29
              · exact rfl
              · exact rfl
              · exact rfl
              · exact absurd (Int32.toInt_inj.mp (by rw [ej]; rfl)) c42
              · exact absurd (Int32.toInt_inj.mp (by rw [ej]; rfl)) c72
            refine qv_aload_n dX9_comes_294 (i := 0) rfl rfl ?_
            refine qv_aload_n dX9_comes_295 (i := 0) rfl rfl ?_
            obtain ⟨v3, e76, hs⟩ := qv_bind hs
            refine qv_getR dX9_comes_296 qF_X9_56 e76 ?_
            refine qv_iload_n dX9_comes_299 (i := 1) rfl rfl ?_
            obtain ⟨v4, e77, hs⟩ := qv_bind hs
            refine qv_iald dX9_comes_300 e77 ?_
            obtain ⟨u5, e78, hs⟩ := qv_bind hs
            obtain ⟨v6, e79, hs⟩ := qv_bind hs
            refine qv_cV (d2 := mX9_isPlace) (o := a0) (ci := 8) (r := some (.int v6)) (h2 := h) (av := [.int v4]) (st := []) dX9_comes_301 qM_X9_155 qD_X9_isPlace e78 rfl rfl ⟨by decide, by decide⟩ rfl (Nat.le_of_ble_eq_true rfl) (Nat.le_of_ble_eq_true rfl) (sX9_isPlace e79) rfl ?_
            by_cases c80 : v6 = 0
            · have hs := qv_pos c80 hs
              refine qv_if_eq (tgt := 348) dX9_comes_304 rfl (fun _ => ?_) (fun q => absurd c80 q)
              refine qv_iconst (v := (0 : Int32)) dX9_comes_348 rfl ?_
              obtain ⟨rfl, rfl⟩ := qv_pr hs
              exact qv_zret dX9_comes_349 rfl (by decide)
            · have hs := qv_neg c80 hs
              refine qv_if_eq (tgt := 348) dX9_comes_304 rfl (fun q => absurd q c80) (fun _ => ?_)
              refine qv_aload_n dX9_comes_307 (i := 0) rfl rfl ?_
              refine qv_aload_n dX9_comes_308 (i := 0) rfl rfl ?_
              obtain ⟨v7, e81, hs⟩ := qv_bind hs
              refine qv_getR dX9_comes_309 qF_X9_59 e81 ?_
              refine qv_iload_n dX9_comes_312 (i := 1) rfl rfl ?_
              obtain ⟨v8, e82, hs⟩ := qv_bind hs
              refine qv_iald dX9_comes_313 e82 ?_
              obtain ⟨u9, e83, hs⟩ := qv_bind hs
              obtain ⟨v10, e84, hs⟩ := qv_bind hs
              refine qv_cV (d2 := mX9_isPlace) (o := a0) (ci := 8) (r := some (.int v10)) (h2 := h) (av := [.int v8]) (st := []) dX9_comes_314 qM_X9_155 qD_X9_isPlace e83 rfl rfl ⟨by decide, by decide⟩ rfl (Nat.le_of_ble_eq_true rfl) (Nat.le_of_ble_eq_true rfl) (sX9_isPlace e84) rfl ?_
              by_cases c85 : v10 = 0
              · have hs := qv_pos c85 hs
                refine qv_if_eq (tgt := 348) dX9_comes_317 rfl (fun _ => ?_) (fun q => absurd c85 q)
                refine qv_iconst (v := (0 : Int32)) dX9_comes_348 rfl ?_
                obtain ⟨rfl, rfl⟩ := qv_pr hs
                exact qv_zret dX9_comes_349 rfl (by decide)
              · have hs := qv_neg c85 hs
                refine qv_if_eq (tgt := 348) dX9_comes_317 rfl (fun q => absurd q c85) (fun _ => ?_)
                refine qv_aload_n dX9_comes_320 (i := 0) rfl rfl ?_
                obtain ⟨v11, e86, hs⟩ := qv_bind hs
                refine qv_getR dX9_comes_321 qF_X9_56 e86 ?_
                refine qv_iload_n dX9_comes_324 (i := 1) rfl rfl ?_
                obtain ⟨v12, e87, hs⟩ := qv_bind hs
                refine qv_iald dX9_comes_325 e87 ?_
                refine qv_aload_n dX9_comes_326 (i := 0) rfl rfl ?_
                obtain ⟨v13, e88, hs⟩ := qv_bind hs
                refine qv_getR dX9_comes_327 qF_X9_59 e88 ?_
                refine qv_iload_n dX9_comes_330 (i := 1) rfl rfl ?_
                obtain ⟨v14, e89, hs⟩ := qv_bind hs
                refine qv_iald dX9_comes_331 e89 ?_
                by_cases c90 : v12 = v14
                · have hs := qv_pos c90 hs
                  refine qv_icmp_eq (tgt := 348) dX9_comes_332 rfl (fun _ => ?_) (fun q => absurd c90 q)
                  refine qv_iconst (v := (0 : Int32)) dX9_comes_348 rfl ?_
                  obtain ⟨rfl, rfl⟩ := qv_pr hs
                  exact qv_zret dX9_comes_349 rfl (by decide)
                · have hs := qv_neg c90 hs
                  refine qv_icmp_eq (tgt := 348) dX9_comes_332 rfl (fun q => absurd q c90) (fun _ => ?_)
                  refine qv_aload_n dX9_comes_335 (i := 0) rfl rfl ?_
                  refine qv_aload_n dX9_comes_336 (i := 0) rfl rfl ?_
                  obtain ⟨v15, e91, hs⟩ := qv_bind hs
                  refine qv_getR dX9_comes_337 qF_X9_62 e91 ?_
                  refine qv_iload_n dX9_comes_340 (i := 1) rfl rfl ?_
                  obtain ⟨v16, e92, hs⟩ := qv_bind hs
                  refine qv_iald dX9_comes_341 e92 ?_
                  obtain ⟨u17, e93, hs⟩ := qv_bind hs
                  obtain ⟨v18, e94, hs⟩ := qv_bind hs
                  refine qv_cV (d2 := mX9_isFact) (o := a0) (ci := 8) (r := some (.int v18)) (h2 := h) (av := [.int v16]) (st := []) dX9_comes_342 qM_X9_146 qD_X9_isFact e93 rfl rfl ⟨by decide, by decide⟩ rfl (Nat.le_of_ble_eq_true rfl) (Nat.le_of_ble_eq_true rfl) (sX9_isFact e94) rfl ?_
                  by_cases c95 : v18 = 0
                  · have hs := qv_pos c95 hs
                    refine qv_if_ne (tgt := 350) dX9_comes_345 rfl (fun q => absurd c95 q) (fun _ => ?_)
                    refine qv_iconst (v := (0 : Int32)) dX9_comes_348 rfl ?_
                    obtain ⟨rfl, rfl⟩ := qv_pr hs
                    exact qv_zret dX9_comes_349 rfl (by decide)
                  · have hs := qv_neg c95 hs
                    refine qv_if_ne (tgt := 350) dX9_comes_345 rfl (fun _ => ?_) (fun q => absurd q c95)
                    refine qv_aload_n dX9_comes_350 (i := 0) rfl rfl ?_
                    refine qv_aload_n dX9_comes_351 (i := 0) rfl rfl ?_
                    obtain ⟨v19, e96, hs⟩ := qv_bind hs
                    refine qv_getR dX9_comes_352 qF_X9_56 e96 ?_
                    refine qv_iload_n dX9_comes_355 (i := 1) rfl rfl ?_
                    obtain ⟨v20, e97, hs⟩ := qv_bind hs
                    refine qv_iald dX9_comes_356 e97 ?_
                    obtain ⟨h21, e98, hs⟩ := qv_bind hs
                    refine qv_putI dX9_comes_357 qF_X9_140 e98 ?_
                    refine qv_aload_n dX9_comes_360 (i := 0) rfl rfl ?_
                    refine qv_aload_n dX9_comes_361 (i := 0) rfl rfl ?_
                    obtain ⟨v22, e99, hs⟩ := qv_bind hs
                    refine qv_getR dX9_comes_362 qF_X9_59 e99 ?_
                    refine qv_iload_n dX9_comes_365 (i := 1) rfl rfl ?_
                    obtain ⟨v23, e100, hs⟩ := qv_bind hs
                    refine qv_iald dX9_comes_366 e100 ?_
                    obtain ⟨h24, e101, hs⟩ := qv_bind hs
                    refine qv_putI dX9_comes_367 qF_X9_143 e101 ?_
                    refine qv_aload_n dX9_comes_370 (i := 0) rfl rfl ?_
                    refine qv_aload_n dX9_comes_371 (i := 0) rfl rfl ?_
                    obtain ⟨v25, e102, hs⟩ := qv_bind hs
                    refine qv_getR dX9_comes_372 qF_X9_62 e102 ?_
                    refine qv_iload_n dX9_comes_375 (i := 1) rfl rfl ?_
                    obtain ⟨v26, e103, hs⟩ := qv_bind hs
                    refine qv_iald dX9_comes_376 e103 ?_
                    obtain ⟨h27, e104, hs⟩ := qv_bind hs
                    refine qv_putI dX9_comes_377 qF_X9_38 e104 ?_
                    refine qv_iconst (v := (1 : Int32)) dX9_comes_380 rfl ?_
                    obtain ⟨rfl, rfl⟩ := qv_pr hs
                    exact qv_zret dX9_comes_381 rfl (by decide)
theorem qD_X9_comes : qv_DV mX9_comes 1 := ⟨(qv_i14 (List.mem_of_getElem? (i := 40) (by decide +kernel))), (qv_i0 (List.mem_of_getElem? (i := 30) (by decide +kernel))), (qv_i1 (List.mem_of_getElem? (i := 14) (by decide +kernel))), (qv_i14 (List.mem_of_getElem? (i := 41) (by decide +kernel))), by decide +kernel, by decide +kernel⟩
/-- TrueOneWayModel.passes([I)V -/
noncomputable def fX9_passes (a0 : Nat) (a1 : Nat) (h : qv_H) : Option (qv_H) :=
  Option.bind (qv_loop (σ := Int32 × qv_H) (ρ := qv_H) (fun (x1, h2) =>
      (qv_ln h2 a1).bind fun v3 =>
      if v3 ≤ x1 then
        some (.inr h2)
      else
        (qv_gI h2 8 a0 30).bind fun v4 =>
        Option.bind (α := qv_H) (
            if v4 = 0 then
              (qv_gR h2 8 a0 28).bind fun v5 =>
              (qv_gI h2 8 a0 31).bind fun v6 =>
              (qv_aI h2 false v5 v6).bind fun v7 =>
              (qv_sI h2 false a1 x1 v7).bind fun h8 =>
              some h8
            else
              (qv_gR h2 8 a0 28).bind fun v9 =>
              (qv_gI h2 8 a0 31).bind fun v10 =>
              (qv_aI h2 false a1 x1).bind fun v11 =>
              (qv_sI h2 false v9 v10 v11).bind fun h12 =>
              some h12
          ) fun h13 =>
        (qv_gI h13 8 a0 31).bind fun v14 =>
        (qv_pI h13 8 a0 31 (v14 + (1 : Int32))).bind fun h15 =>
        some (.inl (x1 + (1 : Int32), h15))
    ) ((0 : Int32), h)) fun h16 =>
  some h16
abbrev mX9_passes : qv_M := (yX9_passes, cX9_passes, 3, (Option.none : Option Jvm.ClassFile.FieldType), 0, 0)
set_option maxRecDepth 100000 in
set_option maxHeartbeats 4000000 in
theorem sX9_passes {l : Launch} {g : qv_G} {a0 : Nat} {a1 : Nat} {h : qv_H} {hz : qv_H} (hs : fX9_passes a0 a1 h = some hz) : qv_J l g mX9_passes 0 [some (.ref a0), some (.ref a1), none] [] h (none, hz) := by
  unfold fX9_passes at hs
  refine qv_iconst (v := (0 : Int32)) dX9_passes_0 rfl ?_
  refine qv_istore_n (lo2 := [some (.ref a0), some (.ref a1), some (.int (0 : Int32))]) dX9_passes_1 (i := 2) rfl (by decide) rfl (Nat.le_of_ble_eq_true rfl) rfl ?_
  obtain ⟨h16, e2, hs⟩ := qv_bind hs
  have K1 : qv_J l g mX9_passes 58 [none, none, none] [] h16 (none, hz) := by
    obtain rfl := qv_sm hs
    exact qv_vret dX9_passes_58 rfl
  obtain ⟨n8, e2⟩ := qv_loop_of e2
  refine qv_dp (qv_le_s (qv_le_s (qv_le_s qv_le_0))) (?_ : qv_J l g mX9_passes 2 [some (.ref a0), some (.ref a1), some (.int (0 : Int32))] [] h (none, hz))
  revert e2
  suffices lj7 : ∀ (x1 : Int32) (h2 : qv_H), qv_it _ n8 (x1, h2) = some h16 → qv_J l g mX9_passes 2 [some (.ref a0), some (.ref a1), some (.int x1)] [] h2 (none, hz) from lj7 (0 : Int32) h
  induction n8 with
  | zero =>
    intro x1 h2 e2
    cases e2
  | succ n8 ih4 =>
    intro x1 h2 e2
    obtain ⟨_, hs, eb5⟩ := qv_it_s e2
    dsimp only at hs
    refine qv_iload_n dX9_passes_2 (i := 2) rfl rfl ?_
    refine qv_aload_n dX9_passes_3 (i := 1) rfl rfl ?_
    obtain ⟨v3, e9, hs⟩ := qv_bind hs
    refine qv_alen dX9_passes_4 e9 ?_
    by_cases c10 : v3 ≤ x1
    · have hs := qv_pos c10 hs
      refine qv_icmp_ge (tgt := 58) dX9_passes_5 rfl (fun _ => ?_) (fun q => absurd c10 q)
      cases hs
      cases qv_nx_r eb5
      exact qv_dp (qv_le_n (qv_le_n (qv_le_n qv_le_0))) K1
    · have hs := qv_neg c10 hs
      refine qv_icmp_ge (tgt := 58) dX9_passes_5 rfl (fun q => absurd q c10) (fun _ => ?_)
      refine qv_aload_n dX9_passes_8 (i := 0) rfl rfl ?_
      obtain ⟨v4, e11, hs⟩ := qv_bind hs
      refine qv_getI dX9_passes_9 qF_X9_172 e11 ?_
      obtain ⟨h13, hj13, hs⟩ := qv_bind hs
      have K12 : qv_J l g mX9_passes 42 [some (.ref a0), some (.ref a1), some (.int x1)] [] h13 (none, hz) := by
        refine qv_aload_n dX9_passes_42 (i := 0) rfl rfl ?_
        refine qv_dup dX9_passes_43 rfl ?_
        obtain ⟨v14, e14, hs⟩ := qv_bind hs
        refine qv_getI dX9_passes_44 qF_X9_176 e14 ?_
        refine qv_iconst (v := (1 : Int32)) dX9_passes_47 rfl ?_
        refine qv_iadd dX9_passes_48 ?_
        obtain ⟨h15, e15, hs⟩ := qv_bind hs
        refine qv_putI dX9_passes_49 qF_X9_176 e15 ?_
        refine qv_iinc (v := x1 + (1 : Int32)) (lo2 := [some (.ref a0), some (.ref a1), some (.int (x1 + (1 : Int32)))]) dX9_passes_52 rfl rfl (by decide) rfl rfl ?_
        refine qv_goto (tgt := 2) dX9_passes_55 rfl ?_
        cases hs
        exact qv_dp (qv_le_s (qv_le_s (qv_le_s qv_le_0))) (ih4 _ _ (qv_nx_l eb5))
      replace hs := hj13
      by_cases c16 : v4 = 0
      · have hs := qv_pos c16 hs
        refine qv_if_eq (tgt := 30) dX9_passes_12 rfl (fun _ => ?_) (fun q => absurd c16 q)
        refine qv_aload_n dX9_passes_30 (i := 1) rfl rfl ?_
        refine qv_iload_n dX9_passes_31 (i := 2) rfl rfl ?_
        refine qv_aload_n dX9_passes_32 (i := 0) rfl rfl ?_
        obtain ⟨v5, e17, hs⟩ := qv_bind hs
        refine qv_getR dX9_passes_33 qF_X9_68 e17 ?_
        refine qv_aload_n dX9_passes_36 (i := 0) rfl rfl ?_
        obtain ⟨v6, e18, hs⟩ := qv_bind hs
        refine qv_getI dX9_passes_37 qF_X9_176 e18 ?_
        obtain ⟨v7, e19, hs⟩ := qv_bind hs
        refine qv_iald dX9_passes_40 e19 ?_
        obtain ⟨h8, e20, hs⟩ := qv_bind hs
        refine qv_iast dX9_passes_41 e20 ?_
        cases hs
        exact qv_dp (qv_le_s (qv_le_s (qv_le_s qv_le_0))) K12
      · have hs := qv_neg c16 hs
        refine qv_if_eq (tgt := 30) dX9_passes_12 rfl (fun q => absurd q c16) (fun _ => ?_)
        refine qv_aload_n dX9_passes_15 (i := 0) rfl rfl ?_
        obtain ⟨v9, e21, hs⟩ := qv_bind hs
        refine qv_getR dX9_passes_16 qF_X9_68 e21 ?_
        refine qv_aload_n dX9_passes_19 (i := 0) rfl rfl ?_
        obtain ⟨v10, e22, hs⟩ := qv_bind hs
        refine qv_getI dX9_passes_20 qF_X9_176 e22 ?_
        refine qv_aload_n dX9_passes_23 (i := 1) rfl rfl ?_
        refine qv_iload_n dX9_passes_24 (i := 2) rfl rfl ?_
        obtain ⟨v11, e23, hs⟩ := qv_bind hs
        refine qv_iald dX9_passes_25 e23 ?_
        obtain ⟨h12, e24, hs⟩ := qv_bind hs
        refine qv_iast dX9_passes_26 e24 ?_
        refine qv_goto (tgt := 42) dX9_passes_27 rfl ?_
        cases hs
        exact qv_dp (qv_le_s (qv_le_s (qv_le_s qv_le_0))) K12
theorem qD_X9_passes : qv_DV mX9_passes 1 := ⟨(qv_i14 (List.mem_of_getElem? (i := 34) (by decide +kernel))), (qv_i0 (List.mem_of_getElem? (i := 28) (by decide +kernel))), (qv_i1 (List.mem_of_getElem? (i := 14) (by decide +kernel))), (qv_i14 (List.mem_of_getElem? (i := 35) (by decide +kernel))), by decide +kernel, by decide +kernel⟩
/-- TrueOneWayModel.passOne(I)I -/
noncomputable def fX9_passOne (a0 : Nat) (a1 : Int32) (h : qv_H) : Option (Int32 × qv_H) :=
  (qv_gI h 8 a0 30).bind fun v1 =>
  Option.bind (α := Int32) (
      if v1 = 0 then
        (qv_gR h 8 a0 28).bind fun v2 =>
        (qv_gI h 8 a0 31).bind fun v3 =>
        (qv_aI h false v2 v3).bind fun v4 =>
        some v4
      else
        some a1
    ) fun m5 =>
  (qv_gI h 8 a0 30).bind fun v6 =>
  Option.bind (α := qv_H) (
      if v6 = 0 then
        some h
      else
        (qv_gR h 8 a0 28).bind fun v7 =>
        (qv_gI h 8 a0 31).bind fun v8 =>
        (qv_sI h false v7 v8 a1).bind fun h9 =>
        some h9
    ) fun h10 =>
  (qv_gI h10 8 a0 31).bind fun v11 =>
  (qv_pI h10 8 a0 31 (v11 + (1 : Int32))).bind fun h12 =>
  some (m5, h12)
abbrev mX9_passOne : qv_M := (yX9_passOne, cX9_passOne, 3, (Option.some Jvm.ClassFile.FieldType.int), 0, 0)
set_option maxRecDepth 100000 in
set_option maxHeartbeats 4000000 in
theorem sX9_passOne {l : Launch} {g : qv_G} {a0 : Nat} {a1 : Int32} {h : qv_H} {r : Int32} {hz : qv_H} (hs : fX9_passOne a0 a1 h = some (r, hz)) : qv_J l g mX9_passOne 0 [some (.ref a0), some (.int a1), none] [] h (some (.int r), hz) := by
  unfold fX9_passOne at hs
  refine qv_aload_n dX9_passOne_0 (i := 0) rfl rfl ?_
  obtain ⟨v1, e1, hs⟩ := qv_bind hs
  refine qv_getI dX9_passOne_1 qF_X9_172 e1 ?_
  obtain ⟨m5, hj3, hs⟩ := qv_bind hs
  have K2 : qv_J l g mX9_passOne 20 [some (.ref a0), some (.int a1), none] [.int m5] h (some (.int r), hz) := by
    refine qv_istore_n (lo2 := [some (.ref a0), some (.int a1), some (.int m5)]) dX9_passOne_20 (i := 2) rfl (by decide) rfl (Nat.le_of_ble_eq_true rfl) rfl ?_
    refine qv_aload_n dX9_passOne_21 (i := 0) rfl rfl ?_
    obtain ⟨v6, e4, hs⟩ := qv_bind hs
    refine qv_getI dX9_passOne_22 qF_X9_172 e4 ?_
    obtain ⟨h10, hj6, hs⟩ := qv_bind hs
    have K5 : qv_J l g mX9_passOne 38 [some (.ref a0), none, some (.int m5)] [] h10 (some (.int r), hz) := by
      refine qv_aload_n dX9_passOne_38 (i := 0) rfl rfl ?_
      refine qv_dup dX9_passOne_39 rfl ?_
      obtain ⟨v11, e7, hs⟩ := qv_bind hs
      refine qv_getI dX9_passOne_40 qF_X9_176 e7 ?_
      refine qv_iconst (v := (1 : Int32)) dX9_passOne_43 rfl ?_
      refine qv_iadd dX9_passOne_44 ?_
      obtain ⟨h12, e8, hs⟩ := qv_bind hs
      refine qv_putI dX9_passOne_45 qF_X9_176 e8 ?_
      refine qv_iload_n dX9_passOne_48 (i := 2) rfl rfl ?_
      obtain ⟨rfl, rfl⟩ := qv_pr hs
      exact qv_iret dX9_passOne_49 rfl
    replace hs := hj6
    by_cases c9 : v6 = 0
    · have hs := qv_pos c9 hs
      refine qv_if_eq (tgt := 38) dX9_passOne_25 rfl (fun _ => ?_) (fun q => absurd c9 q)
      cases hs
      exact qv_dp (qv_le_s (qv_le_n (qv_le_s qv_le_0))) K5
    · have hs := qv_neg c9 hs
      refine qv_if_eq (tgt := 38) dX9_passOne_25 rfl (fun q => absurd q c9) (fun _ => ?_)
      refine qv_aload_n dX9_passOne_28 (i := 0) rfl rfl ?_
      obtain ⟨v7, e10, hs⟩ := qv_bind hs
      refine qv_getR dX9_passOne_29 qF_X9_68 e10 ?_
      refine qv_aload_n dX9_passOne_32 (i := 0) rfl rfl ?_
      obtain ⟨v8, e11, hs⟩ := qv_bind hs
      refine qv_getI dX9_passOne_33 qF_X9_176 e11 ?_
      refine qv_iload_n dX9_passOne_36 (i := 1) rfl rfl ?_
      obtain ⟨h9, e12, hs⟩ := qv_bind hs
      refine qv_iast dX9_passOne_37 e12 ?_
      cases hs
      exact qv_dp (qv_le_s (qv_le_n (qv_le_s qv_le_0))) K5
  replace hs := hj3
  by_cases c13 : v1 = 0
  · have hs := qv_pos c13 hs
    refine qv_if_eq (tgt := 11) dX9_passOne_4 rfl (fun _ => ?_) (fun q => absurd c13 q)
    refine qv_aload_n dX9_passOne_11 (i := 0) rfl rfl ?_
    obtain ⟨v2, e14, hs⟩ := qv_bind hs
    refine qv_getR dX9_passOne_12 qF_X9_68 e14 ?_
    refine qv_aload_n dX9_passOne_15 (i := 0) rfl rfl ?_
    obtain ⟨v3, e15, hs⟩ := qv_bind hs
    refine qv_getI dX9_passOne_16 qF_X9_176 e15 ?_
    obtain ⟨v4, e16, hs⟩ := qv_bind hs
    refine qv_iald dX9_passOne_19 e16 ?_
    cases hs
    exact qv_dp (qv_le_s (qv_le_s (qv_le_n qv_le_0))) K2
  · have hs := qv_neg c13 hs
    refine qv_if_eq (tgt := 11) dX9_passOne_4 rfl (fun q => absurd q c13) (fun _ => ?_)
    refine qv_iload_n dX9_passOne_7 (i := 1) rfl rfl ?_
    refine qv_goto (tgt := 20) dX9_passOne_8 rfl ?_
    cases hs
    exact qv_dp (qv_le_s (qv_le_s (qv_le_n qv_le_0))) K2
theorem qD_X9_passOne : qv_DV mX9_passOne 1 := ⟨(qv_i14 (List.mem_of_getElem? (i := 37) (by decide +kernel))), (qv_i0 (List.mem_of_getElem? (i := 29) (by decide +kernel))), (qv_i1 (List.mem_of_getElem? (i := 14) (by decide +kernel))), (qv_i14 (List.mem_of_getElem? (i := 38) (by decide +kernel))), by decide +kernel, by decide +kernel⟩
/-- TrueOneWayModel.passesAll(IZ)V -/
noncomputable def fX9_passesAll (a0 : Nat) (a1 : Int32) (a2 : Int32) (h : qv_H) : Option (qv_H) :=
  (qv_pI h 8 a0 31 ((100 : Int32) * a1)).bind fun h1 =>
  (qv_pZ h1 8 a0 30 a2).bind fun h2 =>
  (qv_gR h2 8 a0 1).bind fun v3 =>
  (qv_ob h2 8 a0).bind fun _ =>
  (fX9_passes a0 v3 h2).bind fun h5 =>
  (qv_gR h5 8 a0 2).bind fun v6 =>
  (qv_ob h5 8 a0).bind fun _ =>
  (fX9_passes a0 v6 h5).bind fun h8 =>
  (qv_gR h8 8 a0 3).bind fun v9 =>
  (qv_ob h8 8 a0).bind fun _ =>
  (fX9_passes a0 v9 h8).bind fun h11 =>
  (qv_gR h11 8 a0 4).bind fun v12 =>
  (qv_ob h11 8 a0).bind fun _ =>
  (fX9_passes a0 v12 h11).bind fun h14 =>
  (qv_gR h14 8 a0 5).bind fun v15 =>
  (qv_ob h14 8 a0).bind fun _ =>
  (fX9_passes a0 v15 h14).bind fun h17 =>
  (qv_gR h17 8 a0 6).bind fun v18 =>
  (qv_ob h17 8 a0).bind fun _ =>
  (fX9_passes a0 v18 h17).bind fun h20 =>
  (qv_gR h20 8 a0 7).bind fun v21 =>
  (qv_ob h20 8 a0).bind fun _ =>
  (fX9_passes a0 v21 h20).bind fun h23 =>
  (qv_gR h23 8 a0 15).bind fun v24 =>
  (qv_ob h23 8 a0).bind fun _ =>
  (fX9_passes a0 v24 h23).bind fun h26 =>
  (qv_gR h26 8 a0 16).bind fun v27 =>
  (qv_ob h26 8 a0).bind fun _ =>
  (fX9_passes a0 v27 h26).bind fun h29 =>
  (qv_gI h29 8 a0 8).bind fun v30 =>
  (qv_ob h29 8 a0).bind fun _ =>
  (fX9_passOne a0 v30 h29).bind fun (v32, h33) =>
  (qv_pI h33 8 a0 8 v32).bind fun h34 =>
  (qv_gI h34 8 a0 9).bind fun v35 =>
  (qv_ob h34 8 a0).bind fun _ =>
  (fX9_passOne a0 v35 h34).bind fun (v37, h38) =>
  (qv_pI h38 8 a0 9 v37).bind fun h39 =>
  (qv_gI h39 8 a0 10).bind fun v40 =>
  (qv_ob h39 8 a0).bind fun _ =>
  (fX9_passOne a0 v40 h39).bind fun (v42, h43) =>
  (qv_pI h43 8 a0 10 v42).bind fun h44 =>
  (qv_gI h44 8 a0 11).bind fun v45 =>
  (qv_ob h44 8 a0).bind fun _ =>
  (fX9_passOne a0 v45 h44).bind fun (v47, h48) =>
  (qv_pI h48 8 a0 11 v47).bind fun h49 =>
  (qv_gI h49 8 a0 12).bind fun v50 =>
  (qv_ob h49 8 a0).bind fun _ =>
  (fX9_passOne a0 v50 h49).bind fun (v52, h53) =>
  (qv_pI h53 8 a0 12 v52).bind fun h54 =>
  (qv_gI h54 8 a0 13).bind fun v55 =>
  (qv_ob h54 8 a0).bind fun _ =>
  (fX9_passOne a0 v55 h54).bind fun (v57, h58) =>
  (qv_pI h58 8 a0 13 v57).bind fun h59 =>
  (qv_gI h59 8 a0 14).bind fun v60 =>
  (qv_ob h59 8 a0).bind fun _ =>
  (fX9_passOne a0 v60 h59).bind fun (v62, h63) =>
  (qv_pI h63 8 a0 14 v62).bind fun h64 =>
  (qv_gI h64 8 a0 17).bind fun v65 =>
  (qv_ob h64 8 a0).bind fun _ =>
  (fX9_passOne a0 v65 h64).bind fun (v67, h68) =>
  (qv_pI h68 8 a0 17 v67).bind fun h69 =>
  some h69
abbrev mX9_passesAll : qv_M := (yX9_passesAll, cX9_passesAll, 3, (Option.none : Option Jvm.ClassFile.FieldType), 1, 22)
set_option maxRecDepth 100000 in
set_option maxHeartbeats 4000000 in
theorem sX9_passesAll {l : Launch} {g : qv_G} {a0 : Nat} {a1 : Int32} {a2 : Int32} {h : qv_H} {hz : qv_H} (hs : fX9_passesAll a0 a1 a2 h = some hz) : qv_J l g mX9_passesAll 0 [some (.ref a0), some (.int a1), some (.int a2)] [] h (none, hz) := by
  unfold fX9_passesAll at hs
  refine qv_aload_n dX9_passesAll_0 (i := 0) rfl rfl ?_
  refine qv_bipush (v := (100 : Int32)) dX9_passesAll_1 rfl ?_
  refine qv_iload_n dX9_passesAll_3 (i := 1) rfl rfl ?_
  refine qv_imul dX9_passesAll_4 ?_
  obtain ⟨h1, e1, hs⟩ := qv_bind hs
  refine qv_putI dX9_passesAll_5 qF_X9_176 e1 ?_
  refine qv_aload_n dX9_passesAll_8 (i := 0) rfl rfl ?_
  refine qv_iload_n dX9_passesAll_9 (i := 2) rfl rfl ?_
  obtain ⟨h2, e2, hs⟩ := qv_bind hs
  refine qv_putZ dX9_passesAll_10 qF_X9_172 e2 ?_
  refine qv_aload_n dX9_passesAll_13 (i := 0) rfl rfl ?_
  refine qv_aload_n dX9_passesAll_14 (i := 0) rfl rfl ?_
  obtain ⟨v3, e3, hs⟩ := qv_bind hs
  refine qv_getR dX9_passesAll_15 qF_X9_13 e3 ?_
  obtain ⟨u4, e4, hs⟩ := qv_bind hs
  obtain ⟨h5, e5, hs⟩ := qv_bind hs
  refine qv_cV (d2 := mX9_passes) (o := a0) (ci := 8) (r := none) (h2 := h5) (av := [.ref v3]) (st := []) dX9_passesAll_18 qM_X9_179 qD_X9_passes e4 rfl rfl ⟨by decide, by decide⟩ rfl (Nat.le_of_ble_eq_true rfl) (Nat.le_of_ble_eq_true rfl) (sX9_passes e5) rfl ?_
  refine qv_aload_n dX9_passesAll_21 (i := 0) rfl rfl ?_
  refine qv_aload_n dX9_passesAll_22 (i := 0) rfl rfl ?_
  obtain ⟨v6, e6, hs⟩ := qv_bind hs
  refine qv_getR dX9_passesAll_23 qF_X9_16 e6 ?_
  obtain ⟨u7, e7, hs⟩ := qv_bind hs
  obtain ⟨h8, e8, hs⟩ := qv_bind hs
  refine qv_cV (d2 := mX9_passes) (o := a0) (ci := 8) (r := none) (h2 := h8) (av := [.ref v6]) (st := []) dX9_passesAll_26 qM_X9_179 qD_X9_passes e7 rfl rfl ⟨by decide, by decide⟩ rfl (Nat.le_of_ble_eq_true rfl) (Nat.le_of_ble_eq_true rfl) (sX9_passes e8) rfl ?_
  refine qv_aload_n dX9_passesAll_29 (i := 0) rfl rfl ?_
  refine qv_aload_n dX9_passesAll_30 (i := 0) rfl rfl ?_
  obtain ⟨v9, e9, hs⟩ := qv_bind hs
  refine qv_getR dX9_passesAll_31 qF_X9_19 e9 ?_
  obtain ⟨u10, e10, hs⟩ := qv_bind hs
  obtain ⟨h11, e11, hs⟩ := qv_bind hs
  refine qv_cV (d2 := mX9_passes) (o := a0) (ci := 8) (r := none) (h2 := h11) (av := [.ref v9]) (st := []) dX9_passesAll_34 qM_X9_179 qD_X9_passes e10 rfl rfl ⟨by decide, by decide⟩ rfl (Nat.le_of_ble_eq_true rfl) (Nat.le_of_ble_eq_true rfl) (sX9_passes e11) rfl ?_
  refine qv_aload_n dX9_passesAll_37 (i := 0) rfl rfl ?_
  refine qv_aload_n dX9_passesAll_38 (i := 0) rfl rfl ?_
  obtain ⟨v12, e12, hs⟩ := qv_bind hs
  refine qv_getR dX9_passesAll_39 qF_X9_22 e12 ?_
  obtain ⟨u13, e13, hs⟩ := qv_bind hs
  obtain ⟨h14, e14, hs⟩ := qv_bind hs
  refine qv_cV (d2 := mX9_passes) (o := a0) (ci := 8) (r := none) (h2 := h14) (av := [.ref v12]) (st := []) dX9_passesAll_42 qM_X9_179 qD_X9_passes e13 rfl rfl ⟨by decide, by decide⟩ rfl (Nat.le_of_ble_eq_true rfl) (Nat.le_of_ble_eq_true rfl) (sX9_passes e14) rfl ?_
  refine qv_aload_n dX9_passesAll_45 (i := 0) rfl rfl ?_
  refine qv_aload_n dX9_passesAll_46 (i := 0) rfl rfl ?_
  obtain ⟨v15, e15, hs⟩ := qv_bind hs
  refine qv_getR dX9_passesAll_47 qF_X9_25 e15 ?_
  obtain ⟨u16, e16, hs⟩ := qv_bind hs
  obtain ⟨h17, e17, hs⟩ := qv_bind hs
  refine qv_cV (d2 := mX9_passes) (o := a0) (ci := 8) (r := none) (h2 := h17) (av := [.ref v15]) (st := []) dX9_passesAll_50 qM_X9_179 qD_X9_passes e16 rfl rfl ⟨by decide, by decide⟩ rfl (Nat.le_of_ble_eq_true rfl) (Nat.le_of_ble_eq_true rfl) (sX9_passes e17) rfl ?_
  refine qv_aload_n dX9_passesAll_53 (i := 0) rfl rfl ?_
  refine qv_aload_n dX9_passesAll_54 (i := 0) rfl rfl ?_
  obtain ⟨v18, e18, hs⟩ := qv_bind hs
  refine qv_getR dX9_passesAll_55 qF_X9_28 e18 ?_
  obtain ⟨u19, e19, hs⟩ := qv_bind hs
  obtain ⟨h20, e20, hs⟩ := qv_bind hs
  refine qv_cV (d2 := mX9_passes) (o := a0) (ci := 8) (r := none) (h2 := h20) (av := [.ref v18]) (st := []) dX9_passesAll_58 qM_X9_179 qD_X9_passes e19 rfl rfl ⟨by decide, by decide⟩ rfl (Nat.le_of_ble_eq_true rfl) (Nat.le_of_ble_eq_true rfl) (sX9_passes e20) rfl ?_
  refine qv_aload_n dX9_passesAll_61 (i := 0) rfl rfl ?_
  refine qv_aload_n dX9_passesAll_62 (i := 0) rfl rfl ?_
  obtain ⟨v21, e21, hs⟩ := qv_bind hs
  refine qv_getR dX9_passesAll_63 qF_X9_31 e21 ?_
  obtain ⟨u22, e22, hs⟩ := qv_bind hs
  obtain ⟨h23, e23, hs⟩ := qv_bind hs
  refine qv_cV (d2 := mX9_passes) (o := a0) (ci := 8) (r := none) (h2 := h23) (av := [.ref v21]) (st := []) dX9_passesAll_66 qM_X9_179 qD_X9_passes e22 rfl rfl ⟨by decide, by decide⟩ rfl (Nat.le_of_ble_eq_true rfl) (Nat.le_of_ble_eq_true rfl) (sX9_passes e23) rfl ?_
  refine qv_aload_n dX9_passesAll_69 (i := 0) rfl rfl ?_
  refine qv_aload_n dX9_passesAll_70 (i := 0) rfl rfl ?_
  obtain ⟨v24, e24, hs⟩ := qv_bind hs
  refine qv_getR dX9_passesAll_71 qF_X9_41 e24 ?_
  obtain ⟨u25, e25, hs⟩ := qv_bind hs
  obtain ⟨h26, e26, hs⟩ := qv_bind hs
  refine qv_cV (d2 := mX9_passes) (o := a0) (ci := 8) (r := none) (h2 := h26) (av := [.ref v24]) (st := []) dX9_passesAll_74 qM_X9_179 qD_X9_passes e25 rfl rfl ⟨by decide, by decide⟩ rfl (Nat.le_of_ble_eq_true rfl) (Nat.le_of_ble_eq_true rfl) (sX9_passes e26) rfl ?_
  refine qv_aload_n dX9_passesAll_77 (i := 0) rfl rfl ?_
  refine qv_aload_n dX9_passesAll_78 (i := 0) rfl rfl ?_
  obtain ⟨v27, e27, hs⟩ := qv_bind hs
  refine qv_getR dX9_passesAll_79 qF_X9_44 e27 ?_
  obtain ⟨u28, e28, hs⟩ := qv_bind hs
  obtain ⟨h29, e29, hs⟩ := qv_bind hs
  refine qv_cV (d2 := mX9_passes) (o := a0) (ci := 8) (r := none) (h2 := h29) (av := [.ref v27]) (st := []) dX9_passesAll_82 qM_X9_179 qD_X9_passes e28 rfl rfl ⟨by decide, by decide⟩ rfl (Nat.le_of_ble_eq_true rfl) (Nat.le_of_ble_eq_true rfl) (sX9_passes e29) rfl ?_
  refine qv_aload_n dX9_passesAll_85 (i := 0) rfl rfl ?_
  refine qv_aload_n dX9_passesAll_86 (i := 0) rfl rfl ?_
  refine qv_aload_n dX9_passesAll_87 (i := 0) rfl rfl ?_
  obtain ⟨v30, e30, hs⟩ := qv_bind hs
  refine qv_getI dX9_passesAll_88 qF_X9_34 e30 ?_
  obtain ⟨u31, e31, hs⟩ := qv_bind hs
  obtain ⟨⟨v32, h33⟩, e32, hs⟩ := qv_bind hs
  dsimp only at hs
  refine qv_cV (d2 := mX9_passOne) (o := a0) (ci := 8) (r := some (.int v32)) (h2 := h33) (av := [.int v30]) (st := [.ref a0]) dX9_passesAll_91 qM_X9_183 qD_X9_passOne e31 rfl rfl ⟨by decide, by decide⟩ rfl (Nat.le_of_ble_eq_true rfl) (Nat.le_of_ble_eq_true rfl) (sX9_passOne e32) rfl ?_
  obtain ⟨h34, e33, hs⟩ := qv_bind hs
  refine qv_putI dX9_passesAll_94 qF_X9_34 e33 ?_
  refine qv_aload_n dX9_passesAll_97 (i := 0) rfl rfl ?_
  refine qv_aload_n dX9_passesAll_98 (i := 0) rfl rfl ?_
  refine qv_aload_n dX9_passesAll_99 (i := 0) rfl rfl ?_
  obtain ⟨v35, e34, hs⟩ := qv_bind hs
  refine qv_getI dX9_passesAll_100 qF_X9_137 e34 ?_
  obtain ⟨u36, e35, hs⟩ := qv_bind hs
  obtain ⟨⟨v37, h38⟩, e36, hs⟩ := qv_bind hs
  dsimp only at hs
  refine qv_cV (d2 := mX9_passOne) (o := a0) (ci := 8) (r := some (.int v37)) (h2 := h38) (av := [.int v35]) (st := [.ref a0]) dX9_passesAll_103 qM_X9_183 qD_X9_passOne e35 rfl rfl ⟨by decide, by decide⟩ rfl (Nat.le_of_ble_eq_true rfl) (Nat.le_of_ble_eq_true rfl) (sX9_passOne e36) rfl ?_
  obtain ⟨h39, e37, hs⟩ := qv_bind hs
  refine qv_putI dX9_passesAll_106 qF_X9_137 e37 ?_
  refine qv_aload_n dX9_passesAll_109 (i := 0) rfl rfl ?_
  refine qv_aload_n dX9_passesAll_110 (i := 0) rfl rfl ?_
  refine qv_aload_n dX9_passesAll_111 (i := 0) rfl rfl ?_
  obtain ⟨v40, e38, hs⟩ := qv_bind hs
  refine qv_getI dX9_passesAll_112 qF_X9_89 e38 ?_
  obtain ⟨u41, e39, hs⟩ := qv_bind hs
  obtain ⟨⟨v42, h43⟩, e40, hs⟩ := qv_bind hs
  dsimp only at hs
  refine qv_cV (d2 := mX9_passOne) (o := a0) (ci := 8) (r := some (.int v42)) (h2 := h43) (av := [.int v40]) (st := [.ref a0]) dX9_passesAll_115 qM_X9_183 qD_X9_passOne e39 rfl rfl ⟨by decide, by decide⟩ rfl (Nat.le_of_ble_eq_true rfl) (Nat.le_of_ble_eq_true rfl) (sX9_passOne e40) rfl ?_
  obtain ⟨h44, e41, hs⟩ := qv_bind hs
  refine qv_putI dX9_passesAll_118 qF_X9_89 e41 ?_
  refine qv_aload_n dX9_passesAll_121 (i := 0) rfl rfl ?_
  refine qv_aload_n dX9_passesAll_122 (i := 0) rfl rfl ?_
  refine qv_aload_n dX9_passesAll_123 (i := 0) rfl rfl ?_
  obtain ⟨v45, e42, hs⟩ := qv_bind hs
  refine qv_getI dX9_passesAll_124 qF_X9_92 e42 ?_
  obtain ⟨u46, e43, hs⟩ := qv_bind hs
  obtain ⟨⟨v47, h48⟩, e44, hs⟩ := qv_bind hs
  dsimp only at hs
  refine qv_cV (d2 := mX9_passOne) (o := a0) (ci := 8) (r := some (.int v47)) (h2 := h48) (av := [.int v45]) (st := [.ref a0]) dX9_passesAll_127 qM_X9_183 qD_X9_passOne e43 rfl rfl ⟨by decide, by decide⟩ rfl (Nat.le_of_ble_eq_true rfl) (Nat.le_of_ble_eq_true rfl) (sX9_passOne e44) rfl ?_
  obtain ⟨h49, e45, hs⟩ := qv_bind hs
  refine qv_putI dX9_passesAll_130 qF_X9_92 e45 ?_
  refine qv_aload_n dX9_passesAll_133 (i := 0) rfl rfl ?_
  refine qv_aload_n dX9_passesAll_134 (i := 0) rfl rfl ?_
  refine qv_aload_n dX9_passesAll_135 (i := 0) rfl rfl ?_
  obtain ⟨v50, e46, hs⟩ := qv_bind hs
  refine qv_getI dX9_passesAll_136 qF_X9_140 e46 ?_
  obtain ⟨u51, e47, hs⟩ := qv_bind hs
  obtain ⟨⟨v52, h53⟩, e48, hs⟩ := qv_bind hs
  dsimp only at hs
  refine qv_cV (d2 := mX9_passOne) (o := a0) (ci := 8) (r := some (.int v52)) (h2 := h53) (av := [.int v50]) (st := [.ref a0]) dX9_passesAll_139 qM_X9_183 qD_X9_passOne e47 rfl rfl ⟨by decide, by decide⟩ rfl (Nat.le_of_ble_eq_true rfl) (Nat.le_of_ble_eq_true rfl) (sX9_passOne e48) rfl ?_
  obtain ⟨h54, e49, hs⟩ := qv_bind hs
  refine qv_putI dX9_passesAll_142 qF_X9_140 e49 ?_
  refine qv_aload_n dX9_passesAll_145 (i := 0) rfl rfl ?_
  refine qv_aload_n dX9_passesAll_146 (i := 0) rfl rfl ?_
  refine qv_aload_n dX9_passesAll_147 (i := 0) rfl rfl ?_
  obtain ⟨v55, e50, hs⟩ := qv_bind hs
  refine qv_getI dX9_passesAll_148 qF_X9_143 e50 ?_
  obtain ⟨u56, e51, hs⟩ := qv_bind hs
  obtain ⟨⟨v57, h58⟩, e52, hs⟩ := qv_bind hs
  dsimp only at hs
  refine qv_cV (d2 := mX9_passOne) (o := a0) (ci := 8) (r := some (.int v57)) (h2 := h58) (av := [.int v55]) (st := [.ref a0]) dX9_passesAll_151 qM_X9_183 qD_X9_passOne e51 rfl rfl ⟨by decide, by decide⟩ rfl (Nat.le_of_ble_eq_true rfl) (Nat.le_of_ble_eq_true rfl) (sX9_passOne e52) rfl ?_
  obtain ⟨h59, e53, hs⟩ := qv_bind hs
  refine qv_putI dX9_passesAll_154 qF_X9_143 e53 ?_
  refine qv_aload_n dX9_passesAll_157 (i := 0) rfl rfl ?_
  refine qv_aload_n dX9_passesAll_158 (i := 0) rfl rfl ?_
  refine qv_aload_n dX9_passesAll_159 (i := 0) rfl rfl ?_
  obtain ⟨v60, e54, hs⟩ := qv_bind hs
  refine qv_getI dX9_passesAll_160 qF_X9_38 e54 ?_
  obtain ⟨u61, e55, hs⟩ := qv_bind hs
  obtain ⟨⟨v62, h63⟩, e56, hs⟩ := qv_bind hs
  dsimp only at hs
  refine qv_cV (d2 := mX9_passOne) (o := a0) (ci := 8) (r := some (.int v62)) (h2 := h63) (av := [.int v60]) (st := [.ref a0]) dX9_passesAll_163 qM_X9_183 qD_X9_passOne e55 rfl rfl ⟨by decide, by decide⟩ rfl (Nat.le_of_ble_eq_true rfl) (Nat.le_of_ble_eq_true rfl) (sX9_passOne e56) rfl ?_
  obtain ⟨h64, e57, hs⟩ := qv_bind hs
  refine qv_putI dX9_passesAll_166 qF_X9_38 e57 ?_
  refine qv_aload_n dX9_passesAll_169 (i := 0) rfl rfl ?_
  refine qv_aload_n dX9_passesAll_170 (i := 0) rfl rfl ?_
  refine qv_aload_n dX9_passesAll_171 (i := 0) rfl rfl ?_
  obtain ⟨v65, e58, hs⟩ := qv_bind hs
  refine qv_getI dX9_passesAll_172 qF_X9_186 e58 ?_
  obtain ⟨u66, e59, hs⟩ := qv_bind hs
  obtain ⟨⟨v67, h68⟩, e60, hs⟩ := qv_bind hs
  dsimp only at hs
  refine qv_cV (d2 := mX9_passOne) (o := a0) (ci := 8) (r := some (.int v67)) (h2 := h68) (av := [.int v65]) (st := [.ref a0]) dX9_passesAll_175 qM_X9_183 qD_X9_passOne e59 rfl rfl ⟨by decide, by decide⟩ rfl (Nat.le_of_ble_eq_true rfl) (Nat.le_of_ble_eq_true rfl) (sX9_passOne e60) rfl ?_
  obtain ⟨h69, e61, hs⟩ := qv_bind hs
  refine qv_putI dX9_passesAll_178 qF_X9_186 e61 ?_
  obtain rfl := qv_sm hs
  exact qv_vret dX9_passesAll_181 rfl
theorem qD_X9_passesAll : qv_DV mX9_passesAll 2 := ⟨(qv_i14 (List.mem_of_getElem? (i := 31) (by decide +kernel))), (qv_i0 (List.mem_of_getElem? (i := 27) (by decide +kernel))), (qv_i1 (List.mem_of_getElem? (i := 14) (by decide +kernel))), (qv_i14 (List.mem_of_getElem? (i := 32) (by decide +kernel))), by decide +kernel, by decide +kernel⟩
/-- TrueOneWayModel.land()I -/
noncomputable def fX9_land (a0 : Nat) (h : qv_H) : Option (Int32 × qv_H) :=
  (qv_pI h 8 a0 26 (0 : Int32)).bind fun h1 =>
  (qv_pI h1 8 a0 27 (0 : Int32)).bind fun h2 =>
  Option.bind (qv_loop (σ := Int32 × qv_H) (ρ := Int32 × qv_H) (fun (x3, h4) =>
      if x3 = 0 then
        some (.inr (x3, h4))
      else
        (qv_gI h4 8 a0 26).bind fun v5 =>
        (qv_gI h4 8 a0 25).bind fun v6 =>
        if v5 < v6 then
          (qv_ob h4 8 a0).bind fun _ =>
          (fX9_statement a0 h4).bind fun (v8, h9) =>
          (qv_gI h9 8 a0 27).bind fun v10 =>
          Option.bind (α := Int32) (
              if v8 = 0 then
                some (0 : Int32)
              else
                some (1 : Int32)
            ) fun m11 =>
          (qv_pI h9 8 a0 27 (v10 + m11)).bind fun h12 =>
          some (.inl (v8, h12))
        else
          (qv_gI h4 8 a0 27).bind fun v13 =>
          if v13 = 0 then
            (qv_ob h4 8 a0).bind fun _ =>
            (fX9_statement a0 h4).bind fun (v15, h16) =>
            (qv_gI h16 8 a0 27).bind fun v17 =>
            Option.bind (α := Int32) (
                if v15 = 0 then
                  some (0 : Int32)
                else
                  some (1 : Int32)
              ) fun m18 =>
            (qv_pI h16 8 a0 27 (v17 + m18)).bind fun h19 =>
            some (.inl (v15, h19))
          else
            some (.inr (x3, h4))
    ) ((1 : Int32), h2)) fun (y20, h21) =>
  (qv_pI h21 8 a0 25 (0 : Int32)).bind fun h22 =>
  if y20 = 0 then
    (qv_gI h22 8 a0 26).bind fun v37 =>
    some ((-1000 : Int32) - v37, h22)
  else
    (qv_ob h22 8 a0).bind fun _ =>
    (fX9_passesAll a0 (1 : Int32) (1 : Int32) h22).bind fun h24 =>
    Option.bind (qv_loop (σ := Int32 × qv_H) (ρ := (qv_H) ⊕ (Int32 × qv_H)) (fun (x25, h26) =>
        (qv_gI h26 8 a0 27).bind fun v27 =>
        if v27 ≤ x25 then
          some (.inr (.inl h26))
        else
          (qv_ob h26 8 a0).bind fun _ =>
          (fX9_comes a0 x25 h26).bind fun (v29, h30) =>
          if v29 = 0 then
            (qv_ob h30 8 a0).bind fun _ =>
            (fX9_passesAll a0 (1 : Int32) (0 : Int32) h30).bind fun h32 =>
            (qv_gR h32 8 a0 20).bind fun v33 =>
            (qv_aI h32 false v33 x25).bind fun v34 =>
            some (.inr (.inr ((-2000 : Int32) - v34, h32)))
          else
            some (.inl (x25 + (1 : Int32), h30))
      ) ((0 : Int32), h24)) fun q => match q with
    | .inl h35 =>
      (qv_gI h35 8 a0 27).bind fun v36 =>
      some (v36, h35)
    | .inr q => some q
abbrev mX9_land : qv_M := (yX9_land, cX9_land, 3, (Option.some Jvm.ClassFile.FieldType.int), 4, 86)
set_option maxRecDepth 100000 in
set_option maxHeartbeats 4000000 in
theorem sX9_land {l : Launch} {g : qv_G} {a0 : Nat} {h : qv_H} {r : Int32} {hz : qv_H} (hs : fX9_land a0 h = some (r, hz)) : qv_J l g mX9_land 0 [some (.ref a0), none, none] [] h (some (.int r), hz) := by
  unfold fX9_land at hs
  refine qv_aload_n dX9_land_0 (i := 0) rfl rfl ?_
  refine qv_iconst (v := (0 : Int32)) dX9_land_1 rfl ?_
  obtain ⟨h1, e1, hs⟩ := qv_bind hs
  refine qv_putI dX9_land_2 qF_X9_106 e1 ?_
  refine qv_aload_n dX9_land_5 (i := 0) rfl rfl ?_
  refine qv_iconst (v := (0 : Int32)) dX9_land_6 rfl ?_
  obtain ⟨h2, e2, hs⟩ := qv_bind hs
  refine qv_putI dX9_land_7 qF_X9_123 e2 ?_
  refine qv_iconst (v := (1 : Int32)) dX9_land_10 rfl ?_
  refine qv_istore_n (lo2 := [some (.ref a0), some (.int (1 : Int32)), none]) dX9_land_11 (i := 1) rfl (by decide) rfl (Nat.le_of_ble_eq_true rfl) rfl ?_
  obtain ⟨⟨y20, h21⟩, e4, hs⟩ := qv_bind hs
  dsimp only at hs
  have K3 : qv_J l g mX9_land 60 [some (.ref a0), some (.int y20), none] [] h21 (some (.int r), hz) := by
    refine qv_aload_n dX9_land_60 (i := 0) rfl rfl ?_
    refine qv_iconst (v := (0 : Int32)) dX9_land_61 rfl ?_
    obtain ⟨h22, e11, hs⟩ := qv_bind hs
    refine qv_putI dX9_land_62 qF_X9_99 e11 ?_
    refine qv_iload_n dX9_land_65 (i := 1) rfl rfl ?_
    by_cases c12 : y20 = 0
    · have hs := qv_pos c12 hs
      refine qv_if_ne (tgt := 78) dX9_land_66 rfl (fun q => absurd c12 q) (fun _ => ?_)
      refine qv_sipush (v := (-1000 : Int32)) dX9_land_69 rfl ?_
      refine qv_aload_n dX9_land_72 (i := 0) rfl rfl ?_
      obtain ⟨v37, e13, hs⟩ := qv_bind hs
      refine qv_getI dX9_land_73 qF_X9_106 e13 ?_
      refine qv_isub dX9_land_76 ?_
      obtain ⟨rfl, rfl⟩ := qv_pr hs
      exact qv_iret dX9_land_77 rfl
    · have hs := qv_neg c12 hs
      refine qv_if_ne (tgt := 78) dX9_land_66 rfl (fun _ => ?_) (fun q => absurd q c12)
      refine qv_aload_n dX9_land_78 (i := 0) rfl rfl ?_
      refine qv_iconst (v := (1 : Int32)) dX9_land_79 rfl ?_
      refine qv_iconst (v := (1 : Int32)) dX9_land_80 rfl ?_
      obtain ⟨u23, e14, hs⟩ := qv_bind hs
      obtain ⟨h24, e15, hs⟩ := qv_bind hs
      refine qv_cV (d2 := mX9_passesAll) (o := a0) (ci := 8) (r := none) (h2 := h24) (av := [.int (1 : Int32), .int (1 : Int32)]) (st := []) dX9_land_81 qM_X9_165 qD_X9_passesAll e14 rfl rfl ⟨by decide, by decide⟩ rfl (Nat.le_of_ble_eq_true rfl) (Nat.le_of_ble_eq_true rfl) (sX9_passesAll e15) rfl ?_
      refine qv_iconst (v := (0 : Int32)) dX9_land_84 rfl ?_
      refine qv_istore_n (lo2 := [some (.ref a0), some (.int y20), some (.int (0 : Int32))]) dX9_land_85 (i := 2) rfl (by decide) rfl (Nat.le_of_ble_eq_true rfl) rfl ?_
      obtain ⟨q21, e17, hA18⟩ := qv_bind hs
      have K16 : ∀ (h35 : qv_H), q21 = .inl h35 → qv_J l g mX9_land 128 [some (.ref a0), none, none] [] h35 (some (.int r), hz) := by
        intro h35 eq24
        subst eq24
        have hs := hA18
        dsimp only at hs
        refine qv_aload_n dX9_land_128 (i := 0) rfl rfl ?_
        obtain ⟨v36, e25, hs⟩ := qv_bind hs
        refine qv_getI dX9_land_129 qF_X9_123 e25 ?_
        obtain ⟨rfl, rfl⟩ := qv_pr hs
        exact qv_iret dX9_land_132 rfl
      obtain ⟨n23, e17⟩ := qv_loop_of e17
      refine qv_dp (qv_le_s (qv_le_n (qv_le_s qv_le_0))) (?_ : qv_J l g mX9_land 86 [some (.ref a0), none, some (.int (0 : Int32))] [] h24 (some (.int r), hz))
      revert e17
      suffices lj22 : ∀ (x25 : Int32) (h26 : qv_H), qv_it _ n23 (x25, h26) = some q21 → qv_J l g mX9_land 86 [some (.ref a0), none, some (.int x25)] [] h26 (some (.int r), hz) from lj22 (0 : Int32) h24
      induction n23 with
      | zero =>
        intro x25 h26 e17
        cases e17
      | succ n23 ih19 =>
        intro x25 h26 e17
        obtain ⟨_, hs, eb20⟩ := qv_it_s e17
        dsimp only at hs
        refine qv_iload_n dX9_land_86 (i := 2) rfl rfl ?_
        refine qv_aload_n dX9_land_87 (i := 0) rfl rfl ?_
        obtain ⟨v27, e26, hs⟩ := qv_bind hs
        refine qv_getI dX9_land_88 qF_X9_123 e26 ?_
        by_cases c27 : v27 ≤ x25
        · have hs := qv_pos c27 hs
          refine qv_icmp_ge (tgt := 128) dX9_land_91 rfl (fun _ => ?_) (fun q => absurd c27 q)
          cases hs
          cases qv_nx_r eb20
          exact qv_dp (qv_le_s (qv_le_n (qv_le_n qv_le_0))) (K16 _ rfl)
        · have hs := qv_neg c27 hs
          refine qv_icmp_ge (tgt := 128) dX9_land_91 rfl (fun q => absurd q c27) (fun _ => ?_)
          refine qv_aload_n dX9_land_94 (i := 0) rfl rfl ?_
          refine qv_iload_n dX9_land_95 (i := 2) rfl rfl ?_
          obtain ⟨u28, e28, hs⟩ := qv_bind hs
          obtain ⟨⟨v29, h30⟩, e29, hs⟩ := qv_bind hs
          dsimp only at hs
          refine qv_cV (d2 := mX9_comes) (o := a0) (ci := 8) (r := some (.int v29)) (h2 := h30) (av := [.int x25]) (st := []) dX9_land_96 qM_X9_169 qD_X9_comes e28 rfl rfl ⟨by decide, by decide⟩ rfl (Nat.le_of_ble_eq_true rfl) (Nat.le_of_ble_eq_true rfl) (sX9_comes e29) rfl ?_
          by_cases c30 : v29 = 0
          · have hs := qv_pos c30 hs
            refine qv_if_eq (tgt := 105) dX9_land_99 rfl (fun _ => ?_) (fun q => absurd c30 q)
            refine qv_aload_n dX9_land_105 (i := 0) rfl rfl ?_
            refine qv_iconst (v := (1 : Int32)) dX9_land_106 rfl ?_
            refine qv_iconst (v := (0 : Int32)) dX9_land_107 rfl ?_
            obtain ⟨u31, e31, hs⟩ := qv_bind hs
            obtain ⟨h32, e32, hs⟩ := qv_bind hs
            refine qv_cV (d2 := mX9_passesAll) (o := a0) (ci := 8) (r := none) (h2 := h32) (av := [.int (1 : Int32), .int (0 : Int32)]) (st := []) dX9_land_108 qM_X9_165 qD_X9_passesAll e31 rfl rfl ⟨by decide, by decide⟩ rfl (Nat.le_of_ble_eq_true rfl) (Nat.le_of_ble_eq_true rfl) (sX9_passesAll e32) rfl ?_
            refine qv_sipush (v := (-2000 : Int32)) dX9_land_111 rfl ?_
            refine qv_aload_n dX9_land_114 (i := 0) rfl rfl ?_
            obtain ⟨v33, e33, hs⟩ := qv_bind hs
            refine qv_getR dX9_land_115 qF_X9_53 e33 ?_
            refine qv_iload_n dX9_land_118 (i := 2) rfl rfl ?_
            obtain ⟨v34, e34, hs⟩ := qv_bind hs
            refine qv_iald dX9_land_119 e34 ?_
            refine qv_isub dX9_land_120 ?_
            cases hs
            cases qv_nx_r eb20
            have hs := hA18
            dsimp only at hs
            obtain ⟨rfl, rfl⟩ := qv_pr hs
            exact qv_iret dX9_land_121 rfl
          · have hs := qv_neg c30 hs
            refine qv_if_eq (tgt := 105) dX9_land_99 rfl (fun q => absurd q c30) (fun _ => ?_)
            refine qv_goto (tgt := 122) dX9_land_102 rfl ?_
            refine qv_iinc (v := x25 + (1 : Int32)) (lo2 := [some (.ref a0), none, some (.int (x25 + (1 : Int32)))]) dX9_land_122 rfl rfl (by decide) rfl rfl ?_
            refine qv_goto (tgt := 86) dX9_land_125 rfl ?_
            cases hs
            exact qv_dp (qv_le_s (qv_le_n (qv_le_s qv_le_0))) (ih19 _ _ (qv_nx_l eb20))
  obtain ⟨n10, e4⟩ := qv_loop_of e4
  refine qv_dp (qv_le_s (qv_le_s (qv_le_n qv_le_0))) (?_ : qv_J l g mX9_land 12 [some (.ref a0), some (.int (1 : Int32)), none] [] h2 (some (.int r), hz))
  revert e4
  suffices lj9 : ∀ (x3 : Int32) (h4 : qv_H), qv_it _ n10 (x3, h4) = some (y20, h21) → qv_J l g mX9_land 12 [some (.ref a0), some (.int x3), none] [] h4 (some (.int r), hz) from lj9 (1 : Int32) h2
  induction n10 with
  | zero =>
    intro x3 h4 e4
    cases e4
  | succ n10 ih6 =>
    intro x3 h4 e4
    obtain ⟨_, hs, eb7⟩ := qv_it_s e4
    dsimp only at hs
    refine qv_iload_n dX9_land_12 (i := 1) rfl rfl ?_
    by_cases c35 : x3 = 0
    · have hs := qv_pos c35 hs
      refine qv_if_eq (tgt := 60) dX9_land_13 rfl (fun _ => ?_) (fun q => absurd c35 q)
      cases hs
      cases qv_nx_r eb7
      exact qv_dp (qv_le_s (qv_le_s (qv_le_n qv_le_0))) K3
    · have hs := qv_neg c35 hs
      refine qv_if_eq (tgt := 60) dX9_land_13 rfl (fun q => absurd q c35) (fun _ => ?_)
      refine qv_aload_n dX9_land_16 (i := 0) rfl rfl ?_
      obtain ⟨v5, e36, hs⟩ := qv_bind hs
      refine qv_getI dX9_land_17 qF_X9_106 e36 ?_
      refine qv_aload_n dX9_land_20 (i := 0) rfl rfl ?_
      obtain ⟨v6, e37, hs⟩ := qv_bind hs
      refine qv_getI dX9_land_21 qF_X9_99 e37 ?_
      by_cases c38 : v5 < v6
      · have hs := qv_pos c38 hs
        refine qv_icmp_lt (tgt := 34) dX9_land_24 rfl (fun _ => ?_) (fun q => absurd c38 q)
        refine qv_aload_n dX9_land_34 (i := 0) rfl rfl ?_
        obtain ⟨u7, e39, hs⟩ := qv_bind hs
        obtain ⟨⟨v8, h9⟩, e40, hs⟩ := qv_bind hs
        dsimp only at hs
        refine qv_cV (d2 := mX9_statement) (o := a0) (ci := 8) (r := some (.int v8)) (h2 := h9) (av := []) (st := []) dX9_land_35 qM_X9_161 qD_X9_statement e39 rfl rfl ⟨by decide, by decide⟩ rfl (Nat.le_of_ble_eq_true rfl) (Nat.le_of_ble_eq_true rfl) (sX9_statement e40) rfl ?_
        refine qv_istore_n (lo2 := [some (.ref a0), some (.int v8), none]) dX9_land_38 (i := 1) rfl (by decide) rfl (Nat.le_of_ble_eq_true rfl) rfl ?_
        refine qv_aload_n dX9_land_39 (i := 0) rfl rfl ?_
        refine qv_dup dX9_land_40 rfl ?_
        obtain ⟨v10, e41, hs⟩ := qv_bind hs
        refine qv_getI dX9_land_41 qF_X9_123 e41 ?_
        refine qv_iload_n dX9_land_44 (i := 1) rfl rfl ?_
        obtain ⟨m11, hj43, hs⟩ := qv_bind hs
        have K42 : qv_J l g mX9_land 53 [some (.ref a0), some (.int v8), none] [.int m11, .int v10, .ref a0] h9 (some (.int r), hz) := by
          refine qv_iadd dX9_land_53 ?_
          obtain ⟨h12, e44, hs⟩ := qv_bind hs
          refine qv_putI dX9_land_54 qF_X9_123 e44 ?_
          refine qv_goto (tgt := 12) dX9_land_57 rfl ?_
          cases hs
          exact qv_dp (qv_le_s (qv_le_s (qv_le_n qv_le_0))) (ih6 _ _ (qv_nx_l eb7))
        replace hs := hj43
        by_cases c45 : v8 = 0
        · have hs := qv_pos c45 hs
          refine qv_if_eq (tgt := 52) dX9_land_45 rfl (fun _ => ?_) (fun q => absurd c45 q)
          refine qv_iconst (v := (0 : Int32)) dX9_land_52 rfl ?_
          cases hs
          exact qv_dp (qv_le_s (qv_le_s (qv_le_n qv_le_0))) K42
        · have hs := qv_neg c45 hs
          refine qv_if_eq (tgt := 52) dX9_land_45 rfl (fun q => absurd q c45) (fun _ => ?_)
          refine qv_iconst (v := (1 : Int32)) dX9_land_48 rfl ?_
          refine qv_goto (tgt := 53) dX9_land_49 rfl ?_
          cases hs
          exact qv_dp (qv_le_s (qv_le_s (qv_le_n qv_le_0))) K42
      · have hs := qv_neg c38 hs
        refine qv_icmp_lt (tgt := 34) dX9_land_24 rfl (fun q => absurd q c38) (fun _ => ?_)
        refine qv_aload_n dX9_land_27 (i := 0) rfl rfl ?_
        obtain ⟨v13, e46, hs⟩ := qv_bind hs
        refine qv_getI dX9_land_28 qF_X9_123 e46 ?_
        by_cases c47 : v13 = 0
        · have hs := qv_pos c47 hs
          refine qv_if_ne (tgt := 60) dX9_land_31 rfl (fun q => absurd c47 q) (fun _ => ?_)
          refine qv_aload_n dX9_land_34 (i := 0) rfl rfl ?_
          obtain ⟨u14, e48, hs⟩ := qv_bind hs
          obtain ⟨⟨v15, h16⟩, e49, hs⟩ := qv_bind hs
          dsimp only at hs
          refine qv_cV (d2 := mX9_statement) (o := a0) (ci := 8) (r := some (.int v15)) (h2 := h16) (av := []) (st := []) dX9_land_35 qM_X9_161 qD_X9_statement e48 rfl rfl ⟨by decide, by decide⟩ rfl (Nat.le_of_ble_eq_true rfl) (Nat.le_of_ble_eq_true rfl) (sX9_statement e49) rfl ?_
          refine qv_istore_n (lo2 := [some (.ref a0), some (.int v15), none]) dX9_land_38 (i := 1) rfl (by decide) rfl (Nat.le_of_ble_eq_true rfl) rfl ?_
          refine qv_aload_n dX9_land_39 (i := 0) rfl rfl ?_
          refine qv_dup dX9_land_40 rfl ?_
          obtain ⟨v17, e50, hs⟩ := qv_bind hs
          refine qv_getI dX9_land_41 qF_X9_123 e50 ?_
          refine qv_iload_n dX9_land_44 (i := 1) rfl rfl ?_
          obtain ⟨m18, hj52, hs⟩ := qv_bind hs
          have K51 : qv_J l g mX9_land 53 [some (.ref a0), some (.int v15), none] [.int m18, .int v17, .ref a0] h16 (some (.int r), hz) := by
            refine qv_iadd dX9_land_53 ?_
            obtain ⟨h19, e53, hs⟩ := qv_bind hs
            refine qv_putI dX9_land_54 qF_X9_123 e53 ?_
            refine qv_goto (tgt := 12) dX9_land_57 rfl ?_
            cases hs
            exact qv_dp (qv_le_s (qv_le_s (qv_le_n qv_le_0))) (ih6 _ _ (qv_nx_l eb7))
          replace hs := hj52
          by_cases c54 : v15 = 0
          · have hs := qv_pos c54 hs
            refine qv_if_eq (tgt := 52) dX9_land_45 rfl (fun _ => ?_) (fun q => absurd c54 q)
            refine qv_iconst (v := (0 : Int32)) dX9_land_52 rfl ?_
            cases hs
            exact qv_dp (qv_le_s (qv_le_s (qv_le_n qv_le_0))) K51
          · have hs := qv_neg c54 hs
            refine qv_if_eq (tgt := 52) dX9_land_45 rfl (fun q => absurd q c54) (fun _ => ?_)
            refine qv_iconst (v := (1 : Int32)) dX9_land_48 rfl ?_
            refine qv_goto (tgt := 53) dX9_land_49 rfl ?_
            cases hs
            exact qv_dp (qv_le_s (qv_le_s (qv_le_n qv_le_0))) K51
        · have hs := qv_neg c47 hs
          refine qv_if_ne (tgt := 60) dX9_land_31 rfl (fun _ => ?_) (fun q => absurd q c47)
          cases hs
          cases qv_nx_r eb7
          exact qv_dp (qv_le_s (qv_le_s (qv_le_n qv_le_0))) K3
theorem qD_X9_land : qv_DV mX9_land 0 := ⟨(qv_i14 (List.mem_of_getElem? (i := 3) (by decide +kernel))), (qv_i14 (List.mem_of_getElem? (i := 4) (by decide +kernel))), (qv_i1 (List.mem_of_getElem? (i := 14) (by decide +kernel))), (qv_i14 (List.mem_of_getElem? (i := 5) (by decide +kernel))), by decide +kernel, by decide +kernel⟩
/-- TrueOneWayModel.image()I -/
noncomputable def fX9_image (a0 : Nat) (h : qv_H) : Option (Int32 × qv_H) :=
  (qv_pZ h 8 a0 29 (1 : Int32)).bind fun h1 =>
  (qv_ob h1 8 a0).bind fun _ =>
  (fX9_passesAll a0 (0 : Int32) (1 : Int32) h1).bind fun h3 =>
  (qv_gI h3 8 a0 17).bind fun v4 =>
  some (v4, h3)
abbrev mX9_image : qv_M := (yX9_image, cX9_image, 1, (Option.some Jvm.ClassFile.FieldType.int), 2, 44)
set_option maxRecDepth 100000 in
set_option maxHeartbeats 4000000 in
theorem sX9_image {l : Launch} {g : qv_G} {a0 : Nat} {h : qv_H} {r : Int32} {hz : qv_H} (hs : fX9_image a0 h = some (r, hz)) : qv_J l g mX9_image 0 [some (.ref a0)] [] h (some (.int r), hz) := by
  unfold fX9_image at hs
  refine qv_aload_n dX9_image_0 (i := 0) rfl rfl ?_
  refine qv_iconst (v := (1 : Int32)) dX9_image_1 rfl ?_
  obtain ⟨h1, e1, hs⟩ := qv_bind hs
  refine qv_putZ dX9_image_2 qF_X9_189 e1 ?_
  refine qv_aload_n dX9_image_5 (i := 0) rfl rfl ?_
  refine qv_iconst (v := (0 : Int32)) dX9_image_6 rfl ?_
  refine qv_iconst (v := (1 : Int32)) dX9_image_7 rfl ?_
  obtain ⟨u2, e2, hs⟩ := qv_bind hs
  obtain ⟨h3, e3, hs⟩ := qv_bind hs
  refine qv_cV (d2 := mX9_passesAll) (o := a0) (ci := 8) (r := none) (h2 := h3) (av := [.int (0 : Int32), .int (1 : Int32)]) (st := []) dX9_image_8 qM_X9_165 qD_X9_passesAll e2 rfl rfl ⟨by decide, by decide⟩ rfl (Nat.le_of_ble_eq_true rfl) (Nat.le_of_ble_eq_true rfl) (sX9_passesAll e3) rfl ?_
  refine qv_aload_n dX9_image_11 (i := 0) rfl rfl ?_
  obtain ⟨v4, e4, hs⟩ := qv_bind hs
  refine qv_getI dX9_image_12 qF_X9_186 e4 ?_
  obtain ⟨rfl, rfl⟩ := qv_pr hs
  exact qv_iret dX9_image_15 rfl
theorem qD_X9_image : qv_DV mX9_image 0 := ⟨(qv_i14 (List.mem_of_getElem? (i := 58) (by decide +kernel))), (qv_i14 (List.mem_of_getElem? (i := 59) (by decide +kernel))), (qv_i1 (List.mem_of_getElem? (i := 14) (by decide +kernel))), (qv_i14 (List.mem_of_getElem? (i := 60) (by decide +kernel))), by decide +kernel, by decide +kernel⟩
/-- TrueOneWayModel.on()I -/
noncomputable def fX9_on (a0 : Nat) (h : qv_H) : Option (Int32 × qv_H) :=
  (qv_gI h 8 a0 29).bind fun v1 =>
  if v1 = 0 then
    (qv_ob h 8 a0).bind fun _ =>
    (fX9_no a0 (-3 : Int32) h).bind fun (v7, h8) =>
    some (v7, h8)
  else
    (qv_ob h 8 a0).bind fun _ =>
    (fX9_passesAll a0 (0 : Int32) (0 : Int32) h).bind fun h3 =>
    (qv_pI h3 8 a0 39 (0 : Int32)).bind fun h4 =>
    (qv_gI h4 8 a0 17).bind fun v5 =>
    some (v5, h4)
abbrev mX9_on : qv_M := (yX9_on, cX9_on, 1, (Option.some Jvm.ClassFile.FieldType.int), 2, 44)
set_option maxRecDepth 100000 in
set_option maxHeartbeats 4000000 in
theorem sX9_on {l : Launch} {g : qv_G} {a0 : Nat} {h : qv_H} {r : Int32} {hz : qv_H} (hs : fX9_on a0 h = some (r, hz)) : qv_J l g mX9_on 0 [some (.ref a0)] [] h (some (.int r), hz) := by
  unfold fX9_on at hs
  refine qv_aload_n dX9_on_0 (i := 0) rfl rfl ?_
  obtain ⟨v1, e1, hs⟩ := qv_bind hs
  refine qv_getI dX9_on_1 qF_X9_189 e1 ?_
  by_cases c2 : v1 = 0
  · have hs := qv_pos c2 hs
    refine qv_if_ne (tgt := 14) dX9_on_4 rfl (fun q => absurd c2 q) (fun _ => ?_)
    refine qv_aload_n dX9_on_7 (i := 0) rfl rfl ?_
    refine qv_bipush (v := (-3 : Int32)) dX9_on_8 rfl ?_
    obtain ⟨u6, e3, hs⟩ := qv_bind hs
    obtain ⟨⟨v7, h8⟩, e4, hs⟩ := qv_bind hs
    dsimp only at hs
    refine qv_cV (d2 := mX9_no) (o := a0) (ci := 8) (r := some (.int v7)) (h2 := h8) (av := [.int (-3 : Int32)]) (st := []) dX9_on_10 qM_X9_102 qD_X9_no e3 rfl rfl ⟨by decide, by decide⟩ rfl (Nat.le_of_ble_eq_true rfl) (Nat.le_of_ble_eq_true rfl) (sX9_no e4) rfl ?_
    obtain ⟨rfl, rfl⟩ := qv_pr hs
    exact qv_iret dX9_on_13 rfl
  · have hs := qv_neg c2 hs
    refine qv_if_ne (tgt := 14) dX9_on_4 rfl (fun _ => ?_) (fun q => absurd q c2)
    refine qv_aload_n dX9_on_14 (i := 0) rfl rfl ?_
    refine qv_iconst (v := (0 : Int32)) dX9_on_15 rfl ?_
    refine qv_iconst (v := (0 : Int32)) dX9_on_16 rfl ?_
    obtain ⟨u2, e5, hs⟩ := qv_bind hs
    obtain ⟨h3, e6, hs⟩ := qv_bind hs
    refine qv_cV (d2 := mX9_passesAll) (o := a0) (ci := 8) (r := none) (h2 := h3) (av := [.int (0 : Int32), .int (0 : Int32)]) (st := []) dX9_on_17 qM_X9_165 qD_X9_passesAll e5 rfl rfl ⟨by decide, by decide⟩ rfl (Nat.le_of_ble_eq_true rfl) (Nat.le_of_ble_eq_true rfl) (sX9_passesAll e6) rfl ?_
    refine qv_aload_n dX9_on_20 (i := 0) rfl rfl ?_
    refine qv_iconst (v := (0 : Int32)) dX9_on_21 rfl ?_
    obtain ⟨h4, e7, hs⟩ := qv_bind hs
    refine qv_putI dX9_on_22 qF_X9_192 e7 ?_
    refine qv_aload_n dX9_on_25 (i := 0) rfl rfl ?_
    obtain ⟨v5, e8, hs⟩ := qv_bind hs
    refine qv_getI dX9_on_26 qF_X9_186 e8 ?_
    obtain ⟨rfl, rfl⟩ := qv_pr hs
    exact qv_iret dX9_on_29 rfl
theorem qD_X9_on : qv_DV mX9_on 0 := ⟨(qv_i14 (List.mem_of_getElem? (i := 62) (by decide +kernel))), (qv_i14 (List.mem_of_getElem? (i := 63) (by decide +kernel))), (qv_i1 (List.mem_of_getElem? (i := 14) (by decide +kernel))), (qv_i15 (List.mem_of_getElem? (i := 0) (by decide +kernel))), by decide +kernel, by decide +kernel⟩
/-- TrueOneWayModel.allFacts()I -/
noncomputable def fX9_allFacts (a0 : Nat) (h : qv_H) : Option (Int32) :=
  (qv_gI h 8 a0 10).bind fun v1 =>
  some (((1 : Int32) <<< (v1 &&& 31)) - (1 : Int32))
abbrev mX9_allFacts : qv_M := (yX9_allFacts, cX9_allFacts, 1, (Option.some Jvm.ClassFile.FieldType.int), 0, 0)
set_option maxRecDepth 100000 in
set_option maxHeartbeats 4000000 in
theorem sX9_allFacts {l : Launch} {g : qv_G} {a0 : Nat} {h : qv_H} {r : Int32} (hs : fX9_allFacts a0 h = some r) : qv_J l g mX9_allFacts 0 [some (.ref a0)] [] h (some (.int r), h) := by
  unfold fX9_allFacts at hs
  refine qv_iconst (v := (1 : Int32)) dX9_allFacts_0 rfl ?_
  refine qv_aload_n dX9_allFacts_1 (i := 0) rfl rfl ?_
  obtain ⟨v1, e1, hs⟩ := qv_bind hs
  refine qv_getI dX9_allFacts_2 qF_X9_89 e1 ?_
  refine qv_ishl dX9_allFacts_5 ?_
  refine qv_iconst (v := (1 : Int32)) dX9_allFacts_6 rfl ?_
  refine qv_isub dX9_allFacts_7 ?_
  obtain rfl := qv_sm hs
  exact qv_iret dX9_allFacts_8 rfl
theorem qD_X9_allFacts : qv_DV mX9_allFacts 0 := ⟨(qv_i15 (List.mem_of_getElem? (i := 24) (by decide +kernel))), (qv_i0 (List.mem_of_getElem? (i := 38) (by decide +kernel))), (qv_i1 (List.mem_of_getElem? (i := 14) (by decide +kernel))), (qv_i15 (List.mem_of_getElem? (i := 25) (by decide +kernel))), by decide +kernel, by decide +kernel⟩
/-- TrueOneWayModel.allSigns()I -/
noncomputable def fX9_allSigns (a0 : Nat) (h : qv_H) : Option (Int32) :=
  (qv_gI h 8 a0 11).bind fun v1 =>
  some (((1 : Int32) <<< (v1 &&& 31)) - (1 : Int32))
abbrev mX9_allSigns : qv_M := (yX9_allSigns, cX9_allSigns, 1, (Option.some Jvm.ClassFile.FieldType.int), 0, 0)
set_option maxRecDepth 100000 in
set_option maxHeartbeats 4000000 in
theorem sX9_allSigns {l : Launch} {g : qv_G} {a0 : Nat} {h : qv_H} {r : Int32} (hs : fX9_allSigns a0 h = some r) : qv_J l g mX9_allSigns 0 [some (.ref a0)] [] h (some (.int r), h) := by
  unfold fX9_allSigns at hs
  refine qv_iconst (v := (1 : Int32)) dX9_allSigns_0 rfl ?_
  refine qv_aload_n dX9_allSigns_1 (i := 0) rfl rfl ?_
  obtain ⟨v1, e1, hs⟩ := qv_bind hs
  refine qv_getI dX9_allSigns_2 qF_X9_92 e1 ?_
  refine qv_ishl dX9_allSigns_5 ?_
  refine qv_iconst (v := (1 : Int32)) dX9_allSigns_6 rfl ?_
  refine qv_isub dX9_allSigns_7 ?_
  obtain rfl := qv_sm hs
  exact qv_iret dX9_allSigns_8 rfl
theorem qD_X9_allSigns : qv_DV mX9_allSigns 0 := ⟨(qv_i15 (List.mem_of_getElem? (i := 27) (by decide +kernel))), (qv_i0 (List.mem_of_getElem? (i := 39) (by decide +kernel))), (qv_i1 (List.mem_of_getElem? (i := 14) (by decide +kernel))), (qv_i15 (List.mem_of_getElem? (i := 28) (by decide +kernel))), by decide +kernel, by decide +kernel⟩
/-- TrueOneWayModel.isWorld(I)Z -/
noncomputable def fX9_isWorld (a0 : Nat) (a1 : Int32) (h : qv_H) : Option (Int32) :=
  Option.bind (α := Int32) (
      if a1 < 0 then
        some (0 : Int32)
      else
        if (1024 : Int32) ≤ a1 then
          some (0 : Int32)
        else
          (qv_ob h 8 a0).bind fun _ =>
          (fX9_allFacts a0 h).bind fun v2 =>
          if ((a1 &&& (15 : Int32)) &&& (v2 ^^^ (-1 : Int32))) = 0 then
            (qv_ob h 8 a0).bind fun _ =>
            (fX9_allSigns a0 h).bind fun v4 =>
            if ((a1 >>> ((4 : Int32) &&& 31)) &&& (v4 ^^^ (-1 : Int32))) = 0 then
              some (1 : Int32)
            else
              some (0 : Int32)
          else
            some (0 : Int32)
    ) fun m5 =>
  (qv_b1 m5).bind fun v6 =>
  some m5
abbrev mX9_isWorld : qv_M := (yX9_isWorld, cX9_isWorld, 2, (Option.some Jvm.ClassFile.FieldType.boolean), 1, 20)
set_option maxRecDepth 100000 in
set_option maxHeartbeats 4000000 in
theorem sX9_isWorld {l : Launch} {g : qv_G} {a0 : Nat} {a1 : Int32} {h : qv_H} {r : Int32} (hs : fX9_isWorld a0 a1 h = some r) : qv_J l g mX9_isWorld 0 [some (.ref a0), some (.int a1)] [] h (some (.int r), h) := by
  unfold fX9_isWorld at hs
  refine qv_iload_n dX9_isWorld_0 (i := 1) rfl rfl ?_
  obtain ⟨m5, hj2, hs⟩ := qv_bind hs
  have K1 : qv_J l g mX9_isWorld 43 [none, none] [.int m5] h (some (.int r), h) := by
    obtain ⟨v6, e3, hs⟩ := qv_bind hs
    obtain rfl := qv_sm hs
    exact qv_zret dX9_isWorld_43 rfl (qv_b1_of e3).1
  replace hs := hj2
  by_cases c4 : a1 < 0
  · have hs := qv_pos c4 hs
    refine qv_if_lt (tgt := 42) dX9_isWorld_1 rfl (fun _ => ?_) (fun q => absurd c4 q)
    refine qv_iconst (v := (0 : Int32)) dX9_isWorld_42 rfl ?_
    cases hs
    exact qv_dp (qv_le_n (qv_le_n qv_le_0)) K1
  · have hs := qv_neg c4 hs
    refine qv_if_lt (tgt := 42) dX9_isWorld_1 rfl (fun q => absurd q c4) (fun _ => ?_)
    refine qv_iload_n dX9_isWorld_4 (i := 1) rfl rfl ?_
    refine qv_sipush (v := (1024 : Int32)) dX9_isWorld_5 rfl ?_
    by_cases c5 : (1024 : Int32) ≤ a1
    · have hs := qv_pos c5 hs
      refine qv_icmp_ge (tgt := 42) dX9_isWorld_8 rfl (fun _ => ?_) (fun q => absurd c5 q)
      refine qv_iconst (v := (0 : Int32)) dX9_isWorld_42 rfl ?_
      cases hs
      exact qv_dp (qv_le_n (qv_le_n qv_le_0)) K1
    · have hs := qv_neg c5 hs
      refine qv_icmp_ge (tgt := 42) dX9_isWorld_8 rfl (fun q => absurd q c5) (fun _ => ?_)
      refine qv_iload_n dX9_isWorld_11 (i := 1) rfl rfl ?_
      refine qv_bipush (v := (15 : Int32)) dX9_isWorld_12 rfl ?_
      refine qv_iand dX9_isWorld_14 ?_
      refine qv_aload_n dX9_isWorld_15 (i := 0) rfl rfl ?_
      obtain ⟨u1, e6, hs⟩ := qv_bind hs
      obtain ⟨v2, e7, hs⟩ := qv_bind hs
      refine qv_cV (d2 := mX9_allFacts) (o := a0) (ci := 8) (r := some (.int v2)) (h2 := h) (av := []) (st := [.int (a1 &&& (15 : Int32))]) dX9_isWorld_16 qM_X9_195 qD_X9_allFacts e6 rfl rfl ⟨by decide, by decide⟩ rfl (Nat.le_of_ble_eq_true rfl) (Nat.le_of_ble_eq_true rfl) (sX9_allFacts e7) rfl ?_
      refine qv_iconst (v := (-1 : Int32)) dX9_isWorld_19 rfl ?_
      refine qv_ixor dX9_isWorld_20 ?_
      refine qv_iand dX9_isWorld_21 ?_
      by_cases c8 : ((a1 &&& (15 : Int32)) &&& (v2 ^^^ (-1 : Int32))) = 0
      · have hs := qv_pos c8 hs
        refine qv_if_ne (tgt := 42) dX9_isWorld_22 rfl (fun q => absurd c8 q) (fun _ => ?_)
        refine qv_iload_n dX9_isWorld_25 (i := 1) rfl rfl ?_
        refine qv_iconst (v := (4 : Int32)) dX9_isWorld_26 rfl ?_
        refine qv_ishr dX9_isWorld_27 ?_
        refine qv_aload_n dX9_isWorld_28 (i := 0) rfl rfl ?_
        obtain ⟨u3, e9, hs⟩ := qv_bind hs
        obtain ⟨v4, e10, hs⟩ := qv_bind hs
        refine qv_cV (d2 := mX9_allSigns) (o := a0) (ci := 8) (r := some (.int v4)) (h2 := h) (av := []) (st := [.int (a1 >>> ((4 : Int32) &&& 31))]) dX9_isWorld_29 qM_X9_198 qD_X9_allSigns e9 rfl rfl ⟨by decide, by decide⟩ rfl (Nat.le_of_ble_eq_true rfl) (Nat.le_of_ble_eq_true rfl) (sX9_allSigns e10) rfl ?_
        refine qv_iconst (v := (-1 : Int32)) dX9_isWorld_32 rfl ?_
        refine qv_ixor dX9_isWorld_33 ?_
        refine qv_iand dX9_isWorld_34 ?_
        by_cases c11 : ((a1 >>> ((4 : Int32) &&& 31)) &&& (v4 ^^^ (-1 : Int32))) = 0
        · have hs := qv_pos c11 hs
          refine qv_if_ne (tgt := 42) dX9_isWorld_35 rfl (fun q => absurd c11 q) (fun _ => ?_)
          refine qv_iconst (v := (1 : Int32)) dX9_isWorld_38 rfl ?_
          refine qv_goto (tgt := 43) dX9_isWorld_39 rfl ?_
          cases hs
          exact qv_dp (qv_le_n (qv_le_n qv_le_0)) K1
        · have hs := qv_neg c11 hs
          refine qv_if_ne (tgt := 42) dX9_isWorld_35 rfl (fun _ => ?_) (fun q => absurd q c11)
          refine qv_iconst (v := (0 : Int32)) dX9_isWorld_42 rfl ?_
          cases hs
          exact qv_dp (qv_le_n (qv_le_n qv_le_0)) K1
      · have hs := qv_neg c8 hs
        refine qv_if_ne (tgt := 42) dX9_isWorld_22 rfl (fun _ => ?_) (fun q => absurd q c8)
        refine qv_iconst (v := (0 : Int32)) dX9_isWorld_42 rfl ?_
        cases hs
        exact qv_dp (qv_le_n (qv_le_n qv_le_0)) K1
theorem qD_X9_isWorld : qv_DV mX9_isWorld 1 := ⟨(qv_i15 (List.mem_of_getElem? (i := 21) (by decide +kernel))), (qv_i0 (List.mem_of_getElem? (i := 37) (by decide +kernel))), (qv_i1 (List.mem_of_getElem? (i := 14) (by decide +kernel))), (qv_i15 (List.mem_of_getElem? (i := 22) (by decide +kernel))), by decide +kernel, by decide +kernel⟩
/-- TrueOneWayModel.saysIn(II)I -/
noncomputable def fX9_saysIn (a0 : Nat) (a1 : Int32) (a2 : Int32) (h : qv_H) : Option (Int32) :=
  (qv_gR h 8 a0 5).bind fun v1 =>
  (qv_aI h false v1 a1).bind fun v2 =>
  (qv_gR h 8 a0 6).bind fun v3 =>
  (qv_aI h false v3 a1).bind fun v4 =>
  (qv_gR h 8 a0 3).bind fun v5 =>
  (qv_aI h false v5 a1).bind fun v6 =>
  if v6 = (0 : Int32) then
    some ((a2 >>> ((v2 &&& (15 : Int32)) &&& 31)) &&& (1 : Int32))
  else
    if v6 = (1 : Int32) then
      some ((1 : Int32) - ((a2 >>> ((v2 &&& (15 : Int32)) &&& 31)) &&& (1 : Int32)))
    else
      if v6 = (2 : Int32) then
        some (((a2 >>> ((v2 &&& (15 : Int32)) &&& 31)) &&& (1 : Int32)) &&& ((a2 >>> ((v4 &&& (15 : Int32)) &&& 31)) &&& (1 : Int32)))
      else
        if v6 = (3 : Int32) then
          some (((a2 >>> ((v2 &&& (15 : Int32)) &&& 31)) &&& (1 : Int32)) ||| ((a2 >>> ((v4 &&& (15 : Int32)) &&& 31)) &&& (1 : Int32)))
        else
          if v6 = (4 : Int32) then
            some (((a2 >>> ((v2 &&& (15 : Int32)) &&& 31)) &&& (1 : Int32)) ^^^ ((a2 >>> ((v4 &&& (15 : Int32)) &&& 31)) &&& (1 : Int32)))
          else
            if v6 = (5 : Int32) then
              (qv_gR h 8 a0 5).bind fun v7 =>
              (qv_aI h false v7 a1).bind fun v8 =>
              some ((a2 >>> (((4 : Int32) + v8) &&& 31)) &&& (1 : Int32))
            else
              some (0 : Int32)
abbrev mX9_saysIn : qv_M := (yX9_saysIn, cX9_saysIn, 5, (Option.some Jvm.ClassFile.FieldType.int), 0, 0)
set_option maxRecDepth 100000 in
set_option maxHeartbeats 4000000 in
theorem sX9_saysIn {l : Launch} {g : qv_G} {a0 : Nat} {a1 : Int32} {a2 : Int32} {h : qv_H} {r : Int32} (hs : fX9_saysIn a0 a1 a2 h = some r) : qv_J l g mX9_saysIn 0 [some (.ref a0), some (.int a1), some (.int a2), none, none] [] h (some (.int r), h) := by
  unfold fX9_saysIn at hs
  refine qv_iload_n dX9_saysIn_0 (i := 2) rfl rfl ?_
  refine qv_aload_n dX9_saysIn_1 (i := 0) rfl rfl ?_
  obtain ⟨v1, e1, hs⟩ := qv_bind hs
  refine qv_getR dX9_saysIn_2 qF_X9_25 e1 ?_
  refine qv_iload_n dX9_saysIn_5 (i := 1) rfl rfl ?_
  obtain ⟨v2, e2, hs⟩ := qv_bind hs
  refine qv_iald dX9_saysIn_6 e2 ?_
  refine qv_bipush (v := (15 : Int32)) dX9_saysIn_7 rfl ?_
  refine qv_iand dX9_saysIn_9 ?_
  refine qv_ishr dX9_saysIn_10 ?_
  refine qv_iconst (v := (1 : Int32)) dX9_saysIn_11 rfl ?_
  refine qv_iand dX9_saysIn_12 ?_
  refine qv_istore_n (lo2 := [some (.ref a0), some (.int a1), some (.int a2), some (.int ((a2 >>> ((v2 &&& (15 : Int32)) &&& 31)) &&& (1 : Int32))), none]) dX9_saysIn_13 (i := 3) rfl (by decide) rfl (Nat.le_of_ble_eq_true rfl) rfl ?_
  refine qv_iload_n dX9_saysIn_14 (i := 2) rfl rfl ?_
  refine qv_aload_n dX9_saysIn_15 (i := 0) rfl rfl ?_
  obtain ⟨v3, e3, hs⟩ := qv_bind hs
  refine qv_getR dX9_saysIn_16 qF_X9_28 e3 ?_
  refine qv_iload_n dX9_saysIn_19 (i := 1) rfl rfl ?_
  obtain ⟨v4, e4, hs⟩ := qv_bind hs
  refine qv_iald dX9_saysIn_20 e4 ?_
  refine qv_bipush (v := (15 : Int32)) dX9_saysIn_21 rfl ?_
  refine qv_iand dX9_saysIn_23 ?_
  refine qv_ishr dX9_saysIn_24 ?_
  refine qv_iconst (v := (1 : Int32)) dX9_saysIn_25 rfl ?_
  refine qv_iand dX9_saysIn_26 ?_
  refine qv_istore (lo2 := [some (.ref a0), some (.int a1), some (.int a2), some (.int ((a2 >>> ((v2 &&& (15 : Int32)) &&& 31)) &&& (1 : Int32))), some (.int ((a2 >>> ((v4 &&& (15 : Int32)) &&& 31)) &&& (1 : Int32)))]) dX9_saysIn_27 (by decide) rfl (Nat.le_of_ble_eq_true rfl) rfl ?_
  refine qv_aload_n dX9_saysIn_29 (i := 0) rfl rfl ?_
  obtain ⟨v5, e5, hs⟩ := qv_bind hs
  refine qv_getR dX9_saysIn_30 qF_X9_19 e5 ?_
  refine qv_iload_n dX9_saysIn_33 (i := 1) rfl rfl ?_
  obtain ⟨v6, e6, hs⟩ := qv_bind hs
  refine qv_iald dX9_saysIn_34 e6 ?_
  by_cases c7 : v6 = (0 : Int32)
  · have hs := qv_pos c7 hs
    refine qv_tsIn (tgt := 72) (0 : Int32) c7 dX9_saysIn_35 (by decide) (by decide) rfl rfl ?_
    refine qv_iload_n dX9_saysIn_72 (i := 3) rfl rfl ?_
    obtain rfl := qv_sm hs
    exact qv_iret dX9_saysIn_73 rfl
  · have hs := qv_neg c7 hs
    by_cases c8 : v6 = (1 : Int32)
    · have hs := qv_pos c8 hs
      refine qv_tsIn (tgt := 74) (1 : Int32) c8 dX9_saysIn_35 (by decide) (by decide) rfl rfl ?_
      refine qv_iconst (v := (1 : Int32)) dX9_saysIn_74 rfl ?_
      refine qv_iload_n dX9_saysIn_75 (i := 3) rfl rfl ?_
      refine qv_isub dX9_saysIn_76 ?_
      obtain rfl := qv_sm hs
      exact qv_iret dX9_saysIn_77 rfl
    · have hs := qv_neg c8 hs
      by_cases c9 : v6 = (2 : Int32)
      · have hs := qv_pos c9 hs
        refine qv_tsIn (tgt := 78) (2 : Int32) c9 dX9_saysIn_35 (by decide) (by decide) rfl rfl ?_
        refine qv_iload_n dX9_saysIn_78 (i := 3) rfl rfl ?_
        refine qv_iload dX9_saysIn_79 rfl ?_
        refine qv_iand dX9_saysIn_81 ?_
        obtain rfl := qv_sm hs
        exact qv_iret dX9_saysIn_82 rfl
      · have hs := qv_neg c9 hs
        by_cases c10 : v6 = (3 : Int32)
        · have hs := qv_pos c10 hs
          refine qv_tsIn (tgt := 83) (3 : Int32) c10 dX9_saysIn_35 (by decide) (by decide) rfl rfl ?_
          refine qv_iload_n dX9_saysIn_83 (i := 3) rfl rfl ?_
          refine qv_iload dX9_saysIn_84 rfl ?_
          refine qv_ior dX9_saysIn_86 ?_
          obtain rfl := qv_sm hs
          exact qv_iret dX9_saysIn_87 rfl
        · have hs := qv_neg c10 hs
          by_cases c11 : v6 = (4 : Int32)
          · have hs := qv_pos c11 hs
            refine qv_tsIn (tgt := 88) (4 : Int32) c11 dX9_saysIn_35 (by decide) (by decide) rfl rfl ?_
            refine qv_iload_n dX9_saysIn_88 (i := 3) rfl rfl ?_
            refine qv_iload dX9_saysIn_89 rfl ?_
            refine qv_ixor dX9_saysIn_91 ?_
            obtain rfl := qv_sm hs
            exact qv_iret dX9_saysIn_92 rfl
          · have hs := qv_neg c11 hs
            by_cases c12 : v6 = (5 : Int32)
            · have hs := qv_pos c12 hs
              refine qv_tsIn (tgt := 93) (5 : Int32) c12 dX9_saysIn_35 (by decide) (by decide) rfl rfl ?_
              refine qv_iload_n dX9_saysIn_93 (i := 2) rfl rfl ?_
              refine qv_iconst (v := (4 : Int32)) dX9_saysIn_94 rfl ?_
              refine qv_aload_n dX9_saysIn_95 (i := 0) rfl rfl ?_
              obtain ⟨v7, e13, hs⟩ := qv_bind hs
              refine qv_getR dX9_saysIn_96 qF_X9_25 e13 ?_
              refine qv_iload_n dX9_saysIn_99 (i := 1) rfl rfl ?_
              obtain ⟨v8, e14, hs⟩ := qv_bind hs
              refine qv_iald dX9_saysIn_100 e14 ?_
              refine qv_iadd dX9_saysIn_101 ?_
              refine qv_ishr dX9_saysIn_102 ?_
              refine qv_iconst (v := (1 : Int32)) dX9_saysIn_103 rfl ?_
              refine qv_iand dX9_saysIn_104 ?_
              obtain rfl := qv_sm hs
              exact qv_iret dX9_saysIn_105 rfl
            · have hs := qv_neg c12 hs
              refine qv_tsDef (tgt := 106) dX9_saysIn_35 (fun j hj ej => ?_) rfl ?_
              · rcases (show j = 0 ∨ j = 1 ∨ j = 2 ∨ j = 3 ∨ j = 4 ∨ j = 5 by omega) with rfl | rfl | rfl | rfl | rfl | rfl
                · exact absurd (Int32.toInt_inj.mp (by rw [ej]; rfl)) c7
                · exact absurd (Int32.toInt_inj.mp (by rw [ej]; rfl)) c8
                · exact absurd (Int32.toInt_inj.mp (by rw [ej]; rfl)) c9
                · exact absurd (Int32.toInt_inj.mp (by rw [ej]; rfl)) c10
                · exact absurd (Int32.toInt_inj.mp (by rw [ej]; rfl)) c11
                · exact absurd (Int32.toInt_inj.mp (by rw [ej]; rfl)) c12
              refine qv_iconst (v := (0 : Int32)) dX9_saysIn_106 rfl ?_
              obtain rfl := qv_sm hs
              exact qv_iret dX9_saysIn_107 rfl
theorem qD_X9_saysIn : qv_DV mX9_saysIn 2 := ⟨(qv_i15 (List.mem_of_getElem? (i := 36) (by decide +kernel))), (qv_i0 (List.mem_of_getElem? (i := 42) (by decide +kernel))), (qv_i1 (List.mem_of_getElem? (i := 14) (by decide +kernel))), (qv_i15 (List.mem_of_getElem? (i := 37) (by decide +kernel))), by decide +kernel, by decide +kernel⟩
/-- TrueOneWayModel.isRight(II)Z -/
noncomputable def fX9_isRight (a0 : Nat) (a1 : Int32) (a2 : Int32) (h : qv_H) : Option (Int32) :=
  (qv_gR h 8 a0 3).bind fun v1 =>
  (qv_aI h false v1 a1).bind fun v2 =>
  Option.bind (α := Int32) (
      if v2 = (6 : Int32) then
        some (1 : Int32)
      else
        (qv_ob h 8 a0).bind fun _ =>
        (fX9_saysIn a0 a1 a2 h).bind fun v4 =>
        if v4 = ((a2 >>> (((4 : Int32) + a1) &&& 31)) &&& (1 : Int32)) then
          some (1 : Int32)
        else
          some (0 : Int32)
    ) fun m5 =>
  (qv_b1 m5).bind fun v6 =>
  some m5
abbrev mX9_isRight : qv_M := (yX9_isRight, cX9_isRight, 3, (Option.some Jvm.ClassFile.FieldType.boolean), 1, 24)
set_option maxRecDepth 100000 in
set_option maxHeartbeats 4000000 in
theorem sX9_isRight {l : Launch} {g : qv_G} {a0 : Nat} {a1 : Int32} {a2 : Int32} {h : qv_H} {r : Int32} (hs : fX9_isRight a0 a1 a2 h = some r) : qv_J l g mX9_isRight 0 [some (.ref a0), some (.int a1), some (.int a2)] [] h (some (.int r), h) := by
  unfold fX9_isRight at hs
  refine qv_aload_n dX9_isRight_0 (i := 0) rfl rfl ?_
  obtain ⟨v1, e1, hs⟩ := qv_bind hs
  refine qv_getR dX9_isRight_1 qF_X9_19 e1 ?_
  refine qv_iload_n dX9_isRight_4 (i := 1) rfl rfl ?_
  obtain ⟨v2, e2, hs⟩ := qv_bind hs
  refine qv_iald dX9_isRight_5 e2 ?_
  refine qv_bipush (v := (6 : Int32)) dX9_isRight_6 rfl ?_
  obtain ⟨m5, hj4, hs⟩ := qv_bind hs
  have K3 : qv_J l g mX9_isRight 32 [none, none, none] [.int m5] h (some (.int r), h) := by
    obtain ⟨v6, e5, hs⟩ := qv_bind hs
    obtain rfl := qv_sm hs
    exact qv_zret dX9_isRight_32 rfl (qv_b1_of e5).1
  replace hs := hj4
  by_cases c6 : v2 = (6 : Int32)
  · have hs := qv_pos c6 hs
    refine qv_icmp_eq (tgt := 27) dX9_isRight_8 rfl (fun _ => ?_) (fun q => absurd c6 q)
    refine qv_iconst (v := (1 : Int32)) dX9_isRight_27 rfl ?_
    refine qv_goto (tgt := 32) dX9_isRight_28 rfl ?_
    cases hs
    exact qv_dp (qv_le_n (qv_le_n (qv_le_n qv_le_0))) K3
  · have hs := qv_neg c6 hs
    refine qv_icmp_eq (tgt := 27) dX9_isRight_8 rfl (fun q => absurd q c6) (fun _ => ?_)
    refine qv_aload_n dX9_isRight_11 (i := 0) rfl rfl ?_
    refine qv_iload_n dX9_isRight_12 (i := 1) rfl rfl ?_
    refine qv_iload_n dX9_isRight_13 (i := 2) rfl rfl ?_
    obtain ⟨u3, e7, hs⟩ := qv_bind hs
    obtain ⟨v4, e8, hs⟩ := qv_bind hs
    refine qv_cV (d2 := mX9_saysIn) (o := a0) (ci := 8) (r := some (.int v4)) (h2 := h) (av := [.int a1, .int a2]) (st := []) dX9_isRight_14 qM_X9_201 qD_X9_saysIn e7 rfl rfl ⟨by decide, by decide⟩ rfl (Nat.le_of_ble_eq_true rfl) (Nat.le_of_ble_eq_true rfl) (sX9_saysIn e8) rfl ?_
    refine qv_iload_n dX9_isRight_17 (i := 2) rfl rfl ?_
    refine qv_iconst (v := (4 : Int32)) dX9_isRight_18 rfl ?_
    refine qv_iload_n dX9_isRight_19 (i := 1) rfl rfl ?_
    refine qv_iadd dX9_isRight_20 ?_
    refine qv_ishr dX9_isRight_21 ?_
    refine qv_iconst (v := (1 : Int32)) dX9_isRight_22 rfl ?_
    refine qv_iand dX9_isRight_23 ?_
    by_cases c9 : v4 = ((a2 >>> (((4 : Int32) + a1) &&& 31)) &&& (1 : Int32))
    · have hs := qv_pos c9 hs
      refine qv_icmp_ne (tgt := 31) dX9_isRight_24 rfl (fun q => absurd c9 q) (fun _ => ?_)
      refine qv_iconst (v := (1 : Int32)) dX9_isRight_27 rfl ?_
      refine qv_goto (tgt := 32) dX9_isRight_28 rfl ?_
      cases hs
      exact qv_dp (qv_le_n (qv_le_n (qv_le_n qv_le_0))) K3
    · have hs := qv_neg c9 hs
      refine qv_icmp_ne (tgt := 31) dX9_isRight_24 rfl (fun _ => ?_) (fun q => absurd q c9)
      refine qv_iconst (v := (0 : Int32)) dX9_isRight_31 rfl ?_
      cases hs
      exact qv_dp (qv_le_n (qv_le_n (qv_le_n qv_le_0))) K3
theorem qD_X9_isRight : qv_DV mX9_isRight 2 := ⟨(qv_i15 (List.mem_of_getElem? (i := 33) (by decide +kernel))), (qv_i0 (List.mem_of_getElem? (i := 41) (by decide +kernel))), (qv_i1 (List.mem_of_getElem? (i := 14) (by decide +kernel))), (qv_i15 (List.mem_of_getElem? (i := 34) (by decide +kernel))), by decide +kernel, by decide +kernel⟩
/-- TrueOneWayModel.wrongs(I)I -/
noncomputable def fX9_wrongs (a0 : Nat) (a1 : Int32) (h : qv_H) : Option (Int32) :=
  Option.bind (qv_loop (σ := Int32 × Int32) (ρ := Int32) (fun (x1, x2) =>
      (qv_gI h 8 a0 11).bind fun v3 =>
      if v3 ≤ x2 then
        some (.inr x1)
      else
        (qv_ob h 8 a0).bind fun _ =>
        (fX9_isRight a0 x2 a1 h).bind fun v5 =>
        Option.bind (α := Int32) (
            if v5 = 0 then
              some (1 : Int32)
            else
              some (0 : Int32)
          ) fun m6 =>
        some (.inl (x1 + m6, x2 + (1 : Int32)))
    ) ((0 : Int32), (0 : Int32))) fun y7 =>
  some y7
abbrev mX9_wrongs : qv_M := (yX9_wrongs, cX9_wrongs, 4, (Option.some Jvm.ClassFile.FieldType.int), 2, 46)
set_option maxRecDepth 100000 in
set_option maxHeartbeats 4000000 in
theorem sX9_wrongs {l : Launch} {g : qv_G} {a0 : Nat} {a1 : Int32} {h : qv_H} {r : Int32} (hs : fX9_wrongs a0 a1 h = some r) : qv_J l g mX9_wrongs 0 [some (.ref a0), some (.int a1), none, none] [] h (some (.int r), h) := by
  unfold fX9_wrongs at hs
  refine qv_iconst (v := (0 : Int32)) dX9_wrongs_0 rfl ?_
  refine qv_istore_n (lo2 := [some (.ref a0), some (.int a1), some (.int (0 : Int32)), none]) dX9_wrongs_1 (i := 2) rfl (by decide) rfl (Nat.le_of_ble_eq_true rfl) rfl ?_
  refine qv_iconst (v := (0 : Int32)) dX9_wrongs_2 rfl ?_
  refine qv_istore_n (lo2 := [some (.ref a0), some (.int a1), some (.int (0 : Int32)), some (.int (0 : Int32))]) dX9_wrongs_3 (i := 3) rfl (by decide) rfl (Nat.le_of_ble_eq_true rfl) rfl ?_
  obtain ⟨y7, e2, hs⟩ := qv_bind hs
  have K1 : qv_J l g mX9_wrongs 35 [none, none, some (.int y7), none] [] h (some (.int r), h) := by
    refine qv_iload_n dX9_wrongs_35 (i := 2) rfl rfl ?_
    obtain rfl := qv_sm hs
    exact qv_iret dX9_wrongs_36 rfl
  obtain ⟨n8, e2⟩ := qv_loop_of e2
  refine qv_dp (qv_le_s (qv_le_s (qv_le_s (qv_le_s qv_le_0)))) (?_ : qv_J l g mX9_wrongs 4 [some (.ref a0), some (.int a1), some (.int (0 : Int32)), some (.int (0 : Int32))] [] h (some (.int r), h))
  revert e2
  suffices lj7 : ∀ (x1 : Int32) (x2 : Int32), qv_it _ n8 (x1, x2) = some y7 → qv_J l g mX9_wrongs 4 [some (.ref a0), some (.int a1), some (.int x1), some (.int x2)] [] h (some (.int r), h) from lj7 (0 : Int32) (0 : Int32)
  induction n8 with
  | zero =>
    intro x1 x2 e2
    cases e2
  | succ n8 ih4 =>
    intro x1 x2 e2
    obtain ⟨_, hs, eb5⟩ := qv_it_s e2
    dsimp only at hs
    refine qv_iload_n dX9_wrongs_4 (i := 3) rfl rfl ?_
    refine qv_aload_n dX9_wrongs_5 (i := 0) rfl rfl ?_
    obtain ⟨v3, e9, hs⟩ := qv_bind hs
    refine qv_getI dX9_wrongs_6 qF_X9_92 e9 ?_
    by_cases c10 : v3 ≤ x2
    · have hs := qv_pos c10 hs
      refine qv_icmp_ge (tgt := 35) dX9_wrongs_9 rfl (fun _ => ?_) (fun q => absurd c10 q)
      cases hs
      cases qv_nx_r eb5
      exact qv_dp (qv_le_n (qv_le_n (qv_le_s (qv_le_n qv_le_0)))) K1
    · have hs := qv_neg c10 hs
      refine qv_icmp_ge (tgt := 35) dX9_wrongs_9 rfl (fun q => absurd q c10) (fun _ => ?_)
      refine qv_iload_n dX9_wrongs_12 (i := 2) rfl rfl ?_
      refine qv_aload_n dX9_wrongs_13 (i := 0) rfl rfl ?_
      refine qv_iload_n dX9_wrongs_14 (i := 3) rfl rfl ?_
      refine qv_iload_n dX9_wrongs_15 (i := 1) rfl rfl ?_
      obtain ⟨u4, e11, hs⟩ := qv_bind hs
      obtain ⟨v5, e12, hs⟩ := qv_bind hs
      refine qv_cV (d2 := mX9_isRight) (o := a0) (ci := 8) (r := some (.int v5)) (h2 := h) (av := [.int x2, .int a1]) (st := [.int x1]) dX9_wrongs_16 qM_X9_205 qD_X9_isRight e11 rfl rfl ⟨by decide, by decide⟩ rfl (Nat.le_of_ble_eq_true rfl) (Nat.le_of_ble_eq_true rfl) (sX9_isRight e12) rfl ?_
      obtain ⟨m6, hj14, hs⟩ := qv_bind hs
      have K13 : qv_J l g mX9_wrongs 27 [some (.ref a0), some (.int a1), none, some (.int x2)] [.int m6, .int x1] h (some (.int r), h) := by
        refine qv_iadd dX9_wrongs_27 ?_
        refine qv_istore_n (lo2 := [some (.ref a0), some (.int a1), some (.int (x1 + m6)), some (.int x2)]) dX9_wrongs_28 (i := 2) rfl (by decide) rfl (Nat.le_of_ble_eq_true rfl) rfl ?_
        refine qv_iinc (v := x2 + (1 : Int32)) (lo2 := [some (.ref a0), some (.int a1), some (.int (x1 + m6)), some (.int (x2 + (1 : Int32)))]) dX9_wrongs_29 rfl rfl (by decide) rfl rfl ?_
        refine qv_goto (tgt := 4) dX9_wrongs_32 rfl ?_
        cases hs
        exact qv_dp (qv_le_s (qv_le_s (qv_le_s (qv_le_s qv_le_0)))) (ih4 _ _ (qv_nx_l eb5))
      replace hs := hj14
      by_cases c15 : v5 = 0
      · have hs := qv_pos c15 hs
        refine qv_if_eq (tgt := 26) dX9_wrongs_19 rfl (fun _ => ?_) (fun q => absurd c15 q)
        refine qv_iconst (v := (1 : Int32)) dX9_wrongs_26 rfl ?_
        cases hs
        exact qv_dp (qv_le_s (qv_le_s (qv_le_n (qv_le_s qv_le_0)))) K13
      · have hs := qv_neg c15 hs
        refine qv_if_eq (tgt := 26) dX9_wrongs_19 rfl (fun q => absurd q c15) (fun _ => ?_)
        refine qv_iconst (v := (0 : Int32)) dX9_wrongs_22 rfl ?_
        refine qv_goto (tgt := 27) dX9_wrongs_23 rfl ?_
        cases hs
        exact qv_dp (qv_le_s (qv_le_s (qv_le_n (qv_le_s qv_le_0)))) K13
theorem qD_X9_wrongs : qv_DV mX9_wrongs 1 := ⟨(qv_i15 (List.mem_of_getElem? (i := 30) (by decide +kernel))), (qv_i0 (List.mem_of_getElem? (i := 40) (by decide +kernel))), (qv_i1 (List.mem_of_getElem? (i := 14) (by decide +kernel))), (qv_i15 (List.mem_of_getElem? (i := 31) (by decide +kernel))), by decide +kernel, by decide +kernel⟩
/-- TrueOneWayModel.isFoundSo(II)Z -/
noncomputable def fX9_isFoundSo (a0 : Nat) (a1 : Int32) (a2 : Int32) (h : qv_H) : Option (Int32) :=
  (qv_gR h 8 a0 15).bind fun v1 =>
  (qv_aI h false v1 a1).bind fun v2 =>
  (qv_gR h 8 a0 16).bind fun v3 =>
  (qv_aI h false v3 a1).bind fun v4 =>
  Option.bind (α := Int32) (
      if ((a2 >>> (v2 &&& 31)) &&& (1 : Int32)) = v4 then
        some (1 : Int32)
      else
        some (0 : Int32)
    ) fun m5 =>
  (qv_b1 m5).bind fun v6 =>
  some m5
abbrev mX9_isFoundSo : qv_M := (yX9_isFoundSo, cX9_isFoundSo, 3, (Option.some Jvm.ClassFile.FieldType.boolean), 0, 0)
set_option maxRecDepth 100000 in
set_option maxHeartbeats 4000000 in
theorem sX9_isFoundSo {l : Launch} {g : qv_G} {a0 : Nat} {a1 : Int32} {a2 : Int32} {h : qv_H} {r : Int32} (hs : fX9_isFoundSo a0 a1 a2 h = some r) : qv_J l g mX9_isFoundSo 0 [some (.ref a0), some (.int a1), some (.int a2)] [] h (some (.int r), h) := by
  unfold fX9_isFoundSo at hs
  refine qv_iload_n dX9_isFoundSo_0 (i := 2) rfl rfl ?_
  refine qv_aload_n dX9_isFoundSo_1 (i := 0) rfl rfl ?_
  obtain ⟨v1, e1, hs⟩ := qv_bind hs
  refine qv_getR dX9_isFoundSo_2 qF_X9_41 e1 ?_
  refine qv_iload_n dX9_isFoundSo_5 (i := 1) rfl rfl ?_
  obtain ⟨v2, e2, hs⟩ := qv_bind hs
  refine qv_iald dX9_isFoundSo_6 e2 ?_
  refine qv_ishr dX9_isFoundSo_7 ?_
  refine qv_iconst (v := (1 : Int32)) dX9_isFoundSo_8 rfl ?_
  refine qv_iand dX9_isFoundSo_9 ?_
  refine qv_aload_n dX9_isFoundSo_10 (i := 0) rfl rfl ?_
  obtain ⟨v3, e3, hs⟩ := qv_bind hs
  refine qv_getR dX9_isFoundSo_11 qF_X9_44 e3 ?_
  refine qv_iload_n dX9_isFoundSo_14 (i := 1) rfl rfl ?_
  obtain ⟨v4, e4, hs⟩ := qv_bind hs
  refine qv_iald dX9_isFoundSo_15 e4 ?_
  obtain ⟨m5, hj6, hs⟩ := qv_bind hs
  have K5 : qv_J l g mX9_isFoundSo 24 [none, none, none] [.int m5] h (some (.int r), h) := by
    obtain ⟨v6, e7, hs⟩ := qv_bind hs
    obtain rfl := qv_sm hs
    exact qv_zret dX9_isFoundSo_24 rfl (qv_b1_of e7).1
  replace hs := hj6
  by_cases c8 : ((a2 >>> (v2 &&& 31)) &&& (1 : Int32)) = v4
  · have hs := qv_pos c8 hs
    refine qv_icmp_ne (tgt := 23) dX9_isFoundSo_16 rfl (fun q => absurd c8 q) (fun _ => ?_)
    refine qv_iconst (v := (1 : Int32)) dX9_isFoundSo_19 rfl ?_
    refine qv_goto (tgt := 24) dX9_isFoundSo_20 rfl ?_
    cases hs
    exact qv_dp (qv_le_n (qv_le_n (qv_le_n qv_le_0))) K5
  · have hs := qv_neg c8 hs
    refine qv_icmp_ne (tgt := 23) dX9_isFoundSo_16 rfl (fun _ => ?_) (fun q => absurd q c8)
    refine qv_iconst (v := (0 : Int32)) dX9_isFoundSo_23 rfl ?_
    cases hs
    exact qv_dp (qv_le_n (qv_le_n (qv_le_n qv_le_0))) K5
theorem qD_X9_isFoundSo : qv_DV mX9_isFoundSo 2 := ⟨(qv_i15 (List.mem_of_getElem? (i := 52) (by decide +kernel))), (qv_i0 (List.mem_of_getElem? (i := 46) (by decide +kernel))), (qv_i1 (List.mem_of_getElem? (i := 14) (by decide +kernel))), (qv_i15 (List.mem_of_getElem? (i := 53) (by decide +kernel))), by decide +kernel, by decide +kernel⟩
/-- TrueOneWayModel.areFoundSo(II)Z -/
noncomputable def fX9_areFoundSo (a0 : Nat) (a1 : Int32) (a2 : Int32) (h : qv_H) : Option (Int32) :=
  Option.bind (qv_loop (σ := Int32) (ρ := (Unit) ⊕ (Int32)) (fun x1 =>
      (qv_gI h 8 a0 17).bind fun v2 =>
      if v2 ≤ x1 then
        some (.inr (.inl ()))
      else
        if ((a1 >>> (x1 &&& 31)) &&& (1 : Int32)) = (1 : Int32) then
          (qv_ob h 8 a0).bind fun _ =>
          (fX9_isFoundSo a0 x1 a2 h).bind fun v4 =>
          if v4 = 0 then
            some (.inr (.inr (0 : Int32)))
          else
            some (.inl (x1 + (1 : Int32)))
        else
          some (.inl (x1 + (1 : Int32)))
    ) (0 : Int32)) fun q => match q with
  | .inl _ =>
    some (1 : Int32)
  | .inr q => some q
abbrev mX9_areFoundSo : qv_M := (yX9_areFoundSo, cX9_areFoundSo, 4, (Option.some Jvm.ClassFile.FieldType.boolean), 1, 22)
set_option maxRecDepth 100000 in
set_option maxHeartbeats 4000000 in
theorem sX9_areFoundSo {l : Launch} {g : qv_G} {a0 : Nat} {a1 : Int32} {a2 : Int32} {h : qv_H} {r : Int32} (hs : fX9_areFoundSo a0 a1 a2 h = some r) : qv_J l g mX9_areFoundSo 0 [some (.ref a0), some (.int a1), some (.int a2), none] [] h (some (.int r), h) := by
  unfold fX9_areFoundSo at hs
  refine qv_iconst (v := (0 : Int32)) dX9_areFoundSo_0 rfl ?_
  refine qv_istore_n (lo2 := [some (.ref a0), some (.int a1), some (.int a2), some (.int (0 : Int32))]) dX9_areFoundSo_1 (i := 3) rfl (by decide) rfl (Nat.le_of_ble_eq_true rfl) rfl ?_
  obtain ⟨q6, e2, hA3⟩ := qv_bind hs
  have K1 : ∀ (_ : Unit), q6 = .inl () → qv_J l g mX9_areFoundSo 36 [none, none, none, none] [] h (some (.int r), h) := by
    intro _ eq9
    subst eq9
    have hs := hA3
    dsimp only at hs
    refine qv_iconst (v := (1 : Int32)) dX9_areFoundSo_36 rfl ?_
    obtain rfl := qv_sm hs
    exact qv_zret dX9_areFoundSo_37 rfl (by decide)
  obtain ⟨n8, e2⟩ := qv_loop_of e2
  refine qv_dp (qv_le_s (qv_le_s (qv_le_s (qv_le_s qv_le_0)))) (?_ : qv_J l g mX9_areFoundSo 2 [some (.ref a0), some (.int a1), some (.int a2), some (.int (0 : Int32))] [] h (some (.int r), h))
  revert e2
  suffices lj7 : ∀ (x1 : Int32), qv_it _ n8 x1 = some q6 → qv_J l g mX9_areFoundSo 2 [some (.ref a0), some (.int a1), some (.int a2), some (.int x1)] [] h (some (.int r), h) from lj7 (0 : Int32)
  induction n8 with
  | zero =>
    intro x1 e2
    cases e2
  | succ n8 ih4 =>
    intro x1 e2
    obtain ⟨_, hs, eb5⟩ := qv_it_s e2
    refine qv_iload_n dX9_areFoundSo_2 (i := 3) rfl rfl ?_
    refine qv_aload_n dX9_areFoundSo_3 (i := 0) rfl rfl ?_
    obtain ⟨v2, e10, hs⟩ := qv_bind hs
    refine qv_getI dX9_areFoundSo_4 qF_X9_186 e10 ?_
    by_cases c11 : v2 ≤ x1
    · have hs := qv_pos c11 hs
      refine qv_icmp_ge (tgt := 36) dX9_areFoundSo_7 rfl (fun _ => ?_) (fun q => absurd c11 q)
      cases hs
      cases qv_nx_r eb5
      exact qv_dp (qv_le_n (qv_le_n (qv_le_n (qv_le_n qv_le_0)))) (K1 () rfl)
    · have hs := qv_neg c11 hs
      refine qv_icmp_ge (tgt := 36) dX9_areFoundSo_7 rfl (fun q => absurd q c11) (fun _ => ?_)
      refine qv_iload_n dX9_areFoundSo_10 (i := 1) rfl rfl ?_
      refine qv_iload_n dX9_areFoundSo_11 (i := 3) rfl rfl ?_
      refine qv_ishr dX9_areFoundSo_12 ?_
      refine qv_iconst (v := (1 : Int32)) dX9_areFoundSo_13 rfl ?_
      refine qv_iand dX9_areFoundSo_14 ?_
      refine qv_iconst (v := (1 : Int32)) dX9_areFoundSo_15 rfl ?_
      by_cases c12 : ((a1 >>> (x1 &&& 31)) &&& (1 : Int32)) = (1 : Int32)
      · have hs := qv_pos c12 hs
        refine qv_icmp_ne (tgt := 30) dX9_areFoundSo_16 rfl (fun q => absurd c12 q) (fun _ => ?_)
        refine qv_aload_n dX9_areFoundSo_19 (i := 0) rfl rfl ?_
        refine qv_iload_n dX9_areFoundSo_20 (i := 3) rfl rfl ?_
        refine qv_iload_n dX9_areFoundSo_21 (i := 2) rfl rfl ?_
        obtain ⟨u3, e13, hs⟩ := qv_bind hs
        obtain ⟨v4, e14, hs⟩ := qv_bind hs
        refine qv_cV (d2 := mX9_isFoundSo) (o := a0) (ci := 8) (r := some (.int v4)) (h2 := h) (av := [.int x1, .int a2]) (st := []) dX9_areFoundSo_22 qM_X9_208 qD_X9_isFoundSo e13 rfl rfl ⟨by decide, by decide⟩ rfl (Nat.le_of_ble_eq_true rfl) (Nat.le_of_ble_eq_true rfl) (sX9_isFoundSo e14) rfl ?_
        by_cases c15 : v4 = 0
        · have hs := qv_pos c15 hs
          refine qv_if_ne (tgt := 30) dX9_areFoundSo_25 rfl (fun q => absurd c15 q) (fun _ => ?_)
          refine qv_iconst (v := (0 : Int32)) dX9_areFoundSo_28 rfl ?_
          cases hs
          cases qv_nx_r eb5
          have hs := hA3
          dsimp only at hs
          obtain rfl := qv_sm hs
          exact qv_zret dX9_areFoundSo_29 rfl (by decide)
        · have hs := qv_neg c15 hs
          refine qv_if_ne (tgt := 30) dX9_areFoundSo_25 rfl (fun _ => ?_) (fun q => absurd q c15)
          refine qv_iinc (v := x1 + (1 : Int32)) (lo2 := [some (.ref a0), some (.int a1), some (.int a2), some (.int (x1 + (1 : Int32)))]) dX9_areFoundSo_30 rfl rfl (by decide) rfl rfl ?_
          refine qv_goto (tgt := 2) dX9_areFoundSo_33 rfl ?_
          cases hs
          exact qv_dp (qv_le_s (qv_le_s (qv_le_s (qv_le_s qv_le_0)))) (ih4 _ (qv_nx_l eb5))
      · have hs := qv_neg c12 hs
        refine qv_icmp_ne (tgt := 30) dX9_areFoundSo_16 rfl (fun _ => ?_) (fun q => absurd q c12)
        refine qv_iinc (v := x1 + (1 : Int32)) (lo2 := [some (.ref a0), some (.int a1), some (.int a2), some (.int (x1 + (1 : Int32)))]) dX9_areFoundSo_30 rfl rfl (by decide) rfl rfl ?_
        refine qv_goto (tgt := 2) dX9_areFoundSo_33 rfl ?_
        cases hs
        exact qv_dp (qv_le_s (qv_le_s (qv_le_s (qv_le_s qv_le_0)))) (ih4 _ (qv_nx_l eb5))
theorem qD_X9_areFoundSo : qv_DV mX9_areFoundSo 2 := ⟨(qv_i15 (List.mem_of_getElem? (i := 49) (by decide +kernel))), (qv_i0 (List.mem_of_getElem? (i := 45) (by decide +kernel))), (qv_i1 (List.mem_of_getElem? (i := 14) (by decide +kernel))), (qv_i15 (List.mem_of_getElem? (i := 50) (by decide +kernel))), by decide +kernel, by decide +kernel⟩
/-- TrueOneWayModel.allFound()I -/
noncomputable def fX9_allFound (a0 : Nat) (h : qv_H) : Option (Int32) :=
  (qv_gI h 8 a0 17).bind fun v1 =>
  some (((1 : Int32) <<< (v1 &&& 31)) - (1 : Int32))
abbrev mX9_allFound : qv_M := (yX9_allFound, cX9_allFound, 1, (Option.some Jvm.ClassFile.FieldType.int), 0, 0)
set_option maxRecDepth 100000 in
set_option maxHeartbeats 4000000 in
theorem sX9_allFound {l : Launch} {g : qv_G} {a0 : Nat} {h : qv_H} {r : Int32} (hs : fX9_allFound a0 h = some r) : qv_J l g mX9_allFound 0 [some (.ref a0)] [] h (some (.int r), h) := by
  unfold fX9_allFound at hs
  refine qv_iconst (v := (1 : Int32)) dX9_allFound_0 rfl ?_
  refine qv_aload_n dX9_allFound_1 (i := 0) rfl rfl ?_
  obtain ⟨v1, e1, hs⟩ := qv_bind hs
  refine qv_getI dX9_allFound_2 qF_X9_186 e1 ?_
  refine qv_ishl dX9_allFound_5 ?_
  refine qv_iconst (v := (1 : Int32)) dX9_allFound_6 rfl ?_
  refine qv_isub dX9_allFound_7 ?_
  obtain rfl := qv_sm hs
  exact qv_iret dX9_allFound_8 rfl
theorem qD_X9_allFound : qv_DV mX9_allFound 0 := ⟨(qv_i15 (List.mem_of_getElem? (i := 46) (by decide +kernel))), (qv_i0 (List.mem_of_getElem? (i := 44) (by decide +kernel))), (qv_i1 (List.mem_of_getElem? (i := 14) (by decide +kernel))), (qv_i15 (List.mem_of_getElem? (i := 47) (by decide +kernel))), by decide +kernel, by decide +kernel⟩
/-- TrueOneWayModel.isGood(I)Z -/
noncomputable def fX9_isGood (a0 : Nat) (a1 : Int32) (h : qv_H) : Option (Int32) :=
  (qv_ob h 8 a0).bind fun _ =>
  (fX9_isWorld a0 a1 h).bind fun v2 =>
  Option.bind (α := Int32) (
      if v2 = 0 then
        some (0 : Int32)
      else
        (qv_ob h 8 a0).bind fun _ =>
        (fX9_wrongs a0 a1 h).bind fun v4 =>
        if v4 = 0 then
          (qv_ob h 8 a0).bind fun _ =>
          (fX9_allFound a0 h).bind fun v6 =>
          (qv_ob h 8 a0).bind fun _ =>
          (fX9_areFoundSo a0 v6 a1 h).bind fun v8 =>
          if v8 = 0 then
            some (0 : Int32)
          else
            some (1 : Int32)
        else
          some (0 : Int32)
    ) fun m9 =>
  (qv_b1 m9).bind fun v10 =>
  some m9
abbrev mX9_isGood : qv_M := (yX9_isGood, cX9_isGood, 2, (Option.some Jvm.ClassFile.FieldType.boolean), 3, 69)
set_option maxRecDepth 100000 in
set_option maxHeartbeats 4000000 in
theorem sX9_isGood {l : Launch} {g : qv_G} {a0 : Nat} {a1 : Int32} {h : qv_H} {r : Int32} (hs : fX9_isGood a0 a1 h = some r) : qv_J l g mX9_isGood 0 [some (.ref a0), some (.int a1)] [] h (some (.int r), h) := by
  unfold fX9_isGood at hs
  refine qv_aload_n dX9_isGood_0 (i := 0) rfl rfl ?_
  refine qv_iload_n dX9_isGood_1 (i := 1) rfl rfl ?_
  obtain ⟨u1, e1, hs⟩ := qv_bind hs
  obtain ⟨v2, e2, hs⟩ := qv_bind hs
  refine qv_cV (d2 := mX9_isWorld) (o := a0) (ci := 8) (r := some (.int v2)) (h2 := h) (av := [.int a1]) (st := []) dX9_isGood_2 qM_X9_211 qD_X9_isWorld e1 rfl rfl ⟨by decide, by decide⟩ rfl (Nat.le_of_ble_eq_true rfl) (Nat.le_of_ble_eq_true rfl) (sX9_isWorld e2) rfl ?_
  obtain ⟨m9, hj4, hs⟩ := qv_bind hs
  have K3 : qv_J l g mX9_isGood 33 [none, none] [.int m9] h (some (.int r), h) := by
    obtain ⟨v10, e5, hs⟩ := qv_bind hs
    obtain rfl := qv_sm hs
    exact qv_zret dX9_isGood_33 rfl (qv_b1_of e5).1
  replace hs := hj4
  by_cases c6 : v2 = 0
  · have hs := qv_pos c6 hs
    refine qv_if_eq (tgt := 32) dX9_isGood_5 rfl (fun _ => ?_) (fun q => absurd c6 q)
    refine qv_iconst (v := (0 : Int32)) dX9_isGood_32 rfl ?_
    cases hs
    exact qv_dp (qv_le_n (qv_le_n qv_le_0)) K3
  · have hs := qv_neg c6 hs
    refine qv_if_eq (tgt := 32) dX9_isGood_5 rfl (fun q => absurd q c6) (fun _ => ?_)
    refine qv_aload_n dX9_isGood_8 (i := 0) rfl rfl ?_
    refine qv_iload_n dX9_isGood_9 (i := 1) rfl rfl ?_
    obtain ⟨u3, e7, hs⟩ := qv_bind hs
    obtain ⟨v4, e8, hs⟩ := qv_bind hs
    refine qv_cV (d2 := mX9_wrongs) (o := a0) (ci := 8) (r := some (.int v4)) (h2 := h) (av := [.int a1]) (st := []) dX9_isGood_10 qM_X9_214 qD_X9_wrongs e7 rfl rfl ⟨by decide, by decide⟩ rfl (Nat.le_of_ble_eq_true rfl) (Nat.le_of_ble_eq_true rfl) (sX9_wrongs e8) rfl ?_
    by_cases c9 : v4 = 0
    · have hs := qv_pos c9 hs
      refine qv_if_ne (tgt := 32) dX9_isGood_13 rfl (fun q => absurd c9 q) (fun _ => ?_)
      refine qv_aload_n dX9_isGood_16 (i := 0) rfl rfl ?_
      refine qv_aload_n dX9_isGood_17 (i := 0) rfl rfl ?_
      obtain ⟨u5, e10, hs⟩ := qv_bind hs
      obtain ⟨v6, e11, hs⟩ := qv_bind hs
      refine qv_cV (d2 := mX9_allFound) (o := a0) (ci := 8) (r := some (.int v6)) (h2 := h) (av := []) (st := [.ref a0]) dX9_isGood_18 qM_X9_217 qD_X9_allFound e10 rfl rfl ⟨by decide, by decide⟩ rfl (Nat.le_of_ble_eq_true rfl) (Nat.le_of_ble_eq_true rfl) (sX9_allFound e11) rfl ?_
      refine qv_iload_n dX9_isGood_21 (i := 1) rfl rfl ?_
      obtain ⟨u7, e12, hs⟩ := qv_bind hs
      obtain ⟨v8, e13, hs⟩ := qv_bind hs
      refine qv_cV (d2 := mX9_areFoundSo) (o := a0) (ci := 8) (r := some (.int v8)) (h2 := h) (av := [.int v6, .int a1]) (st := []) dX9_isGood_22 qM_X9_220 qD_X9_areFoundSo e12 rfl rfl ⟨by decide, by decide⟩ rfl (Nat.le_of_ble_eq_true rfl) (Nat.le_of_ble_eq_true rfl) (sX9_areFoundSo e13) rfl ?_
      by_cases c14 : v8 = 0
      · have hs := qv_pos c14 hs
        refine qv_if_eq (tgt := 32) dX9_isGood_25 rfl (fun _ => ?_) (fun q => absurd c14 q)
        refine qv_iconst (v := (0 : Int32)) dX9_isGood_32 rfl ?_
        cases hs
        exact qv_dp (qv_le_n (qv_le_n qv_le_0)) K3
      · have hs := qv_neg c14 hs
        refine qv_if_eq (tgt := 32) dX9_isGood_25 rfl (fun q => absurd q c14) (fun _ => ?_)
        refine qv_iconst (v := (1 : Int32)) dX9_isGood_28 rfl ?_
        refine qv_goto (tgt := 33) dX9_isGood_29 rfl ?_
        cases hs
        exact qv_dp (qv_le_n (qv_le_n qv_le_0)) K3
    · have hs := qv_neg c9 hs
      refine qv_if_ne (tgt := 32) dX9_isGood_13 rfl (fun _ => ?_) (fun q => absurd q c9)
      refine qv_iconst (v := (0 : Int32)) dX9_isGood_32 rfl ?_
      cases hs
      exact qv_dp (qv_le_n (qv_le_n qv_le_0)) K3
theorem qD_X9_isGood : qv_DV mX9_isGood 1 := ⟨(qv_i15 (List.mem_of_getElem? (i := 43) (by decide +kernel))), (qv_i0 (List.mem_of_getElem? (i := 43) (by decide +kernel))), (qv_i1 (List.mem_of_getElem? (i := 14) (by decide +kernel))), (qv_i15 (List.mem_of_getElem? (i := 44) (by decide +kernel))), by decide +kernel, by decide +kernel⟩
/-- TrueOneWayModel.findWorlds(I)V -/
noncomputable def fX9_findWorlds (a0 : Nat) (a1 : Int32) (h : qv_H) : Option (qv_H) :=
  (qv_pI h 8 a0 33 (0 : Int32)).bind fun h1 =>
  Option.bind (qv_loop (σ := Int32 × qv_H) (ρ := qv_H) (fun (x2, h3) =>
      if (1024 : Int32) ≤ x2 then
        some (.inr h3)
      else
        (qv_ob h3 8 a0).bind fun _ =>
        (fX9_isWorld a0 x2 h3).bind fun v5 =>
        Option.bind (α := qv_H) (
            if v5 = 0 then
              some h3
            else
              (qv_ob h3 8 a0).bind fun _ =>
              (fX9_wrongs a0 x2 h3).bind fun v7 =>
              if a1 < v7 then
                some h3
              else
                (qv_ob h3 8 a0).bind fun _ =>
                (fX9_allFound a0 h3).bind fun v9 =>
                (qv_ob h3 8 a0).bind fun _ =>
                (fX9_areFoundSo a0 v9 x2 h3).bind fun v11 =>
                if v11 = 0 then
                  some h3
                else
                  (qv_gR h3 8 a0 32).bind fun v12 =>
                  (qv_gI h3 8 a0 33).bind fun v13 =>
                  (qv_sI h3 false v12 v13 x2).bind fun h14 =>
                  (qv_gI h14 8 a0 33).bind fun v15 =>
                  (qv_pI h14 8 a0 33 (v15 + (1 : Int32))).bind fun h16 =>
                  some h16
          ) fun h17 =>
        some (.inl (x2 + (1 : Int32), h17))
    ) ((0 : Int32), h1)) fun h18 =>
  some h18
abbrev mX9_findWorlds : qv_M := (yX9_findWorlds, cX9_findWorlds, 3, (Option.none : Option Jvm.ClassFile.FieldType), 3, 69)
set_option maxRecDepth 100000 in
set_option maxHeartbeats 4000000 in
theorem sX9_findWorlds {l : Launch} {g : qv_G} {a0 : Nat} {a1 : Int32} {h : qv_H} {hz : qv_H} (hs : fX9_findWorlds a0 a1 h = some hz) : qv_J l g mX9_findWorlds 0 [some (.ref a0), some (.int a1), none] [] h (none, hz) := by
  unfold fX9_findWorlds at hs
  refine qv_aload_n dX9_findWorlds_0 (i := 0) rfl rfl ?_
  refine qv_iconst (v := (0 : Int32)) dX9_findWorlds_1 rfl ?_
  obtain ⟨h1, e1, hs⟩ := qv_bind hs
  refine qv_putI dX9_findWorlds_2 qF_X9_223 e1 ?_
  refine qv_iconst (v := (0 : Int32)) dX9_findWorlds_5 rfl ?_
  refine qv_istore_n (lo2 := [some (.ref a0), some (.int a1), some (.int (0 : Int32))]) dX9_findWorlds_6 (i := 2) rfl (by decide) rfl (Nat.le_of_ble_eq_true rfl) rfl ?_
  obtain ⟨h18, e3, hs⟩ := qv_bind hs
  have K2 : qv_J l g mX9_findWorlds 72 [none, none, none] [] h18 (none, hz) := by
    obtain rfl := qv_sm hs
    exact qv_vret dX9_findWorlds_72 rfl
  obtain ⟨n9, e3⟩ := qv_loop_of e3
  refine qv_dp (qv_le_s (qv_le_s (qv_le_s qv_le_0))) (?_ : qv_J l g mX9_findWorlds 7 [some (.ref a0), some (.int a1), some (.int (0 : Int32))] [] h1 (none, hz))
  revert e3
  suffices lj8 : ∀ (x2 : Int32) (h3 : qv_H), qv_it _ n9 (x2, h3) = some h18 → qv_J l g mX9_findWorlds 7 [some (.ref a0), some (.int a1), some (.int x2)] [] h3 (none, hz) from lj8 (0 : Int32) h1
  induction n9 with
  | zero =>
    intro x2 h3 e3
    cases e3
  | succ n9 ih5 =>
    intro x2 h3 e3
    obtain ⟨_, hs, eb6⟩ := qv_it_s e3
    dsimp only at hs
    refine qv_iload_n dX9_findWorlds_7 (i := 2) rfl rfl ?_
    refine qv_sipush (v := (1024 : Int32)) dX9_findWorlds_8 rfl ?_
    by_cases c10 : (1024 : Int32) ≤ x2
    · have hs := qv_pos c10 hs
      refine qv_icmp_ge (tgt := 72) dX9_findWorlds_11 rfl (fun _ => ?_) (fun q => absurd c10 q)
      cases hs
      cases qv_nx_r eb6
      exact qv_dp (qv_le_n (qv_le_n (qv_le_n qv_le_0))) K2
    · have hs := qv_neg c10 hs
      refine qv_icmp_ge (tgt := 72) dX9_findWorlds_11 rfl (fun q => absurd q c10) (fun _ => ?_)
      refine qv_aload_n dX9_findWorlds_14 (i := 0) rfl rfl ?_
      refine qv_iload_n dX9_findWorlds_15 (i := 2) rfl rfl ?_
      obtain ⟨u4, e11, hs⟩ := qv_bind hs
      obtain ⟨v5, e12, hs⟩ := qv_bind hs
      refine qv_cV (d2 := mX9_isWorld) (o := a0) (ci := 8) (r := some (.int v5)) (h2 := h3) (av := [.int x2]) (st := []) dX9_findWorlds_16 qM_X9_211 qD_X9_isWorld e11 rfl rfl ⟨by decide, by decide⟩ rfl (Nat.le_of_ble_eq_true rfl) (Nat.le_of_ble_eq_true rfl) (sX9_isWorld e12) rfl ?_
      obtain ⟨h17, hj14, hs⟩ := qv_bind hs
      have K13 : qv_J l g mX9_findWorlds 66 [some (.ref a0), some (.int a1), some (.int x2)] [] h17 (none, hz) := by
        refine qv_iinc (v := x2 + (1 : Int32)) (lo2 := [some (.ref a0), some (.int a1), some (.int (x2 + (1 : Int32)))]) dX9_findWorlds_66 rfl rfl (by decide) rfl rfl ?_
        refine qv_goto (tgt := 7) dX9_findWorlds_69 rfl ?_
        cases hs
        exact qv_dp (qv_le_s (qv_le_s (qv_le_s qv_le_0))) (ih5 _ _ (qv_nx_l eb6))
      replace hs := hj14
      by_cases c15 : v5 = 0
      · have hs := qv_pos c15 hs
        refine qv_if_eq (tgt := 66) dX9_findWorlds_19 rfl (fun _ => ?_) (fun q => absurd c15 q)
        cases hs
        exact qv_dp (qv_le_s (qv_le_s (qv_le_s qv_le_0))) K13
      · have hs := qv_neg c15 hs
        refine qv_if_eq (tgt := 66) dX9_findWorlds_19 rfl (fun q => absurd q c15) (fun _ => ?_)
        refine qv_aload_n dX9_findWorlds_22 (i := 0) rfl rfl ?_
        refine qv_iload_n dX9_findWorlds_23 (i := 2) rfl rfl ?_
        obtain ⟨u6, e16, hs⟩ := qv_bind hs
        obtain ⟨v7, e17, hs⟩ := qv_bind hs
        refine qv_cV (d2 := mX9_wrongs) (o := a0) (ci := 8) (r := some (.int v7)) (h2 := h3) (av := [.int x2]) (st := []) dX9_findWorlds_24 qM_X9_214 qD_X9_wrongs e16 rfl rfl ⟨by decide, by decide⟩ rfl (Nat.le_of_ble_eq_true rfl) (Nat.le_of_ble_eq_true rfl) (sX9_wrongs e17) rfl ?_
        refine qv_iload_n dX9_findWorlds_27 (i := 1) rfl rfl ?_
        by_cases c18 : a1 < v7
        · have hs := qv_pos c18 hs
          refine qv_icmp_gt (tgt := 66) dX9_findWorlds_28 rfl (fun _ => ?_) (fun q => absurd c18 q)
          cases hs
          exact qv_dp (qv_le_s (qv_le_s (qv_le_s qv_le_0))) K13
        · have hs := qv_neg c18 hs
          refine qv_icmp_gt (tgt := 66) dX9_findWorlds_28 rfl (fun q => absurd q c18) (fun _ => ?_)
          refine qv_aload_n dX9_findWorlds_31 (i := 0) rfl rfl ?_
          refine qv_aload_n dX9_findWorlds_32 (i := 0) rfl rfl ?_
          obtain ⟨u8, e19, hs⟩ := qv_bind hs
          obtain ⟨v9, e20, hs⟩ := qv_bind hs
          refine qv_cV (d2 := mX9_allFound) (o := a0) (ci := 8) (r := some (.int v9)) (h2 := h3) (av := []) (st := [.ref a0]) dX9_findWorlds_33 qM_X9_217 qD_X9_allFound e19 rfl rfl ⟨by decide, by decide⟩ rfl (Nat.le_of_ble_eq_true rfl) (Nat.le_of_ble_eq_true rfl) (sX9_allFound e20) rfl ?_
          refine qv_iload_n dX9_findWorlds_36 (i := 2) rfl rfl ?_
          obtain ⟨u10, e21, hs⟩ := qv_bind hs
          obtain ⟨v11, e22, hs⟩ := qv_bind hs
          refine qv_cV (d2 := mX9_areFoundSo) (o := a0) (ci := 8) (r := some (.int v11)) (h2 := h3) (av := [.int v9, .int x2]) (st := []) dX9_findWorlds_37 qM_X9_220 qD_X9_areFoundSo e21 rfl rfl ⟨by decide, by decide⟩ rfl (Nat.le_of_ble_eq_true rfl) (Nat.le_of_ble_eq_true rfl) (sX9_areFoundSo e22) rfl ?_
          by_cases c23 : v11 = 0
          · have hs := qv_pos c23 hs
            refine qv_if_ne (tgt := 46) dX9_findWorlds_40 rfl (fun q => absurd c23 q) (fun _ => ?_)
            refine qv_goto (tgt := 66) dX9_findWorlds_43 rfl ?_
            cases hs
            exact qv_dp (qv_le_s (qv_le_s (qv_le_s qv_le_0))) K13
          · have hs := qv_neg c23 hs
            refine qv_if_ne (tgt := 46) dX9_findWorlds_40 rfl (fun _ => ?_) (fun q => absurd q c23)
            refine qv_aload_n dX9_findWorlds_46 (i := 0) rfl rfl ?_
            obtain ⟨v12, e24, hs⟩ := qv_bind hs
            refine qv_getR dX9_findWorlds_47 qF_X9_71 e24 ?_
            refine qv_aload_n dX9_findWorlds_50 (i := 0) rfl rfl ?_
            obtain ⟨v13, e25, hs⟩ := qv_bind hs
            refine qv_getI dX9_findWorlds_51 qF_X9_223 e25 ?_
            refine qv_iload_n dX9_findWorlds_54 (i := 2) rfl rfl ?_
            obtain ⟨h14, e26, hs⟩ := qv_bind hs
            refine qv_iast dX9_findWorlds_55 e26 ?_
            refine qv_aload_n dX9_findWorlds_56 (i := 0) rfl rfl ?_
            refine qv_dup dX9_findWorlds_57 rfl ?_
            obtain ⟨v15, e27, hs⟩ := qv_bind hs
            refine qv_getI dX9_findWorlds_58 qF_X9_223 e27 ?_
            refine qv_iconst (v := (1 : Int32)) dX9_findWorlds_61 rfl ?_
            refine qv_iadd dX9_findWorlds_62 ?_
            obtain ⟨h16, e28, hs⟩ := qv_bind hs
            refine qv_putI dX9_findWorlds_63 qF_X9_223 e28 ?_
            cases hs
            exact qv_dp (qv_le_s (qv_le_s (qv_le_s qv_le_0))) K13
theorem qD_X9_findWorlds : qv_DV mX9_findWorlds 1 := ⟨(qv_i15 (List.mem_of_getElem? (i := 63) (by decide +kernel))), (qv_i0 (List.mem_of_getElem? (i := 47) (by decide +kernel))), (qv_i1 (List.mem_of_getElem? (i := 14) (by decide +kernel))), (qv_i16 (List.mem_of_getElem? (i := 0) (by decide +kernel))), by decide +kernel, by decide +kernel⟩
/-- TrueOneWayModel.inAll()I -/
noncomputable def fX9_inAll (a0 : Nat) (h : qv_H) : Option (Int32) :=
  Option.bind (qv_loop (σ := Int32 × Int32) (ρ := Int32) (fun (x1, x2) =>
      (qv_gI h 8 a0 33).bind fun v3 =>
      if v3 ≤ x2 then
        some (.inr x1)
      else
        (qv_gR h 8 a0 32).bind fun v4 =>
        (qv_aI h false v4 x2).bind fun v5 =>
        some (.inl (x1 &&& v5, x2 + (1 : Int32)))
    ) ((1023 : Int32), (0 : Int32))) fun y6 =>
  some y6
abbrev mX9_inAll : qv_M := (yX9_inAll, cX9_inAll, 3, (Option.some Jvm.ClassFile.FieldType.int), 0, 0)
set_option maxRecDepth 100000 in
set_option maxHeartbeats 4000000 in
theorem sX9_inAll {l : Launch} {g : qv_G} {a0 : Nat} {h : qv_H} {r : Int32} (hs : fX9_inAll a0 h = some r) : qv_J l g mX9_inAll 0 [some (.ref a0), none, none] [] h (some (.int r), h) := by
  unfold fX9_inAll at hs
  refine qv_sipush (v := (1023 : Int32)) dX9_inAll_0 rfl ?_
  refine qv_istore_n (lo2 := [some (.ref a0), some (.int (1023 : Int32)), none]) dX9_inAll_3 (i := 1) rfl (by decide) rfl (Nat.le_of_ble_eq_true rfl) rfl ?_
  refine qv_iconst (v := (0 : Int32)) dX9_inAll_4 rfl ?_
  refine qv_istore_n (lo2 := [some (.ref a0), some (.int (1023 : Int32)), some (.int (0 : Int32))]) dX9_inAll_5 (i := 2) rfl (by decide) rfl (Nat.le_of_ble_eq_true rfl) rfl ?_
  obtain ⟨y6, e2, hs⟩ := qv_bind hs
  have K1 : qv_J l g mX9_inAll 29 [none, some (.int y6), none] [] h (some (.int r), h) := by
    refine qv_iload_n dX9_inAll_29 (i := 1) rfl rfl ?_
    obtain rfl := qv_sm hs
    exact qv_iret dX9_inAll_30 rfl
  obtain ⟨n8, e2⟩ := qv_loop_of e2
  refine qv_dp (qv_le_s (qv_le_s (qv_le_s qv_le_0))) (?_ : qv_J l g mX9_inAll 6 [some (.ref a0), some (.int (1023 : Int32)), some (.int (0 : Int32))] [] h (some (.int r), h))
  revert e2
  suffices lj7 : ∀ (x1 : Int32) (x2 : Int32), qv_it _ n8 (x1, x2) = some y6 → qv_J l g mX9_inAll 6 [some (.ref a0), some (.int x1), some (.int x2)] [] h (some (.int r), h) from lj7 (1023 : Int32) (0 : Int32)
  induction n8 with
  | zero =>
    intro x1 x2 e2
    cases e2
  | succ n8 ih4 =>
    intro x1 x2 e2
    obtain ⟨_, hs, eb5⟩ := qv_it_s e2
    dsimp only at hs
    refine qv_iload_n dX9_inAll_6 (i := 2) rfl rfl ?_
    refine qv_aload_n dX9_inAll_7 (i := 0) rfl rfl ?_
    obtain ⟨v3, e9, hs⟩ := qv_bind hs
    refine qv_getI dX9_inAll_8 qF_X9_223 e9 ?_
    by_cases c10 : v3 ≤ x2
    · have hs := qv_pos c10 hs
      refine qv_icmp_ge (tgt := 29) dX9_inAll_11 rfl (fun _ => ?_) (fun q => absurd c10 q)
      cases hs
      cases qv_nx_r eb5
      exact qv_dp (qv_le_n (qv_le_s (qv_le_n qv_le_0))) K1
    · have hs := qv_neg c10 hs
      refine qv_icmp_ge (tgt := 29) dX9_inAll_11 rfl (fun q => absurd q c10) (fun _ => ?_)
      refine qv_iload_n dX9_inAll_14 (i := 1) rfl rfl ?_
      refine qv_aload_n dX9_inAll_15 (i := 0) rfl rfl ?_
      obtain ⟨v4, e11, hs⟩ := qv_bind hs
      refine qv_getR dX9_inAll_16 qF_X9_71 e11 ?_
      refine qv_iload_n dX9_inAll_19 (i := 2) rfl rfl ?_
      obtain ⟨v5, e12, hs⟩ := qv_bind hs
      refine qv_iald dX9_inAll_20 e12 ?_
      refine qv_iand dX9_inAll_21 ?_
      refine qv_istore_n (lo2 := [some (.ref a0), some (.int (x1 &&& v5)), some (.int x2)]) dX9_inAll_22 (i := 1) rfl (by decide) rfl (Nat.le_of_ble_eq_true rfl) rfl ?_
      refine qv_iinc (v := x2 + (1 : Int32)) (lo2 := [some (.ref a0), some (.int (x1 &&& v5)), some (.int (x2 + (1 : Int32)))]) dX9_inAll_23 rfl rfl (by decide) rfl rfl ?_
      refine qv_goto (tgt := 6) dX9_inAll_26 rfl ?_
      cases hs
      exact qv_dp (qv_le_s (qv_le_s (qv_le_s qv_le_0))) (ih4 _ _ (qv_nx_l eb5))
theorem qD_X9_inAll : qv_DV mX9_inAll 0 := ⟨(qv_i16 (List.mem_of_getElem? (i := 21) (by decide +kernel))), (qv_i0 (List.mem_of_getElem? (i := 49) (by decide +kernel))), (qv_i1 (List.mem_of_getElem? (i := 14) (by decide +kernel))), (qv_i16 (List.mem_of_getElem? (i := 22) (by decide +kernel))), by decide +kernel, by decide +kernel⟩
/-- TrueOneWayModel.inNone()I -/
noncomputable def fX9_inNone (a0 : Nat) (h : qv_H) : Option (Int32) :=
  Option.bind (qv_loop (σ := Int32 × Int32) (ρ := Int32) (fun (x1, x2) =>
      (qv_gI h 8 a0 33).bind fun v3 =>
      if v3 ≤ x2 then
        some (.inr x1)
      else
        (qv_gR h 8 a0 32).bind fun v4 =>
        (qv_aI h false v4 x2).bind fun v5 =>
        some (.inl (x1 &&& (v5 ^^^ (-1 : Int32)), x2 + (1 : Int32)))
    ) ((1023 : Int32), (0 : Int32))) fun y6 =>
  some y6
abbrev mX9_inNone : qv_M := (yX9_inNone, cX9_inNone, 3, (Option.some Jvm.ClassFile.FieldType.int), 0, 0)
set_option maxRecDepth 100000 in
set_option maxHeartbeats 4000000 in
theorem sX9_inNone {l : Launch} {g : qv_G} {a0 : Nat} {h : qv_H} {r : Int32} (hs : fX9_inNone a0 h = some r) : qv_J l g mX9_inNone 0 [some (.ref a0), none, none] [] h (some (.int r), h) := by
  unfold fX9_inNone at hs
  refine qv_sipush (v := (1023 : Int32)) dX9_inNone_0 rfl ?_
  refine qv_istore_n (lo2 := [some (.ref a0), some (.int (1023 : Int32)), none]) dX9_inNone_3 (i := 1) rfl (by decide) rfl (Nat.le_of_ble_eq_true rfl) rfl ?_
  refine qv_iconst (v := (0 : Int32)) dX9_inNone_4 rfl ?_
  refine qv_istore_n (lo2 := [some (.ref a0), some (.int (1023 : Int32)), some (.int (0 : Int32))]) dX9_inNone_5 (i := 2) rfl (by decide) rfl (Nat.le_of_ble_eq_true rfl) rfl ?_
  obtain ⟨y6, e2, hs⟩ := qv_bind hs
  have K1 : qv_J l g mX9_inNone 31 [none, some (.int y6), none] [] h (some (.int r), h) := by
    refine qv_iload_n dX9_inNone_31 (i := 1) rfl rfl ?_
    obtain rfl := qv_sm hs
    exact qv_iret dX9_inNone_32 rfl
  obtain ⟨n8, e2⟩ := qv_loop_of e2
  refine qv_dp (qv_le_s (qv_le_s (qv_le_s qv_le_0))) (?_ : qv_J l g mX9_inNone 6 [some (.ref a0), some (.int (1023 : Int32)), some (.int (0 : Int32))] [] h (some (.int r), h))
  revert e2
  suffices lj7 : ∀ (x1 : Int32) (x2 : Int32), qv_it _ n8 (x1, x2) = some y6 → qv_J l g mX9_inNone 6 [some (.ref a0), some (.int x1), some (.int x2)] [] h (some (.int r), h) from lj7 (1023 : Int32) (0 : Int32)
  induction n8 with
  | zero =>
    intro x1 x2 e2
    cases e2
  | succ n8 ih4 =>
    intro x1 x2 e2
    obtain ⟨_, hs, eb5⟩ := qv_it_s e2
    dsimp only at hs
    refine qv_iload_n dX9_inNone_6 (i := 2) rfl rfl ?_
    refine qv_aload_n dX9_inNone_7 (i := 0) rfl rfl ?_
    obtain ⟨v3, e9, hs⟩ := qv_bind hs
    refine qv_getI dX9_inNone_8 qF_X9_223 e9 ?_
    by_cases c10 : v3 ≤ x2
    · have hs := qv_pos c10 hs
      refine qv_icmp_ge (tgt := 31) dX9_inNone_11 rfl (fun _ => ?_) (fun q => absurd c10 q)
      cases hs
      cases qv_nx_r eb5
      exact qv_dp (qv_le_n (qv_le_s (qv_le_n qv_le_0))) K1
    · have hs := qv_neg c10 hs
      refine qv_icmp_ge (tgt := 31) dX9_inNone_11 rfl (fun q => absurd q c10) (fun _ => ?_)
      refine qv_iload_n dX9_inNone_14 (i := 1) rfl rfl ?_
      refine qv_aload_n dX9_inNone_15 (i := 0) rfl rfl ?_
      obtain ⟨v4, e11, hs⟩ := qv_bind hs
      refine qv_getR dX9_inNone_16 qF_X9_71 e11 ?_
      refine qv_iload_n dX9_inNone_19 (i := 2) rfl rfl ?_
      obtain ⟨v5, e12, hs⟩ := qv_bind hs
      refine qv_iald dX9_inNone_20 e12 ?_
      refine qv_iconst (v := (-1 : Int32)) dX9_inNone_21 rfl ?_
      refine qv_ixor dX9_inNone_22 ?_
      refine qv_iand dX9_inNone_23 ?_
      refine qv_istore_n (lo2 := [some (.ref a0), some (.int (x1 &&& (v5 ^^^ (-1 : Int32)))), some (.int x2)]) dX9_inNone_24 (i := 1) rfl (by decide) rfl (Nat.le_of_ble_eq_true rfl) rfl ?_
      refine qv_iinc (v := x2 + (1 : Int32)) (lo2 := [some (.ref a0), some (.int (x1 &&& (v5 ^^^ (-1 : Int32)))), some (.int (x2 + (1 : Int32)))]) dX9_inNone_25 rfl rfl (by decide) rfl rfl ?_
      refine qv_goto (tgt := 6) dX9_inNone_28 rfl ?_
      cases hs
      exact qv_dp (qv_le_s (qv_le_s (qv_le_s qv_le_0))) (ih4 _ _ (qv_nx_l eb5))
theorem qD_X9_inNone : qv_DV mX9_inNone 0 := ⟨(qv_i16 (List.mem_of_getElem? (i := 24) (by decide +kernel))), (qv_i0 (List.mem_of_getElem? (i := 50) (by decide +kernel))), (qv_i1 (List.mem_of_getElem? (i := 14) (by decide +kernel))), (qv_i16 (List.mem_of_getElem? (i := 25) (by decide +kernel))), by decide +kernel, by decide +kernel⟩
/-- TrueOneWayModel.road(II)I -/
noncomputable def fX9_road (a0 : Nat) (a1 : Int32) (a2 : Int32) (h : qv_H) : Option (Int32 × qv_H) :=
  (qv_gI h 8 a0 9).bind fun v1 =>
  (fX9_isIn a1 (0 : Int32) (v1 - (1 : Int32))).bind fun v2 =>
  if v2 = 0 then
    (qv_ob h 8 a0).bind fun _ =>
    (fX9_no a0 (-1 : Int32) h).bind fun (v20, h21) =>
    some (v20, h21)
  else
    (fX9_isIn a2 (0 : Int32) (2 : Int32)).bind fun v3 =>
    if v3 = 0 then
      (qv_ob h 8 a0).bind fun _ =>
      (fX9_no a0 (-2 : Int32) h).bind fun (v17, h18) =>
      some (v17, h18)
    else
      if (2 : Int32) ≤ a2 then
        Option.bind (qv_loop (σ := Int32 × Int32) (ρ := Int32) (fun (x4, x5) =>
            (qv_gI h 8 a0 11).bind fun v6 =>
            if v6 ≤ x5 then
              some (.inr x4)
            else
              (qv_gR h 8 a0 4).bind fun v7 =>
              (qv_aI h false v7 x5).bind fun v8 =>
              Option.bind (α := Int32) (
                  if v8 = a1 then
                    some ((1 : Int32) <<< (x5 &&& 31))
                  else
                    some (0 : Int32)
                ) fun m9 =>
              some (.inl (x4 ||| m9, x5 + (1 : Int32)))
          ) ((0 : Int32), (0 : Int32))) fun y10 =>
        some (y10, h)
      else
        Option.bind (α := Int32) (
            if a2 = 0 then
              (qv_gR h 8 a0 1).bind fun v13 =>
              (qv_aI h false v13 a1).bind fun v14 =>
              some v14
            else
              (qv_gR h 8 a0 2).bind fun v11 =>
              (qv_aI h false v11 a1).bind fun v12 =>
              some v12
          ) fun m15 =>
        some (m15, h)
abbrev mX9_road : qv_M := (yX9_road, cX9_road, 5, (Option.some Jvm.ClassFile.FieldType.int), 1, 22)
set_option maxRecDepth 100000 in
set_option maxHeartbeats 4000000 in
theorem sX9_road {l : Launch} {g : qv_G} {a0 : Nat} {a1 : Int32} {a2 : Int32} {h : qv_H} {r : Int32} {hz : qv_H} (hs : fX9_road a0 a1 a2 h = some (r, hz)) : qv_J l g mX9_road 0 [some (.ref a0), some (.int a1), some (.int a2), none, none] [] h (some (.int r), hz) := by
  unfold fX9_road at hs
  refine qv_iload_n dX9_road_0 (i := 1) rfl rfl ?_
  refine qv_iconst (v := (0 : Int32)) dX9_road_1 rfl ?_
  refine qv_aload_n dX9_road_2 (i := 0) rfl rfl ?_
  obtain ⟨v1, e1, hs⟩ := qv_bind hs
  refine qv_getI dX9_road_3 qF_X9_137 e1 ?_
  refine qv_iconst (v := (1 : Int32)) dX9_road_6 rfl ?_
  refine qv_isub dX9_road_7 ?_
  obtain ⟨v2, e2, hs⟩ := qv_bind hs
  refine qv_cS (d2 := mX9_isIn) (r := some (.int v2)) (h2 := h) (av := [.int a1, .int (0 : Int32), .int (v1 - (1 : Int32))]) (st := []) dX9_road_8 qM_X9_113 qD_X9_isIn rfl ⟨by decide, by decide⟩ rfl (Nat.le_of_ble_eq_true rfl) (Nat.le_of_ble_eq_true rfl) (sX9_isIn e2) rfl ?_
  by_cases c3 : v2 = 0
  · have hs := qv_pos c3 hs
    refine qv_if_ne (tgt := 20) dX9_road_11 rfl (fun q => absurd c3 q) (fun _ => ?_)
    refine qv_aload_n dX9_road_14 (i := 0) rfl rfl ?_
    refine qv_iconst (v := (-1 : Int32)) dX9_road_15 rfl ?_
    obtain ⟨u19, e4, hs⟩ := qv_bind hs
    obtain ⟨⟨v20, h21⟩, e5, hs⟩ := qv_bind hs
    dsimp only at hs
    refine qv_cV (d2 := mX9_no) (o := a0) (ci := 8) (r := some (.int v20)) (h2 := h21) (av := [.int (-1 : Int32)]) (st := []) dX9_road_16 qM_X9_102 qD_X9_no e4 rfl rfl ⟨by decide, by decide⟩ rfl (Nat.le_of_ble_eq_true rfl) (Nat.le_of_ble_eq_true rfl) (sX9_no e5) rfl ?_
    obtain ⟨rfl, rfl⟩ := qv_pr hs
    exact qv_iret dX9_road_19 rfl
  · have hs := qv_neg c3 hs
    refine qv_if_ne (tgt := 20) dX9_road_11 rfl (fun _ => ?_) (fun q => absurd q c3)
    refine qv_iload_n dX9_road_20 (i := 2) rfl rfl ?_
    refine qv_iconst (v := (0 : Int32)) dX9_road_21 rfl ?_
    refine qv_iconst (v := (2 : Int32)) dX9_road_22 rfl ?_
    obtain ⟨v3, e6, hs⟩ := qv_bind hs
    refine qv_cS (d2 := mX9_isIn) (r := some (.int v3)) (h2 := h) (av := [.int a2, .int (0 : Int32), .int (2 : Int32)]) (st := []) dX9_road_23 qM_X9_113 qD_X9_isIn rfl ⟨by decide, by decide⟩ rfl (Nat.le_of_ble_eq_true rfl) (Nat.le_of_ble_eq_true rfl) (sX9_isIn e6) rfl ?_
    by_cases c7 : v3 = 0
    · have hs := qv_pos c7 hs
      refine qv_if_ne (tgt := 36) dX9_road_26 rfl (fun q => absurd c7 q) (fun _ => ?_)
      refine qv_aload_n dX9_road_29 (i := 0) rfl rfl ?_
      refine qv_bipush (v := (-2 : Int32)) dX9_road_30 rfl ?_
      obtain ⟨u16, e8, hs⟩ := qv_bind hs
      obtain ⟨⟨v17, h18⟩, e9, hs⟩ := qv_bind hs
      dsimp only at hs
      refine qv_cV (d2 := mX9_no) (o := a0) (ci := 8) (r := some (.int v17)) (h2 := h18) (av := [.int (-2 : Int32)]) (st := []) dX9_road_32 qM_X9_102 qD_X9_no e8 rfl rfl ⟨by decide, by decide⟩ rfl (Nat.le_of_ble_eq_true rfl) (Nat.le_of_ble_eq_true rfl) (sX9_no e9) rfl ?_
      obtain ⟨rfl, rfl⟩ := qv_pr hs
      exact qv_iret dX9_road_35 rfl
    · have hs := qv_neg c7 hs
      refine qv_if_ne (tgt := 36) dX9_road_26 rfl (fun _ => ?_) (fun q => absurd q c7)
      refine qv_iload_n dX9_road_36 (i := 2) rfl rfl ?_
      refine qv_iconst (v := (2 : Int32)) dX9_road_37 rfl ?_
      by_cases c10 : (2 : Int32) ≤ a2
      · have hs := qv_pos c10 hs
        refine qv_icmp_ge (tgt := 61) dX9_road_38 rfl (fun _ => ?_) (fun q => absurd c10 q)
        refine qv_iconst (v := (0 : Int32)) dX9_road_61 rfl ?_
        refine qv_istore_n (lo2 := [some (.ref a0), some (.int a1), some (.int a2), some (.int (0 : Int32)), none]) dX9_road_62 (i := 3) rfl (by decide) rfl (Nat.le_of_ble_eq_true rfl) rfl ?_
        refine qv_iconst (v := (0 : Int32)) dX9_road_63 rfl ?_
        refine qv_istore (lo2 := [some (.ref a0), some (.int a1), some (.int a2), some (.int (0 : Int32)), some (.int (0 : Int32))]) dX9_road_64 (by decide) rfl (Nat.le_of_ble_eq_true rfl) rfl ?_
        obtain ⟨y10, e12, hs⟩ := qv_bind hs
        have K11 : qv_J l g mX9_road 103 [none, none, none, some (.int y10), none] [] h (some (.int r), hz) := by
          refine qv_iload_n dX9_road_103 (i := 3) rfl rfl ?_
          obtain ⟨rfl, rfl⟩ := qv_pr hs
          exact qv_iret dX9_road_104 rfl
        obtain ⟨n18, e12⟩ := qv_loop_of e12
        refine qv_dp (qv_le_s (qv_le_s (qv_le_n (qv_le_s (qv_le_s qv_le_0))))) (?_ : qv_J l g mX9_road 66 [some (.ref a0), some (.int a1), none, some (.int (0 : Int32)), some (.int (0 : Int32))] [] h (some (.int r), hz))
        revert e12
        suffices lj17 : ∀ (x4 : Int32) (x5 : Int32), qv_it _ n18 (x4, x5) = some y10 → qv_J l g mX9_road 66 [some (.ref a0), some (.int a1), none, some (.int x4), some (.int x5)] [] h (some (.int r), hz) from lj17 (0 : Int32) (0 : Int32)
        induction n18 with
        | zero =>
          intro x4 x5 e12
          cases e12
        | succ n18 ih14 =>
          intro x4 x5 e12
          obtain ⟨_, hs, eb15⟩ := qv_it_s e12
          dsimp only at hs
          refine qv_iload dX9_road_66 rfl ?_
          refine qv_aload_n dX9_road_68 (i := 0) rfl rfl ?_
          obtain ⟨v6, e19, hs⟩ := qv_bind hs
          refine qv_getI dX9_road_69 qF_X9_92 e19 ?_
          by_cases c20 : v6 ≤ x5
          · have hs := qv_pos c20 hs
            refine qv_icmp_ge (tgt := 103) dX9_road_72 rfl (fun _ => ?_) (fun q => absurd c20 q)
            cases hs
            cases qv_nx_r eb15
            exact qv_dp (qv_le_n (qv_le_n (qv_le_n (qv_le_s (qv_le_n qv_le_0))))) K11
          · have hs := qv_neg c20 hs
            refine qv_icmp_ge (tgt := 103) dX9_road_72 rfl (fun q => absurd q c20) (fun _ => ?_)
            refine qv_iload_n dX9_road_75 (i := 3) rfl rfl ?_
            refine qv_aload_n dX9_road_76 (i := 0) rfl rfl ?_
            obtain ⟨v7, e21, hs⟩ := qv_bind hs
            refine qv_getR dX9_road_77 qF_X9_22 e21 ?_
            refine qv_iload dX9_road_80 rfl ?_
            obtain ⟨v8, e22, hs⟩ := qv_bind hs
            refine qv_iald dX9_road_82 e22 ?_
            refine qv_iload_n dX9_road_83 (i := 1) rfl rfl ?_
            obtain ⟨m9, hj24, hs⟩ := qv_bind hs
            have K23 : qv_J l g mX9_road 95 [some (.ref a0), some (.int a1), none, none, some (.int x5)] [.int m9, .int x4] h (some (.int r), hz) := by
              refine qv_ior dX9_road_95 ?_
              refine qv_istore_n (lo2 := [some (.ref a0), some (.int a1), none, some (.int (x4 ||| m9)), some (.int x5)]) dX9_road_96 (i := 3) rfl (by decide) rfl (Nat.le_of_ble_eq_true rfl) rfl ?_
              refine qv_iinc (v := x5 + (1 : Int32)) (lo2 := [some (.ref a0), some (.int a1), none, some (.int (x4 ||| m9)), some (.int (x5 + (1 : Int32)))]) dX9_road_97 rfl rfl (by decide) rfl rfl ?_
              refine qv_goto (tgt := 66) dX9_road_100 rfl ?_
              cases hs
              exact qv_dp (qv_le_s (qv_le_s (qv_le_n (qv_le_s (qv_le_s qv_le_0))))) (ih14 _ _ (qv_nx_l eb15))
            replace hs := hj24
            by_cases c25 : v8 = a1
            · have hs := qv_pos c25 hs
              refine qv_icmp_ne (tgt := 94) dX9_road_84 rfl (fun q => absurd c25 q) (fun _ => ?_)
              refine qv_iconst (v := (1 : Int32)) dX9_road_87 rfl ?_
              refine qv_iload dX9_road_88 rfl ?_
              refine qv_ishl dX9_road_90 ?_
              refine qv_goto (tgt := 95) dX9_road_91 rfl ?_
              cases hs
              exact qv_dp (qv_le_s (qv_le_s (qv_le_n (qv_le_n (qv_le_s qv_le_0))))) K23
            · have hs := qv_neg c25 hs
              refine qv_icmp_ne (tgt := 94) dX9_road_84 rfl (fun _ => ?_) (fun q => absurd q c25)
              refine qv_iconst (v := (0 : Int32)) dX9_road_94 rfl ?_
              cases hs
              exact qv_dp (qv_le_s (qv_le_s (qv_le_n (qv_le_n (qv_le_s qv_le_0))))) K23
      · have hs := qv_neg c10 hs
        refine qv_icmp_ge (tgt := 61) dX9_road_38 rfl (fun q => absurd q c10) (fun _ => ?_)
        refine qv_iload_n dX9_road_41 (i := 2) rfl rfl ?_
        obtain ⟨m15, hj27, hs⟩ := qv_bind hs
        have K26 : qv_J l g mX9_road 60 [none, none, none, none, none] [.int m15] h (some (.int r), hz) := by
          obtain ⟨rfl, rfl⟩ := qv_pr hs
          exact qv_iret dX9_road_60 rfl
        replace hs := hj27
        by_cases c28 : a2 = 0
        · have hs := qv_pos c28 hs
          refine qv_if_ne (tgt := 54) dX9_road_42 rfl (fun q => absurd c28 q) (fun _ => ?_)
          refine qv_aload_n dX9_road_45 (i := 0) rfl rfl ?_
          obtain ⟨v13, e29, hs⟩ := qv_bind hs
          refine qv_getR dX9_road_46 qF_X9_13 e29 ?_
          refine qv_iload_n dX9_road_49 (i := 1) rfl rfl ?_
          obtain ⟨v14, e30, hs⟩ := qv_bind hs
          refine qv_iald dX9_road_50 e30 ?_
          refine qv_goto (tgt := 60) dX9_road_51 rfl ?_
          cases hs
          exact qv_dp (qv_le_n (qv_le_n (qv_le_n (qv_le_n (qv_le_n qv_le_0))))) K26
        · have hs := qv_neg c28 hs
          refine qv_if_ne (tgt := 54) dX9_road_42 rfl (fun _ => ?_) (fun q => absurd q c28)
          refine qv_aload_n dX9_road_54 (i := 0) rfl rfl ?_
          obtain ⟨v11, e31, hs⟩ := qv_bind hs
          refine qv_getR dX9_road_55 qF_X9_16 e31 ?_
          refine qv_iload_n dX9_road_58 (i := 1) rfl rfl ?_
          obtain ⟨v12, e32, hs⟩ := qv_bind hs
          refine qv_iald dX9_road_59 e32 ?_
          cases hs
          exact qv_dp (qv_le_n (qv_le_n (qv_le_n (qv_le_n (qv_le_n qv_le_0))))) K26
theorem qD_X9_road : qv_DV mX9_road 2 := ⟨(qv_i15 (List.mem_of_getElem? (i := 2) (by decide +kernel))), (qv_i15 (List.mem_of_getElem? (i := 3) (by decide +kernel))), (qv_i1 (List.mem_of_getElem? (i := 14) (by decide +kernel))), (qv_i15 (List.mem_of_getElem? (i := 4) (by decide +kernel))), by decide +kernel, by decide +kernel⟩
/-- TrueOneWayModel.sign(II)I -/
noncomputable def fX9_sign (a0 : Nat) (a1 : Int32) (a2 : Int32) (h : qv_H) : Option (Int32 × qv_H) :=
  (qv_ob h 8 a0).bind fun _ =>
  (fX9_isSign a0 a1 h).bind fun v2 =>
  if v2 = 0 then
    (qv_ob h 8 a0).bind fun _ =>
    (fX9_no a0 (-1 : Int32) h).bind fun (v17, h18) =>
    some (v17, h18)
  else
    (fX9_isIn a2 (0 : Int32) (3 : Int32)).bind fun v3 =>
    if v3 = 0 then
      (qv_ob h 8 a0).bind fun _ =>
      (fX9_no a0 (-2 : Int32) h).bind fun (v14, h15) =>
      some (v14, h15)
    else
      Option.bind (α := Int32) (
          if a2 = 0 then
            (qv_gR h 8 a0 3).bind fun v10 =>
            (qv_aI h false v10 a1).bind fun v11 =>
            some v11
          else
            if a2 = (1 : Int32) then
              (qv_gR h 8 a0 4).bind fun v8 =>
              (qv_aI h false v8 a1).bind fun v9 =>
              some v9
            else
              if a2 = (2 : Int32) then
                (qv_gR h 8 a0 5).bind fun v6 =>
                (qv_aI h false v6 a1).bind fun v7 =>
                some v7
              else
                (qv_gR h 8 a0 6).bind fun v4 =>
                (qv_aI h false v4 a1).bind fun v5 =>
                some v5
        ) fun m12 =>
      some (m12, h)
abbrev mX9_sign : qv_M := (yX9_sign, cX9_sign, 3, (Option.some Jvm.ClassFile.FieldType.int), 1, 22)
set_option maxRecDepth 100000 in
set_option maxHeartbeats 4000000 in
theorem sX9_sign {l : Launch} {g : qv_G} {a0 : Nat} {a1 : Int32} {a2 : Int32} {h : qv_H} {r : Int32} {hz : qv_H} (hs : fX9_sign a0 a1 a2 h = some (r, hz)) : qv_J l g mX9_sign 0 [some (.ref a0), some (.int a1), some (.int a2)] [] h (some (.int r), hz) := by
  unfold fX9_sign at hs
  refine qv_aload_n dX9_sign_0 (i := 0) rfl rfl ?_
  refine qv_iload_n dX9_sign_1 (i := 1) rfl rfl ?_
  obtain ⟨u1, e1, hs⟩ := qv_bind hs
  obtain ⟨v2, e2, hs⟩ := qv_bind hs
  refine qv_cV (d2 := mX9_isSign) (o := a0) (ci := 8) (r := some (.int v2)) (h2 := h) (av := [.int a1]) (st := []) dX9_sign_2 qM_X9_226 qD_X9_isSign e1 rfl rfl ⟨by decide, by decide⟩ rfl (Nat.le_of_ble_eq_true rfl) (Nat.le_of_ble_eq_true rfl) (sX9_isSign e2) rfl ?_
  by_cases c3 : v2 = 0
  · have hs := qv_pos c3 hs
    refine qv_if_ne (tgt := 14) dX9_sign_5 rfl (fun q => absurd c3 q) (fun _ => ?_)
    refine qv_aload_n dX9_sign_8 (i := 0) rfl rfl ?_
    refine qv_iconst (v := (-1 : Int32)) dX9_sign_9 rfl ?_
    obtain ⟨u16, e4, hs⟩ := qv_bind hs
    obtain ⟨⟨v17, h18⟩, e5, hs⟩ := qv_bind hs
    dsimp only at hs
    refine qv_cV (d2 := mX9_no) (o := a0) (ci := 8) (r := some (.int v17)) (h2 := h18) (av := [.int (-1 : Int32)]) (st := []) dX9_sign_10 qM_X9_102 qD_X9_no e4 rfl rfl ⟨by decide, by decide⟩ rfl (Nat.le_of_ble_eq_true rfl) (Nat.le_of_ble_eq_true rfl) (sX9_no e5) rfl ?_
    obtain ⟨rfl, rfl⟩ := qv_pr hs
    exact qv_iret dX9_sign_13 rfl
  · have hs := qv_neg c3 hs
    refine qv_if_ne (tgt := 14) dX9_sign_5 rfl (fun _ => ?_) (fun q => absurd q c3)
    refine qv_iload_n dX9_sign_14 (i := 2) rfl rfl ?_
    refine qv_iconst (v := (0 : Int32)) dX9_sign_15 rfl ?_
    refine qv_iconst (v := (3 : Int32)) dX9_sign_16 rfl ?_
    obtain ⟨v3, e6, hs⟩ := qv_bind hs
    refine qv_cS (d2 := mX9_isIn) (r := some (.int v3)) (h2 := h) (av := [.int a2, .int (0 : Int32), .int (3 : Int32)]) (st := []) dX9_sign_17 qM_X9_113 qD_X9_isIn rfl ⟨by decide, by decide⟩ rfl (Nat.le_of_ble_eq_true rfl) (Nat.le_of_ble_eq_true rfl) (sX9_isIn e6) rfl ?_
    by_cases c7 : v3 = 0
    · have hs := qv_pos c7 hs
      refine qv_if_ne (tgt := 30) dX9_sign_20 rfl (fun q => absurd c7 q) (fun _ => ?_)
      refine qv_aload_n dX9_sign_23 (i := 0) rfl rfl ?_
      refine qv_bipush (v := (-2 : Int32)) dX9_sign_24 rfl ?_
      obtain ⟨u13, e8, hs⟩ := qv_bind hs
      obtain ⟨⟨v14, h15⟩, e9, hs⟩ := qv_bind hs
      dsimp only at hs
      refine qv_cV (d2 := mX9_no) (o := a0) (ci := 8) (r := some (.int v14)) (h2 := h15) (av := [.int (-2 : Int32)]) (st := []) dX9_sign_26 qM_X9_102 qD_X9_no e8 rfl rfl ⟨by decide, by decide⟩ rfl (Nat.le_of_ble_eq_true rfl) (Nat.le_of_ble_eq_true rfl) (sX9_no e9) rfl ?_
      obtain ⟨rfl, rfl⟩ := qv_pr hs
      exact qv_iret dX9_sign_29 rfl
    · have hs := qv_neg c7 hs
      refine qv_if_ne (tgt := 30) dX9_sign_20 rfl (fun _ => ?_) (fun q => absurd q c7)
      refine qv_iload_n dX9_sign_30 (i := 2) rfl rfl ?_
      obtain ⟨m12, hj11, hs⟩ := qv_bind hs
      have K10 : qv_J l g mX9_sign 77 [none, none, none] [.int m12] h (some (.int r), hz) := by
        obtain ⟨rfl, rfl⟩ := qv_pr hs
        exact qv_iret dX9_sign_77 rfl
      replace hs := hj11
      by_cases c12 : a2 = 0
      · have hs := qv_pos c12 hs
        refine qv_if_ne (tgt := 43) dX9_sign_31 rfl (fun q => absurd c12 q) (fun _ => ?_)
        refine qv_aload_n dX9_sign_34 (i := 0) rfl rfl ?_
        obtain ⟨v10, e13, hs⟩ := qv_bind hs
        refine qv_getR dX9_sign_35 qF_X9_19 e13 ?_
        refine qv_iload_n dX9_sign_38 (i := 1) rfl rfl ?_
        obtain ⟨v11, e14, hs⟩ := qv_bind hs
        refine qv_iald dX9_sign_39 e14 ?_
        refine qv_goto (tgt := 77) dX9_sign_40 rfl ?_
        cases hs
        exact qv_dp (qv_le_n (qv_le_n (qv_le_n qv_le_0))) K10
      · have hs := qv_neg c12 hs
        refine qv_if_ne (tgt := 43) dX9_sign_31 rfl (fun _ => ?_) (fun q => absurd q c12)
        refine qv_iload_n dX9_sign_43 (i := 2) rfl rfl ?_
        refine qv_iconst (v := (1 : Int32)) dX9_sign_44 rfl ?_
        by_cases c15 : a2 = (1 : Int32)
        · have hs := qv_pos c15 hs
          refine qv_icmp_ne (tgt := 57) dX9_sign_45 rfl (fun q => absurd c15 q) (fun _ => ?_)
          refine qv_aload_n dX9_sign_48 (i := 0) rfl rfl ?_
          obtain ⟨v8, e16, hs⟩ := qv_bind hs
          refine qv_getR dX9_sign_49 qF_X9_22 e16 ?_
          refine qv_iload_n dX9_sign_52 (i := 1) rfl rfl ?_
          obtain ⟨v9, e17, hs⟩ := qv_bind hs
          refine qv_iald dX9_sign_53 e17 ?_
          refine qv_goto (tgt := 77) dX9_sign_54 rfl ?_
          cases hs
          exact qv_dp (qv_le_n (qv_le_n (qv_le_n qv_le_0))) K10
        · have hs := qv_neg c15 hs
          refine qv_icmp_ne (tgt := 57) dX9_sign_45 rfl (fun _ => ?_) (fun q => absurd q c15)
          refine qv_iload_n dX9_sign_57 (i := 2) rfl rfl ?_
          refine qv_iconst (v := (2 : Int32)) dX9_sign_58 rfl ?_
          by_cases c18 : a2 = (2 : Int32)
          · have hs := qv_pos c18 hs
            refine qv_icmp_ne (tgt := 71) dX9_sign_59 rfl (fun q => absurd c18 q) (fun _ => ?_)
            refine qv_aload_n dX9_sign_62 (i := 0) rfl rfl ?_
            obtain ⟨v6, e19, hs⟩ := qv_bind hs
            refine qv_getR dX9_sign_63 qF_X9_25 e19 ?_
            refine qv_iload_n dX9_sign_66 (i := 1) rfl rfl ?_
            obtain ⟨v7, e20, hs⟩ := qv_bind hs
            refine qv_iald dX9_sign_67 e20 ?_
            refine qv_goto (tgt := 77) dX9_sign_68 rfl ?_
            cases hs
            exact qv_dp (qv_le_n (qv_le_n (qv_le_n qv_le_0))) K10
          · have hs := qv_neg c18 hs
            refine qv_icmp_ne (tgt := 71) dX9_sign_59 rfl (fun _ => ?_) (fun q => absurd q c18)
            refine qv_aload_n dX9_sign_71 (i := 0) rfl rfl ?_
            obtain ⟨v4, e21, hs⟩ := qv_bind hs
            refine qv_getR dX9_sign_72 qF_X9_28 e21 ?_
            refine qv_iload_n dX9_sign_75 (i := 1) rfl rfl ?_
            obtain ⟨v5, e22, hs⟩ := qv_bind hs
            refine qv_iald dX9_sign_76 e22 ?_
            cases hs
            exact qv_dp (qv_le_n (qv_le_n (qv_le_n qv_le_0))) K10
theorem qD_X9_sign : qv_DV mX9_sign 2 := ⟨(qv_i15 (List.mem_of_getElem? (i := 6) (by decide +kernel))), (qv_i15 (List.mem_of_getElem? (i := 7) (by decide +kernel))), (qv_i1 (List.mem_of_getElem? (i := 14) (by decide +kernel))), (qv_i15 (List.mem_of_getElem? (i := 8) (by decide +kernel))), by decide +kernel, by decide +kernel⟩
/-- TrueOneWayModel.shown(I)I -/
noncomputable def fX9_shown (a0 : Nat) (a1 : Int32) (h : qv_H) : Option (Int32 × qv_H) :=
  (qv_ob h 8 a0).bind fun _ =>
  (fX9_isPlace a0 a1 h).bind fun v2 =>
  Option.bind (α := Int32 × qv_H) (
      if v2 = 0 then
        (qv_ob h 8 a0).bind fun _ =>
        (fX9_no a0 (-1 : Int32) h).bind fun (v4, h5) =>
        some (v4, h5)
      else
        (qv_gR h 8 a0 7).bind fun v6 =>
        (qv_aI h false v6 a1).bind fun v7 =>
        some (v7, h)
    ) fun (m8, h9) =>
  some (m8, h9)
abbrev mX9_shown : qv_M := (yX9_shown, cX9_shown, 2, (Option.some Jvm.ClassFile.FieldType.int), 1, 21)
set_option maxRecDepth 100000 in
set_option maxHeartbeats 4000000 in
theorem sX9_shown {l : Launch} {g : qv_G} {a0 : Nat} {a1 : Int32} {h : qv_H} {r : Int32} {hz : qv_H} (hs : fX9_shown a0 a1 h = some (r, hz)) : qv_J l g mX9_shown 0 [some (.ref a0), some (.int a1)] [] h (some (.int r), hz) := by
  unfold fX9_shown at hs
  refine qv_aload_n dX9_shown_0 (i := 0) rfl rfl ?_
  refine qv_iload_n dX9_shown_1 (i := 1) rfl rfl ?_
  obtain ⟨u1, e1, hs⟩ := qv_bind hs
  obtain ⟨v2, e2, hs⟩ := qv_bind hs
  refine qv_cV (d2 := mX9_isPlace) (o := a0) (ci := 8) (r := some (.int v2)) (h2 := h) (av := [.int a1]) (st := []) dX9_shown_2 qM_X9_155 qD_X9_isPlace e1 rfl rfl ⟨by decide, by decide⟩ rfl (Nat.le_of_ble_eq_true rfl) (Nat.le_of_ble_eq_true rfl) (sX9_isPlace e2) rfl ?_
  obtain ⟨⟨m8, h9⟩, hj4, hs⟩ := qv_bind hs
  dsimp only at hs
  have K3 : qv_J l g mX9_shown 22 [none, none] [.int m8] h9 (some (.int r), hz) := by
    obtain ⟨rfl, rfl⟩ := qv_pr hs
    exact qv_iret dX9_shown_22 rfl
  replace hs := hj4
  by_cases c5 : v2 = 0
  · have hs := qv_pos c5 hs
    refine qv_if_eq (tgt := 17) dX9_shown_5 rfl (fun _ => ?_) (fun q => absurd c5 q)
    refine qv_aload_n dX9_shown_17 (i := 0) rfl rfl ?_
    refine qv_iconst (v := (-1 : Int32)) dX9_shown_18 rfl ?_
    obtain ⟨u3, e6, hs⟩ := qv_bind hs
    obtain ⟨⟨v4, h5⟩, e7, hs⟩ := qv_bind hs
    dsimp only at hs
    refine qv_cV (d2 := mX9_no) (o := a0) (ci := 8) (r := some (.int v4)) (h2 := h5) (av := [.int (-1 : Int32)]) (st := []) dX9_shown_19 qM_X9_102 qD_X9_no e6 rfl rfl ⟨by decide, by decide⟩ rfl (Nat.le_of_ble_eq_true rfl) (Nat.le_of_ble_eq_true rfl) (sX9_no e7) rfl ?_
    cases hs
    exact qv_dp (qv_le_n (qv_le_n qv_le_0)) K3
  · have hs := qv_neg c5 hs
    refine qv_if_eq (tgt := 17) dX9_shown_5 rfl (fun q => absurd q c5) (fun _ => ?_)
    refine qv_aload_n dX9_shown_8 (i := 0) rfl rfl ?_
    obtain ⟨v6, e8, hs⟩ := qv_bind hs
    refine qv_getR dX9_shown_9 qF_X9_31 e8 ?_
    refine qv_iload_n dX9_shown_12 (i := 1) rfl rfl ?_
    obtain ⟨v7, e9, hs⟩ := qv_bind hs
    refine qv_iald dX9_shown_13 e9 ?_
    refine qv_goto (tgt := 22) dX9_shown_14 rfl ?_
    cases hs
    exact qv_dp (qv_le_n (qv_le_n qv_le_0)) K3
theorem qD_X9_shown : qv_DV mX9_shown 1 := ⟨(qv_i15 (List.mem_of_getElem? (i := 13) (by decide +kernel))), (qv_i15 (List.mem_of_getElem? (i := 14) (by decide +kernel))), (qv_i1 (List.mem_of_getElem? (i := 14) (by decide +kernel))), (qv_i15 (List.mem_of_getElem? (i := 15) (by decide +kernel))), by decide +kernel, by decide +kernel⟩
/-- TrueOneWayModel.fits(I)I -/
noncomputable def fX9_fits (a0 : Nat) (a1 : Int32) (h : qv_H) : Option (Int32 × qv_H) :=
  (qv_ob h 8 a0).bind fun _ =>
  (fX9_isWorld a0 a1 h).bind fun v2 =>
  Option.bind (α := Int32 × qv_H) (
      if v2 = 0 then
        (qv_ob h 8 a0).bind fun _ =>
        (fX9_no a0 (-1 : Int32) h).bind fun (v6, h7) =>
        some (v6, h7)
      else
        (qv_ob h 8 a0).bind fun _ =>
        (fX9_wrongs a0 a1 h).bind fun v4 =>
        if v4 = 0 then
          some ((1 : Int32), h)
        else
          some ((0 : Int32), h)
    ) fun (m8, h9) =>
  some (m8, h9)
abbrev mX9_fits : qv_M := (yX9_fits, cX9_fits, 2, (Option.some Jvm.ClassFile.FieldType.int), 3, 69)
set_option maxRecDepth 100000 in
set_option maxHeartbeats 4000000 in
theorem sX9_fits {l : Launch} {g : qv_G} {a0 : Nat} {a1 : Int32} {h : qv_H} {r : Int32} {hz : qv_H} (hs : fX9_fits a0 a1 h = some (r, hz)) : qv_J l g mX9_fits 0 [some (.ref a0), some (.int a1)] [] h (some (.int r), hz) := by
  unfold fX9_fits at hs
  refine qv_aload_n dX9_fits_0 (i := 0) rfl rfl ?_
  refine qv_iload_n dX9_fits_1 (i := 1) rfl rfl ?_
  obtain ⟨u1, e1, hs⟩ := qv_bind hs
  obtain ⟨v2, e2, hs⟩ := qv_bind hs
  refine qv_cV (d2 := mX9_isWorld) (o := a0) (ci := 8) (r := some (.int v2)) (h2 := h) (av := [.int a1]) (st := []) dX9_fits_2 qM_X9_211 qD_X9_isWorld e1 rfl rfl ⟨by decide, by decide⟩ rfl (Nat.le_of_ble_eq_true rfl) (Nat.le_of_ble_eq_true rfl) (sX9_isWorld e2) rfl ?_
  obtain ⟨⟨m8, h9⟩, hj4, hs⟩ := qv_bind hs
  dsimp only at hs
  have K3 : qv_J l g mX9_fits 29 [none, none] [.int m8] h9 (some (.int r), hz) := by
    obtain ⟨rfl, rfl⟩ := qv_pr hs
    exact qv_iret dX9_fits_29 rfl
  replace hs := hj4
  by_cases c5 : v2 = 0
  · have hs := qv_pos c5 hs
    refine qv_if_ne (tgt := 16) dX9_fits_5 rfl (fun q => absurd c5 q) (fun _ => ?_)
    refine qv_aload_n dX9_fits_8 (i := 0) rfl rfl ?_
    refine qv_iconst (v := (-1 : Int32)) dX9_fits_9 rfl ?_
    obtain ⟨u5, e6, hs⟩ := qv_bind hs
    obtain ⟨⟨v6, h7⟩, e7, hs⟩ := qv_bind hs
    dsimp only at hs
    refine qv_cV (d2 := mX9_no) (o := a0) (ci := 8) (r := some (.int v6)) (h2 := h7) (av := [.int (-1 : Int32)]) (st := []) dX9_fits_10 qM_X9_102 qD_X9_no e6 rfl rfl ⟨by decide, by decide⟩ rfl (Nat.le_of_ble_eq_true rfl) (Nat.le_of_ble_eq_true rfl) (sX9_no e7) rfl ?_
    refine qv_goto (tgt := 29) dX9_fits_13 rfl ?_
    cases hs
    exact qv_dp (qv_le_n (qv_le_n qv_le_0)) K3
  · have hs := qv_neg c5 hs
    refine qv_if_ne (tgt := 16) dX9_fits_5 rfl (fun _ => ?_) (fun q => absurd q c5)
    refine qv_aload_n dX9_fits_16 (i := 0) rfl rfl ?_
    refine qv_iload_n dX9_fits_17 (i := 1) rfl rfl ?_
    obtain ⟨u3, e8, hs⟩ := qv_bind hs
    obtain ⟨v4, e9, hs⟩ := qv_bind hs
    refine qv_cV (d2 := mX9_wrongs) (o := a0) (ci := 8) (r := some (.int v4)) (h2 := h) (av := [.int a1]) (st := []) dX9_fits_18 qM_X9_214 qD_X9_wrongs e8 rfl rfl ⟨by decide, by decide⟩ rfl (Nat.le_of_ble_eq_true rfl) (Nat.le_of_ble_eq_true rfl) (sX9_wrongs e9) rfl ?_
    by_cases c10 : v4 = 0
    · have hs := qv_pos c10 hs
      refine qv_if_ne (tgt := 28) dX9_fits_21 rfl (fun q => absurd c10 q) (fun _ => ?_)
      refine qv_iconst (v := (1 : Int32)) dX9_fits_24 rfl ?_
      refine qv_goto (tgt := 29) dX9_fits_25 rfl ?_
      cases hs
      exact qv_dp (qv_le_n (qv_le_n qv_le_0)) K3
    · have hs := qv_neg c10 hs
      refine qv_if_ne (tgt := 28) dX9_fits_21 rfl (fun _ => ?_) (fun q => absurd q c10)
      refine qv_iconst (v := (0 : Int32)) dX9_fits_28 rfl ?_
      cases hs
      exact qv_dp (qv_le_n (qv_le_n qv_le_0)) K3
theorem qD_X9_fits : qv_DV mX9_fits 1 := ⟨(qv_i15 (List.mem_of_getElem? (i := 17) (by decide +kernel))), (qv_i15 (List.mem_of_getElem? (i := 18) (by decide +kernel))), (qv_i1 (List.mem_of_getElem? (i := 14) (by decide +kernel))), (qv_i15 (List.mem_of_getElem? (i := 19) (by decide +kernel))), by decide +kernel, by decide +kernel⟩
