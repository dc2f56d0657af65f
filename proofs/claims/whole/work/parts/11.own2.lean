/-! ===== 11.own2: by program (wip/whole/gen): for each method its pure function f.., its descriptor m.., the proof s.. that the frame logic runs it ===== -/
/-- Worlds.has(I)Z -/
noncomputable def fX7_has (a0 : Nat) (a1 : Int32) (h : qv_H) : Option (Int32) :=
  Option.bind (α := Int32) (
      if a1 < 0 then
        some (0 : Int32)
      else
        (qv_gI h 6 a0 0).bind fun v1 =>
        if (a1 &&& (v1 ^^^ (-1 : Int32))) = 0 then
          some (1 : Int32)
        else
          some (0 : Int32)
    ) fun m2 =>
  (qv_b1 m2).bind fun v3 =>
  some m2
abbrev mX7_has : qv_M := (yX7_has, cX7_has, 2, (Option.some Jvm.ClassFile.FieldType.boolean), 0, 0)
set_option maxRecDepth 100000 in
set_option maxHeartbeats 4000000 in
theorem sX7_has {l : Launch} {g : qv_G} {a0 : Nat} {a1 : Int32} {h : qv_H} {r : Int32} (hs : fX7_has a0 a1 h = some r) : qv_J l g mX7_has 0 [some (.ref a0), some (.int a1)] [] h (some (.int r), h) := by
  unfold fX7_has at hs
  refine qv_iload_n dX7_has_0 (i := 1) rfl rfl ?_
  obtain ⟨m2, hj2, hs⟩ := qv_bind hs
  have K1 : qv_J l g mX7_has 20 [none, none] [.int m2] h (some (.int r), h) := by
    obtain ⟨v3, e3, hs⟩ := qv_bind hs
    obtain rfl := qv_sm hs
    exact qv_zret dX7_has_20 rfl (qv_b1_of e3).1
  replace hs := hj2
  by_cases c4 : a1 < 0
  · have hs := qv_pos c4 hs
    refine qv_if_lt (tgt := 19) dX7_has_1 rfl (fun _ => ?_) (fun q => absurd c4 q)
    refine qv_iconst (v := (0 : Int32)) dX7_has_19 rfl ?_
    cases hs
    exact qv_dp (qv_le_n (qv_le_n qv_le_0)) K1
  · have hs := qv_neg c4 hs
    refine qv_if_lt (tgt := 19) dX7_has_1 rfl (fun q => absurd q c4) (fun _ => ?_)
    refine qv_iload_n dX7_has_4 (i := 1) rfl rfl ?_
    refine qv_aload_n dX7_has_5 (i := 0) rfl rfl ?_
    obtain ⟨v1, e5, hs⟩ := qv_bind hs
    refine qv_getI dX7_has_6 qF_X7_9 e5 ?_
    refine qv_iconst (v := (-1 : Int32)) dX7_has_9 rfl ?_
    refine qv_ixor dX7_has_10 ?_
    refine qv_iand dX7_has_11 ?_
    by_cases c6 : (a1 &&& (v1 ^^^ (-1 : Int32))) = 0
    · have hs := qv_pos c6 hs
      refine qv_if_ne (tgt := 19) dX7_has_12 rfl (fun q => absurd c6 q) (fun _ => ?_)
      refine qv_iconst (v := (1 : Int32)) dX7_has_15 rfl ?_
      refine qv_goto (tgt := 20) dX7_has_16 rfl ?_
      cases hs
      exact qv_dp (qv_le_n (qv_le_n qv_le_0)) K1
    · have hs := qv_neg c6 hs
      refine qv_if_ne (tgt := 19) dX7_has_12 rfl (fun _ => ?_) (fun q => absurd q c6)
      refine qv_iconst (v := (0 : Int32)) dX7_has_19 rfl ?_
      cases hs
      exact qv_dp (qv_le_n (qv_le_n qv_le_0)) K1
theorem qD_X7_has : qv_DV mX7_has 1 := ⟨(qv_i3 (List.mem_of_getElem? (i := 51) (by decide +kernel))), (qv_i3 (List.mem_of_getElem? (i := 52) (by decide +kernel))), (qv_i1 (List.mem_of_getElem? (i := 9) (by decide +kernel))), (qv_i3 (List.mem_of_getElem? (i := 53) (by decide +kernel))), by decide +kernel, by decide +kernel⟩
/-- Worlds.isFitting(I)Z -/
noncomputable def fX7_isFitting (a0 : Nat) (a1 : Int32) (h : qv_H) : Option (Int32) :=
  (qv_ob h 6 a0).bind fun _ =>
  (fX7_has a0 a1 h).bind fun v2 =>
  Option.bind (α := Int32) (
      if v2 = 0 then
        some (0 : Int32)
      else
        (qv_gR h 6 a0 6).bind fun v3 =>
        (qv_aI h false v3 a1).bind fun v4 =>
        if v4 = 0 then
          some (1 : Int32)
        else
          some (0 : Int32)
    ) fun m5 =>
  (qv_b1 m5).bind fun v6 =>
  some m5
abbrev mX7_isFitting : qv_M := (yX7_isFitting, cX7_isFitting, 2, (Option.some Jvm.ClassFile.FieldType.boolean), 1, 21)
set_option maxRecDepth 100000 in
set_option maxHeartbeats 4000000 in
theorem sX7_isFitting {l : Launch} {g : qv_G} {a0 : Nat} {a1 : Int32} {h : qv_H} {r : Int32} (hs : fX7_isFitting a0 a1 h = some r) : qv_J l g mX7_isFitting 0 [some (.ref a0), some (.int a1)] [] h (some (.int r), h) := by
  unfold fX7_isFitting at hs
  refine qv_aload_n dX7_isFitting_0 (i := 0) rfl rfl ?_
  refine qv_iload_n dX7_isFitting_1 (i := 1) rfl rfl ?_
  obtain ⟨u1, e1, hs⟩ := qv_bind hs
  obtain ⟨v2, e2, hs⟩ := qv_bind hs
  refine qv_cV (d2 := mX7_has) (o := a0) (ci := 6) (r := some (.int v2)) (h2 := h) (av := [.int a1]) (st := []) dX7_isFitting_2 qM_X7_40 qD_X7_has e1 rfl rfl ⟨by decide, by decide⟩ rfl (Nat.le_of_ble_eq_true rfl) (Nat.le_of_ble_eq_true rfl) (sX7_has e2) rfl ?_
  obtain ⟨m5, hj4, hs⟩ := qv_bind hs
  have K3 : qv_J l g mX7_isFitting 22 [none, none] [.int m5] h (some (.int r), h) := by
    obtain ⟨v6, e5, hs⟩ := qv_bind hs
    obtain rfl := qv_sm hs
    exact qv_zret dX7_isFitting_22 rfl (qv_b1_of e5).1
  replace hs := hj4
  by_cases c6 : v2 = 0
  · have hs := qv_pos c6 hs
    refine qv_if_eq (tgt := 21) dX7_isFitting_5 rfl (fun _ => ?_) (fun q => absurd c6 q)
    refine qv_iconst (v := (0 : Int32)) dX7_isFitting_21 rfl ?_
    cases hs
    exact qv_dp (qv_le_n (qv_le_n qv_le_0)) K3
  · have hs := qv_neg c6 hs
    refine qv_if_eq (tgt := 21) dX7_isFitting_5 rfl (fun q => absurd q c6) (fun _ => ?_)
    refine qv_aload_n dX7_isFitting_8 (i := 0) rfl rfl ?_
    obtain ⟨v3, e7, hs⟩ := qv_bind hs
    refine qv_getR dX7_isFitting_9 qF_X7_31 e7 ?_
    refine qv_iload_n dX7_isFitting_12 (i := 1) rfl rfl ?_
    obtain ⟨v4, e8, hs⟩ := qv_bind hs
    refine qv_iald dX7_isFitting_13 e8 ?_
    by_cases c9 : v4 = 0
    · have hs := qv_pos c9 hs
      refine qv_if_ne (tgt := 21) dX7_isFitting_14 rfl (fun q => absurd c9 q) (fun _ => ?_)
      refine qv_iconst (v := (1 : Int32)) dX7_isFitting_17 rfl ?_
      refine qv_goto (tgt := 22) dX7_isFitting_18 rfl ?_
      cases hs
      exact qv_dp (qv_le_n (qv_le_n qv_le_0)) K3
    · have hs := qv_neg c9 hs
      refine qv_if_ne (tgt := 21) dX7_isFitting_14 rfl (fun _ => ?_) (fun q => absurd q c9)
      refine qv_iconst (v := (0 : Int32)) dX7_isFitting_21 rfl ?_
      cases hs
      exact qv_dp (qv_le_n (qv_le_n qv_le_0)) K3
theorem qD_X7_isFitting : qv_DV mX7_isFitting 1 := ⟨(qv_i4 (List.mem_of_getElem? (i := 21) (by decide +kernel))), (qv_i4 (List.mem_of_getElem? (i := 22) (by decide +kernel))), (qv_i1 (List.mem_of_getElem? (i := 9) (by decide +kernel))), (qv_i4 (List.mem_of_getElem? (i := 23) (by decide +kernel))), by decide +kernel, by decide +kernel⟩
/-- Wayfarer.indexOf(III)I -/
noncomputable def fX6_indexOf (a0 : Int32) (a1 : Int32) (a2 : Int32) : Option (Int32) :=
  some ((((a0 * (16 : Int32)) + a1) * (16 : Int32)) + a2)
abbrev mX6_indexOf : qv_M := (yX6_indexOf, cX6_indexOf, 3, (Option.some Jvm.ClassFile.FieldType.int), 0, 0)
set_option maxRecDepth 100000 in
set_option maxHeartbeats 4000000 in
theorem sX6_indexOf {l : Launch} {g : qv_G} {a0 : Int32} {a1 : Int32} {a2 : Int32} {h : qv_H} {r : Int32} (hs : fX6_indexOf a0 a1 a2 = some r) : qv_J l g mX6_indexOf 0 [some (.int a0), some (.int a1), some (.int a2)] [] h (some (.int r), h) := by
  unfold fX6_indexOf at hs
  refine qv_iload_n dX6_indexOf_0 (i := 0) rfl rfl ?_
  refine qv_bipush (v := (16 : Int32)) dX6_indexOf_1 rfl ?_
  refine qv_imul dX6_indexOf_3 ?_
  refine qv_iload_n dX6_indexOf_4 (i := 1) rfl rfl ?_
  refine qv_iadd dX6_indexOf_5 ?_
  refine qv_bipush (v := (16 : Int32)) dX6_indexOf_6 rfl ?_
  refine qv_imul dX6_indexOf_8 ?_
  refine qv_iload_n dX6_indexOf_9 (i := 2) rfl rfl ?_
  refine qv_iadd dX6_indexOf_10 ?_
  obtain rfl := qv_sm hs
  exact qv_iret dX6_indexOf_11 rfl
theorem qD_X6_indexOf : qv_DS mX6_indexOf 3 := ⟨(qv_i10 (List.mem_of_getElem? (i := 46) (by decide +kernel))), (qv_i1 (List.mem_of_getElem? (i := 11) (by decide +kernel))), (qv_i10 (List.mem_of_getElem? (i := 47) (by decide +kernel))), by decide +kernel, by decide +kernel⟩
/-- Wayfarer.showsMore(LTrueOneWay$Land;II)Z -/
noncomputable def fX6_showsMore (a0 : Nat) (a1 : Int32) (a2 : Int32) (h : qv_H) : Option (Int32) :=
  (qv_gR h 2 a0 10).bind fun v1 =>
  (qv_aI h false v1 a1).bind fun v2 =>
  Option.bind (α := Int32) (
      if (v2 &&& (a2 ^^^ (-1 : Int32))) = 0 then
        some (0 : Int32)
      else
        some (1 : Int32)
    ) fun m3 =>
  (qv_b1 m3).bind fun v4 =>
  some m3
abbrev mX6_showsMore : qv_M := (yX6_showsMore, cX6_showsMore, 3, (Option.some Jvm.ClassFile.FieldType.boolean), 0, 0)
set_option maxRecDepth 100000 in
set_option maxHeartbeats 4000000 in
theorem sX6_showsMore {l : Launch} {g : qv_G} {a0 : Nat} {a1 : Int32} {a2 : Int32} {h : qv_H} {r : Int32} (hs : fX6_showsMore a0 a1 a2 h = some r) : qv_J l g mX6_showsMore 0 [some (.ref a0), some (.int a1), some (.int a2)] [] h (some (.int r), h) := by
  unfold fX6_showsMore at hs
  refine qv_aload_n dX6_showsMore_0 (i := 0) rfl rfl ?_
  obtain ⟨v1, e1, hs⟩ := qv_bind hs
  refine qv_getR dX6_showsMore_1 qF_X6_39 e1 ?_
  refine qv_iload_n dX6_showsMore_4 (i := 1) rfl rfl ?_
  obtain ⟨v2, e2, hs⟩ := qv_bind hs
  refine qv_iald dX6_showsMore_5 e2 ?_
  refine qv_iload_n dX6_showsMore_6 (i := 2) rfl rfl ?_
  refine qv_iconst (v := (-1 : Int32)) dX6_showsMore_7 rfl ?_
  refine qv_ixor dX6_showsMore_8 ?_
  refine qv_iand dX6_showsMore_9 ?_
  obtain ⟨m3, hj4, hs⟩ := qv_bind hs
  have K3 : qv_J l g mX6_showsMore 18 [none, none, none] [.int m3] h (some (.int r), h) := by
    obtain ⟨v4, e5, hs⟩ := qv_bind hs
    obtain rfl := qv_sm hs
    exact qv_zret dX6_showsMore_18 rfl (qv_b1_of e5).1
  replace hs := hj4
  by_cases c6 : (v2 &&& (a2 ^^^ (-1 : Int32))) = 0
  · have hs := qv_pos c6 hs
    refine qv_if_eq (tgt := 17) dX6_showsMore_10 rfl (fun _ => ?_) (fun q => absurd c6 q)
    refine qv_iconst (v := (0 : Int32)) dX6_showsMore_17 rfl ?_
    cases hs
    exact qv_dp (qv_le_n (qv_le_n (qv_le_n qv_le_0))) K3
  · have hs := qv_neg c6 hs
    refine qv_if_eq (tgt := 17) dX6_showsMore_10 rfl (fun q => absurd q c6) (fun _ => ?_)
    refine qv_iconst (v := (1 : Int32)) dX6_showsMore_13 rfl ?_
    refine qv_goto (tgt := 18) dX6_showsMore_14 rfl ?_
    cases hs
    exact qv_dp (qv_le_n (qv_le_n (qv_le_n qv_le_0))) K3
theorem qD_X6_showsMore : qv_DS mX6_showsMore 3 := ⟨(qv_i10 (List.mem_of_getElem? (i := 49) (by decide +kernel))), (qv_i1 (List.mem_of_getElem? (i := 11) (by decide +kernel))), (qv_i10 (List.mem_of_getElem? (i := 50) (by decide +kernel))), by decide +kernel, by decide +kernel⟩
/-- Wayfarer.worstOf(LTrueOneWay$Land;III)I -/
noncomputable def fX6_worstOf (a0 : Nat) (a1 : Nat) (a2 : Int32) (a3 : Int32) (a4 : Int32) (h : qv_H) : Option (Int32) :=
  (qv_gR h 2 a1 10).bind fun v1 =>
  (qv_aI h false v1 a2).bind fun v2 =>
  Option.bind (qv_loop (σ := Int32 × Int32) (ρ := Int32) (fun (x3, x4) =>
      if (16 : Int32) ≤ x4 then
        some (.inr x3)
      else
        (qv_gR h 5 a0 1).bind fun v5 =>
        (qv_aI h true v5 x4).bind fun v6 =>
        Option.bind (α := Int32) (
            if v6 = 0 then
              some x3
            else
              if (x4 &&& a3) = a4 then
                (qv_gR h 5 a0 0).bind fun v7 =>
                (fX6_indexOf a2 (a3 ||| v2) (x4 &&& (a3 ||| v2))).bind fun v8 =>
                (qv_aI h false v7 v8).bind fun v9 =>
                some (qv_mx x3 v9)
              else
                some x3
          ) fun m10 =>
        some (.inl (m10, x4 + (1 : Int32)))
    ) ((0 : Int32), (0 : Int32))) fun y11 =>
  some y11
abbrev mX6_worstOf : qv_M := (yX6_worstOf, cX6_worstOf, 8, (Option.some Jvm.ClassFile.FieldType.int), 1, 22)
set_option maxRecDepth 100000 in
set_option maxHeartbeats 4000000 in
theorem sX6_worstOf {l : Launch} {g : qv_G} {a0 : Nat} {a1 : Nat} {a2 : Int32} {a3 : Int32} {a4 : Int32} {h : qv_H} {r : Int32} (hs : fX6_worstOf a0 a1 a2 a3 a4 h = some r) : qv_J l g mX6_worstOf 0 [some (.ref a0), some (.ref a1), some (.int a2), some (.int a3), some (.int a4), none, none, none] [] h (some (.int r), h) := by
  unfold fX6_worstOf at hs
  refine qv_iload_n dX6_worstOf_0 (i := 3) rfl rfl ?_
  refine qv_aload_n dX6_worstOf_1 (i := 1) rfl rfl ?_
  obtain ⟨v1, e1, hs⟩ := qv_bind hs
  refine qv_getR dX6_worstOf_2 qF_X6_39 e1 ?_
  refine qv_iload_n dX6_worstOf_5 (i := 2) rfl rfl ?_
  obtain ⟨v2, e2, hs⟩ := qv_bind hs
  refine qv_iald dX6_worstOf_6 e2 ?_
  refine qv_ior dX6_worstOf_7 ?_
  refine qv_istore (lo2 := [some (.ref a0), some (.ref a1), some (.int a2), some (.int a3), some (.int a4), some (.int (a3 ||| v2)), none, none]) dX6_worstOf_8 (by decide) rfl (Nat.le_of_ble_eq_true rfl) rfl ?_
  refine qv_iconst (v := (0 : Int32)) dX6_worstOf_10 rfl ?_
  refine qv_istore (lo2 := [some (.ref a0), some (.ref a1), some (.int a2), some (.int a3), some (.int a4), some (.int (a3 ||| v2)), some (.int (0 : Int32)), none]) dX6_worstOf_11 (by decide) rfl (Nat.le_of_ble_eq_true rfl) rfl ?_
  refine qv_iconst (v := (0 : Int32)) dX6_worstOf_13 rfl ?_
  refine qv_istore (lo2 := [some (.ref a0), some (.ref a1), some (.int a2), some (.int a3), some (.int a4), some (.int (a3 ||| v2)), some (.int (0 : Int32)), some (.int (0 : Int32))]) dX6_worstOf_14 (by decide) rfl (Nat.le_of_ble_eq_true rfl) rfl ?_
  obtain ⟨y11, e4, hs⟩ := qv_bind hs
  have K3 : qv_J l g mX6_worstOf 71 [none, none, none, none, none, none, some (.int y11), none] [] h (some (.int r), h) := by
    refine qv_iload dX6_worstOf_71 rfl ?_
    obtain rfl := qv_sm hs
    exact qv_iret dX6_worstOf_73 rfl
  obtain ⟨n10, e4⟩ := qv_loop_of e4
  refine qv_dp (qv_le_s (qv_le_n (qv_le_s (qv_le_s (qv_le_s (qv_le_s (qv_le_s (qv_le_s qv_le_0)))))))) (?_ : qv_J l g mX6_worstOf 16 [some (.ref a0), none, some (.int a2), some (.int a3), some (.int a4), some (.int (a3 ||| v2)), some (.int (0 : Int32)), some (.int (0 : Int32))] [] h (some (.int r), h))
  revert e4
  suffices lj9 : ∀ (x3 : Int32) (x4 : Int32), qv_it _ n10 (x3, x4) = some y11 → qv_J l g mX6_worstOf 16 [some (.ref a0), none, some (.int a2), some (.int a3), some (.int a4), some (.int (a3 ||| v2)), some (.int x3), some (.int x4)] [] h (some (.int r), h) from lj9 (0 : Int32) (0 : Int32)
  induction n10 with
  | zero =>
    intro x3 x4 e4
    cases e4
  | succ n10 ih6 =>
    intro x3 x4 e4
    obtain ⟨_, hs, eb7⟩ := qv_it_s e4
    dsimp only at hs
    refine qv_iload dX6_worstOf_16 rfl ?_
    refine qv_bipush (v := (16 : Int32)) dX6_worstOf_18 rfl ?_
    by_cases c11 : (16 : Int32) ≤ x4
    · have hs := qv_pos c11 hs
      refine qv_icmp_ge (tgt := 71) dX6_worstOf_20 rfl (fun _ => ?_) (fun q => absurd c11 q)
      cases hs
      cases qv_nx_r eb7
      exact qv_dp (qv_le_n (qv_le_n (qv_le_n (qv_le_n (qv_le_n (qv_le_n (qv_le_s (qv_le_n qv_le_0)))))))) K3
    · have hs := qv_neg c11 hs
      refine qv_icmp_ge (tgt := 71) dX6_worstOf_20 rfl (fun q => absurd q c11) (fun _ => ?_)
      refine qv_aload_n dX6_worstOf_23 (i := 0) rfl rfl ?_
      obtain ⟨v5, e12, hs⟩ := qv_bind hs
      refine qv_getR dX6_worstOf_24 qF_X6_15 e12 ?_
      refine qv_iload dX6_worstOf_27 rfl ?_
      obtain ⟨v6, e13, hs⟩ := qv_bind hs
      refine qv_zald dX6_worstOf_29 e13 ?_
      obtain ⟨m10, hj15, hs⟩ := qv_bind hs
      have K14 : qv_J l g mX6_worstOf 65 [some (.ref a0), none, some (.int a2), some (.int a3), some (.int a4), some (.int (a3 ||| v2)), some (.int m10), some (.int x4)] [] h (some (.int r), h) := by
        refine qv_iinc (v := x4 + (1 : Int32)) (lo2 := [some (.ref a0), none, some (.int a2), some (.int a3), some (.int a4), some (.int (a3 ||| v2)), some (.int m10), some (.int (x4 + (1 : Int32)))]) dX6_worstOf_65 rfl rfl (by decide) rfl rfl ?_
        refine qv_goto (tgt := 16) dX6_worstOf_68 rfl ?_
        cases hs
        exact qv_dp (qv_le_s (qv_le_n (qv_le_s (qv_le_s (qv_le_s (qv_le_s (qv_le_s (qv_le_s qv_le_0)))))))) (ih6 _ _ (qv_nx_l eb7))
      replace hs := hj15
      by_cases c16 : v6 = 0
      · have hs := qv_pos c16 hs
        refine qv_if_eq (tgt := 65) dX6_worstOf_30 rfl (fun _ => ?_) (fun q => absurd c16 q)
        cases hs
        exact qv_dp (qv_le_s (qv_le_n (qv_le_s (qv_le_s (qv_le_s (qv_le_s (qv_le_s (qv_le_s qv_le_0)))))))) K14
      · have hs := qv_neg c16 hs
        refine qv_if_eq (tgt := 65) dX6_worstOf_30 rfl (fun q => absurd q c16) (fun _ => ?_)
        refine qv_iload dX6_worstOf_33 rfl ?_
        refine qv_iload_n dX6_worstOf_35 (i := 3) rfl rfl ?_
        refine qv_iand dX6_worstOf_36 ?_
        refine qv_iload dX6_worstOf_37 rfl ?_
        by_cases c17 : (x4 &&& a3) = a4
        · have hs := qv_pos c17 hs
          refine qv_icmp_ne (tgt := 65) dX6_worstOf_39 rfl (fun q => absurd c17 q) (fun _ => ?_)
          refine qv_iload dX6_worstOf_42 rfl ?_
          refine qv_aload_n dX6_worstOf_44 (i := 0) rfl rfl ?_
          obtain ⟨v7, e18, hs⟩ := qv_bind hs
          refine qv_getR dX6_worstOf_45 qF_X6_9 e18 ?_
          refine qv_iload_n dX6_worstOf_48 (i := 2) rfl rfl ?_
          refine qv_iload dX6_worstOf_49 rfl ?_
          refine qv_iload dX6_worstOf_51 rfl ?_
          refine qv_iload dX6_worstOf_53 rfl ?_
          refine qv_iand dX6_worstOf_55 ?_
          obtain ⟨v8, e19, hs⟩ := qv_bind hs
          refine qv_cS (d2 := mX6_indexOf) (r := some (.int v8)) (h2 := h) (av := [.int a2, .int (a3 ||| v2), .int (x4 &&& (a3 ||| v2))]) (st := [.ref v7, .int x3]) dX6_worstOf_56 qM_X6_35 qD_X6_indexOf rfl ⟨by decide, by decide⟩ rfl (Nat.le_of_ble_eq_true rfl) (Nat.le_of_ble_eq_true rfl) (sX6_indexOf e19) rfl ?_
          obtain ⟨v9, e20, hs⟩ := qv_bind hs
          refine qv_iald dX6_worstOf_59 e20 ?_
          refine qv_cmx dX6_worstOf_60 qB_X6_80 ⟨by decide, by decide⟩ (Nat.le_of_ble_eq_true rfl) ?_
          refine qv_istore (lo2 := [some (.ref a0), none, some (.int a2), some (.int a3), some (.int a4), some (.int (a3 ||| v2)), some (.int (qv_mx x3 v9)), some (.int x4)]) dX6_worstOf_63 (by decide) rfl (Nat.le_of_ble_eq_true rfl) rfl ?_
          cases hs
          exact qv_dp (qv_le_s (qv_le_n (qv_le_s (qv_le_s (qv_le_s (qv_le_s (qv_le_s (qv_le_s qv_le_0)))))))) K14
        · have hs := qv_neg c17 hs
          refine qv_icmp_ne (tgt := 65) dX6_worstOf_39 rfl (fun _ => ?_) (fun q => absurd q c17)
          cases hs
          exact qv_dp (qv_le_s (qv_le_n (qv_le_s (qv_le_s (qv_le_s (qv_le_s (qv_le_s (qv_le_s qv_le_0)))))))) K14
theorem qD_X6_worstOf : qv_DV mX6_worstOf 4 := ⟨(qv_i10 (List.mem_of_getElem? (i := 52) (by decide +kernel))), (qv_i0 (List.mem_of_getElem? (i := 15) (by decide +kernel))), (qv_i1 (List.mem_of_getElem? (i := 11) (by decide +kernel))), (qv_i10 (List.mem_of_getElem? (i := 53) (by decide +kernel))), by decide +kernel, by decide +kernel⟩
/-- Wayfarer.isInnSurelyAt(LTrueOneWay$Land;III)Z -/
noncomputable def fX6_isInnSurelyAt (a0 : Nat) (a1 : Nat) (a2 : Int32) (a3 : Int32) (a4 : Int32) (h : qv_H) : Option (Int32) :=
  Option.bind (qv_loop (σ := Int32) (ρ := (Unit) ⊕ (Int32)) (fun x1 =>
      if (16 : Int32) ≤ x1 then
        some (.inr (.inl ()))
      else
        (qv_gR h 5 a0 1).bind fun v2 =>
        (qv_aI h true v2 x1).bind fun v3 =>
        if v3 = 0 then
          some (.inl (x1 + (1 : Int32)))
        else
          if (x1 &&& a3) = a4 then
            (qv_ob h 2 a1).bind fun _ =>
            (fX3_innIn a1 x1 h).bind fun v5 =>
            if v5 = a2 then
              some (.inl (x1 + (1 : Int32)))
            else
              some (.inr (.inr (0 : Int32)))
          else
            some (.inl (x1 + (1 : Int32)))
    ) (0 : Int32)) fun q => match q with
  | .inl _ =>
    some (1 : Int32)
  | .inr q => some q
abbrev mX6_isInnSurelyAt : qv_M := (yX6_isInnSurelyAt, cX6_isInnSurelyAt, 6, (Option.some Jvm.ClassFile.FieldType.boolean), 2, 42)
set_option maxRecDepth 100000 in
set_option maxHeartbeats 4000000 in
theorem sX6_isInnSurelyAt {l : Launch} {g : qv_G} {a0 : Nat} {a1 : Nat} {a2 : Int32} {a3 : Int32} {a4 : Int32} {h : qv_H} {r : Int32} (hs : fX6_isInnSurelyAt a0 a1 a2 a3 a4 h = some r) : qv_J l g mX6_isInnSurelyAt 0 [some (.ref a0), some (.ref a1), some (.int a2), some (.int a3), some (.int a4), none] [] h (some (.int r), h) := by
  unfold fX6_isInnSurelyAt at hs
  refine qv_iconst (v := (0 : Int32)) dX6_isInnSurelyAt_0 rfl ?_
  refine qv_istore (lo2 := [some (.ref a0), some (.ref a1), some (.int a2), some (.int a3), some (.int a4), some (.int (0 : Int32))]) dX6_isInnSurelyAt_1 (by decide) rfl (Nat.le_of_ble_eq_true rfl) rfl ?_
  obtain ⟨q6, e2, hA3⟩ := qv_bind hs
  have K1 : ∀ (_ : Unit), q6 = .inl () → qv_J l g mX6_isInnSurelyAt 47 [none, none, none, none, none, none] [] h (some (.int r), h) := by
    intro _ eq9
    subst eq9
    have hs := hA3
    dsimp only at hs
    refine qv_iconst (v := (1 : Int32)) dX6_isInnSurelyAt_47 rfl ?_
    obtain rfl := qv_sm hs
    exact qv_zret dX6_isInnSurelyAt_48 rfl (by decide)
  obtain ⟨n8, e2⟩ := qv_loop_of e2
  refine qv_dp (qv_le_s (qv_le_s (qv_le_s (qv_le_s (qv_le_s (qv_le_s qv_le_0)))))) (?_ : qv_J l g mX6_isInnSurelyAt 3 [some (.ref a0), some (.ref a1), some (.int a2), some (.int a3), some (.int a4), some (.int (0 : Int32))] [] h (some (.int r), h))
  revert e2
  suffices lj7 : ∀ (x1 : Int32), qv_it _ n8 x1 = some q6 → qv_J l g mX6_isInnSurelyAt 3 [some (.ref a0), some (.ref a1), some (.int a2), some (.int a3), some (.int a4), some (.int x1)] [] h (some (.int r), h) from lj7 (0 : Int32)
  induction n8 with
  | zero =>
    intro x1 e2
    cases e2
  | succ n8 ih4 =>
    intro x1 e2
    obtain ⟨_, hs, eb5⟩ := qv_it_s e2
    refine qv_iload dX6_isInnSurelyAt_3 rfl ?_
    refine qv_bipush (v := (16 : Int32)) dX6_isInnSurelyAt_5 rfl ?_
    by_cases c10 : (16 : Int32) ≤ x1
    · have hs := qv_pos c10 hs
      refine qv_icmp_ge (tgt := 47) dX6_isInnSurelyAt_7 rfl (fun _ => ?_) (fun q => absurd c10 q)
      cases hs
      cases qv_nx_r eb5
      exact qv_dp (qv_le_n (qv_le_n (qv_le_n (qv_le_n (qv_le_n (qv_le_n qv_le_0)))))) (K1 () rfl)
    · have hs := qv_neg c10 hs
      refine qv_icmp_ge (tgt := 47) dX6_isInnSurelyAt_7 rfl (fun q => absurd q c10) (fun _ => ?_)
      refine qv_aload_n dX6_isInnSurelyAt_10 (i := 0) rfl rfl ?_
      obtain ⟨v2, e11, hs⟩ := qv_bind hs
      refine qv_getR dX6_isInnSurelyAt_11 qF_X6_15 e11 ?_
      refine qv_iload dX6_isInnSurelyAt_14 rfl ?_
      obtain ⟨v3, e12, hs⟩ := qv_bind hs
      refine qv_zald dX6_isInnSurelyAt_16 e12 ?_
      by_cases c13 : v3 = 0
      · have hs := qv_pos c13 hs
        refine qv_if_eq (tgt := 41) dX6_isInnSurelyAt_17 rfl (fun _ => ?_) (fun q => absurd c13 q)
        refine qv_iinc (v := x1 + (1 : Int32)) (lo2 := [some (.ref a0), some (.ref a1), some (.int a2), some (.int a3), some (.int a4), some (.int (x1 + (1 : Int32)))]) dX6_isInnSurelyAt_41 rfl rfl (by decide) rfl rfl ?_
        refine qv_goto (tgt := 3) dX6_isInnSurelyAt_44 rfl ?_
        cases hs
        exact qv_dp (qv_le_s (qv_le_s (qv_le_s (qv_le_s (qv_le_s (qv_le_s qv_le_0)))))) (ih4 _ (qv_nx_l eb5))
      · have hs := qv_neg c13 hs
        refine qv_if_eq (tgt := 41) dX6_isInnSurelyAt_17 rfl (fun q => absurd q c13) (fun _ => ?_)
        refine qv_iload dX6_isInnSurelyAt_20 rfl ?_
        refine qv_iload_n dX6_isInnSurelyAt_22 (i := 3) rfl rfl ?_
        refine qv_iand dX6_isInnSurelyAt_23 ?_
        refine qv_iload dX6_isInnSurelyAt_24 rfl ?_
        by_cases c14 : (x1 &&& a3) = a4
        · have hs := qv_pos c14 hs
          refine qv_icmp_ne (tgt := 41) dX6_isInnSurelyAt_26 rfl (fun q => absurd c14 q) (fun _ => ?_)
          refine qv_aload_n dX6_isInnSurelyAt_29 (i := 1) rfl rfl ?_
          refine qv_iload dX6_isInnSurelyAt_30 rfl ?_
          obtain ⟨u4, e15, hs⟩ := qv_bind hs
          obtain ⟨v5, e16, hs⟩ := qv_bind hs
          refine qv_cV (d2 := mX3_innIn) (o := a1) (ci := 2) (r := some (.int v5)) (h2 := h) (av := [.int x1]) (st := []) dX6_isInnSurelyAt_32 qM_X6_86 qD_X3_innIn e15 rfl rfl ⟨by decide, by decide⟩ rfl (Nat.le_of_ble_eq_true rfl) (Nat.le_of_ble_eq_true rfl) (sX3_innIn e16) rfl ?_
          refine qv_iload_n dX6_isInnSurelyAt_35 (i := 2) rfl rfl ?_
          by_cases c17 : v5 = a2
          · have hs := qv_pos c17 hs
            refine qv_icmp_eq (tgt := 41) dX6_isInnSurelyAt_36 rfl (fun _ => ?_) (fun q => absurd c17 q)
            refine qv_iinc (v := x1 + (1 : Int32)) (lo2 := [some (.ref a0), some (.ref a1), some (.int a2), some (.int a3), some (.int a4), some (.int (x1 + (1 : Int32)))]) dX6_isInnSurelyAt_41 rfl rfl (by decide) rfl rfl ?_
            refine qv_goto (tgt := 3) dX6_isInnSurelyAt_44 rfl ?_
            cases hs
            exact qv_dp (qv_le_s (qv_le_s (qv_le_s (qv_le_s (qv_le_s (qv_le_s qv_le_0)))))) (ih4 _ (qv_nx_l eb5))
          · have hs := qv_neg c17 hs
            refine qv_icmp_eq (tgt := 41) dX6_isInnSurelyAt_36 rfl (fun q => absurd q c17) (fun _ => ?_)
            refine qv_iconst (v := (0 : Int32)) dX6_isInnSurelyAt_39 rfl ?_
            cases hs
            cases qv_nx_r eb5
            have hs := hA3
            dsimp only at hs
            obtain rfl := qv_sm hs
            exact qv_zret dX6_isInnSurelyAt_40 rfl (by decide)
        · have hs := qv_neg c14 hs
          refine qv_icmp_ne (tgt := 41) dX6_isInnSurelyAt_26 rfl (fun _ => ?_) (fun q => absurd q c14)
          refine qv_iinc (v := x1 + (1 : Int32)) (lo2 := [some (.ref a0), some (.ref a1), some (.int a2), some (.int a3), some (.int a4), some (.int (x1 + (1 : Int32)))]) dX6_isInnSurelyAt_41 rfl rfl (by decide) rfl rfl ?_
          refine qv_goto (tgt := 3) dX6_isInnSurelyAt_44 rfl ?_
          cases hs
          exact qv_dp (qv_le_s (qv_le_s (qv_le_s (qv_le_s (qv_le_s (qv_le_s qv_le_0)))))) (ih4 _ (qv_nx_l eb5))
theorem qD_X6_isInnSurelyAt : qv_DV mX6_isInnSurelyAt 4 := ⟨(qv_i10 (List.mem_of_getElem? (i := 56) (by decide +kernel))), (qv_i0 (List.mem_of_getElem? (i := 16) (by decide +kernel))), (qv_i1 (List.mem_of_getElem? (i := 11) (by decide +kernel))), (qv_i10 (List.mem_of_getElem? (i := 57) (by decide +kernel))), by decide +kernel, by decide +kernel⟩
/-- Wayfarer.shorten(LTrueOneWay$Land;IIII)V -/
noncomputable def fX6_shorten (a0 : Nat) (a1 : Nat) (a2 : Int32) (a3 : Int32) (a4 : Int32) (a5 : Int32) (h : qv_H) : Option (qv_H) :=
  (fX6_showsMore a1 a2 a4 h).bind fun v1 =>
  Option.bind (α := qv_H) (
      if v1 = 0 then
        (fX6_indexOf a2 a4 a5).bind fun v2 =>
        (qv_gR h 5 a0 0).bind fun v3 =>
        (qv_gR h 5 a0 0).bind fun v4 =>
        (qv_aI h false v4 v2).bind fun v5 =>
        (qv_gR h 5 a0 0).bind fun v6 =>
        (fX6_indexOf a3 a4 a5).bind fun v7 =>
        (qv_aI h false v6 v7).bind fun v8 =>
        (qv_sI h false v3 v2 (qv_mn v5 (v8 + (1 : Int32)))).bind fun h9 =>
        some h9
      else
        some h
    ) fun h10 =>
  some h10
abbrev mX6_shorten : qv_M := (yX6_shorten, cX6_shorten, 7, (Option.none : Option Jvm.ClassFile.FieldType), 1, 22)
set_option maxRecDepth 100000 in
set_option maxHeartbeats 4000000 in
theorem sX6_shorten {l : Launch} {g : qv_G} {a0 : Nat} {a1 : Nat} {a2 : Int32} {a3 : Int32} {a4 : Int32} {a5 : Int32} {h : qv_H} {hz : qv_H} (hs : fX6_shorten a0 a1 a2 a3 a4 a5 h = some hz) : qv_J l g mX6_shorten 0 [some (.ref a0), some (.ref a1), some (.int a2), some (.int a3), some (.int a4), some (.int a5), none] [] h (none, hz) := by
  unfold fX6_shorten at hs
  refine qv_aload_n dX6_shorten_0 (i := 1) rfl rfl ?_
  refine qv_iload_n dX6_shorten_1 (i := 2) rfl rfl ?_
  refine qv_iload dX6_shorten_2 rfl ?_
  obtain ⟨v1, e1, hs⟩ := qv_bind hs
  refine qv_cS (d2 := mX6_showsMore) (r := some (.int v1)) (h2 := h) (av := [.ref a1, .int a2, .int a4]) (st := []) dX6_shorten_4 qM_X6_55 qD_X6_showsMore rfl ⟨by decide, by decide⟩ rfl (Nat.le_of_ble_eq_true rfl) (Nat.le_of_ble_eq_true rfl) (sX6_showsMore e1) rfl ?_
  obtain ⟨h10, hj3, hs⟩ := qv_bind hs
  have K2 : qv_J l g mX6_shorten 52 [none, none, none, none, none, none, none] [] h10 (none, hz) := by
    obtain rfl := qv_sm hs
    exact qv_vret dX6_shorten_52 rfl
  replace hs := hj3
  by_cases c4 : v1 = 0
  · have hs := qv_pos c4 hs
    refine qv_if_ne (tgt := 52) dX6_shorten_7 rfl (fun q => absurd c4 q) (fun _ => ?_)
    refine qv_iload_n dX6_shorten_10 (i := 2) rfl rfl ?_
    refine qv_iload dX6_shorten_11 rfl ?_
    refine qv_iload dX6_shorten_13 rfl ?_
    obtain ⟨v2, e5, hs⟩ := qv_bind hs
    refine qv_cS (d2 := mX6_indexOf) (r := some (.int v2)) (h2 := h) (av := [.int a2, .int a4, .int a5]) (st := []) dX6_shorten_15 qM_X6_35 qD_X6_indexOf rfl ⟨by decide, by decide⟩ rfl (Nat.le_of_ble_eq_true rfl) (Nat.le_of_ble_eq_true rfl) (sX6_indexOf e5) rfl ?_
    refine qv_istore (lo2 := [some (.ref a0), some (.ref a1), some (.int a2), some (.int a3), some (.int a4), some (.int a5), some (.int v2)]) dX6_shorten_18 (by decide) rfl (Nat.le_of_ble_eq_true rfl) rfl ?_
    refine qv_aload_n dX6_shorten_20 (i := 0) rfl rfl ?_
    obtain ⟨v3, e6, hs⟩ := qv_bind hs
    refine qv_getR dX6_shorten_21 qF_X6_9 e6 ?_
    refine qv_iload dX6_shorten_24 rfl ?_
    refine qv_aload_n dX6_shorten_26 (i := 0) rfl rfl ?_
    obtain ⟨v4, e7, hs⟩ := qv_bind hs
    refine qv_getR dX6_shorten_27 qF_X6_9 e7 ?_
    refine qv_iload dX6_shorten_30 rfl ?_
    obtain ⟨v5, e8, hs⟩ := qv_bind hs
    refine qv_iald dX6_shorten_32 e8 ?_
    refine qv_aload_n dX6_shorten_33 (i := 0) rfl rfl ?_
    obtain ⟨v6, e9, hs⟩ := qv_bind hs
    refine qv_getR dX6_shorten_34 qF_X6_9 e9 ?_
    refine qv_iload_n dX6_shorten_37 (i := 3) rfl rfl ?_
    refine qv_iload dX6_shorten_38 rfl ?_
    refine qv_iload dX6_shorten_40 rfl ?_
    obtain ⟨v7, e10, hs⟩ := qv_bind hs
    refine qv_cS (d2 := mX6_indexOf) (r := some (.int v7)) (h2 := h) (av := [.int a3, .int a4, .int a5]) (st := [.ref v6, .int v5, .int v2, .ref v3]) dX6_shorten_42 qM_X6_35 qD_X6_indexOf rfl ⟨by decide, by decide⟩ rfl (Nat.le_of_ble_eq_true rfl) (Nat.le_of_ble_eq_true rfl) (sX6_indexOf e10) rfl ?_
    obtain ⟨v8, e11, hs⟩ := qv_bind hs
    refine qv_iald dX6_shorten_45 e11 ?_
    refine qv_iconst (v := (1 : Int32)) dX6_shorten_46 rfl ?_
    refine qv_iadd dX6_shorten_47 ?_
    refine qv_cmn dX6_shorten_48 qB_X6_89 ⟨by decide, by decide⟩ (Nat.le_of_ble_eq_true rfl) ?_
    obtain ⟨h9, e12, hs⟩ := qv_bind hs
    refine qv_iast dX6_shorten_51 e12 ?_
    cases hs
    exact qv_dp (qv_le_n (qv_le_n (qv_le_n (qv_le_n (qv_le_n (qv_le_n (qv_le_n qv_le_0))))))) K2
  · have hs := qv_neg c4 hs
    refine qv_if_ne (tgt := 52) dX6_shorten_7 rfl (fun _ => ?_) (fun q => absurd q c4)
    cases hs
    exact qv_dp (qv_le_n (qv_le_n (qv_le_n (qv_le_n (qv_le_n (qv_le_n (qv_le_n qv_le_0))))))) K2
theorem qD_X6_shorten : qv_DV mX6_shorten 5 := ⟨(qv_i10 (List.mem_of_getElem? (i := 63) (by decide +kernel))), (qv_i0 (List.mem_of_getElem? (i := 17) (by decide +kernel))), (qv_i1 (List.mem_of_getElem? (i := 11) (by decide +kernel))), (qv_i11 (List.mem_of_getElem? (i := 0) (by decide +kernel))), by decide +kernel, by decide +kernel⟩
/-- Wayfarer.reckonAt(LTrueOneWay$Land;II)V -/
noncomputable def fX6_reckonAt (a0 : Nat) (a1 : Nat) (a2 : Int32) (a3 : Int32) (h : qv_H) : Option (qv_H) :=
  Option.bind (qv_loop (σ := Int32 × qv_H) (ρ := Int32 × qv_H) (fun (x1, h2) =>
      (qv_gI h2 2 a1 0).bind fun v3 =>
      if v3 ≤ x1 then
        some (.inr (a3, h2))
      else
        (qv_gR h2 5 a0 0).bind fun v4 =>
        (fX6_indexOf x1 a2 a3).bind fun v5 =>
        (fX6_showsMore a1 x1 a2 h2).bind fun v6 =>
        Option.bind (α := Int32) (
            if v6 = 0 then
              (qv_ob h2 5 a0).bind fun _ =>
              (fX6_isInnSurelyAt a0 a1 x1 a2 a3 h2).bind fun v8 =>
              if v8 = 0 then
                some (99 : Int32)
              else
                some (0 : Int32)
            else
              (qv_ob h2 5 a0).bind fun _ =>
              (fX6_worstOf a0 a1 x1 a2 a3 h2).bind fun v10 =>
              some v10
          ) fun m11 =>
        (qv_sI h2 false v4 v5 m11).bind fun h12 =>
        some (.inl (x1 + (1 : Int32), h12))
    ) ((0 : Int32), h)) fun (y13, h14) =>
  Option.bind (qv_loop (σ := Int32 × qv_H) (ρ := qv_H) (fun (x15, h16) =>
      (qv_gI h16 2 a1 0).bind fun v17 =>
      if v17 ≤ x15 then
        some (.inr h16)
      else
        Option.bind (qv_loop (σ := Int32 × qv_H) (ρ := qv_H) (fun (x18, h19) =>
            (qv_gI h19 2 a1 1).bind fun v20 =>
            if v20 ≤ x18 then
              some (.inr h19)
            else
              (qv_gR h19 2 a1 4).bind fun v21 =>
              (qv_aI h19 false v21 x18).bind fun v22 =>
              (qv_gR h19 2 a1 5).bind fun v23 =>
              (qv_aI h19 false v23 x18).bind fun v24 =>
              (qv_ob h19 5 a0).bind fun _ =>
              (fX6_shorten a0 a1 v22 v24 a2 y13 h19).bind fun h26 =>
              (qv_gR h26 2 a1 5).bind fun v27 =>
              (qv_aI h26 false v27 x18).bind fun v28 =>
              (qv_gR h26 2 a1 4).bind fun v29 =>
              (qv_aI h26 false v29 x18).bind fun v30 =>
              (qv_ob h26 5 a0).bind fun _ =>
              (fX6_shorten a0 a1 v28 v30 a2 y13 h26).bind fun h32 =>
              some (.inl (x18 + (1 : Int32), h32))
          ) ((0 : Int32), h16)) fun h33 =>
        some (.inl (x15 + (1 : Int32), h33))
    ) ((1 : Int32), h14)) fun h34 =>
  some h34
abbrev mX6_reckonAt : qv_M := (yX6_reckonAt, cX6_reckonAt, 6, (Option.none : Option Jvm.ClassFile.FieldType), 3, 67)
set_option maxRecDepth 100000 in
set_option maxHeartbeats 4000000 in
theorem sX6_reckonAt {l : Launch} {g : qv_G} {a0 : Nat} {a1 : Nat} {a2 : Int32} {a3 : Int32} {h : qv_H} {hz : qv_H} (hs : fX6_reckonAt a0 a1 a2 a3 h = some hz) : qv_J l g mX6_reckonAt 0 [some (.ref a0), some (.ref a1), some (.int a2), some (.int a3), none, none] [] h (none, hz) := by
  unfold fX6_reckonAt at hs
  refine qv_iconst (v := (0 : Int32)) dX6_reckonAt_0 rfl ?_
  refine qv_istore (lo2 := [some (.ref a0), some (.ref a1), some (.int a2), some (.int a3), some (.int (0 : Int32)), none]) dX6_reckonAt_1 (by decide) rfl (Nat.le_of_ble_eq_true rfl) rfl ?_
  obtain ⟨⟨y13, h14⟩, e2, hs⟩ := qv_bind hs
  dsimp only at hs
  have K1 : qv_J l g mX6_reckonAt 70 [some (.ref a0), some (.ref a1), some (.int a2), some (.int y13), none, none] [] h14 (none, hz) := by
    refine qv_iconst (v := (1 : Int32)) dX6_reckonAt_70 rfl ?_
    refine qv_istore (lo2 := [some (.ref a0), some (.ref a1), some (.int a2), some (.int y13), some (.int (1 : Int32)), none]) dX6_reckonAt_71 (by decide) rfl (Nat.le_of_ble_eq_true rfl) rfl ?_
    obtain ⟨h34, e10, hs⟩ := qv_bind hs
    have K9 : qv_J l g mX6_reckonAt 148 [none, none, none, none, none, none] [] h34 (none, hz) := by
      obtain rfl := qv_sm hs
      exact qv_vret dX6_reckonAt_148 rfl
    obtain ⟨n16, e10⟩ := qv_loop_of e10
    refine qv_dp (qv_le_s (qv_le_s (qv_le_s (qv_le_s (qv_le_s (qv_le_n qv_le_0)))))) (?_ : qv_J l g mX6_reckonAt 73 [some (.ref a0), some (.ref a1), some (.int a2), some (.int y13), some (.int (1 : Int32)), none] [] h14 (none, hz))
    revert e10
    suffices lj15 : ∀ (x15 : Int32) (h16 : qv_H), qv_it _ n16 (x15, h16) = some h34 → qv_J l g mX6_reckonAt 73 [some (.ref a0), some (.ref a1), some (.int a2), some (.int y13), some (.int x15), none] [] h16 (none, hz) from lj15 (1 : Int32) h14
    induction n16 with
    | zero =>
      intro x15 h16 e10
      cases e10
    | succ n16 ih12 =>
      intro x15 h16 e10
      obtain ⟨_, hs, eb13⟩ := qv_it_s e10
      dsimp only at hs
      refine qv_iload dX6_reckonAt_73 rfl ?_
      refine qv_aload_n dX6_reckonAt_75 (i := 1) rfl rfl ?_
      obtain ⟨v17, e17, hs⟩ := qv_bind hs
      refine qv_getI dX6_reckonAt_76 qF_X6_48 e17 ?_
      by_cases c18 : v17 ≤ x15
      · have hs := qv_pos c18 hs
        refine qv_icmp_ge (tgt := 148) dX6_reckonAt_79 rfl (fun _ => ?_) (fun q => absurd c18 q)
        cases hs
        cases qv_nx_r eb13
        exact qv_dp (qv_le_n (qv_le_n (qv_le_n (qv_le_n (qv_le_n (qv_le_n qv_le_0)))))) K9
      · have hs := qv_neg c18 hs
        refine qv_icmp_ge (tgt := 148) dX6_reckonAt_79 rfl (fun q => absurd q c18) (fun _ => ?_)
        refine qv_iconst (v := (0 : Int32)) dX6_reckonAt_82 rfl ?_
        refine qv_istore (lo2 := [some (.ref a0), some (.ref a1), some (.int a2), some (.int y13), some (.int x15), some (.int (0 : Int32))]) dX6_reckonAt_83 (by decide) rfl (Nat.le_of_ble_eq_true rfl) rfl ?_
        obtain ⟨h33, e20, hs⟩ := qv_bind hs
        have K19 : qv_J l g mX6_reckonAt 142 [some (.ref a0), some (.ref a1), some (.int a2), some (.int y13), some (.int x15), none] [] h33 (none, hz) := by
          refine qv_iinc (v := x15 + (1 : Int32)) (lo2 := [some (.ref a0), some (.ref a1), some (.int a2), some (.int y13), some (.int (x15 + (1 : Int32))), none]) dX6_reckonAt_142 rfl rfl (by decide) rfl rfl ?_
          refine qv_goto (tgt := 73) dX6_reckonAt_145 rfl ?_
          cases hs
          exact qv_dp (qv_le_s (qv_le_s (qv_le_s (qv_le_s (qv_le_s (qv_le_n qv_le_0)))))) (ih12 _ _ (qv_nx_l eb13))
        obtain ⟨n26, e20⟩ := qv_loop_of e20
        refine qv_dp (qv_le_s (qv_le_s (qv_le_s (qv_le_s (qv_le_s (qv_le_s qv_le_0)))))) (?_ : qv_J l g mX6_reckonAt 85 [some (.ref a0), some (.ref a1), some (.int a2), some (.int y13), some (.int x15), some (.int (0 : Int32))] [] h16 (none, hz))
        revert e20
        suffices lj25 : ∀ (x18 : Int32) (h19 : qv_H), qv_it _ n26 (x18, h19) = some h33 → qv_J l g mX6_reckonAt 85 [some (.ref a0), some (.ref a1), some (.int a2), some (.int y13), some (.int x15), some (.int x18)] [] h19 (none, hz) from lj25 (0 : Int32) h16
        induction n26 with
        | zero =>
          intro x18 h19 e20
          cases e20
        | succ n26 ih22 =>
          intro x18 h19 e20
          obtain ⟨_, hs, eb23⟩ := qv_it_s e20
          dsimp only at hs
          refine qv_iload dX6_reckonAt_85 rfl ?_
          refine qv_aload_n dX6_reckonAt_87 (i := 1) rfl rfl ?_
          obtain ⟨v20, e27, hs⟩ := qv_bind hs
          refine qv_getI dX6_reckonAt_88 qF_X6_67 e27 ?_
          by_cases c28 : v20 ≤ x18
          · have hs := qv_pos c28 hs
            refine qv_icmp_ge (tgt := 142) dX6_reckonAt_91 rfl (fun _ => ?_) (fun q => absurd c28 q)
            cases hs
            cases qv_nx_r eb23
            exact qv_dp (qv_le_s (qv_le_s (qv_le_s (qv_le_s (qv_le_s (qv_le_n qv_le_0)))))) K19
          · have hs := qv_neg c28 hs
            refine qv_icmp_ge (tgt := 142) dX6_reckonAt_91 rfl (fun q => absurd q c28) (fun _ => ?_)
            refine qv_aload_n dX6_reckonAt_94 (i := 0) rfl rfl ?_
            refine qv_aload_n dX6_reckonAt_95 (i := 1) rfl rfl ?_
            refine qv_aload_n dX6_reckonAt_96 (i := 1) rfl rfl ?_
            obtain ⟨v21, e29, hs⟩ := qv_bind hs
            refine qv_getR dX6_reckonAt_97 qF_X6_70 e29 ?_
            refine qv_iload dX6_reckonAt_100 rfl ?_
            obtain ⟨v22, e30, hs⟩ := qv_bind hs
            refine qv_iald dX6_reckonAt_102 e30 ?_
            refine qv_aload_n dX6_reckonAt_103 (i := 1) rfl rfl ?_
            obtain ⟨v23, e31, hs⟩ := qv_bind hs
            refine qv_getR dX6_reckonAt_104 qF_X6_73 e31 ?_
            refine qv_iload dX6_reckonAt_107 rfl ?_
            obtain ⟨v24, e32, hs⟩ := qv_bind hs
            refine qv_iald dX6_reckonAt_109 e32 ?_
            refine qv_iload_n dX6_reckonAt_110 (i := 2) rfl rfl ?_
            refine qv_iload_n dX6_reckonAt_111 (i := 3) rfl rfl ?_
            obtain ⟨u25, e33, hs⟩ := qv_bind hs
            obtain ⟨h26, e34, hs⟩ := qv_bind hs
            refine qv_cV (d2 := mX6_shorten) (o := a0) (ci := 5) (r := none) (h2 := h26) (av := [.ref a1, .int v22, .int v24, .int a2, .int y13]) (st := []) dX6_reckonAt_112 qM_X6_76 qD_X6_shorten e33 rfl rfl ⟨by decide, by decide⟩ rfl (Nat.le_of_ble_eq_true rfl) (Nat.le_of_ble_eq_true rfl) (sX6_shorten e34) rfl ?_
            refine qv_aload_n dX6_reckonAt_115 (i := 0) rfl rfl ?_
            refine qv_aload_n dX6_reckonAt_116 (i := 1) rfl rfl ?_
            refine qv_aload_n dX6_reckonAt_117 (i := 1) rfl rfl ?_
            obtain ⟨v27, e35, hs⟩ := qv_bind hs
            refine qv_getR dX6_reckonAt_118 qF_X6_73 e35 ?_
            refine qv_iload dX6_reckonAt_121 rfl ?_
            obtain ⟨v28, e36, hs⟩ := qv_bind hs
            refine qv_iald dX6_reckonAt_123 e36 ?_
            refine qv_aload_n dX6_reckonAt_124 (i := 1) rfl rfl ?_
            obtain ⟨v29, e37, hs⟩ := qv_bind hs
            refine qv_getR dX6_reckonAt_125 qF_X6_70 e37 ?_
            refine qv_iload dX6_reckonAt_128 rfl ?_
            obtain ⟨v30, e38, hs⟩ := qv_bind hs
            refine qv_iald dX6_reckonAt_130 e38 ?_
            refine qv_iload_n dX6_reckonAt_131 (i := 2) rfl rfl ?_
            refine qv_iload_n dX6_reckonAt_132 (i := 3) rfl rfl ?_
            obtain ⟨u31, e39, hs⟩ := qv_bind hs
            obtain ⟨h32, e40, hs⟩ := qv_bind hs
            refine qv_cV (d2 := mX6_shorten) (o := a0) (ci := 5) (r := none) (h2 := h32) (av := [.ref a1, .int v28, .int v30, .int a2, .int y13]) (st := []) dX6_reckonAt_133 qM_X6_76 qD_X6_shorten e39 rfl rfl ⟨by decide, by decide⟩ rfl (Nat.le_of_ble_eq_true rfl) (Nat.le_of_ble_eq_true rfl) (sX6_shorten e40) rfl ?_
            refine qv_iinc (v := x18 + (1 : Int32)) (lo2 := [some (.ref a0), some (.ref a1), some (.int a2), some (.int y13), some (.int x15), some (.int (x18 + (1 : Int32)))]) dX6_reckonAt_136 rfl rfl (by decide) rfl rfl ?_
            refine qv_goto (tgt := 85) dX6_reckonAt_139 rfl ?_
            cases hs
            exact qv_dp (qv_le_s (qv_le_s (qv_le_s (qv_le_s (qv_le_s (qv_le_s qv_le_0)))))) (ih22 _ _ (qv_nx_l eb23))
  obtain ⟨n8, e2⟩ := qv_loop_of e2
  refine qv_dp (qv_le_s (qv_le_s (qv_le_s (qv_le_s (qv_le_s (qv_le_n qv_le_0)))))) (?_ : qv_J l g mX6_reckonAt 3 [some (.ref a0), some (.ref a1), some (.int a2), some (.int a3), some (.int (0 : Int32)), none] [] h (none, hz))
  revert e2
  suffices lj7 : ∀ (x1 : Int32) (h2 : qv_H), qv_it _ n8 (x1, h2) = some (y13, h14) → qv_J l g mX6_reckonAt 3 [some (.ref a0), some (.ref a1), some (.int a2), some (.int a3), some (.int x1), none] [] h2 (none, hz) from lj7 (0 : Int32) h
  induction n8 with
  | zero =>
    intro x1 h2 e2
    cases e2
  | succ n8 ih4 =>
    intro x1 h2 e2
    obtain ⟨_, hs, eb5⟩ := qv_it_s e2
    dsimp only at hs
    refine qv_iload dX6_reckonAt_3 rfl ?_
    refine qv_aload_n dX6_reckonAt_5 (i := 1) rfl rfl ?_
    obtain ⟨v3, e41, hs⟩ := qv_bind hs
    refine qv_getI dX6_reckonAt_6 qF_X6_48 e41 ?_
    by_cases c42 : v3 ≤ x1
    · have hs := qv_pos c42 hs
      refine qv_icmp_ge (tgt := 70) dX6_reckonAt_9 rfl (fun _ => ?_) (fun q => absurd c42 q)
      cases hs
      cases qv_nx_r eb5
      exact qv_dp (qv_le_s (qv_le_s (qv_le_s (qv_le_s (qv_le_n (qv_le_n qv_le_0)))))) K1
    · have hs := qv_neg c42 hs
      refine qv_icmp_ge (tgt := 70) dX6_reckonAt_9 rfl (fun q => absurd q c42) (fun _ => ?_)
      refine qv_aload_n dX6_reckonAt_12 (i := 0) rfl rfl ?_
      obtain ⟨v4, e43, hs⟩ := qv_bind hs
      refine qv_getR dX6_reckonAt_13 qF_X6_9 e43 ?_
      refine qv_iload dX6_reckonAt_16 rfl ?_
      refine qv_iload_n dX6_reckonAt_18 (i := 2) rfl rfl ?_
      refine qv_iload_n dX6_reckonAt_19 (i := 3) rfl rfl ?_
      obtain ⟨v5, e44, hs⟩ := qv_bind hs
      refine qv_cS (d2 := mX6_indexOf) (r := some (.int v5)) (h2 := h2) (av := [.int x1, .int a2, .int a3]) (st := [.ref v4]) dX6_reckonAt_20 qM_X6_35 qD_X6_indexOf rfl ⟨by decide, by decide⟩ rfl (Nat.le_of_ble_eq_true rfl) (Nat.le_of_ble_eq_true rfl) (sX6_indexOf e44) rfl ?_
      refine qv_aload_n dX6_reckonAt_23 (i := 1) rfl rfl ?_
      refine qv_iload dX6_reckonAt_24 rfl ?_
      refine qv_iload_n dX6_reckonAt_26 (i := 2) rfl rfl ?_
      obtain ⟨v6, e45, hs⟩ := qv_bind hs
      refine qv_cS (d2 := mX6_showsMore) (r := some (.int v6)) (h2 := h2) (av := [.ref a1, .int x1, .int a2]) (st := [.int v5, .ref v4]) dX6_reckonAt_27 qM_X6_55 qD_X6_showsMore rfl ⟨by decide, by decide⟩ rfl (Nat.le_of_ble_eq_true rfl) (Nat.le_of_ble_eq_true rfl) (sX6_showsMore e45) rfl ?_
      obtain ⟨m11, hj47, hs⟩ := qv_bind hs
      have K46 : qv_J l g mX6_reckonAt 63 [some (.ref a0), some (.ref a1), some (.int a2), some (.int a3), some (.int x1), none] [.int m11, .int v5, .ref v4] h2 (none, hz) := by
        obtain ⟨h12, e48, hs⟩ := qv_bind hs
        refine qv_iast dX6_reckonAt_63 e48 ?_
        refine qv_iinc (v := x1 + (1 : Int32)) (lo2 := [some (.ref a0), some (.ref a1), some (.int a2), some (.int a3), some (.int (x1 + (1 : Int32))), none]) dX6_reckonAt_64 rfl rfl (by decide) rfl rfl ?_
        refine qv_goto (tgt := 3) dX6_reckonAt_67 rfl ?_
        cases hs
        exact qv_dp (qv_le_s (qv_le_s (qv_le_s (qv_le_s (qv_le_s (qv_le_n qv_le_0)))))) (ih4 _ _ (qv_nx_l eb5))
      replace hs := hj47
      by_cases c49 : v6 = 0
      · have hs := qv_pos c49 hs
        refine qv_if_eq (tgt := 45) dX6_reckonAt_30 rfl (fun _ => ?_) (fun q => absurd c49 q)
        refine qv_aload_n dX6_reckonAt_45 (i := 0) rfl rfl ?_
        refine qv_aload_n dX6_reckonAt_46 (i := 1) rfl rfl ?_
        refine qv_iload dX6_reckonAt_47 rfl ?_
        refine qv_iload_n dX6_reckonAt_49 (i := 2) rfl rfl ?_
        refine qv_iload_n dX6_reckonAt_50 (i := 3) rfl rfl ?_
        obtain ⟨u7, e50, hs⟩ := qv_bind hs
        obtain ⟨v8, e51, hs⟩ := qv_bind hs
        refine qv_cV (d2 := mX6_isInnSurelyAt) (o := a0) (ci := 5) (r := some (.int v8)) (h2 := h2) (av := [.ref a1, .int x1, .int a2, .int a3]) (st := [.int v5, .ref v4]) dX6_reckonAt_51 qM_X6_63 qD_X6_isInnSurelyAt e50 rfl rfl ⟨by decide, by decide⟩ rfl (Nat.le_of_ble_eq_true rfl) (Nat.le_of_ble_eq_true rfl) (sX6_isInnSurelyAt e51) rfl ?_
        by_cases c52 : v8 = 0
        · have hs := qv_pos c52 hs
          refine qv_if_eq (tgt := 61) dX6_reckonAt_54 rfl (fun _ => ?_) (fun q => absurd c52 q)
          refine qv_bipush (v := (99 : Int32)) dX6_reckonAt_61 rfl ?_
          cases hs
          exact qv_dp (qv_le_s (qv_le_s (qv_le_s (qv_le_s (qv_le_s (qv_le_n qv_le_0)))))) K46
        · have hs := qv_neg c52 hs
          refine qv_if_eq (tgt := 61) dX6_reckonAt_54 rfl (fun q => absurd q c52) (fun _ => ?_)
          refine qv_iconst (v := (0 : Int32)) dX6_reckonAt_57 rfl ?_
          refine qv_goto (tgt := 63) dX6_reckonAt_58 rfl ?_
          cases hs
          exact qv_dp (qv_le_s (qv_le_s (qv_le_s (qv_le_s (qv_le_s (qv_le_n qv_le_0)))))) K46
      · have hs := qv_neg c49 hs
        refine qv_if_eq (tgt := 45) dX6_reckonAt_30 rfl (fun q => absurd q c49) (fun _ => ?_)
        refine qv_aload_n dX6_reckonAt_33 (i := 0) rfl rfl ?_
        refine qv_aload_n dX6_reckonAt_34 (i := 1) rfl rfl ?_
        refine qv_iload dX6_reckonAt_35 rfl ?_
        refine qv_iload_n dX6_reckonAt_37 (i := 2) rfl rfl ?_
        refine qv_iload_n dX6_reckonAt_38 (i := 3) rfl rfl ?_
        obtain ⟨u9, e53, hs⟩ := qv_bind hs
        obtain ⟨v10, e54, hs⟩ := qv_bind hs
        refine qv_cV (d2 := mX6_worstOf) (o := a0) (ci := 5) (r := some (.int v10)) (h2 := h2) (av := [.ref a1, .int x1, .int a2, .int a3]) (st := [.int v5, .ref v4]) dX6_reckonAt_39 qM_X6_59 qD_X6_worstOf e53 rfl rfl ⟨by decide, by decide⟩ rfl (Nat.le_of_ble_eq_true rfl) (Nat.le_of_ble_eq_true rfl) (sX6_worstOf e54) rfl ?_
        refine qv_goto (tgt := 63) dX6_reckonAt_42 rfl ?_
        cases hs
        exact qv_dp (qv_le_s (qv_le_s (qv_le_s (qv_le_s (qv_le_s (qv_le_n qv_le_0)))))) K46
theorem qD_X6_reckonAt : qv_DV mX6_reckonAt 3 := ⟨(qv_i10 (List.mem_of_getElem? (i := 43) (by decide +kernel))), (qv_i0 (List.mem_of_getElem? (i := 14) (by decide +kernel))), (qv_i1 (List.mem_of_getElem? (i := 11) (by decide +kernel))), (qv_i10 (List.mem_of_getElem? (i := 44) (by decide +kernel))), by decide +kernel, by decide +kernel⟩
/-- Wayfarer.reckon(LTrueOneWay$Land;LTrueOneWay$Worlds;)V -/
noncomputable def fX6_reckon (a0 : Nat) (a1 : Nat) (a2 : Nat) (h : qv_H) : Option (qv_H) :=
  Option.bind (qv_loop (σ := Int32 × qv_H) (ρ := qv_H) (fun (x1, h2) =>
      if (16 : Int32) ≤ x1 then
        some (.inr h2)
      else
        (qv_gR h2 5 a0 1).bind fun v3 =>
        (qv_sI h2 true v3 x1 (0 : Int32)).bind fun h4 =>
        some (.inl (x1 + (1 : Int32), h4))
    ) ((0 : Int32), h)) fun h5 =>
  Option.bind (qv_loop (σ := Int32 × qv_H) (ρ := qv_H) (fun (x6, h7) =>
      (qv_gI h7 6 a2 2).bind fun v8 =>
      if v8 ≤ x6 then
        some (.inr h7)
      else
        (qv_gR h7 5 a0 1).bind fun v9 =>
        (qv_gR h7 6 a2 3).bind fun v10 =>
        (qv_aI h7 false v10 x6).bind fun v11 =>
        (qv_sI h7 true v9 (v11 &&& (15 : Int32)) (1 : Int32)).bind fun h12 =>
        some (.inl (x6 + (1 : Int32), h12))
    ) ((0 : Int32), h5)) fun h13 =>
  (qv_gI h13 6 a2 0).bind fun v14 =>
  Option.bind (qv_loop (σ := Int32 × qv_H) (ρ := qv_H) (fun (x15, h16) =>
      if x15 < 0 then
        some (.inr h16)
      else
        Option.bind (qv_loop (σ := Int32 × qv_H) (ρ := qv_H) (fun (x17, h18) =>
            if x15 < x17 then
              some (.inr h18)
            else
              Option.bind (α := qv_H) (
                  if (x17 &&& (x15 ^^^ (-1 : Int32))) = 0 then
                    (qv_ob h18 5 a0).bind fun _ =>
                    (fX6_reckonAt a0 a1 x15 x17 h18).bind fun h20 =>
                    some h20
                  else
                    some h18
                ) fun h21 =>
              some (.inl (x17 + (1 : Int32), h21))
          ) ((0 : Int32), h16)) fun h22 =>
        some (.inl (x15 + (-1 : Int32), h22))
    ) (v14 &&& (15 : Int32), h13)) fun h23 =>
  some h23
abbrev mX6_reckon : qv_M := (yX6_reckon, cX6_reckon, 5, (Option.none : Option Jvm.ClassFile.FieldType), 4, 92)
set_option maxRecDepth 100000 in
set_option maxHeartbeats 4000000 in
theorem sX6_reckon {l : Launch} {g : qv_G} {a0 : Nat} {a1 : Nat} {a2 : Nat} {h : qv_H} {hz : qv_H} (hs : fX6_reckon a0 a1 a2 h = some hz) : qv_J l g mX6_reckon 0 [some (.ref a0), some (.ref a1), some (.ref a2), none, none] [] h (none, hz) := by
  unfold fX6_reckon at hs
  refine qv_iconst (v := (0 : Int32)) dX6_reckon_0 rfl ?_
  refine qv_istore_n (lo2 := [some (.ref a0), some (.ref a1), some (.ref a2), some (.int (0 : Int32)), none]) dX6_reckon_1 (i := 3) rfl (by decide) rfl (Nat.le_of_ble_eq_true rfl) rfl ?_
  obtain ⟨h5, e2, hs⟩ := qv_bind hs
  have K1 : qv_J l g mX6_reckon 21 [some (.ref a0), some (.ref a1), some (.ref a2), none, none] [] h5 (none, hz) := by
    refine qv_iconst (v := (0 : Int32)) dX6_reckon_21 rfl ?_
    refine qv_istore_n (lo2 := [some (.ref a0), some (.ref a1), some (.ref a2), some (.int (0 : Int32)), none]) dX6_reckon_22 (i := 3) rfl (by decide) rfl (Nat.le_of_ble_eq_true rfl) rfl ?_
    obtain ⟨h13, e10, hs⟩ := qv_bind hs
    have K9 : qv_J l g mX6_reckon 52 [some (.ref a0), some (.ref a1), some (.ref a2), none, none] [] h13 (none, hz) := by
      refine qv_aload_n dX6_reckon_52 (i := 2) rfl rfl ?_
      obtain ⟨v14, e17, hs⟩ := qv_bind hs
      refine qv_getI dX6_reckon_53 qF_X6_28 e17 ?_
      refine qv_bipush (v := (15 : Int32)) dX6_reckon_56 rfl ?_
      refine qv_iand dX6_reckon_58 ?_
      refine qv_istore_n (lo2 := [some (.ref a0), some (.ref a1), some (.ref a2), some (.int (v14 &&& (15 : Int32))), none]) dX6_reckon_59 (i := 3) rfl (by decide) rfl (Nat.le_of_ble_eq_true rfl) rfl ?_
      obtain ⟨h23, e19, hs⟩ := qv_bind hs
      have K18 : qv_J l g mX6_reckon 102 [none, none, none, none, none] [] h23 (none, hz) := by
        obtain rfl := qv_sm hs
        exact qv_vret dX6_reckon_102 rfl
      obtain ⟨n25, e19⟩ := qv_loop_of e19
      refine qv_dp (qv_le_s (qv_le_s (qv_le_n (qv_le_s (qv_le_n qv_le_0))))) (?_ : qv_J l g mX6_reckon 60 [some (.ref a0), some (.ref a1), none, some (.int (v14 &&& (15 : Int32))), none] [] h13 (none, hz))
      revert e19
      suffices lj24 : ∀ (x15 : Int32) (h16 : qv_H), qv_it _ n25 (x15, h16) = some h23 → qv_J l g mX6_reckon 60 [some (.ref a0), some (.ref a1), none, some (.int x15), none] [] h16 (none, hz) from lj24 (v14 &&& (15 : Int32)) h13
      induction n25 with
      | zero =>
        intro x15 h16 e19
        cases e19
      | succ n25 ih21 =>
        intro x15 h16 e19
        obtain ⟨_, hs, eb22⟩ := qv_it_s e19
        dsimp only at hs
        refine qv_iload_n dX6_reckon_60 (i := 3) rfl rfl ?_
        by_cases c26 : x15 < 0
        · have hs := qv_pos c26 hs
          refine qv_if_lt (tgt := 102) dX6_reckon_61 rfl (fun _ => ?_) (fun q => absurd c26 q)
          cases hs
          cases qv_nx_r eb22
          exact qv_dp (qv_le_n (qv_le_n (qv_le_n (qv_le_n (qv_le_n qv_le_0))))) K18
        · have hs := qv_neg c26 hs
          refine qv_if_lt (tgt := 102) dX6_reckon_61 rfl (fun q => absurd q c26) (fun _ => ?_)
          refine qv_iconst (v := (0 : Int32)) dX6_reckon_64 rfl ?_
          refine qv_istore (lo2 := [some (.ref a0), some (.ref a1), none, some (.int x15), some (.int (0 : Int32))]) dX6_reckon_65 (by decide) rfl (Nat.le_of_ble_eq_true rfl) rfl ?_
          obtain ⟨h22, e28, hs⟩ := qv_bind hs
          have K27 : qv_J l g mX6_reckon 96 [some (.ref a0), some (.ref a1), none, some (.int x15), none] [] h22 (none, hz) := by
            refine qv_iinc (v := x15 + (-1 : Int32)) (lo2 := [some (.ref a0), some (.ref a1), none, some (.int (x15 + (-1 : Int32))), none]) dX6_reckon_96 rfl rfl (by decide) rfl rfl ?_
            refine qv_goto (tgt := 60) dX6_reckon_99 rfl ?_
            cases hs
            exact qv_dp (qv_le_s (qv_le_s (qv_le_n (qv_le_s (qv_le_n qv_le_0))))) (ih21 _ _ (qv_nx_l eb22))
          obtain ⟨n34, e28⟩ := qv_loop_of e28
          refine qv_dp (qv_le_s (qv_le_s (qv_le_n (qv_le_s (qv_le_s qv_le_0))))) (?_ : qv_J l g mX6_reckon 67 [some (.ref a0), some (.ref a1), none, some (.int x15), some (.int (0 : Int32))] [] h16 (none, hz))
          revert e28
          suffices lj33 : ∀ (x17 : Int32) (h18 : qv_H), qv_it _ n34 (x17, h18) = some h22 → qv_J l g mX6_reckon 67 [some (.ref a0), some (.ref a1), none, some (.int x15), some (.int x17)] [] h18 (none, hz) from lj33 (0 : Int32) h16
          induction n34 with
          | zero =>
            intro x17 h18 e28
            cases e28
          | succ n34 ih30 =>
            intro x17 h18 e28
            obtain ⟨_, hs, eb31⟩ := qv_it_s e28
            dsimp only at hs
            refine qv_iload dX6_reckon_67 rfl ?_
            refine qv_iload_n dX6_reckon_69 (i := 3) rfl rfl ?_
            by_cases c35 : x15 < x17
            · have hs := qv_pos c35 hs
              refine qv_icmp_gt (tgt := 96) dX6_reckon_70 rfl (fun _ => ?_) (fun q => absurd c35 q)
              cases hs
              cases qv_nx_r eb31
              exact qv_dp (qv_le_s (qv_le_s (qv_le_n (qv_le_s (qv_le_n qv_le_0))))) K27
            · have hs := qv_neg c35 hs
              refine qv_icmp_gt (tgt := 96) dX6_reckon_70 rfl (fun q => absurd q c35) (fun _ => ?_)
              refine qv_iload dX6_reckon_73 rfl ?_
              refine qv_iload_n dX6_reckon_75 (i := 3) rfl rfl ?_
              refine qv_iconst (v := (-1 : Int32)) dX6_reckon_76 rfl ?_
              refine qv_ixor dX6_reckon_77 ?_
              refine qv_iand dX6_reckon_78 ?_
              obtain ⟨h21, hj37, hs⟩ := qv_bind hs
              have K36 : qv_J l g mX6_reckon 90 [some (.ref a0), some (.ref a1), none, some (.int x15), some (.int x17)] [] h21 (none, hz) := by
                refine qv_iinc (v := x17 + (1 : Int32)) (lo2 := [some (.ref a0), some (.ref a1), none, some (.int x15), some (.int (x17 + (1 : Int32)))]) dX6_reckon_90 rfl rfl (by decide) rfl rfl ?_
                refine qv_goto (tgt := 67) dX6_reckon_93 rfl ?_
                cases hs
                exact qv_dp (qv_le_s (qv_le_s (qv_le_n (qv_le_s (qv_le_s qv_le_0))))) (ih30 _ _ (qv_nx_l eb31))
              replace hs := hj37
              by_cases c38 : (x17 &&& (x15 ^^^ (-1 : Int32))) = 0
              · have hs := qv_pos c38 hs
                refine qv_if_ne (tgt := 90) dX6_reckon_79 rfl (fun q => absurd c38 q) (fun _ => ?_)
                refine qv_aload_n dX6_reckon_82 (i := 0) rfl rfl ?_
                refine qv_aload_n dX6_reckon_83 (i := 1) rfl rfl ?_
                refine qv_iload_n dX6_reckon_84 (i := 3) rfl rfl ?_
                refine qv_iload dX6_reckon_85 rfl ?_
                obtain ⟨u19, e39, hs⟩ := qv_bind hs
                obtain ⟨h20, e40, hs⟩ := qv_bind hs
                refine qv_cV (d2 := mX6_reckonAt) (o := a0) (ci := 5) (r := none) (h2 := h20) (av := [.ref a1, .int x15, .int x17]) (st := []) dX6_reckon_87 qM_X6_31 qD_X6_reckonAt e39 rfl rfl ⟨by decide, by decide⟩ rfl (Nat.le_of_ble_eq_true rfl) (Nat.le_of_ble_eq_true rfl) (sX6_reckonAt e40) rfl ?_
                cases hs
                exact qv_dp (qv_le_s (qv_le_s (qv_le_n (qv_le_s (qv_le_s qv_le_0))))) K36
              · have hs := qv_neg c38 hs
                refine qv_if_ne (tgt := 90) dX6_reckon_79 rfl (fun _ => ?_) (fun q => absurd q c38)
                cases hs
                exact qv_dp (qv_le_s (qv_le_s (qv_le_n (qv_le_s (qv_le_s qv_le_0))))) K36
    obtain ⟨n16, e10⟩ := qv_loop_of e10
    refine qv_dp (qv_le_s (qv_le_s (qv_le_s (qv_le_s (qv_le_n qv_le_0))))) (?_ : qv_J l g mX6_reckon 23 [some (.ref a0), some (.ref a1), some (.ref a2), some (.int (0 : Int32)), none] [] h5 (none, hz))
    revert e10
    suffices lj15 : ∀ (x6 : Int32) (h7 : qv_H), qv_it _ n16 (x6, h7) = some h13 → qv_J l g mX6_reckon 23 [some (.ref a0), some (.ref a1), some (.ref a2), some (.int x6), none] [] h7 (none, hz) from lj15 (0 : Int32) h5
    induction n16 with
    | zero =>
      intro x6 h7 e10
      cases e10
    | succ n16 ih12 =>
      intro x6 h7 e10
      obtain ⟨_, hs, eb13⟩ := qv_it_s e10
      dsimp only at hs
      refine qv_iload_n dX6_reckon_23 (i := 3) rfl rfl ?_
      refine qv_aload_n dX6_reckon_24 (i := 2) rfl rfl ?_
      obtain ⟨v8, e41, hs⟩ := qv_bind hs
      refine qv_getI dX6_reckon_25 qF_X6_19 e41 ?_
      by_cases c42 : v8 ≤ x6
      · have hs := qv_pos c42 hs
        refine qv_icmp_ge (tgt := 52) dX6_reckon_28 rfl (fun _ => ?_) (fun q => absurd c42 q)
        cases hs
        cases qv_nx_r eb13
        exact qv_dp (qv_le_s (qv_le_s (qv_le_s (qv_le_n (qv_le_n qv_le_0))))) K9
      · have hs := qv_neg c42 hs
        refine qv_icmp_ge (tgt := 52) dX6_reckon_28 rfl (fun q => absurd q c42) (fun _ => ?_)
        refine qv_aload_n dX6_reckon_31 (i := 0) rfl rfl ?_
        obtain ⟨v9, e43, hs⟩ := qv_bind hs
        refine qv_getR dX6_reckon_32 qF_X6_15 e43 ?_
        refine qv_aload_n dX6_reckon_35 (i := 2) rfl rfl ?_
        obtain ⟨v10, e44, hs⟩ := qv_bind hs
        refine qv_getR dX6_reckon_36 qF_X6_25 e44 ?_
        refine qv_iload_n dX6_reckon_39 (i := 3) rfl rfl ?_
        obtain ⟨v11, e45, hs⟩ := qv_bind hs
        refine qv_iald dX6_reckon_40 e45 ?_
        refine qv_bipush (v := (15 : Int32)) dX6_reckon_41 rfl ?_
        refine qv_iand dX6_reckon_43 ?_
        refine qv_iconst (v := (1 : Int32)) dX6_reckon_44 rfl ?_
        obtain ⟨h12, e46, hs⟩ := qv_bind hs
        refine qv_zast dX6_reckon_45 e46 ?_
        refine qv_iinc (v := x6 + (1 : Int32)) (lo2 := [some (.ref a0), some (.ref a1), some (.ref a2), some (.int (x6 + (1 : Int32))), none]) dX6_reckon_46 rfl rfl (by decide) rfl rfl ?_
        refine qv_goto (tgt := 23) dX6_reckon_49 rfl ?_
        cases hs
        exact qv_dp (qv_le_s (qv_le_s (qv_le_s (qv_le_s (qv_le_n qv_le_0))))) (ih12 _ _ (qv_nx_l eb13))
  obtain ⟨n8, e2⟩ := qv_loop_of e2
  refine qv_dp (qv_le_s (qv_le_s (qv_le_s (qv_le_s (qv_le_n qv_le_0))))) (?_ : qv_J l g mX6_reckon 2 [some (.ref a0), some (.ref a1), some (.ref a2), some (.int (0 : Int32)), none] [] h (none, hz))
  revert e2
  suffices lj7 : ∀ (x1 : Int32) (h2 : qv_H), qv_it _ n8 (x1, h2) = some h5 → qv_J l g mX6_reckon 2 [some (.ref a0), some (.ref a1), some (.ref a2), some (.int x1), none] [] h2 (none, hz) from lj7 (0 : Int32) h
  induction n8 with
  | zero =>
    intro x1 h2 e2
    cases e2
  | succ n8 ih4 =>
    intro x1 h2 e2
    obtain ⟨_, hs, eb5⟩ := qv_it_s e2
    dsimp only at hs
    refine qv_iload_n dX6_reckon_2 (i := 3) rfl rfl ?_
    refine qv_bipush (v := (16 : Int32)) dX6_reckon_3 rfl ?_
    by_cases c47 : (16 : Int32) ≤ x1
    · have hs := qv_pos c47 hs
      refine qv_icmp_ge (tgt := 21) dX6_reckon_5 rfl (fun _ => ?_) (fun q => absurd c47 q)
      cases hs
      cases qv_nx_r eb5
      exact qv_dp (qv_le_s (qv_le_s (qv_le_s (qv_le_n (qv_le_n qv_le_0))))) K1
    · have hs := qv_neg c47 hs
      refine qv_icmp_ge (tgt := 21) dX6_reckon_5 rfl (fun q => absurd q c47) (fun _ => ?_)
      refine qv_aload_n dX6_reckon_8 (i := 0) rfl rfl ?_
      obtain ⟨v3, e48, hs⟩ := qv_bind hs
      refine qv_getR dX6_reckon_9 qF_X6_15 e48 ?_
      refine qv_iload_n dX6_reckon_12 (i := 3) rfl rfl ?_
      refine qv_iconst (v := (0 : Int32)) dX6_reckon_13 rfl ?_
      obtain ⟨h4, e49, hs⟩ := qv_bind hs
      refine qv_zast dX6_reckon_14 e49 ?_
      refine qv_iinc (v := x1 + (1 : Int32)) (lo2 := [some (.ref a0), some (.ref a1), some (.ref a2), some (.int (x1 + (1 : Int32))), none]) dX6_reckon_15 rfl rfl (by decide) rfl rfl ?_
      refine qv_goto (tgt := 2) dX6_reckon_18 rfl ?_
      cases hs
      exact qv_dp (qv_le_s (qv_le_s (qv_le_s (qv_le_s (qv_le_n qv_le_0))))) (ih4 _ _ (qv_nx_l eb5))
theorem qD_X6_reckon : qv_DV mX6_reckon 2 := ⟨(qv_i10 (List.mem_of_getElem? (i := 39) (by decide +kernel))), (qv_i10 (List.mem_of_getElem? (i := 40) (by decide +kernel))), (qv_i1 (List.mem_of_getElem? (i := 11) (by decide +kernel))), (qv_i10 (List.mem_of_getElem? (i := 41) (by decide +kernel))), by decide +kernel, by decide +kernel⟩
/-- Wayfarer.leastRoads(I)I -/
noncomputable def fX6_leastRoads (a0 : Nat) (a1 : Int32) (h : qv_H) : Option (Int32) :=
  (qv_gR h 5 a0 0).bind fun v1 =>
  (fX6_indexOf a1 (0 : Int32) (0 : Int32)).bind fun v2 =>
  (qv_aI h false v1 v2).bind fun v3 =>
  Option.bind (α := Int32) (
      if (20 : Int32) < v3 then
        some (-9 : Int32)
      else
        some v3
    ) fun m4 =>
  some m4
abbrev mX6_leastRoads : qv_M := (yX6_leastRoads, cX6_leastRoads, 3, (Option.some Jvm.ClassFile.FieldType.int), 1, 22)
set_option maxRecDepth 100000 in
set_option maxHeartbeats 4000000 in
theorem sX6_leastRoads {l : Launch} {g : qv_G} {a0 : Nat} {a1 : Int32} {h : qv_H} {r : Int32} (hs : fX6_leastRoads a0 a1 h = some r) : qv_J l g mX6_leastRoads 0 [some (.ref a0), some (.int a1), none] [] h (some (.int r), h) := by
  unfold fX6_leastRoads at hs
  refine qv_aload_n dX6_leastRoads_0 (i := 0) rfl rfl ?_
  obtain ⟨v1, e1, hs⟩ := qv_bind hs
  refine qv_getR dX6_leastRoads_1 qF_X6_9 e1 ?_
  refine qv_iload_n dX6_leastRoads_4 (i := 1) rfl rfl ?_
  refine qv_iconst (v := (0 : Int32)) dX6_leastRoads_5 rfl ?_
  refine qv_iconst (v := (0 : Int32)) dX6_leastRoads_6 rfl ?_
  obtain ⟨v2, e2, hs⟩ := qv_bind hs
  refine qv_cS (d2 := mX6_indexOf) (r := some (.int v2)) (h2 := h) (av := [.int a1, .int (0 : Int32), .int (0 : Int32)]) (st := [.ref v1]) dX6_leastRoads_7 qM_X6_35 qD_X6_indexOf rfl ⟨by decide, by decide⟩ rfl (Nat.le_of_ble_eq_true rfl) (Nat.le_of_ble_eq_true rfl) (sX6_indexOf e2) rfl ?_
  obtain ⟨v3, e3, hs⟩ := qv_bind hs
  refine qv_iald dX6_leastRoads_10 e3 ?_
  refine qv_istore_n (lo2 := [some (.ref a0), some (.int a1), some (.int v3)]) dX6_leastRoads_11 (i := 2) rfl (by decide) rfl (Nat.le_of_ble_eq_true rfl) rfl ?_
  refine qv_iload_n dX6_leastRoads_12 (i := 2) rfl rfl ?_
  refine qv_bipush (v := (20 : Int32)) dX6_leastRoads_13 rfl ?_
  obtain ⟨m4, hj5, hs⟩ := qv_bind hs
  have K4 : qv_J l g mX6_leastRoads 24 [none, none, none] [.int m4] h (some (.int r), h) := by
    obtain rfl := qv_sm hs
    exact qv_iret dX6_leastRoads_24 rfl
  replace hs := hj5
  by_cases c6 : (20 : Int32) < v3
  · have hs := qv_pos c6 hs
    refine qv_icmp_gt (tgt := 22) dX6_leastRoads_15 rfl (fun _ => ?_) (fun q => absurd c6 q)
    refine qv_bipush (v := (-9 : Int32)) dX6_leastRoads_22 rfl ?_
    cases hs
    exact qv_dp (qv_le_n (qv_le_n (qv_le_n qv_le_0))) K4
  · have hs := qv_neg c6 hs
    refine qv_icmp_gt (tgt := 22) dX6_leastRoads_15 rfl (fun q => absurd q c6) (fun _ => ?_)
    refine qv_iload_n dX6_leastRoads_18 (i := 2) rfl rfl ?_
    refine qv_goto (tgt := 24) dX6_leastRoads_19 rfl ?_
    cases hs
    exact qv_dp (qv_le_n (qv_le_n (qv_le_n qv_le_0))) K4
theorem qD_X6_leastRoads : qv_DV mX6_leastRoads 1 := ⟨(qv_i11 (List.mem_of_getElem? (i := 3) (by decide +kernel))), (qv_i11 (List.mem_of_getElem? (i := 4) (by decide +kernel))), (qv_i1 (List.mem_of_getElem? (i := 11) (by decide +kernel))), (qv_i11 (List.mem_of_getElem? (i := 5) (by decide +kernel))), by decide +kernel, by decide +kernel⟩
/-- Wayfarer.firstGoal(LTrueOneWay$Land;II)I -/
noncomputable def fX6_firstGoal (a0 : Nat) (a1 : Nat) (a2 : Int32) (a3 : Int32) (h : qv_H) : Option (Int32) :=
  (qv_gR h 2 a1 10).bind fun v1 =>
  (qv_aI h false v1 a2).bind fun v2 =>
  (qv_gR h 5 a0 0).bind fun v3 =>
  (fX6_indexOf a2 v2 (a3 &&& v2)).bind fun v4 =>
  (qv_aI h false v3 v4).bind fun v5 =>
  if v5 = 0 then
    some (-9 : Int32)
  else
    (qv_ob h 5 a0).bind fun _ =>
    (fX6_leastRoads a0 a2 h).bind fun v7 =>
    if v7 = (-9 : Int32) then
      some (-9 : Int32)
    else
      Option.bind (qv_loop (σ := Int32) (ρ := (Unit) ⊕ (Int32)) (fun x8 =>
          (qv_gI h 2 a1 0).bind fun v9 =>
          if v9 ≤ x8 then
            some (.inr (.inl ()))
          else
            (qv_ob h 2 a1).bind fun _ =>
            (fX3_isRoadBetween a1 a2 x8 h).bind fun v11 =>
            if v11 = 0 then
              some (.inl (x8 + (1 : Int32)))
            else
              (qv_gR h 5 a0 0).bind fun v12 =>
              (fX6_indexOf x8 v2 (a3 &&& v2)).bind fun v13 =>
              (qv_aI h false v12 v13).bind fun v14 =>
              if (v14 + (1 : Int32)) = v5 then
                some (.inr (.inr x8))
              else
                some (.inl (x8 + (1 : Int32)))
        ) (0 : Int32)) fun q => match q with
      | .inl _ =>
        some (-9 : Int32)
      | .inr q => some q
abbrev mX6_firstGoal : qv_M := (yX6_firstGoal, cX6_firstGoal, 8, (Option.some Jvm.ClassFile.FieldType.int), 2, 44)
set_option maxRecDepth 100000 in
set_option maxHeartbeats 4000000 in
theorem sX6_firstGoal {l : Launch} {g : qv_G} {a0 : Nat} {a1 : Nat} {a2 : Int32} {a3 : Int32} {h : qv_H} {r : Int32} (hs : fX6_firstGoal a0 a1 a2 a3 h = some r) : qv_J l g mX6_firstGoal 0 [some (.ref a0), some (.ref a1), some (.int a2), some (.int a3), none, none, none, none] [] h (some (.int r), h) := by
  unfold fX6_firstGoal at hs
  refine qv_aload_n dX6_firstGoal_0 (i := 1) rfl rfl ?_
  obtain ⟨v1, e1, hs⟩ := qv_bind hs
  refine qv_getR dX6_firstGoal_1 qF_X6_39 e1 ?_
  refine qv_iload_n dX6_firstGoal_4 (i := 2) rfl rfl ?_
  obtain ⟨v2, e2, hs⟩ := qv_bind hs
  refine qv_iald dX6_firstGoal_5 e2 ?_
  refine qv_istore (lo2 := [some (.ref a0), some (.ref a1), some (.int a2), some (.int a3), some (.int v2), none, none, none]) dX6_firstGoal_6 (by decide) rfl (Nat.le_of_ble_eq_true rfl) rfl ?_
  refine qv_iload_n dX6_firstGoal_8 (i := 3) rfl rfl ?_
  refine qv_iload dX6_firstGoal_9 rfl ?_
  refine qv_iand dX6_firstGoal_11 ?_
  refine qv_istore (lo2 := [some (.ref a0), some (.ref a1), some (.int a2), some (.int a3), some (.int v2), some (.int (a3 &&& v2)), none, none]) dX6_firstGoal_12 (by decide) rfl (Nat.le_of_ble_eq_true rfl) rfl ?_
  refine qv_aload_n dX6_firstGoal_14 (i := 0) rfl rfl ?_
  obtain ⟨v3, e3, hs⟩ := qv_bind hs
  refine qv_getR dX6_firstGoal_15 qF_X6_9 e3 ?_
  refine qv_iload_n dX6_firstGoal_18 (i := 2) rfl rfl ?_
  refine qv_iload dX6_firstGoal_19 rfl ?_
  refine qv_iload dX6_firstGoal_21 rfl ?_
  obtain ⟨v4, e4, hs⟩ := qv_bind hs
  refine qv_cS (d2 := mX6_indexOf) (r := some (.int v4)) (h2 := h) (av := [.int a2, .int v2, .int (a3 &&& v2)]) (st := [.ref v3]) dX6_firstGoal_23 qM_X6_35 qD_X6_indexOf rfl ⟨by decide, by decide⟩ rfl (Nat.le_of_ble_eq_true rfl) (Nat.le_of_ble_eq_true rfl) (sX6_indexOf e4) rfl ?_
  obtain ⟨v5, e5, hs⟩ := qv_bind hs
  refine qv_iald dX6_firstGoal_26 e5 ?_
  refine qv_istore (lo2 := [some (.ref a0), some (.ref a1), some (.int a2), some (.int a3), some (.int v2), some (.int (a3 &&& v2)), some (.int v5), none]) dX6_firstGoal_27 (by decide) rfl (Nat.le_of_ble_eq_true rfl) rfl ?_
  refine qv_iload dX6_firstGoal_29 rfl ?_
  by_cases c6 : v5 = 0
  · have hs := qv_pos c6 hs
    refine qv_if_eq (tgt := 44) dX6_firstGoal_31 rfl (fun _ => ?_) (fun q => absurd c6 q)
    refine qv_bipush (v := (-9 : Int32)) dX6_firstGoal_44 rfl ?_
    obtain rfl := qv_sm hs
    exact qv_iret dX6_firstGoal_46 rfl
  · have hs := qv_neg c6 hs
    refine qv_if_eq (tgt := 44) dX6_firstGoal_31 rfl (fun q => absurd q c6) (fun _ => ?_)
    refine qv_aload_n dX6_firstGoal_34 (i := 0) rfl rfl ?_
    refine qv_iload_n dX6_firstGoal_35 (i := 2) rfl rfl ?_
    obtain ⟨u6, e7, hs⟩ := qv_bind hs
    obtain ⟨v7, e8, hs⟩ := qv_bind hs
    refine qv_cV (d2 := mX6_leastRoads) (o := a0) (ci := 5) (r := some (.int v7)) (h2 := h) (av := [.int a2]) (st := []) dX6_firstGoal_36 qM_X6_44 qD_X6_leastRoads e7 rfl rfl ⟨by decide, by decide⟩ rfl (Nat.le_of_ble_eq_true rfl) (Nat.le_of_ble_eq_true rfl) (sX6_leastRoads e8) rfl ?_
    refine qv_bipush (v := (-9 : Int32)) dX6_firstGoal_39 rfl ?_
    by_cases c9 : v7 = (-9 : Int32)
    · have hs := qv_pos c9 hs
      refine qv_icmp_ne (tgt := 47) dX6_firstGoal_41 rfl (fun q => absurd c9 q) (fun _ => ?_)
      refine qv_bipush (v := (-9 : Int32)) dX6_firstGoal_44 rfl ?_
      obtain rfl := qv_sm hs
      exact qv_iret dX6_firstGoal_46 rfl
    · have hs := qv_neg c9 hs
      refine qv_icmp_ne (tgt := 47) dX6_firstGoal_41 rfl (fun _ => ?_) (fun q => absurd q c9)
      refine qv_iconst (v := (0 : Int32)) dX6_firstGoal_47 rfl ?_
      refine qv_istore (lo2 := [some (.ref a0), some (.ref a1), some (.int a2), some (.int a3), some (.int v2), some (.int (a3 &&& v2)), some (.int v5), some (.int (0 : Int32))]) dX6_firstGoal_48 (by decide) rfl (Nat.le_of_ble_eq_true rfl) rfl ?_
      obtain ⟨q15, e11, hA12⟩ := qv_bind hs
      have K10 : ∀ (_ : Unit), q15 = .inl () → qv_J l g mX6_firstGoal 99 [none, none, none, none, none, none, none, none] [] h (some (.int r), h) := by
        intro _ eq18
        subst eq18
        have hs := hA12
        dsimp only at hs
        refine qv_bipush (v := (-9 : Int32)) dX6_firstGoal_99 rfl ?_
        obtain rfl := qv_sm hs
        exact qv_iret dX6_firstGoal_101 rfl
      obtain ⟨n17, e11⟩ := qv_loop_of e11
      refine qv_dp (qv_le_s (qv_le_s (qv_le_s (qv_le_n (qv_le_s (qv_le_s (qv_le_s (qv_le_s qv_le_0)))))))) (?_ : qv_J l g mX6_firstGoal 50 [some (.ref a0), some (.ref a1), some (.int a2), none, some (.int v2), some (.int (a3 &&& v2)), some (.int v5), some (.int (0 : Int32))] [] h (some (.int r), h))
      revert e11
      suffices lj16 : ∀ (x8 : Int32), qv_it _ n17 x8 = some q15 → qv_J l g mX6_firstGoal 50 [some (.ref a0), some (.ref a1), some (.int a2), none, some (.int v2), some (.int (a3 &&& v2)), some (.int v5), some (.int x8)] [] h (some (.int r), h) from lj16 (0 : Int32)
      induction n17 with
      | zero =>
        intro x8 e11
        cases e11
      | succ n17 ih13 =>
        intro x8 e11
        obtain ⟨_, hs, eb14⟩ := qv_it_s e11
        refine qv_iload dX6_firstGoal_50 rfl ?_
        refine qv_aload_n dX6_firstGoal_52 (i := 1) rfl rfl ?_
        obtain ⟨v9, e19, hs⟩ := qv_bind hs
        refine qv_getI dX6_firstGoal_53 qF_X6_48 e19 ?_
        by_cases c20 : v9 ≤ x8
        · have hs := qv_pos c20 hs
          refine qv_icmp_ge (tgt := 99) dX6_firstGoal_56 rfl (fun _ => ?_) (fun q => absurd c20 q)
          cases hs
          cases qv_nx_r eb14
          exact qv_dp (qv_le_n (qv_le_n (qv_le_n (qv_le_n (qv_le_n (qv_le_n (qv_le_n (qv_le_n qv_le_0)))))))) (K10 () rfl)
        · have hs := qv_neg c20 hs
          refine qv_icmp_ge (tgt := 99) dX6_firstGoal_56 rfl (fun q => absurd q c20) (fun _ => ?_)
          refine qv_aload_n dX6_firstGoal_59 (i := 1) rfl rfl ?_
          refine qv_iload_n dX6_firstGoal_60 (i := 2) rfl rfl ?_
          refine qv_iload dX6_firstGoal_61 rfl ?_
          obtain ⟨u10, e21, hs⟩ := qv_bind hs
          obtain ⟨v11, e22, hs⟩ := qv_bind hs
          refine qv_cV (d2 := mX3_isRoadBetween) (o := a1) (ci := 2) (r := some (.int v11)) (h2 := h) (av := [.int a2, .int x8]) (st := []) dX6_firstGoal_63 qM_X6_51 qD_X3_isRoadBetween e21 rfl rfl ⟨by decide, by decide⟩ rfl (Nat.le_of_ble_eq_true rfl) (Nat.le_of_ble_eq_true rfl) (sX3_isRoadBetween e22) rfl ?_
          by_cases c23 : v11 = 0
          · have hs := qv_pos c23 hs
            refine qv_if_eq (tgt := 93) dX6_firstGoal_66 rfl (fun _ => ?_) (fun q => absurd c23 q)
            refine qv_iinc (v := x8 + (1 : Int32)) (lo2 := [some (.ref a0), some (.ref a1), some (.int a2), none, some (.int v2), some (.int (a3 &&& v2)), some (.int v5), some (.int (x8 + (1 : Int32)))]) dX6_firstGoal_93 rfl rfl (by decide) rfl rfl ?_
            refine qv_goto (tgt := 50) dX6_firstGoal_96 rfl ?_
            cases hs
            exact qv_dp (qv_le_s (qv_le_s (qv_le_s (qv_le_n (qv_le_s (qv_le_s (qv_le_s (qv_le_s qv_le_0)))))))) (ih13 _ (qv_nx_l eb14))
          · have hs := qv_neg c23 hs
            refine qv_if_eq (tgt := 93) dX6_firstGoal_66 rfl (fun q => absurd q c23) (fun _ => ?_)
            refine qv_aload_n dX6_firstGoal_69 (i := 0) rfl rfl ?_
            obtain ⟨v12, e24, hs⟩ := qv_bind hs
            refine qv_getR dX6_firstGoal_70 qF_X6_9 e24 ?_
            refine qv_iload dX6_firstGoal_73 rfl ?_
            refine qv_iload dX6_firstGoal_75 rfl ?_
            refine qv_iload dX6_firstGoal_77 rfl ?_
            obtain ⟨v13, e25, hs⟩ := qv_bind hs
            refine qv_cS (d2 := mX6_indexOf) (r := some (.int v13)) (h2 := h) (av := [.int x8, .int v2, .int (a3 &&& v2)]) (st := [.ref v12]) dX6_firstGoal_79 qM_X6_35 qD_X6_indexOf rfl ⟨by decide, by decide⟩ rfl (Nat.le_of_ble_eq_true rfl) (Nat.le_of_ble_eq_true rfl) (sX6_indexOf e25) rfl ?_
            obtain ⟨v14, e26, hs⟩ := qv_bind hs
            refine qv_iald dX6_firstGoal_82 e26 ?_
            refine qv_iconst (v := (1 : Int32)) dX6_firstGoal_83 rfl ?_
            refine qv_iadd dX6_firstGoal_84 ?_
            refine qv_iload dX6_firstGoal_85 rfl ?_
            by_cases c27 : (v14 + (1 : Int32)) = v5
            · have hs := qv_pos c27 hs
              refine qv_icmp_ne (tgt := 93) dX6_firstGoal_87 rfl (fun q => absurd c27 q) (fun _ => ?_)
              refine qv_iload dX6_firstGoal_90 rfl ?_
              cases hs
              cases qv_nx_r eb14
              have hs := hA12
              dsimp only at hs
              obtain rfl := qv_sm hs
              exact qv_iret dX6_firstGoal_92 rfl
            · have hs := qv_neg c27 hs
              refine qv_icmp_ne (tgt := 93) dX6_firstGoal_87 rfl (fun _ => ?_) (fun q => absurd q c27)
              refine qv_iinc (v := x8 + (1 : Int32)) (lo2 := [some (.ref a0), some (.ref a1), some (.int a2), none, some (.int v2), some (.int (a3 &&& v2)), some (.int v5), some (.int (x8 + (1 : Int32)))]) dX6_firstGoal_93 rfl rfl (by decide) rfl rfl ?_
              refine qv_goto (tgt := 50) dX6_firstGoal_96 rfl ?_
              cases hs
              exact qv_dp (qv_le_s (qv_le_s (qv_le_s (qv_le_n (qv_le_s (qv_le_s (qv_le_s (qv_le_s qv_le_0)))))))) (ih13 _ (qv_nx_l eb14))
theorem qD_X6_firstGoal : qv_DV mX6_firstGoal 3 := ⟨(qv_i11 (List.mem_of_getElem? (i := 7) (by decide +kernel))), (qv_i11 (List.mem_of_getElem? (i := 8) (by decide +kernel))), (qv_i1 (List.mem_of_getElem? (i := 11) (by decide +kernel))), (qv_i11 (List.mem_of_getElem? (i := 9) (by decide +kernel))), by decide +kernel, by decide +kernel⟩
/-- Worlds.reckon(LTrueOneWay$Land;)V -/
noncomputable def fX7_reckon (a0 : Nat) (a1 : Nat) (h : qv_H) : Option (qv_H) :=
  (qv_ob h 2 a1).bind fun _ =>
  (fX3_worldMask a1 h).bind fun v2 =>
  (qv_pI h 6 a0 0 (v2 &&& (1023 : Int32))).bind fun h3 =>
  (qv_pI h3 6 a0 1 (0 : Int32)).bind fun h4 =>
  Option.bind (qv_loop (σ := Int32 × qv_H) (ρ := qv_H) (fun (x5, h6) =>
      (qv_gI h6 6 a0 0).bind fun v7 =>
      if v7 < x5 then
        some (.inr h6)
      else
        (qv_gR h6 6 a0 6).bind fun v8 =>
        (qv_ob h6 6 a0).bind fun _ =>
        (fX7_has a0 x5 h6).bind fun v10 =>
        Option.bind (α := Int32) (
            if v10 = 0 then
              some (7 : Int32)
            else
              (qv_ob h6 2 a1).bind fun _ =>
              (fX3_misfitsIn a1 x5 h6).bind fun v12 =>
              some v12
          ) fun m13 =>
        (qv_sI h6 false v8 x5 m13).bind fun h14 =>
        (qv_gR h14 6 a0 6).bind fun v15 =>
        (qv_aI h14 false v15 x5).bind fun v16 =>
        Option.bind (α := qv_H) (
            if v16 = 0 then
              (qv_gI h14 6 a0 1).bind fun v17 =>
              (qv_pI h14 6 a0 1 (v17 + (1 : Int32))).bind fun h18 =>
              some h18
            else
              some h14
          ) fun h19 =>
        some (.inl (x5 + (1 : Int32), h19))
    ) ((0 : Int32), h4)) fun h20 =>
  some h20
abbrev mX7_reckon : qv_M := (yX7_reckon, cX7_reckon, 3, (Option.none : Option Jvm.ClassFile.FieldType), 4, 90)
set_option maxRecDepth 100000 in
set_option maxHeartbeats 4000000 in
theorem sX7_reckon {l : Launch} {g : qv_G} {a0 : Nat} {a1 : Nat} {h : qv_H} {hz : qv_H} (hs : fX7_reckon a0 a1 h = some hz) : qv_J l g mX7_reckon 0 [some (.ref a0), some (.ref a1), none] [] h (none, hz) := by
  unfold fX7_reckon at hs
  refine qv_aload_n dX7_reckon_0 (i := 0) rfl rfl ?_
  refine qv_aload_n dX7_reckon_1 (i := 1) rfl rfl ?_
  obtain ⟨u1, e1, hs⟩ := qv_bind hs
  obtain ⟨v2, e2, hs⟩ := qv_bind hs
  refine qv_cV (d2 := mX3_worldMask) (o := a1) (ci := 2) (r := some (.int v2)) (h2 := h) (av := []) (st := [.ref a0]) dX7_reckon_2 qM_X7_34 qD_X3_worldMask e1 rfl rfl ⟨by decide, by decide⟩ rfl (Nat.le_of_ble_eq_true rfl) (Nat.le_of_ble_eq_true rfl) (sX3_worldMask e2) rfl ?_
  refine qv_sipush (v := (1023 : Int32)) dX7_reckon_5 rfl ?_
  refine qv_iand dX7_reckon_8 ?_
  obtain ⟨h3, e3, hs⟩ := qv_bind hs
  refine qv_putI dX7_reckon_9 qF_X7_9 e3 ?_
  refine qv_aload_n dX7_reckon_12 (i := 0) rfl rfl ?_
  refine qv_iconst (v := (0 : Int32)) dX7_reckon_13 rfl ?_
  obtain ⟨h4, e4, hs⟩ := qv_bind hs
  refine qv_putI dX7_reckon_14 qF_X7_15 e4 ?_
  refine qv_iconst (v := (0 : Int32)) dX7_reckon_17 rfl ?_
  refine qv_istore_n (lo2 := [some (.ref a0), some (.ref a1), some (.int (0 : Int32))]) dX7_reckon_18 (i := 2) rfl (by decide) rfl (Nat.le_of_ble_eq_true rfl) rfl ?_
  obtain ⟨h20, e6, hs⟩ := qv_bind hs
  have K5 : qv_J l g mX7_reckon 76 [none, none, none] [] h20 (none, hz) := by
    obtain rfl := qv_sm hs
    exact qv_vret dX7_reckon_76 rfl
  obtain ⟨n12, e6⟩ := qv_loop_of e6
  refine qv_dp (qv_le_s (qv_le_s (qv_le_s qv_le_0))) (?_ : qv_J l g mX7_reckon 19 [some (.ref a0), some (.ref a1), some (.int (0 : Int32))] [] h4 (none, hz))
  revert e6
  suffices lj11 : ∀ (x5 : Int32) (h6 : qv_H), qv_it _ n12 (x5, h6) = some h20 → qv_J l g mX7_reckon 19 [some (.ref a0), some (.ref a1), some (.int x5)] [] h6 (none, hz) from lj11 (0 : Int32) h4
  induction n12 with
  | zero =>
    intro x5 h6 e6
    cases e6
  | succ n12 ih8 =>
    intro x5 h6 e6
    obtain ⟨_, hs, eb9⟩ := qv_it_s e6
    dsimp only at hs
    refine qv_iload_n dX7_reckon_19 (i := 2) rfl rfl ?_
    refine qv_aload_n dX7_reckon_20 (i := 0) rfl rfl ?_
    obtain ⟨v7, e13, hs⟩ := qv_bind hs
    refine qv_getI dX7_reckon_21 qF_X7_9 e13 ?_
    by_cases c14 : v7 < x5
    · have hs := qv_pos c14 hs
      refine qv_icmp_gt (tgt := 76) dX7_reckon_24 rfl (fun _ => ?_) (fun q => absurd c14 q)
      cases hs
      cases qv_nx_r eb9
      exact qv_dp (qv_le_n (qv_le_n (qv_le_n qv_le_0))) K5
    · have hs := qv_neg c14 hs
      refine qv_icmp_gt (tgt := 76) dX7_reckon_24 rfl (fun q => absurd q c14) (fun _ => ?_)
      refine qv_aload_n dX7_reckon_27 (i := 0) rfl rfl ?_
      obtain ⟨v8, e15, hs⟩ := qv_bind hs
      refine qv_getR dX7_reckon_28 qF_X7_31 e15 ?_
      refine qv_iload_n dX7_reckon_31 (i := 2) rfl rfl ?_
      refine qv_aload_n dX7_reckon_32 (i := 0) rfl rfl ?_
      refine qv_iload_n dX7_reckon_33 (i := 2) rfl rfl ?_
      obtain ⟨u9, e16, hs⟩ := qv_bind hs
      obtain ⟨v10, e17, hs⟩ := qv_bind hs
      refine qv_cV (d2 := mX7_has) (o := a0) (ci := 6) (r := some (.int v10)) (h2 := h6) (av := [.int x5]) (st := [.int x5, .ref v8]) dX7_reckon_34 qM_X7_40 qD_X7_has e16 rfl rfl ⟨by decide, by decide⟩ rfl (Nat.le_of_ble_eq_true rfl) (Nat.le_of_ble_eq_true rfl) (sX7_has e17) rfl ?_
      obtain ⟨m13, hj19, hs⟩ := qv_bind hs
      have K18 : qv_J l g mX7_reckon 50 [some (.ref a0), some (.ref a1), some (.int x5)] [.int m13, .int x5, .ref v8] h6 (none, hz) := by
        obtain ⟨h14, e20, hs⟩ := qv_bind hs
        refine qv_iast dX7_reckon_50 e20 ?_
        refine qv_aload_n dX7_reckon_51 (i := 0) rfl rfl ?_
        obtain ⟨v15, e21, hs⟩ := qv_bind hs
        refine qv_getR dX7_reckon_52 qF_X7_31 e21 ?_
        refine qv_iload_n dX7_reckon_55 (i := 2) rfl rfl ?_
        obtain ⟨v16, e22, hs⟩ := qv_bind hs
        refine qv_iald dX7_reckon_56 e22 ?_
        obtain ⟨h19, hj24, hs⟩ := qv_bind hs
        have K23 : qv_J l g mX7_reckon 70 [some (.ref a0), some (.ref a1), some (.int x5)] [] h19 (none, hz) := by
          refine qv_iinc (v := x5 + (1 : Int32)) (lo2 := [some (.ref a0), some (.ref a1), some (.int (x5 + (1 : Int32)))]) dX7_reckon_70 rfl rfl (by decide) rfl rfl ?_
          refine qv_goto (tgt := 19) dX7_reckon_73 rfl ?_
          cases hs
          exact qv_dp (qv_le_s (qv_le_s (qv_le_s qv_le_0))) (ih8 _ _ (qv_nx_l eb9))
        replace hs := hj24
        by_cases c25 : v16 = 0
        · have hs := qv_pos c25 hs
          refine qv_if_ne (tgt := 70) dX7_reckon_57 rfl (fun q => absurd c25 q) (fun _ => ?_)
          refine qv_aload_n dX7_reckon_60 (i := 0) rfl rfl ?_
          refine qv_dup dX7_reckon_61 rfl ?_
          obtain ⟨v17, e26, hs⟩ := qv_bind hs
          refine qv_getI dX7_reckon_62 qF_X7_15 e26 ?_
          refine qv_iconst (v := (1 : Int32)) dX7_reckon_65 rfl ?_
          refine qv_iadd dX7_reckon_66 ?_
          obtain ⟨h18, e27, hs⟩ := qv_bind hs
          refine qv_putI dX7_reckon_67 qF_X7_15 e27 ?_
          cases hs
          exact qv_dp (qv_le_s (qv_le_s (qv_le_s qv_le_0))) K23
        · have hs := qv_neg c25 hs
          refine qv_if_ne (tgt := 70) dX7_reckon_57 rfl (fun _ => ?_) (fun q => absurd q c25)
          cases hs
          exact qv_dp (qv_le_s (qv_le_s (qv_le_s qv_le_0))) K23
      replace hs := hj19
      by_cases c28 : v10 = 0
      · have hs := qv_pos c28 hs
        refine qv_if_eq (tgt := 48) dX7_reckon_37 rfl (fun _ => ?_) (fun q => absurd c28 q)
        refine qv_bipush (v := (7 : Int32)) dX7_reckon_48 rfl ?_
        cases hs
        exact qv_dp (qv_le_s (qv_le_s (qv_le_s qv_le_0))) K18
      · have hs := qv_neg c28 hs
        refine qv_if_eq (tgt := 48) dX7_reckon_37 rfl (fun q => absurd q c28) (fun _ => ?_)
        refine qv_aload_n dX7_reckon_40 (i := 1) rfl rfl ?_
        refine qv_iload_n dX7_reckon_41 (i := 2) rfl rfl ?_
        obtain ⟨u11, e29, hs⟩ := qv_bind hs
        obtain ⟨v12, e30, hs⟩ := qv_bind hs
        refine qv_cV (d2 := mX3_misfitsIn) (o := a1) (ci := 2) (r := some (.int v12)) (h2 := h6) (av := [.int x5]) (st := [.int x5, .ref v8]) dX7_reckon_42 qM_X7_44 qD_X3_misfitsIn e29 rfl rfl ⟨by decide, by decide⟩ rfl (Nat.le_of_ble_eq_true rfl) (Nat.le_of_ble_eq_true rfl) (sX3_misfitsIn e30) rfl ?_
        refine qv_goto (tgt := 50) dX7_reckon_45 rfl ?_
        cases hs
        exact qv_dp (qv_le_s (qv_le_s (qv_le_s qv_le_0))) K18
theorem qD_X7_reckon : qv_DV mX7_reckon 1 := ⟨(qv_i3 (List.mem_of_getElem? (i := 39) (by decide +kernel))), (qv_i3 (List.mem_of_getElem? (i := 40) (by decide +kernel))), (qv_i1 (List.mem_of_getElem? (i := 9) (by decide +kernel))), (qv_i3 (List.mem_of_getElem? (i := 41) (by decide +kernel))), by decide +kernel, by decide +kernel⟩
/-- Worlds.isAsFound(I)Z -/
noncomputable def fX7_isAsFound (a0 : Nat) (a1 : Int32) (h : qv_H) : Option (Int32) :=
  (qv_gI h 6 a0 4).bind fun v1 =>
  (qv_gI h 6 a0 5).bind fun v2 =>
  (fX0_allow a1 v1 v2).bind fun v3 =>
  (qv_b1 v3).bind fun v4 =>
  some v3
abbrev mX7_isAsFound : qv_M := (yX7_isAsFound, cX7_isAsFound, 2, (Option.some Jvm.ClassFile.FieldType.boolean), 1, 22)
set_option maxRecDepth 100000 in
set_option maxHeartbeats 4000000 in
theorem sX7_isAsFound {l : Launch} {g : qv_G} {a0 : Nat} {a1 : Int32} {h : qv_H} {r : Int32} (hs : fX7_isAsFound a0 a1 h = some r) : qv_J l g mX7_isAsFound 0 [some (.ref a0), some (.int a1)] [] h (some (.int r), h) := by
  unfold fX7_isAsFound at hs
  refine qv_iload_n dX7_isAsFound_0 (i := 1) rfl rfl ?_
  refine qv_aload_n dX7_isAsFound_1 (i := 0) rfl rfl ?_
  obtain ⟨v1, e1, hs⟩ := qv_bind hs
  refine qv_getI dX7_isAsFound_2 qF_X7_25 e1 ?_
  refine qv_aload_n dX7_isAsFound_5 (i := 0) rfl rfl ?_
  obtain ⟨v2, e2, hs⟩ := qv_bind hs
  refine qv_getI dX7_isAsFound_6 qF_X7_28 e2 ?_
  obtain ⟨v3, e3, hs⟩ := qv_bind hs
  refine qv_cS (d2 := mX0_allow) (r := some (.int v3)) (h2 := h) (av := [.int a1, .int v1, .int v2]) (st := []) dX7_isAsFound_9 qM_X7_63 qD_X0_allow rfl ⟨by decide, by decide⟩ rfl (Nat.le_of_ble_eq_true rfl) (Nat.le_of_ble_eq_true rfl) (sX0_allow e3) rfl ?_
  obtain ⟨v4, e4, hs⟩ := qv_bind hs
  obtain rfl := qv_sm hs
  exact qv_zret dX7_isAsFound_12 rfl (qv_b1_of e4).1
theorem qD_X7_isAsFound : qv_DV mX7_isAsFound 1 := ⟨(qv_i4 (List.mem_of_getElem? (i := 25) (by decide +kernel))), (qv_i0 (List.mem_of_getElem? (i := 1) (by decide +kernel))), (qv_i1 (List.mem_of_getElem? (i := 9) (by decide +kernel))), (qv_i4 (List.mem_of_getElem? (i := 26) (by decide +kernel))), by decide +kernel, by decide +kernel⟩
/-- Worlds.isGood(I)Z -/
noncomputable def fX7_isGood (a0 : Nat) (a1 : Int32) (h : qv_H) : Option (Int32) :=
  (qv_ob h 6 a0).bind fun _ =>
  (fX7_isFitting a0 a1 h).bind fun v2 =>
  Option.bind (α := Int32) (
      if v2 = 0 then
        some (0 : Int32)
      else
        (qv_ob h 6 a0).bind fun _ =>
        (fX7_isAsFound a0 a1 h).bind fun v4 =>
        if v4 = 0 then
          some (0 : Int32)
        else
          some (1 : Int32)
    ) fun m5 =>
  (qv_b1 m5).bind fun v6 =>
  some m5
abbrev mX7_isGood : qv_M := (yX7_isGood, cX7_isGood, 2, (Option.some Jvm.ClassFile.FieldType.boolean), 2, 43)
set_option maxRecDepth 100000 in
set_option maxHeartbeats 4000000 in
theorem sX7_isGood {l : Launch} {g : qv_G} {a0 : Nat} {a1 : Int32} {h : qv_H} {r : Int32} (hs : fX7_isGood a0 a1 h = some r) : qv_J l g mX7_isGood 0 [some (.ref a0), some (.int a1)] [] h (some (.int r), h) := by
  unfold fX7_isGood at hs
  refine qv_aload_n dX7_isGood_0 (i := 0) rfl rfl ?_
  refine qv_iload_n dX7_isGood_1 (i := 1) rfl rfl ?_
  obtain ⟨u1, e1, hs⟩ := qv_bind hs
  obtain ⟨v2, e2, hs⟩ := qv_bind hs
  refine qv_cV (d2 := mX7_isFitting) (o := a0) (ci := 6) (r := some (.int v2)) (h2 := h) (av := [.int a1]) (st := []) dX7_isGood_2 qM_X7_57 qD_X7_isFitting e1 rfl rfl ⟨by decide, by decide⟩ rfl (Nat.le_of_ble_eq_true rfl) (Nat.le_of_ble_eq_true rfl) (sX7_isFitting e2) rfl ?_
  obtain ⟨m5, hj4, hs⟩ := qv_bind hs
  have K3 : qv_J l g mX7_isGood 21 [none, none] [.int m5] h (some (.int r), h) := by
    obtain ⟨v6, e5, hs⟩ := qv_bind hs
    obtain rfl := qv_sm hs
    exact qv_zret dX7_isGood_21 rfl (qv_b1_of e5).1
  replace hs := hj4
  by_cases c6 : v2 = 0
  · have hs := qv_pos c6 hs
    refine qv_if_eq (tgt := 20) dX7_isGood_5 rfl (fun _ => ?_) (fun q => absurd c6 q)
    refine qv_iconst (v := (0 : Int32)) dX7_isGood_20 rfl ?_
    cases hs
    exact qv_dp (qv_le_n (qv_le_n qv_le_0)) K3
  · have hs := qv_neg c6 hs
    refine qv_if_eq (tgt := 20) dX7_isGood_5 rfl (fun q => absurd q c6) (fun _ => ?_)
    refine qv_aload_n dX7_isGood_8 (i := 0) rfl rfl ?_
    refine qv_iload_n dX7_isGood_9 (i := 1) rfl rfl ?_
    obtain ⟨u3, e7, hs⟩ := qv_bind hs
    obtain ⟨v4, e8, hs⟩ := qv_bind hs
    refine qv_cV (d2 := mX7_isAsFound) (o := a0) (ci := 6) (r := some (.int v4)) (h2 := h) (av := [.int a1]) (st := []) dX7_isGood_10 qM_X7_60 qD_X7_isAsFound e7 rfl rfl ⟨by decide, by decide⟩ rfl (Nat.le_of_ble_eq_true rfl) (Nat.le_of_ble_eq_true rfl) (sX7_isAsFound e8) rfl ?_
    by_cases c9 : v4 = 0
    · have hs := qv_pos c9 hs
      refine qv_if_eq (tgt := 20) dX7_isGood_13 rfl (fun _ => ?_) (fun q => absurd c9 q)
      refine qv_iconst (v := (0 : Int32)) dX7_isGood_20 rfl ?_
      cases hs
      exact qv_dp (qv_le_n (qv_le_n qv_le_0)) K3
    · have hs := qv_neg c9 hs
      refine qv_if_eq (tgt := 20) dX7_isGood_13 rfl (fun q => absurd q c9) (fun _ => ?_)
      refine qv_iconst (v := (1 : Int32)) dX7_isGood_16 rfl ?_
      refine qv_goto (tgt := 21) dX7_isGood_17 rfl ?_
      cases hs
      exact qv_dp (qv_le_n (qv_le_n qv_le_0)) K3
theorem qD_X7_isGood : qv_DV mX7_isGood 1 := ⟨(qv_i4 (List.mem_of_getElem? (i := 17) (by decide +kernel))), (qv_i4 (List.mem_of_getElem? (i := 18) (by decide +kernel))), (qv_i1 (List.mem_of_getElem? (i := 9) (by decide +kernel))), (qv_i4 (List.mem_of_getElem? (i := 19) (by decide +kernel))), by decide +kernel, by decide +kernel⟩
/-- Worlds.sift(LTrueOneWay$Finds;)V -/
noncomputable def fX7_sift (a0 : Nat) (a1 : Nat) (h : qv_H) : Option (qv_H) :=
  (qv_ob h 1 a1).bind fun _ =>
  (fX2_bitsFound a1 (1 : Int32) h).bind fun v2 =>
  (qv_pI h 6 a0 4 v2).bind fun h3 =>
  (qv_ob h3 1 a1).bind fun _ =>
  (fX2_bitsFound a1 (0 : Int32) h3).bind fun v5 =>
  (qv_pI h3 6 a0 5 v5).bind fun h6 =>
  (qv_pI h6 6 a0 2 (0 : Int32)).bind fun h7 =>
  Option.bind (qv_loop (σ := Int32 × qv_H) (ρ := qv_H) (fun (x8, h9) =>
      (qv_gI h9 6 a0 0).bind fun v10 =>
      if v10 < x8 then
        some (.inr h9)
      else
        (qv_ob h9 6 a0).bind fun _ =>
        (fX7_isGood a0 x8 h9).bind fun v12 =>
        Option.bind (α := qv_H) (
            if v12 = 0 then
              some h9
            else
              (qv_gR h9 6 a0 3).bind fun v13 =>
              (qv_gI h9 6 a0 2).bind fun v14 =>
              (qv_sI h9 false v13 v14 x8).bind fun h15 =>
              (qv_gI h15 6 a0 2).bind fun v16 =>
              (qv_pI h15 6 a0 2 (v16 + (1 : Int32))).bind fun h17 =>
              some h17
          ) fun h18 =>
        some (.inl (x8 + (1 : Int32), h18))
    ) ((0 : Int32), h7)) fun h19 =>
  some h19
abbrev mX7_sift : qv_M := (yX7_sift, cX7_sift, 3, (Option.none : Option Jvm.ClassFile.FieldType), 3, 64)
set_option maxRecDepth 100000 in
set_option maxHeartbeats 4000000 in
theorem sX7_sift {l : Launch} {g : qv_G} {a0 : Nat} {a1 : Nat} {h : qv_H} {hz : qv_H} (hs : fX7_sift a0 a1 h = some hz) : qv_J l g mX7_sift 0 [some (.ref a0), some (.ref a1), none] [] h (none, hz) := by
  unfold fX7_sift at hs
  refine qv_aload_n dX7_sift_0 (i := 0) rfl rfl ?_
  refine qv_aload_n dX7_sift_1 (i := 1) rfl rfl ?_
  refine qv_iconst (v := (1 : Int32)) dX7_sift_2 rfl ?_
  obtain ⟨u1, e1, hs⟩ := qv_bind hs
  obtain ⟨v2, e2, hs⟩ := qv_bind hs
  refine qv_cV (d2 := mX2_bitsFound) (o := a1) (ci := 1) (r := some (.int v2)) (h2 := h) (av := [.int (1 : Int32)]) (st := [.ref a0]) dX7_sift_3 qM_X7_48 qD_X2_bitsFound e1 rfl rfl ⟨by decide, by decide⟩ rfl (Nat.le_of_ble_eq_true rfl) (Nat.le_of_ble_eq_true rfl) (sX2_bitsFound e2) rfl ?_
  obtain ⟨h3, e3, hs⟩ := qv_bind hs
  refine qv_putI dX7_sift_6 qF_X7_25 e3 ?_
  refine qv_aload_n dX7_sift_9 (i := 0) rfl rfl ?_
  refine qv_aload_n dX7_sift_10 (i := 1) rfl rfl ?_
  refine qv_iconst (v := (0 : Int32)) dX7_sift_11 rfl ?_
  obtain ⟨u4, e4, hs⟩ := qv_bind hs
  obtain ⟨v5, e5, hs⟩ := qv_bind hs
  refine qv_cV (d2 := mX2_bitsFound) (o := a1) (ci := 1) (r := some (.int v5)) (h2 := h3) (av := [.int (0 : Int32)]) (st := [.ref a0]) dX7_sift_12 qM_X7_48 qD_X2_bitsFound e4 rfl rfl ⟨by decide, by decide⟩ rfl (Nat.le_of_ble_eq_true rfl) (Nat.le_of_ble_eq_true rfl) (sX2_bitsFound e5) rfl ?_
  obtain ⟨h6, e6, hs⟩ := qv_bind hs
  refine qv_putI dX7_sift_15 qF_X7_28 e6 ?_
  refine qv_aload_n dX7_sift_18 (i := 0) rfl rfl ?_
  refine qv_iconst (v := (0 : Int32)) dX7_sift_19 rfl ?_
  obtain ⟨h7, e7, hs⟩ := qv_bind hs
  refine qv_putI dX7_sift_20 qF_X7_18 e7 ?_
  refine qv_iconst (v := (0 : Int32)) dX7_sift_23 rfl ?_
  refine qv_istore_n (lo2 := [some (.ref a0), some (.ref a1), some (.int (0 : Int32))]) dX7_sift_24 (i := 2) rfl (by decide) rfl (Nat.le_of_ble_eq_true rfl) rfl ?_
  obtain ⟨h19, e9, hs⟩ := qv_bind hs
  have K8 : qv_J l g mX7_sift 67 [none, none, none] [] h19 (none, hz) := by
    obtain rfl := qv_sm hs
    exact qv_vret dX7_sift_67 rfl
  obtain ⟨n15, e9⟩ := qv_loop_of e9
  refine qv_dp (qv_le_s (qv_le_n (qv_le_s qv_le_0))) (?_ : qv_J l g mX7_sift 25 [some (.ref a0), none, some (.int (0 : Int32))] [] h7 (none, hz))
  revert e9
  suffices lj14 : ∀ (x8 : Int32) (h9 : qv_H), qv_it _ n15 (x8, h9) = some h19 → qv_J l g mX7_sift 25 [some (.ref a0), none, some (.int x8)] [] h9 (none, hz) from lj14 (0 : Int32) h7
  induction n15 with
  | zero =>
    intro x8 h9 e9
    cases e9
  | succ n15 ih11 =>
    intro x8 h9 e9
    obtain ⟨_, hs, eb12⟩ := qv_it_s e9
    dsimp only at hs
    refine qv_iload_n dX7_sift_25 (i := 2) rfl rfl ?_
    refine qv_aload_n dX7_sift_26 (i := 0) rfl rfl ?_
    obtain ⟨v10, e16, hs⟩ := qv_bind hs
    refine qv_getI dX7_sift_27 qF_X7_9 e16 ?_
    by_cases c17 : v10 < x8
    · have hs := qv_pos c17 hs
      refine qv_icmp_gt (tgt := 67) dX7_sift_30 rfl (fun _ => ?_) (fun q => absurd c17 q)
      cases hs
      cases qv_nx_r eb12
      exact qv_dp (qv_le_n (qv_le_n (qv_le_n qv_le_0))) K8
    · have hs := qv_neg c17 hs
      refine qv_icmp_gt (tgt := 67) dX7_sift_30 rfl (fun q => absurd q c17) (fun _ => ?_)
      refine qv_aload_n dX7_sift_33 (i := 0) rfl rfl ?_
      refine qv_iload_n dX7_sift_34 (i := 2) rfl rfl ?_
      obtain ⟨u11, e18, hs⟩ := qv_bind hs
      obtain ⟨v12, e19, hs⟩ := qv_bind hs
      refine qv_cV (d2 := mX7_isGood) (o := a0) (ci := 6) (r := some (.int v12)) (h2 := h9) (av := [.int x8]) (st := []) dX7_sift_35 qM_X7_54 qD_X7_isGood e18 rfl rfl ⟨by decide, by decide⟩ rfl (Nat.le_of_ble_eq_true rfl) (Nat.le_of_ble_eq_true rfl) (sX7_isGood e19) rfl ?_
      obtain ⟨h18, hj21, hs⟩ := qv_bind hs
      have K20 : qv_J l g mX7_sift 61 [some (.ref a0), none, some (.int x8)] [] h18 (none, hz) := by
        refine qv_iinc (v := x8 + (1 : Int32)) (lo2 := [some (.ref a0), none, some (.int (x8 + (1 : Int32)))]) dX7_sift_61 rfl rfl (by decide) rfl rfl ?_
        refine qv_goto (tgt := 25) dX7_sift_64 rfl ?_
        cases hs
        exact qv_dp (qv_le_s (qv_le_n (qv_le_s qv_le_0))) (ih11 _ _ (qv_nx_l eb12))
      replace hs := hj21
      by_cases c22 : v12 = 0
      · have hs := qv_pos c22 hs
        refine qv_if_eq (tgt := 61) dX7_sift_38 rfl (fun _ => ?_) (fun q => absurd c22 q)
        cases hs
        exact qv_dp (qv_le_s (qv_le_n (qv_le_s qv_le_0))) K20
      · have hs := qv_neg c22 hs
        refine qv_if_eq (tgt := 61) dX7_sift_38 rfl (fun q => absurd q c22) (fun _ => ?_)
        refine qv_aload_n dX7_sift_41 (i := 0) rfl rfl ?_
        obtain ⟨v13, e23, hs⟩ := qv_bind hs
        refine qv_getR dX7_sift_42 qF_X7_21 e23 ?_
        refine qv_aload_n dX7_sift_45 (i := 0) rfl rfl ?_
        obtain ⟨v14, e24, hs⟩ := qv_bind hs
        refine qv_getI dX7_sift_46 qF_X7_18 e24 ?_
        refine qv_iload_n dX7_sift_49 (i := 2) rfl rfl ?_
        obtain ⟨h15, e25, hs⟩ := qv_bind hs
        refine qv_iast dX7_sift_50 e25 ?_
        refine qv_aload_n dX7_sift_51 (i := 0) rfl rfl ?_
        refine qv_dup dX7_sift_52 rfl ?_
        obtain ⟨v16, e26, hs⟩ := qv_bind hs
        refine qv_getI dX7_sift_53 qF_X7_18 e26 ?_
        refine qv_iconst (v := (1 : Int32)) dX7_sift_56 rfl ?_
        refine qv_iadd dX7_sift_57 ?_
        obtain ⟨h17, e27, hs⟩ := qv_bind hs
        refine qv_putI dX7_sift_58 qF_X7_18 e27 ?_
        cases hs
        exact qv_dp (qv_le_s (qv_le_n (qv_le_s qv_le_0))) K20
theorem qD_X7_sift : qv_DV mX7_sift 1 := ⟨(qv_i4 (List.mem_of_getElem? (i := 9) (by decide +kernel))), (qv_i4 (List.mem_of_getElem? (i := 10) (by decide +kernel))), (qv_i1 (List.mem_of_getElem? (i := 9) (by decide +kernel))), (qv_i4 (List.mem_of_getElem? (i := 11) (by decide +kernel))), by decide +kernel, by decide +kernel⟩
/-- Worlds.alwaysSo(II)I -/
noncomputable def fX7_alwaysSo (a0 : Nat) (a1 : Int32) (a2 : Int32) (h : qv_H) : Option (Int32) :=
  (qv_gI h 6 a0 0).bind fun v1 =>
  Option.bind (qv_loop (σ := Int32 × Int32) (ρ := Int32) (fun (x2, x3) =>
      (qv_gI h 6 a0 2).bind fun v4 =>
      if v4 ≤ x3 then
        some (.inr x2)
      else
        (qv_gR h 6 a0 3).bind fun v5 =>
        (qv_aI h false v5 x3).bind fun v6 =>
        (fX0_allow v6 a1 a2).bind fun v7 =>
        Option.bind (α := Int32) (
            if v7 = 0 then
              some x2
            else
              (qv_gR h 6 a0 3).bind fun v8 =>
              (qv_aI h false v8 x3).bind fun v9 =>
              some (x2 &&& v9)
          ) fun m10 =>
        some (.inl (m10, x3 + (1 : Int32)))
    ) (v1, (0 : Int32))) fun y11 =>
  some y11
abbrev mX7_alwaysSo : qv_M := (yX7_alwaysSo, cX7_alwaysSo, 5, (Option.some Jvm.ClassFile.FieldType.int), 1, 22)
set_option maxRecDepth 100000 in
set_option maxHeartbeats 4000000 in
theorem sX7_alwaysSo {l : Launch} {g : qv_G} {a0 : Nat} {a1 : Int32} {a2 : Int32} {h : qv_H} {r : Int32} (hs : fX7_alwaysSo a0 a1 a2 h = some r) : qv_J l g mX7_alwaysSo 0 [some (.ref a0), some (.int a1), some (.int a2), none, none] [] h (some (.int r), h) := by
  unfold fX7_alwaysSo at hs
  refine qv_aload_n dX7_alwaysSo_0 (i := 0) rfl rfl ?_
  obtain ⟨v1, e1, hs⟩ := qv_bind hs
  refine qv_getI dX7_alwaysSo_1 qF_X7_9 e1 ?_
  refine qv_istore_n (lo2 := [some (.ref a0), some (.int a1), some (.int a2), some (.int v1), none]) dX7_alwaysSo_4 (i := 3) rfl (by decide) rfl (Nat.le_of_ble_eq_true rfl) rfl ?_
  refine qv_iconst (v := (0 : Int32)) dX7_alwaysSo_5 rfl ?_
  refine qv_istore (lo2 := [some (.ref a0), some (.int a1), some (.int a2), some (.int v1), some (.int (0 : Int32))]) dX7_alwaysSo_6 (by decide) rfl (Nat.le_of_ble_eq_true rfl) rfl ?_
  obtain ⟨y11, e3, hs⟩ := qv_bind hs
  have K2 : qv_J l g mX7_alwaysSo 48 [none, none, none, some (.int y11), none] [] h (some (.int r), h) := by
    refine qv_iload_n dX7_alwaysSo_48 (i := 3) rfl rfl ?_
    obtain rfl := qv_sm hs
    exact qv_iret dX7_alwaysSo_49 rfl
  obtain ⟨n9, e3⟩ := qv_loop_of e3
  refine qv_dp (qv_le_s (qv_le_s (qv_le_s (qv_le_s (qv_le_s qv_le_0))))) (?_ : qv_J l g mX7_alwaysSo 8 [some (.ref a0), some (.int a1), some (.int a2), some (.int v1), some (.int (0 : Int32))] [] h (some (.int r), h))
  revert e3
  suffices lj8 : ∀ (x2 : Int32) (x3 : Int32), qv_it _ n9 (x2, x3) = some y11 → qv_J l g mX7_alwaysSo 8 [some (.ref a0), some (.int a1), some (.int a2), some (.int x2), some (.int x3)] [] h (some (.int r), h) from lj8 v1 (0 : Int32)
  induction n9 with
  | zero =>
    intro x2 x3 e3
    cases e3
  | succ n9 ih5 =>
    intro x2 x3 e3
    obtain ⟨_, hs, eb6⟩ := qv_it_s e3
    dsimp only at hs
    refine qv_iload dX7_alwaysSo_8 rfl ?_
    refine qv_aload_n dX7_alwaysSo_10 (i := 0) rfl rfl ?_
    obtain ⟨v4, e10, hs⟩ := qv_bind hs
    refine qv_getI dX7_alwaysSo_11 qF_X7_18 e10 ?_
    by_cases c11 : v4 ≤ x3
    · have hs := qv_pos c11 hs
      refine qv_icmp_ge (tgt := 48) dX7_alwaysSo_14 rfl (fun _ => ?_) (fun q => absurd c11 q)
      cases hs
      cases qv_nx_r eb6
      exact qv_dp (qv_le_n (qv_le_n (qv_le_n (qv_le_s (qv_le_n qv_le_0))))) K2
    · have hs := qv_neg c11 hs
      refine qv_icmp_ge (tgt := 48) dX7_alwaysSo_14 rfl (fun q => absurd q c11) (fun _ => ?_)
      refine qv_aload_n dX7_alwaysSo_17 (i := 0) rfl rfl ?_
      obtain ⟨v5, e12, hs⟩ := qv_bind hs
      refine qv_getR dX7_alwaysSo_18 qF_X7_21 e12 ?_
      refine qv_iload dX7_alwaysSo_21 rfl ?_
      obtain ⟨v6, e13, hs⟩ := qv_bind hs
      refine qv_iald dX7_alwaysSo_23 e13 ?_
      refine qv_iload_n dX7_alwaysSo_24 (i := 1) rfl rfl ?_
      refine qv_iload_n dX7_alwaysSo_25 (i := 2) rfl rfl ?_
      obtain ⟨v7, e14, hs⟩ := qv_bind hs
      refine qv_cS (d2 := mX0_allow) (r := some (.int v7)) (h2 := h) (av := [.int v6, .int a1, .int a2]) (st := []) dX7_alwaysSo_26 qM_X7_63 qD_X0_allow rfl ⟨by decide, by decide⟩ rfl (Nat.le_of_ble_eq_true rfl) (Nat.le_of_ble_eq_true rfl) (sX0_allow e14) rfl ?_
      obtain ⟨m10, hj16, hs⟩ := qv_bind hs
      have K15 : qv_J l g mX7_alwaysSo 42 [some (.ref a0), some (.int a1), some (.int a2), some (.int m10), some (.int x3)] [] h (some (.int r), h) := by
        refine qv_iinc (v := x3 + (1 : Int32)) (lo2 := [some (.ref a0), some (.int a1), some (.int a2), some (.int m10), some (.int (x3 + (1 : Int32)))]) dX7_alwaysSo_42 rfl rfl (by decide) rfl rfl ?_
        refine qv_goto (tgt := 8) dX7_alwaysSo_45 rfl ?_
        cases hs
        exact qv_dp (qv_le_s (qv_le_s (qv_le_s (qv_le_s (qv_le_s qv_le_0))))) (ih5 _ _ (qv_nx_l eb6))
      replace hs := hj16
      by_cases c17 : v7 = 0
      · have hs := qv_pos c17 hs
        refine qv_if_eq (tgt := 42) dX7_alwaysSo_29 rfl (fun _ => ?_) (fun q => absurd c17 q)
        cases hs
        exact qv_dp (qv_le_s (qv_le_s (qv_le_s (qv_le_s (qv_le_s qv_le_0))))) K15
      · have hs := qv_neg c17 hs
        refine qv_if_eq (tgt := 42) dX7_alwaysSo_29 rfl (fun q => absurd q c17) (fun _ => ?_)
        refine qv_iload_n dX7_alwaysSo_32 (i := 3) rfl rfl ?_
        refine qv_aload_n dX7_alwaysSo_33 (i := 0) rfl rfl ?_
        obtain ⟨v8, e18, hs⟩ := qv_bind hs
        refine qv_getR dX7_alwaysSo_34 qF_X7_21 e18 ?_
        refine qv_iload dX7_alwaysSo_37 rfl ?_
        obtain ⟨v9, e19, hs⟩ := qv_bind hs
        refine qv_iald dX7_alwaysSo_39 e19 ?_
        refine qv_iand dX7_alwaysSo_40 ?_
        refine qv_istore_n (lo2 := [some (.ref a0), some (.int a1), some (.int a2), some (.int (x2 &&& v9)), some (.int x3)]) dX7_alwaysSo_41 (i := 3) rfl (by decide) rfl (Nat.le_of_ble_eq_true rfl) rfl ?_
        cases hs
        exact qv_dp (qv_le_s (qv_le_s (qv_le_s (qv_le_s (qv_le_s qv_le_0))))) K15
theorem qD_X7_alwaysSo : qv_DV mX7_alwaysSo 2 := ⟨(qv_i9 (List.mem_of_getElem? (i := 6) (by decide +kernel))), (qv_i9 (List.mem_of_getElem? (i := 7) (by decide +kernel))), (qv_i1 (List.mem_of_getElem? (i := 9) (by decide +kernel))), (qv_i9 (List.mem_of_getElem? (i := 8) (by decide +kernel))), by decide +kernel, by decide +kernel⟩
/-- Worlds.everSo(II)I -/
noncomputable def fX7_everSo (a0 : Nat) (a1 : Int32) (a2 : Int32) (h : qv_H) : Option (Int32) :=
  Option.bind (qv_loop (σ := Int32 × Int32) (ρ := Int32) (fun (x1, x2) =>
      (qv_gI h 6 a0 2).bind fun v3 =>
      if v3 ≤ x2 then
        some (.inr x1)
      else
        (qv_gR h 6 a0 3).bind fun v4 =>
        (qv_aI h false v4 x2).bind fun v5 =>
        (fX0_allow v5 a1 a2).bind fun v6 =>
        Option.bind (α := Int32) (
            if v6 = 0 then
              some x1
            else
              (qv_gR h 6 a0 3).bind fun v7 =>
              (qv_aI h false v7 x2).bind fun v8 =>
              some (x1 ||| v8)
          ) fun m9 =>
        some (.inl (m9, x2 + (1 : Int32)))
    ) ((0 : Int32), (0 : Int32))) fun y10 =>
  some y10
abbrev mX7_everSo : qv_M := (yX7_everSo, cX7_everSo, 5, (Option.some Jvm.ClassFile.FieldType.int), 1, 22)
set_option maxRecDepth 100000 in
set_option maxHeartbeats 4000000 in
theorem sX7_everSo {l : Launch} {g : qv_G} {a0 : Nat} {a1 : Int32} {a2 : Int32} {h : qv_H} {r : Int32} (hs : fX7_everSo a0 a1 a2 h = some r) : qv_J l g mX7_everSo 0 [some (.ref a0), some (.int a1), some (.int a2), none, none] [] h (some (.int r), h) := by
  unfold fX7_everSo at hs
  refine qv_iconst (v := (0 : Int32)) dX7_everSo_0 rfl ?_
  refine qv_istore_n (lo2 := [some (.ref a0), some (.int a1), some (.int a2), some (.int (0 : Int32)), none]) dX7_everSo_1 (i := 3) rfl (by decide) rfl (Nat.le_of_ble_eq_true rfl) rfl ?_
  refine qv_iconst (v := (0 : Int32)) dX7_everSo_2 rfl ?_
  refine qv_istore (lo2 := [some (.ref a0), some (.int a1), some (.int a2), some (.int (0 : Int32)), some (.int (0 : Int32))]) dX7_everSo_3 (by decide) rfl (Nat.le_of_ble_eq_true rfl) rfl ?_
  obtain ⟨y10, e2, hs⟩ := qv_bind hs
  have K1 : qv_J l g mX7_everSo 45 [none, none, none, some (.int y10), none] [] h (some (.int r), h) := by
    refine qv_iload_n dX7_everSo_45 (i := 3) rfl rfl ?_
    obtain rfl := qv_sm hs
    exact qv_iret dX7_everSo_46 rfl
  obtain ⟨n8, e2⟩ := qv_loop_of e2
  refine qv_dp (qv_le_s (qv_le_s (qv_le_s (qv_le_s (qv_le_s qv_le_0))))) (?_ : qv_J l g mX7_everSo 5 [some (.ref a0), some (.int a1), some (.int a2), some (.int (0 : Int32)), some (.int (0 : Int32))] [] h (some (.int r), h))
  revert e2
  suffices lj7 : ∀ (x1 : Int32) (x2 : Int32), qv_it _ n8 (x1, x2) = some y10 → qv_J l g mX7_everSo 5 [some (.ref a0), some (.int a1), some (.int a2), some (.int x1), some (.int x2)] [] h (some (.int r), h) from lj7 (0 : Int32) (0 : Int32)
  induction n8 with
  | zero =>
    intro x1 x2 e2
    cases e2
  | succ n8 ih4 =>
    intro x1 x2 e2
    obtain ⟨_, hs, eb5⟩ := qv_it_s e2
    dsimp only at hs
    refine qv_iload dX7_everSo_5 rfl ?_
    refine qv_aload_n dX7_everSo_7 (i := 0) rfl rfl ?_
    obtain ⟨v3, e9, hs⟩ := qv_bind hs
    refine qv_getI dX7_everSo_8 qF_X7_18 e9 ?_
    by_cases c10 : v3 ≤ x2
    · have hs := qv_pos c10 hs
      refine qv_icmp_ge (tgt := 45) dX7_everSo_11 rfl (fun _ => ?_) (fun q => absurd c10 q)
      cases hs
      cases qv_nx_r eb5
      exact qv_dp (qv_le_n (qv_le_n (qv_le_n (qv_le_s (qv_le_n qv_le_0))))) K1
    · have hs := qv_neg c10 hs
      refine qv_icmp_ge (tgt := 45) dX7_everSo_11 rfl (fun q => absurd q c10) (fun _ => ?_)
      refine qv_aload_n dX7_everSo_14 (i := 0) rfl rfl ?_
      obtain ⟨v4, e11, hs⟩ := qv_bind hs
      refine qv_getR dX7_everSo_15 qF_X7_21 e11 ?_
      refine qv_iload dX7_everSo_18 rfl ?_
      obtain ⟨v5, e12, hs⟩ := qv_bind hs
      refine qv_iald dX7_everSo_20 e12 ?_
      refine qv_iload_n dX7_everSo_21 (i := 1) rfl rfl ?_
      refine qv_iload_n dX7_everSo_22 (i := 2) rfl rfl ?_
      obtain ⟨v6, e13, hs⟩ := qv_bind hs
      refine qv_cS (d2 := mX0_allow) (r := some (.int v6)) (h2 := h) (av := [.int v5, .int a1, .int a2]) (st := []) dX7_everSo_23 qM_X7_63 qD_X0_allow rfl ⟨by decide, by decide⟩ rfl (Nat.le_of_ble_eq_true rfl) (Nat.le_of_ble_eq_true rfl) (sX0_allow e13) rfl ?_
      obtain ⟨m9, hj15, hs⟩ := qv_bind hs
      have K14 : qv_J l g mX7_everSo 39 [some (.ref a0), some (.int a1), some (.int a2), some (.int m9), some (.int x2)] [] h (some (.int r), h) := by
        refine qv_iinc (v := x2 + (1 : Int32)) (lo2 := [some (.ref a0), some (.int a1), some (.int a2), some (.int m9), some (.int (x2 + (1 : Int32)))]) dX7_everSo_39 rfl rfl (by decide) rfl rfl ?_
        refine qv_goto (tgt := 5) dX7_everSo_42 rfl ?_
        cases hs
        exact qv_dp (qv_le_s (qv_le_s (qv_le_s (qv_le_s (qv_le_s qv_le_0))))) (ih4 _ _ (qv_nx_l eb5))
      replace hs := hj15
      by_cases c16 : v6 = 0
      · have hs := qv_pos c16 hs
        refine qv_if_eq (tgt := 39) dX7_everSo_26 rfl (fun _ => ?_) (fun q => absurd c16 q)
        cases hs
        exact qv_dp (qv_le_s (qv_le_s (qv_le_s (qv_le_s (qv_le_s qv_le_0))))) K14
      · have hs := qv_neg c16 hs
        refine qv_if_eq (tgt := 39) dX7_everSo_26 rfl (fun q => absurd q c16) (fun _ => ?_)
        refine qv_iload_n dX7_everSo_29 (i := 3) rfl rfl ?_
        refine qv_aload_n dX7_everSo_30 (i := 0) rfl rfl ?_
        obtain ⟨v7, e17, hs⟩ := qv_bind hs
        refine qv_getR dX7_everSo_31 qF_X7_21 e17 ?_
        refine qv_iload dX7_everSo_34 rfl ?_
        obtain ⟨v8, e18, hs⟩ := qv_bind hs
        refine qv_iald dX7_everSo_36 e18 ?_
        refine qv_ior dX7_everSo_37 ?_
        refine qv_istore_n (lo2 := [some (.ref a0), some (.int a1), some (.int a2), some (.int (x1 ||| v8)), some (.int x2)]) dX7_everSo_38 (i := 3) rfl (by decide) rfl (Nat.le_of_ble_eq_true rfl) rfl ?_
        cases hs
        exact qv_dp (qv_le_s (qv_le_s (qv_le_s (qv_le_s (qv_le_s qv_le_0))))) K14
theorem qD_X7_everSo : qv_DV mX7_everSo 2 := ⟨(qv_i9 (List.mem_of_getElem? (i := 10) (by decide +kernel))), (qv_i9 (List.mem_of_getElem? (i := 11) (by decide +kernel))), (qv_i1 (List.mem_of_getElem? (i := 9) (by decide +kernel))), (qv_i9 (List.mem_of_getElem? (i := 12) (by decide +kernel))), by decide +kernel, by decide +kernel⟩
/-- Worlds.openFacts(II)I -/
noncomputable def fX7_openFacts (a0 : Nat) (a1 : Int32) (a2 : Int32) (h : qv_H) : Option (Int32) :=
  (qv_ob h 6 a0).bind fun _ =>
  (fX7_everSo a0 a1 a2 h).bind fun v2 =>
  (qv_ob h 6 a0).bind fun _ =>
  (fX7_alwaysSo a0 a1 a2 h).bind fun v4 =>
  some ((v2 &&& (v4 ^^^ (-1 : Int32))) &&& (15 : Int32))
abbrev mX7_openFacts : qv_M := (yX7_openFacts, cX7_openFacts, 3, (Option.some Jvm.ClassFile.FieldType.int), 2, 46)
set_option maxRecDepth 100000 in
set_option maxHeartbeats 4000000 in
theorem sX7_openFacts {l : Launch} {g : qv_G} {a0 : Nat} {a1 : Int32} {a2 : Int32} {h : qv_H} {r : Int32} (hs : fX7_openFacts a0 a1 a2 h = some r) : qv_J l g mX7_openFacts 0 [some (.ref a0), some (.int a1), some (.int a2)] [] h (some (.int r), h) := by
  unfold fX7_openFacts at hs
  refine qv_aload_n dX7_openFacts_0 (i := 0) rfl rfl ?_
  refine qv_iload_n dX7_openFacts_1 (i := 1) rfl rfl ?_
  refine qv_iload_n dX7_openFacts_2 (i := 2) rfl rfl ?_
  obtain ⟨u1, e1, hs⟩ := qv_bind hs
  obtain ⟨v2, e2, hs⟩ := qv_bind hs
  refine qv_cV (d2 := mX7_everSo) (o := a0) (ci := 6) (r := some (.int v2)) (h2 := h) (av := [.int a1, .int a2]) (st := []) dX7_openFacts_3 qM_X7_69 qD_X7_everSo e1 rfl rfl ⟨by decide, by decide⟩ rfl (Nat.le_of_ble_eq_true rfl) (Nat.le_of_ble_eq_true rfl) (sX7_everSo e2) rfl ?_
  refine qv_aload_n dX7_openFacts_6 (i := 0) rfl rfl ?_
  refine qv_iload_n dX7_openFacts_7 (i := 1) rfl rfl ?_
  refine qv_iload_n dX7_openFacts_8 (i := 2) rfl rfl ?_
  obtain ⟨u3, e3, hs⟩ := qv_bind hs
  obtain ⟨v4, e4, hs⟩ := qv_bind hs
  refine qv_cV (d2 := mX7_alwaysSo) (o := a0) (ci := 6) (r := some (.int v4)) (h2 := h) (av := [.int a1, .int a2]) (st := [.int v2]) dX7_openFacts_9 qM_X7_73 qD_X7_alwaysSo e3 rfl rfl ⟨by decide, by decide⟩ rfl (Nat.le_of_ble_eq_true rfl) (Nat.le_of_ble_eq_true rfl) (sX7_alwaysSo e4) rfl ?_
  refine qv_iconst (v := (-1 : Int32)) dX7_openFacts_12 rfl ?_
  refine qv_ixor dX7_openFacts_13 ?_
  refine qv_iand dX7_openFacts_14 ?_
  refine qv_bipush (v := (15 : Int32)) dX7_openFacts_15 rfl ?_
  refine qv_iand dX7_openFacts_17 ?_
  obtain rfl := qv_sm hs
  exact qv_iret dX7_openFacts_18 rfl
theorem qD_X7_openFacts : qv_DV mX7_openFacts 2 := ⟨(qv_i9 (List.mem_of_getElem? (i := 42) (by decide +kernel))), (qv_i9 (List.mem_of_getElem? (i := 43) (by decide +kernel))), (qv_i1 (List.mem_of_getElem? (i := 9) (by decide +kernel))), (qv_i9 (List.mem_of_getElem? (i := 44) (by decide +kernel))), by decide +kernel, by decide +kernel⟩
/-- Worlds.goodWith(I)I -/
noncomputable def fX7_goodWith (a0 : Nat) (a1 : Int32) (h : qv_H) : Option (Int32) :=
  Option.bind (qv_loop (σ := Int32 × Int32) (ρ := Int32) (fun (x1, x2) =>
      (qv_gI h 6 a0 2).bind fun v3 =>
      if v3 ≤ x2 then
        some (.inr x1)
      else
        (qv_gR h 6 a0 3).bind fun v4 =>
        (qv_aI h false v4 x2).bind fun v5 =>
        (fX0_has v5 a1).bind fun v6 =>
        Option.bind (α := Int32) (
            if v6 = 0 then
              some x1
            else
              some (x1 + (1 : Int32))
          ) fun m7 =>
        some (.inl (m7, x2 + (1 : Int32)))
    ) ((0 : Int32), (0 : Int32))) fun y8 =>
  some y8
abbrev mX7_goodWith : qv_M := (yX7_goodWith, cX7_goodWith, 4, (Option.some Jvm.ClassFile.FieldType.int), 1, 21)
set_option maxRecDepth 100000 in
set_option maxHeartbeats 4000000 in
theorem sX7_goodWith {l : Launch} {g : qv_G} {a0 : Nat} {a1 : Int32} {h : qv_H} {r : Int32} (hs : fX7_goodWith a0 a1 h = some r) : qv_J l g mX7_goodWith 0 [some (.ref a0), some (.int a1), none, none] [] h (some (.int r), h) := by
  unfold fX7_goodWith at hs
  refine qv_iconst (v := (0 : Int32)) dX7_goodWith_0 rfl ?_
  refine qv_istore_n (lo2 := [some (.ref a0), some (.int a1), some (.int (0 : Int32)), none]) dX7_goodWith_1 (i := 2) rfl (by decide) rfl (Nat.le_of_ble_eq_true rfl) rfl ?_
  refine qv_iconst (v := (0 : Int32)) dX7_goodWith_2 rfl ?_
  refine qv_istore_n (lo2 := [some (.ref a0), some (.int a1), some (.int (0 : Int32)), some (.int (0 : Int32))]) dX7_goodWith_3 (i := 3) rfl (by decide) rfl (Nat.le_of_ble_eq_true rfl) rfl ?_
  obtain ⟨y8, e2, hs⟩ := qv_bind hs
  have K1 : qv_J l g mX7_goodWith 34 [none, none, some (.int y8), none] [] h (some (.int r), h) := by
    refine qv_iload_n dX7_goodWith_34 (i := 2) rfl rfl ?_
    obtain rfl := qv_sm hs
    exact qv_iret dX7_goodWith_35 rfl
  obtain ⟨n8, e2⟩ := qv_loop_of e2
  refine qv_dp (qv_le_s (qv_le_s (qv_le_s (qv_le_s qv_le_0)))) (?_ : qv_J l g mX7_goodWith 4 [some (.ref a0), some (.int a1), some (.int (0 : Int32)), some (.int (0 : Int32))] [] h (some (.int r), h))
  revert e2
  suffices lj7 : ∀ (x1 : Int32) (x2 : Int32), qv_it _ n8 (x1, x2) = some y8 → qv_J l g mX7_goodWith 4 [some (.ref a0), some (.int a1), some (.int x1), some (.int x2)] [] h (some (.int r), h) from lj7 (0 : Int32) (0 : Int32)
  induction n8 with
  | zero =>
    intro x1 x2 e2
    cases e2
  | succ n8 ih4 =>
    intro x1 x2 e2
    obtain ⟨_, hs, eb5⟩ := qv_it_s e2
    dsimp only at hs
    refine qv_iload_n dX7_goodWith_4 (i := 3) rfl rfl ?_
    refine qv_aload_n dX7_goodWith_5 (i := 0) rfl rfl ?_
    obtain ⟨v3, e9, hs⟩ := qv_bind hs
    refine qv_getI dX7_goodWith_6 qF_X7_18 e9 ?_
    by_cases c10 : v3 ≤ x2
    · have hs := qv_pos c10 hs
      refine qv_icmp_ge (tgt := 34) dX7_goodWith_9 rfl (fun _ => ?_) (fun q => absurd c10 q)
      cases hs
      cases qv_nx_r eb5
      exact qv_dp (qv_le_n (qv_le_n (qv_le_s (qv_le_n qv_le_0)))) K1
    · have hs := qv_neg c10 hs
      refine qv_icmp_ge (tgt := 34) dX7_goodWith_9 rfl (fun q => absurd q c10) (fun _ => ?_)
      refine qv_aload_n dX7_goodWith_12 (i := 0) rfl rfl ?_
      obtain ⟨v4, e11, hs⟩ := qv_bind hs
      refine qv_getR dX7_goodWith_13 qF_X7_21 e11 ?_
      refine qv_iload_n dX7_goodWith_16 (i := 3) rfl rfl ?_
      obtain ⟨v5, e12, hs⟩ := qv_bind hs
      refine qv_iald dX7_goodWith_17 e12 ?_
      refine qv_iload_n dX7_goodWith_18 (i := 1) rfl rfl ?_
      obtain ⟨v6, e13, hs⟩ := qv_bind hs
      refine qv_cS (d2 := mX0_has) (r := some (.int v6)) (h2 := h) (av := [.int v5, .int a1]) (st := []) dX7_goodWith_19 qM_X7_76 qD_X0_has rfl ⟨by decide, by decide⟩ rfl (Nat.le_of_ble_eq_true rfl) (Nat.le_of_ble_eq_true rfl) (sX0_has e13) rfl ?_
      obtain ⟨m7, hj15, hs⟩ := qv_bind hs
      have K14 : qv_J l g mX7_goodWith 28 [some (.ref a0), some (.int a1), some (.int m7), some (.int x2)] [] h (some (.int r), h) := by
        refine qv_iinc (v := x2 + (1 : Int32)) (lo2 := [some (.ref a0), some (.int a1), some (.int m7), some (.int (x2 + (1 : Int32)))]) dX7_goodWith_28 rfl rfl (by decide) rfl rfl ?_
        refine qv_goto (tgt := 4) dX7_goodWith_31 rfl ?_
        cases hs
        exact qv_dp (qv_le_s (qv_le_s (qv_le_s (qv_le_s qv_le_0)))) (ih4 _ _ (qv_nx_l eb5))
      replace hs := hj15
      by_cases c16 : v6 = 0
      · have hs := qv_pos c16 hs
        refine qv_if_eq (tgt := 28) dX7_goodWith_22 rfl (fun _ => ?_) (fun q => absurd c16 q)
        cases hs
        exact qv_dp (qv_le_s (qv_le_s (qv_le_s (qv_le_s qv_le_0)))) K14
      · have hs := qv_neg c16 hs
        refine qv_if_eq (tgt := 28) dX7_goodWith_22 rfl (fun q => absurd q c16) (fun _ => ?_)
        refine qv_iinc (v := x1 + (1 : Int32)) (lo2 := [some (.ref a0), some (.int a1), some (.int (x1 + (1 : Int32))), some (.int x2)]) dX7_goodWith_25 rfl rfl (by decide) rfl rfl ?_
        cases hs
        exact qv_dp (qv_le_s (qv_le_s (qv_le_s (qv_le_s qv_le_0)))) K14
theorem qD_X7_goodWith : qv_DV mX7_goodWith 1 := ⟨(qv_i11 (List.mem_of_getElem? (i := 60) (by decide +kernel))), (qv_i11 (List.mem_of_getElem? (i := 61) (by decide +kernel))), (qv_i1 (List.mem_of_getElem? (i := 9) (by decide +kernel))), (qv_i11 (List.mem_of_getElem? (i := 62) (by decide +kernel))), by decide +kernel, by decide +kernel⟩
/-- Worlds.sureWithJokers(I)I -/
noncomputable def fX7_sureWithJokers (a0 : Nat) (a1 : Int32) (h : qv_H) : Option (Int32) :=
  (qv_gI h 6 a0 0).bind fun v1 =>
  Option.bind (qv_loop (σ := Int32 × Int32) (ρ := Int32) (fun (x2, x3) =>
      (qv_gI h 6 a0 0).bind fun v4 =>
      if v4 < x3 then
        some (.inr x2)
      else
        (qv_gR h 6 a0 6).bind fun v5 =>
        (qv_aI h false v5 x3).bind fun v6 =>
        Option.bind (α := Int32) (
            if a1 < v6 then
              some x2
            else
              (qv_ob h 6 a0).bind fun _ =>
              (fX7_isAsFound a0 x3 h).bind fun v8 =>
              if v8 = 0 then
                some x2
              else
                some (x2 &&& x3)
          ) fun m9 =>
        some (.inl (m9, x3 + (1 : Int32)))
    ) (v1 &&& (15 : Int32), (0 : Int32))) fun y10 =>
  some y10
abbrev mX7_sureWithJokers : qv_M := (yX7_sureWithJokers, cX7_sureWithJokers, 4, (Option.some Jvm.ClassFile.FieldType.int), 2, 43)
set_option maxRecDepth 100000 in
set_option maxHeartbeats 4000000 in
theorem sX7_sureWithJokers {l : Launch} {g : qv_G} {a0 : Nat} {a1 : Int32} {h : qv_H} {r : Int32} (hs : fX7_sureWithJokers a0 a1 h = some r) : qv_J l g mX7_sureWithJokers 0 [some (.ref a0), some (.int a1), none, none] [] h (some (.int r), h) := by
  unfold fX7_sureWithJokers at hs
  refine qv_aload_n dX7_sureWithJokers_0 (i := 0) rfl rfl ?_
  obtain ⟨v1, e1, hs⟩ := qv_bind hs
  refine qv_getI dX7_sureWithJokers_1 qF_X7_9 e1 ?_
  refine qv_bipush (v := (15 : Int32)) dX7_sureWithJokers_4 rfl ?_
  refine qv_iand dX7_sureWithJokers_6 ?_
  refine qv_istore_n (lo2 := [some (.ref a0), some (.int a1), some (.int (v1 &&& (15 : Int32))), none]) dX7_sureWithJokers_7 (i := 2) rfl (by decide) rfl (Nat.le_of_ble_eq_true rfl) rfl ?_
  refine qv_iconst (v := (0 : Int32)) dX7_sureWithJokers_8 rfl ?_
  refine qv_istore_n (lo2 := [some (.ref a0), some (.int a1), some (.int (v1 &&& (15 : Int32))), some (.int (0 : Int32))]) dX7_sureWithJokers_9 (i := 3) rfl (by decide) rfl (Nat.le_of_ble_eq_true rfl) rfl ?_
  obtain ⟨y10, e3, hs⟩ := qv_bind hs
  have K2 : qv_J l g mX7_sureWithJokers 46 [none, none, some (.int y10), none] [] h (some (.int r), h) := by
    refine qv_iload_n dX7_sureWithJokers_46 (i := 2) rfl rfl ?_
    obtain rfl := qv_sm hs
    exact qv_iret dX7_sureWithJokers_47 rfl
  obtain ⟨n9, e3⟩ := qv_loop_of e3
  refine qv_dp (qv_le_s (qv_le_s (qv_le_s (qv_le_s qv_le_0)))) (?_ : qv_J l g mX7_sureWithJokers 10 [some (.ref a0), some (.int a1), some (.int (v1 &&& (15 : Int32))), some (.int (0 : Int32))] [] h (some (.int r), h))
  revert e3
  suffices lj8 : ∀ (x2 : Int32) (x3 : Int32), qv_it _ n9 (x2, x3) = some y10 → qv_J l g mX7_sureWithJokers 10 [some (.ref a0), some (.int a1), some (.int x2), some (.int x3)] [] h (some (.int r), h) from lj8 (v1 &&& (15 : Int32)) (0 : Int32)
  induction n9 with
  | zero =>
    intro x2 x3 e3
    cases e3
  | succ n9 ih5 =>
    intro x2 x3 e3
    obtain ⟨_, hs, eb6⟩ := qv_it_s e3
    dsimp only at hs
    refine qv_iload_n dX7_sureWithJokers_10 (i := 3) rfl rfl ?_
    refine qv_aload_n dX7_sureWithJokers_11 (i := 0) rfl rfl ?_
    obtain ⟨v4, e10, hs⟩ := qv_bind hs
    refine qv_getI dX7_sureWithJokers_12 qF_X7_9 e10 ?_
    by_cases c11 : v4 < x3
    · have hs := qv_pos c11 hs
      refine qv_icmp_gt (tgt := 46) dX7_sureWithJokers_15 rfl (fun _ => ?_) (fun q => absurd c11 q)
      cases hs
      cases qv_nx_r eb6
      exact qv_dp (qv_le_n (qv_le_n (qv_le_s (qv_le_n qv_le_0)))) K2
    · have hs := qv_neg c11 hs
      refine qv_icmp_gt (tgt := 46) dX7_sureWithJokers_15 rfl (fun q => absurd q c11) (fun _ => ?_)
      refine qv_aload_n dX7_sureWithJokers_18 (i := 0) rfl rfl ?_
      obtain ⟨v5, e12, hs⟩ := qv_bind hs
      refine qv_getR dX7_sureWithJokers_19 qF_X7_31 e12 ?_
      refine qv_iload_n dX7_sureWithJokers_22 (i := 3) rfl rfl ?_
      obtain ⟨v6, e13, hs⟩ := qv_bind hs
      refine qv_iald dX7_sureWithJokers_23 e13 ?_
      refine qv_iload_n dX7_sureWithJokers_24 (i := 1) rfl rfl ?_
      obtain ⟨m9, hj15, hs⟩ := qv_bind hs
      have K14 : qv_J l g mX7_sureWithJokers 40 [some (.ref a0), some (.int a1), some (.int m9), some (.int x3)] [] h (some (.int r), h) := by
        refine qv_iinc (v := x3 + (1 : Int32)) (lo2 := [some (.ref a0), some (.int a1), some (.int m9), some (.int (x3 + (1 : Int32)))]) dX7_sureWithJokers_40 rfl rfl (by decide) rfl rfl ?_
        refine qv_goto (tgt := 10) dX7_sureWithJokers_43 rfl ?_
        cases hs
        exact qv_dp (qv_le_s (qv_le_s (qv_le_s (qv_le_s qv_le_0)))) (ih5 _ _ (qv_nx_l eb6))
      replace hs := hj15
      by_cases c16 : a1 < v6
      · have hs := qv_pos c16 hs
        refine qv_icmp_gt (tgt := 40) dX7_sureWithJokers_25 rfl (fun _ => ?_) (fun q => absurd c16 q)
        cases hs
        exact qv_dp (qv_le_s (qv_le_s (qv_le_s (qv_le_s qv_le_0)))) K14
      · have hs := qv_neg c16 hs
        refine qv_icmp_gt (tgt := 40) dX7_sureWithJokers_25 rfl (fun q => absurd q c16) (fun _ => ?_)
        refine qv_aload_n dX7_sureWithJokers_28 (i := 0) rfl rfl ?_
        refine qv_iload_n dX7_sureWithJokers_29 (i := 3) rfl rfl ?_
        obtain ⟨u7, e17, hs⟩ := qv_bind hs
        obtain ⟨v8, e18, hs⟩ := qv_bind hs
        refine qv_cV (d2 := mX7_isAsFound) (o := a0) (ci := 6) (r := some (.int v8)) (h2 := h) (av := [.int x3]) (st := []) dX7_sureWithJokers_30 qM_X7_60 qD_X7_isAsFound e17 rfl rfl ⟨by decide, by decide⟩ rfl (Nat.le_of_ble_eq_true rfl) (Nat.le_of_ble_eq_true rfl) (sX7_isAsFound e18) rfl ?_
        by_cases c19 : v8 = 0
        · have hs := qv_pos c19 hs
          refine qv_if_eq (tgt := 40) dX7_sureWithJokers_33 rfl (fun _ => ?_) (fun q => absurd c19 q)
          cases hs
          exact qv_dp (qv_le_s (qv_le_s (qv_le_s (qv_le_s qv_le_0)))) K14
        · have hs := qv_neg c19 hs
          refine qv_if_eq (tgt := 40) dX7_sureWithJokers_33 rfl (fun q => absurd q c19) (fun _ => ?_)
          refine qv_iload_n dX7_sureWithJokers_36 (i := 2) rfl rfl ?_
          refine qv_iload_n dX7_sureWithJokers_37 (i := 3) rfl rfl ?_
          refine qv_iand dX7_sureWithJokers_38 ?_
          refine qv_istore_n (lo2 := [some (.ref a0), some (.int a1), some (.int (x2 &&& x3)), some (.int x3)]) dX7_sureWithJokers_39 (i := 2) rfl (by decide) rfl (Nat.le_of_ble_eq_true rfl) rfl ?_
          cases hs
          exact qv_dp (qv_le_s (qv_le_s (qv_le_s (qv_le_s qv_le_0)))) K14
theorem qD_X7_sureWithJokers : qv_DV mX7_sureWithJokers 1 := ⟨(qv_i9 (List.mem_of_getElem? (i := 60) (by decide +kernel))), (qv_i9 (List.mem_of_getElem? (i := 61) (by decide +kernel))), (qv_i1 (List.mem_of_getElem? (i := 9) (by decide +kernel))), (qv_i9 (List.mem_of_getElem? (i := 62) (by decide +kernel))), by decide +kernel, by decide +kernel⟩
/-- Worlds.leastMisfits(IZ)I -/
noncomputable def fX7_leastMisfits (a0 : Nat) (a1 : Int32) (a2 : Int32) (h : qv_H) : Option (Int32) :=
  Option.bind (qv_loop (σ := Int32 × Int32) (ρ := Int32) (fun (x1, x2) =>
      (qv_gI h 6 a0 0).bind fun v3 =>
      if v3 < x2 then
        some (.inr x1)
      else
        (fX0_has x2 a1).bind fun v4 =>
        Option.bind (α := Int32) (
            if v4 = a2 then
              (qv_ob h 6 a0).bind fun _ =>
              (fX7_isAsFound a0 x2 h).bind fun v6 =>
              if v6 = 0 then
                some x1
              else
                (qv_gR h 6 a0 6).bind fun v7 =>
                (qv_aI h false v7 x2).bind fun v8 =>
                some (qv_mn x1 v8)
            else
              some x1
          ) fun m9 =>
        some (.inl (m9, x2 + (1 : Int32)))
    ) ((7 : Int32), (0 : Int32))) fun y10 =>
  some y10
abbrev mX7_leastMisfits : qv_M := (yX7_leastMisfits, cX7_leastMisfits, 5, (Option.some Jvm.ClassFile.FieldType.int), 2, 43)
set_option maxRecDepth 100000 in
set_option maxHeartbeats 4000000 in
theorem sX7_leastMisfits {l : Launch} {g : qv_G} {a0 : Nat} {a1 : Int32} {a2 : Int32} {h : qv_H} {r : Int32} (hs : fX7_leastMisfits a0 a1 a2 h = some r) : qv_J l g mX7_leastMisfits 0 [some (.ref a0), some (.int a1), some (.int a2), none, none] [] h (some (.int r), h) := by
  unfold fX7_leastMisfits at hs
  refine qv_bipush (v := (7 : Int32)) dX7_leastMisfits_0 rfl ?_
  refine qv_istore_n (lo2 := [some (.ref a0), some (.int a1), some (.int a2), some (.int (7 : Int32)), none]) dX7_leastMisfits_2 (i := 3) rfl (by decide) rfl (Nat.le_of_ble_eq_true rfl) rfl ?_
  refine qv_iconst (v := (0 : Int32)) dX7_leastMisfits_3 rfl ?_
  refine qv_istore (lo2 := [some (.ref a0), some (.int a1), some (.int a2), some (.int (7 : Int32)), some (.int (0 : Int32))]) dX7_leastMisfits_4 (by decide) rfl (Nat.le_of_ble_eq_true rfl) rfl ?_
  obtain ⟨y10, e2, hs⟩ := qv_bind hs
  have K1 : qv_J l g mX7_leastMisfits 52 [none, none, none, some (.int y10), none] [] h (some (.int r), h) := by
    refine qv_iload_n dX7_leastMisfits_52 (i := 3) rfl rfl ?_
    obtain rfl := qv_sm hs
    exact qv_iret dX7_leastMisfits_53 rfl
  obtain ⟨n8, e2⟩ := qv_loop_of e2
  refine qv_dp (qv_le_s (qv_le_s (qv_le_s (qv_le_s (qv_le_s qv_le_0))))) (?_ : qv_J l g mX7_leastMisfits 6 [some (.ref a0), some (.int a1), some (.int a2), some (.int (7 : Int32)), some (.int (0 : Int32))] [] h (some (.int r), h))
  revert e2
  suffices lj7 : ∀ (x1 : Int32) (x2 : Int32), qv_it _ n8 (x1, x2) = some y10 → qv_J l g mX7_leastMisfits 6 [some (.ref a0), some (.int a1), some (.int a2), some (.int x1), some (.int x2)] [] h (some (.int r), h) from lj7 (7 : Int32) (0 : Int32)
  induction n8 with
  | zero =>
    intro x1 x2 e2
    cases e2
  | succ n8 ih4 =>
    intro x1 x2 e2
    obtain ⟨_, hs, eb5⟩ := qv_it_s e2
    dsimp only at hs
    refine qv_iload dX7_leastMisfits_6 rfl ?_
    refine qv_aload_n dX7_leastMisfits_8 (i := 0) rfl rfl ?_
    obtain ⟨v3, e9, hs⟩ := qv_bind hs
    refine qv_getI dX7_leastMisfits_9 qF_X7_9 e9 ?_
    by_cases c10 : v3 < x2
    · have hs := qv_pos c10 hs
      refine qv_icmp_gt (tgt := 52) dX7_leastMisfits_12 rfl (fun _ => ?_) (fun q => absurd c10 q)
      cases hs
      cases qv_nx_r eb5
      exact qv_dp (qv_le_n (qv_le_n (qv_le_n (qv_le_s (qv_le_n qv_le_0))))) K1
    · have hs := qv_neg c10 hs
      refine qv_icmp_gt (tgt := 52) dX7_leastMisfits_12 rfl (fun q => absurd q c10) (fun _ => ?_)
      refine qv_iload dX7_leastMisfits_15 rfl ?_
      refine qv_iload_n dX7_leastMisfits_17 (i := 1) rfl rfl ?_
      obtain ⟨v4, e11, hs⟩ := qv_bind hs
      refine qv_cS (d2 := mX0_has) (r := some (.int v4)) (h2 := h) (av := [.int x2, .int a1]) (st := []) dX7_leastMisfits_18 qM_X7_76 qD_X0_has rfl ⟨by decide, by decide⟩ rfl (Nat.le_of_ble_eq_true rfl) (Nat.le_of_ble_eq_true rfl) (sX0_has e11) rfl ?_
      refine qv_iload_n dX7_leastMisfits_21 (i := 2) rfl rfl ?_
      obtain ⟨m9, hj13, hs⟩ := qv_bind hs
      have K12 : qv_J l g mX7_leastMisfits 46 [some (.ref a0), some (.int a1), some (.int a2), some (.int m9), some (.int x2)] [] h (some (.int r), h) := by
        refine qv_iinc (v := x2 + (1 : Int32)) (lo2 := [some (.ref a0), some (.int a1), some (.int a2), some (.int m9), some (.int (x2 + (1 : Int32)))]) dX7_leastMisfits_46 rfl rfl (by decide) rfl rfl ?_
        refine qv_goto (tgt := 6) dX7_leastMisfits_49 rfl ?_
        cases hs
        exact qv_dp (qv_le_s (qv_le_s (qv_le_s (qv_le_s (qv_le_s qv_le_0))))) (ih4 _ _ (qv_nx_l eb5))
      replace hs := hj13
      by_cases c14 : v4 = a2
      · have hs := qv_pos c14 hs
        refine qv_icmp_ne (tgt := 46) dX7_leastMisfits_22 rfl (fun q => absurd c14 q) (fun _ => ?_)
        refine qv_aload_n dX7_leastMisfits_25 (i := 0) rfl rfl ?_
        refine qv_iload dX7_leastMisfits_26 rfl ?_
        obtain ⟨u5, e15, hs⟩ := qv_bind hs
        obtain ⟨v6, e16, hs⟩ := qv_bind hs
        refine qv_cV (d2 := mX7_isAsFound) (o := a0) (ci := 6) (r := some (.int v6)) (h2 := h) (av := [.int x2]) (st := []) dX7_leastMisfits_28 qM_X7_60 qD_X7_isAsFound e15 rfl rfl ⟨by decide, by decide⟩ rfl (Nat.le_of_ble_eq_true rfl) (Nat.le_of_ble_eq_true rfl) (sX7_isAsFound e16) rfl ?_
        by_cases c17 : v6 = 0
        · have hs := qv_pos c17 hs
          refine qv_if_eq (tgt := 46) dX7_leastMisfits_31 rfl (fun _ => ?_) (fun q => absurd c17 q)
          cases hs
          exact qv_dp (qv_le_s (qv_le_s (qv_le_s (qv_le_s (qv_le_s qv_le_0))))) K12
        · have hs := qv_neg c17 hs
          refine qv_if_eq (tgt := 46) dX7_leastMisfits_31 rfl (fun q => absurd q c17) (fun _ => ?_)
          refine qv_iload_n dX7_leastMisfits_34 (i := 3) rfl rfl ?_
          refine qv_aload_n dX7_leastMisfits_35 (i := 0) rfl rfl ?_
          obtain ⟨v7, e18, hs⟩ := qv_bind hs
          refine qv_getR dX7_leastMisfits_36 qF_X7_31 e18 ?_
          refine qv_iload dX7_leastMisfits_39 rfl ?_
          obtain ⟨v8, e19, hs⟩ := qv_bind hs
          refine qv_iald dX7_leastMisfits_41 e19 ?_
          refine qv_cmn dX7_leastMisfits_42 qB_X7_79 ⟨by decide, by decide⟩ (Nat.le_of_ble_eq_true rfl) ?_
          refine qv_istore_n (lo2 := [some (.ref a0), some (.int a1), some (.int a2), some (.int (qv_mn x1 v8)), some (.int x2)]) dX7_leastMisfits_45 (i := 3) rfl (by decide) rfl (Nat.le_of_ble_eq_true rfl) rfl ?_
          cases hs
          exact qv_dp (qv_le_s (qv_le_s (qv_le_s (qv_le_s (qv_le_s qv_le_0))))) K12
      · have hs := qv_neg c14 hs
        refine qv_icmp_ne (tgt := 46) dX7_leastMisfits_22 rfl (fun _ => ?_) (fun q => absurd q c14)
        cases hs
        exact qv_dp (qv_le_s (qv_le_s (qv_le_s (qv_le_s (qv_le_s qv_le_0))))) K12
theorem qD_X7_leastMisfits : qv_DV mX7_leastMisfits 2 := ⟨(qv_i10 (List.mem_of_getElem? (i := 4) (by decide +kernel))), (qv_i10 (List.mem_of_getElem? (i := 5) (by decide +kernel))), (qv_i1 (List.mem_of_getElem? (i := 9) (by decide +kernel))), (qv_i10 (List.mem_of_getElem? (i := 6) (by decide +kernel))), by decide +kernel, by decide +kernel⟩
/-- Worlds.isAlikeBy(II)Z -/
noncomputable def fX7_isAlikeBy (a0 : Nat) (a1 : Int32) (a2 : Int32) (h : qv_H) : Option (Int32) :=
  Option.bind (qv_loop (σ := Int64 × Int64 × Int32) (ρ := Int64 × Int64) (fun (x1, x2, x3) =>
      (qv_gI h 6 a0 2).bind fun v4 =>
      if v4 ≤ x3 then
        some (.inr (x1, x2))
      else
        (qv_gR h 6 a0 3).bind fun v5 =>
        (qv_aI h false v5 x3).bind fun v6 =>
        (qv_gR h 6 a0 3).bind fun v7 =>
        (qv_aI h false v7 x3).bind fun v8 =>
        (fX0_has v8 a1).bind fun v9 =>
        Option.bind (α := Int64 × Int64) (
            if v9 = 0 then
              some (x1, x2 ||| ((1 : Int64) <<< (((v6 >>> ((4 : Int32) &&& 31)) &&& a2).toInt64 &&& 63)))
            else
              some (x1 ||| ((1 : Int64) <<< (((v6 >>> ((4 : Int32) &&& 31)) &&& a2).toInt64 &&& 63)), x2)
          ) fun (m10, m11) =>
        some (.inl (m10, m11, x3 + (1 : Int32)))
    ) ((0 : Int64), (0 : Int64), (0 : Int32))) fun (y12, y13) =>
  Option.bind (α := Int32) (
      if (lg_cmp (y12 &&& y13) (0 : Int64)) = 0 then
        some (1 : Int32)
      else
        some (0 : Int32)
    ) fun m14 =>
  (qv_b1 m14).bind fun v15 =>
  some m14
abbrev mX7_isAlikeBy : qv_M := (yX7_isAlikeBy, cX7_isAlikeBy, 10, (Option.some Jvm.ClassFile.FieldType.boolean), 1, 21)
set_option maxRecDepth 100000 in
set_option maxHeartbeats 4000000 in
theorem sX7_isAlikeBy {l : Launch} {g : qv_G} {a0 : Nat} {a1 : Int32} {a2 : Int32} {h : qv_H} {r : Int32} (hs : fX7_isAlikeBy a0 a1 a2 h = some r) : qv_J l g mX7_isAlikeBy 0 [some (.ref a0), some (.int a1), some (.int a2), none, none, none, none, none, none, none] [] h (some (.int r), h) := by
  unfold fX7_isAlikeBy at hs
  refine qv_lconst (v := (0 : Int64)) dX7_isAlikeBy_0 rfl ?_
  refine qv_lstore_n (lo2 := [some (.ref a0), some (.int a1), some (.int a2), some (.long (0 : Int64)), none, none, none, none, none, none]) dX7_isAlikeBy_1 (i := 3) rfl (by decide) rfl (Nat.le_of_ble_eq_true rfl) rfl ?_
  refine qv_lconst (v := (0 : Int64)) dX7_isAlikeBy_2 rfl ?_
  refine qv_lstore (lo2 := [some (.ref a0), some (.int a1), some (.int a2), some (.long (0 : Int64)), none, some (.long (0 : Int64)), none, none, none, none]) dX7_isAlikeBy_3 (by decide) rfl (Nat.le_of_ble_eq_true rfl) rfl ?_
  refine qv_iconst (v := (0 : Int32)) dX7_isAlikeBy_5 rfl ?_
  refine qv_istore (lo2 := [some (.ref a0), some (.int a1), some (.int a2), some (.long (0 : Int64)), none, some (.long (0 : Int64)), none, some (.int (0 : Int32)), none, none]) dX7_isAlikeBy_6 (by decide) rfl (Nat.le_of_ble_eq_true rfl) rfl ?_
  obtain ⟨⟨y12, y13⟩, e2, hs⟩ := qv_bind hs
  dsimp only at hs
  have K1 : qv_J l g mX7_isAlikeBy 67 [none, none, none, some (.long y12), none, some (.long y13), none, none, none, none] [] h (some (.int r), h) := by
    refine qv_lload_n dX7_isAlikeBy_67 (i := 3) rfl rfl ?_
    refine qv_lload dX7_isAlikeBy_68 rfl ?_
    refine qv_land dX7_isAlikeBy_70 ?_
    refine qv_lconst (v := (0 : Int64)) dX7_isAlikeBy_71 rfl ?_
    refine qv_lcmp dX7_isAlikeBy_72 ?_
    obtain ⟨m14, hj10, hs⟩ := qv_bind hs
    have K9 : qv_J l g mX7_isAlikeBy 81 [none, none, none, none, none, none, none, none, none, none] [.int m14] h (some (.int r), h) := by
      obtain ⟨v15, e11, hs⟩ := qv_bind hs
      obtain rfl := qv_sm hs
      exact qv_zret dX7_isAlikeBy_81 rfl (qv_b1_of e11).1
    replace hs := hj10
    by_cases c12 : (lg_cmp (y12 &&& y13) (0 : Int64)) = 0
    · have hs := qv_pos c12 hs
      refine qv_if_ne (tgt := 80) dX7_isAlikeBy_73 rfl (fun q => absurd c12 q) (fun _ => ?_)
      refine qv_iconst (v := (1 : Int32)) dX7_isAlikeBy_76 rfl ?_
      refine qv_goto (tgt := 81) dX7_isAlikeBy_77 rfl ?_
      cases hs
      exact qv_dp (qv_le_n (qv_le_n (qv_le_n (qv_le_n (qv_le_n (qv_le_n (qv_le_n (qv_le_n (qv_le_n (qv_le_n qv_le_0)))))))))) K9
    · have hs := qv_neg c12 hs
      refine qv_if_ne (tgt := 80) dX7_isAlikeBy_73 rfl (fun _ => ?_) (fun q => absurd q c12)
      refine qv_iconst (v := (0 : Int32)) dX7_isAlikeBy_80 rfl ?_
      cases hs
      exact qv_dp (qv_le_n (qv_le_n (qv_le_n (qv_le_n (qv_le_n (qv_le_n (qv_le_n (qv_le_n (qv_le_n (qv_le_n qv_le_0)))))))))) K9
  obtain ⟨n8, e2⟩ := qv_loop_of e2
  refine qv_dp (qv_le_s (qv_le_s (qv_le_s (qv_le_s (qv_le_n (qv_le_s (qv_le_n (qv_le_s (qv_le_n (qv_le_n qv_le_0)))))))))) (?_ : qv_J l g mX7_isAlikeBy 8 [some (.ref a0), some (.int a1), some (.int a2), some (.long (0 : Int64)), none, some (.long (0 : Int64)), none, some (.int (0 : Int32)), none, none] [] h (some (.int r), h))
  revert e2
  suffices lj7 : ∀ (x1 : Int64) (x2 : Int64) (x3 : Int32), qv_it _ n8 (x1, x2, x3) = some (y12, y13) → qv_J l g mX7_isAlikeBy 8 [some (.ref a0), some (.int a1), some (.int a2), some (.long x1), none, some (.long x2), none, some (.int x3), none, none] [] h (some (.int r), h) from lj7 (0 : Int64) (0 : Int64) (0 : Int32)
  induction n8 with
  | zero =>
    intro x1 x2 x3 e2
    cases e2
  | succ n8 ih4 =>
    intro x1 x2 x3 e2
    obtain ⟨_, hs, eb5⟩ := qv_it_s e2
    dsimp only at hs
    refine qv_iload dX7_isAlikeBy_8 rfl ?_
    refine qv_aload_n dX7_isAlikeBy_10 (i := 0) rfl rfl ?_
    obtain ⟨v4, e13, hs⟩ := qv_bind hs
    refine qv_getI dX7_isAlikeBy_11 qF_X7_18 e13 ?_
    by_cases c14 : v4 ≤ x3
    · have hs := qv_pos c14 hs
      refine qv_icmp_ge (tgt := 67) dX7_isAlikeBy_14 rfl (fun _ => ?_) (fun q => absurd c14 q)
      cases hs
      cases qv_nx_r eb5
      exact qv_dp (qv_le_n (qv_le_n (qv_le_n (qv_le_s (qv_le_n (qv_le_s (qv_le_n (qv_le_n (qv_le_n (qv_le_n qv_le_0)))))))))) K1
    · have hs := qv_neg c14 hs
      refine qv_icmp_ge (tgt := 67) dX7_isAlikeBy_14 rfl (fun q => absurd q c14) (fun _ => ?_)
      refine qv_lconst (v := (1 : Int64)) dX7_isAlikeBy_17 rfl ?_
      refine qv_aload_n dX7_isAlikeBy_18 (i := 0) rfl rfl ?_
      obtain ⟨v5, e15, hs⟩ := qv_bind hs
      refine qv_getR dX7_isAlikeBy_19 qF_X7_21 e15 ?_
      refine qv_iload dX7_isAlikeBy_22 rfl ?_
      obtain ⟨v6, e16, hs⟩ := qv_bind hs
      refine qv_iald dX7_isAlikeBy_24 e16 ?_
      refine qv_iconst (v := (4 : Int32)) dX7_isAlikeBy_25 rfl ?_
      refine qv_ishr dX7_isAlikeBy_26 ?_
      refine qv_iload_n dX7_isAlikeBy_27 (i := 2) rfl rfl ?_
      refine qv_iand dX7_isAlikeBy_28 ?_
      refine qv_lshl dX7_isAlikeBy_29 ?_
      refine qv_lstore (lo2 := [some (.ref a0), some (.int a1), some (.int a2), some (.long x1), none, some (.long x2), none, some (.int x3), some (.long ((1 : Int64) <<< (((v6 >>> ((4 : Int32) &&& 31)) &&& a2).toInt64 &&& 63))), none]) dX7_isAlikeBy_30 (by decide) rfl (Nat.le_of_ble_eq_true rfl) rfl ?_
      refine qv_aload_n dX7_isAlikeBy_32 (i := 0) rfl rfl ?_
      obtain ⟨v7, e17, hs⟩ := qv_bind hs
      refine qv_getR dX7_isAlikeBy_33 qF_X7_21 e17 ?_
      refine qv_iload dX7_isAlikeBy_36 rfl ?_
      obtain ⟨v8, e18, hs⟩ := qv_bind hs
      refine qv_iald dX7_isAlikeBy_38 e18 ?_
      refine qv_iload_n dX7_isAlikeBy_39 (i := 1) rfl rfl ?_
      obtain ⟨v9, e19, hs⟩ := qv_bind hs
      refine qv_cS (d2 := mX0_has) (r := some (.int v9)) (h2 := h) (av := [.int v8, .int a1]) (st := []) dX7_isAlikeBy_40 qM_X7_76 qD_X0_has rfl ⟨by decide, by decide⟩ rfl (Nat.le_of_ble_eq_true rfl) (Nat.le_of_ble_eq_true rfl) (sX0_has e19) rfl ?_
      obtain ⟨⟨m10, m11⟩, hj21, hs⟩ := qv_bind hs
      dsimp only at hs
      have K20 : qv_J l g mX7_isAlikeBy 61 [some (.ref a0), some (.int a1), some (.int a2), some (.long m10), none, some (.long m11), none, some (.int x3), none, none] [] h (some (.int r), h) := by
        refine qv_iinc (v := x3 + (1 : Int32)) (lo2 := [some (.ref a0), some (.int a1), some (.int a2), some (.long m10), none, some (.long m11), none, some (.int (x3 + (1 : Int32))), none, none]) dX7_isAlikeBy_61 rfl rfl (by decide) rfl rfl ?_
        refine qv_goto (tgt := 8) dX7_isAlikeBy_64 rfl ?_
        cases hs
        exact qv_dp (qv_le_s (qv_le_s (qv_le_s (qv_le_s (qv_le_n (qv_le_s (qv_le_n (qv_le_s (qv_le_n (qv_le_n qv_le_0)))))))))) (ih4 _ _ _ (qv_nx_l eb5))
      replace hs := hj21
      by_cases c22 : v9 = 0
      · have hs := qv_pos c22 hs
        refine qv_if_eq (tgt := 54) dX7_isAlikeBy_43 rfl (fun _ => ?_) (fun q => absurd c22 q)
        refine qv_lload dX7_isAlikeBy_54 rfl ?_
        refine qv_lload dX7_isAlikeBy_56 rfl ?_
        refine qv_lor dX7_isAlikeBy_58 ?_
        refine qv_lstore (lo2 := [some (.ref a0), some (.int a1), some (.int a2), some (.long x1), none, some (.long (x2 ||| ((1 : Int64) <<< (((v6 >>> ((4 : Int32) &&& 31)) &&& a2).toInt64 &&& 63)))), none, some (.int x3), some (.long ((1 : Int64) <<< (((v6 >>> ((4 : Int32) &&& 31)) &&& a2).toInt64 &&& 63))), none]) dX7_isAlikeBy_59 (by decide) rfl (Nat.le_of_ble_eq_true rfl) rfl ?_
        cases hs
        exact qv_dp (qv_le_s (qv_le_s (qv_le_s (qv_le_s (qv_le_n (qv_le_s (qv_le_n (qv_le_s (qv_le_n (qv_le_n qv_le_0)))))))))) K20
      · have hs := qv_neg c22 hs
        refine qv_if_eq (tgt := 54) dX7_isAlikeBy_43 rfl (fun q => absurd q c22) (fun _ => ?_)
        refine qv_lload_n dX7_isAlikeBy_46 (i := 3) rfl rfl ?_
        refine qv_lload dX7_isAlikeBy_47 rfl ?_
        refine qv_lor dX7_isAlikeBy_49 ?_
        refine qv_lstore_n (lo2 := [some (.ref a0), some (.int a1), some (.int a2), some (.long (x1 ||| ((1 : Int64) <<< (((v6 >>> ((4 : Int32) &&& 31)) &&& a2).toInt64 &&& 63)))), none, some (.long x2), none, some (.int x3), some (.long ((1 : Int64) <<< (((v6 >>> ((4 : Int32) &&& 31)) &&& a2).toInt64 &&& 63))), none]) dX7_isAlikeBy_50 (i := 3) rfl (by decide) rfl (Nat.le_of_ble_eq_true rfl) rfl ?_
        refine qv_goto (tgt := 61) dX7_isAlikeBy_51 rfl ?_
        cases hs
        exact qv_dp (qv_le_s (qv_le_s (qv_le_s (qv_le_s (qv_le_n (qv_le_s (qv_le_n (qv_le_s (qv_le_n (qv_le_n qv_le_0)))))))))) K20
theorem qD_X7_isAlikeBy : qv_DV mX7_isAlikeBy 2 := ⟨(qv_i10 (List.mem_of_getElem? (i := 21) (by decide +kernel))), (qv_i10 (List.mem_of_getElem? (i := 22) (by decide +kernel))), (qv_i1 (List.mem_of_getElem? (i := 9) (by decide +kernel))), (qv_i10 (List.mem_of_getElem? (i := 23) (by decide +kernel))), by decide +kernel, by decide +kernel⟩
/-- Worlds.fewestTelling(II)I -/
noncomputable def fX7_fewestTelling (a0 : Nat) (a1 : Int32) (a2 : Int32) (h : qv_H) : Option (Int32) :=
  Option.bind (qv_loop (σ := Int32) (ρ := (Unit) ⊕ (Int32)) (fun x1 =>
      if (3 : Int32) < x1 then
        some (.inr (.inl ()))
      else
        Option.bind (qv_loop (σ := Int32) (ρ := (Unit) ⊕ (Int32)) (fun x2 =>
            if a2 < x2 then
              some (.inr (.inl ()))
            else
              (fJ6_bitCount_0f7a4 x2).bind fun v3 =>
              if v3 = x1 then
                (qv_ob h 6 a0).bind fun _ =>
                (fX7_isAlikeBy a0 a1 x2 h).bind fun v5 =>
                if v5 = 0 then
                  some (.inl (x2 + (1 : Int32)))
                else
                  some (.inr (.inr x2))
              else
                some (.inl (x2 + (1 : Int32)))
          ) (0 : Int32)) fun q => match q with
        | .inl _ =>
          some (.inl (x1 + (1 : Int32)))
        | .inr q => some (.inr (.inr q))
    ) (0 : Int32)) fun q => match q with
  | .inl _ =>
    some (-9 : Int32)
  | .inr q => some q
abbrev mX7_fewestTelling : qv_M := (yX7_fewestTelling, cX7_fewestTelling, 5, (Option.some Jvm.ClassFile.FieldType.int), 2, 50)
set_option maxRecDepth 100000 in
set_option maxHeartbeats 4000000 in
theorem sX7_fewestTelling {l : Launch} {g : qv_G} {a0 : Nat} {a1 : Int32} {a2 : Int32} {h : qv_H} {r : Int32} (hs : fX7_fewestTelling a0 a1 a2 h = some r) : qv_J l g mX7_fewestTelling 0 [some (.ref a0), some (.int a1), some (.int a2), none, none] [] h (some (.int r), h) := by
  unfold fX7_fewestTelling at hs
  refine qv_iconst (v := (0 : Int32)) dX7_fewestTelling_0 rfl ?_
  refine qv_istore_n (lo2 := [some (.ref a0), some (.int a1), some (.int a2), some (.int (0 : Int32)), none]) dX7_fewestTelling_1 (i := 3) rfl (by decide) rfl (Nat.le_of_ble_eq_true rfl) rfl ?_
  obtain ⟨q6, e2, hA3⟩ := qv_bind hs
  have K1 : ∀ (_ : Unit), q6 = .inl () → qv_J l g mX7_fewestTelling 50 [none, none, none, none, none] [] h (some (.int r), h) := by
    intro _ eq9
    subst eq9
    have hs := hA3
    dsimp only at hs
    refine qv_bipush (v := (-9 : Int32)) dX7_fewestTelling_50 rfl ?_
    obtain rfl := qv_sm hs
    exact qv_iret dX7_fewestTelling_52 rfl
  obtain ⟨n8, e2⟩ := qv_loop_of e2
  refine qv_dp (qv_le_s (qv_le_s (qv_le_s (qv_le_s (qv_le_n qv_le_0))))) (?_ : qv_J l g mX7_fewestTelling 2 [some (.ref a0), some (.int a1), some (.int a2), some (.int (0 : Int32)), none] [] h (some (.int r), h))
  revert e2
  suffices lj7 : ∀ (x1 : Int32), qv_it _ n8 x1 = some q6 → qv_J l g mX7_fewestTelling 2 [some (.ref a0), some (.int a1), some (.int a2), some (.int x1), none] [] h (some (.int r), h) from lj7 (0 : Int32)
  induction n8 with
  | zero =>
    intro x1 e2
    cases e2
  | succ n8 ih4 =>
    intro x1 e2
    obtain ⟨_, hs, eb5⟩ := qv_it_s e2
    refine qv_iload_n dX7_fewestTelling_2 (i := 3) rfl rfl ?_
    refine qv_iconst (v := (3 : Int32)) dX7_fewestTelling_3 rfl ?_
    by_cases c10 : (3 : Int32) < x1
    · have hs := qv_pos c10 hs
      refine qv_icmp_gt (tgt := 50) dX7_fewestTelling_4 rfl (fun _ => ?_) (fun q => absurd c10 q)
      cases hs
      cases qv_nx_r eb5
      exact qv_dp (qv_le_n (qv_le_n (qv_le_n (qv_le_n (qv_le_n qv_le_0))))) (K1 () rfl)
    · have hs := qv_neg c10 hs
      refine qv_icmp_gt (tgt := 50) dX7_fewestTelling_4 rfl (fun q => absurd q c10) (fun _ => ?_)
      refine qv_iconst (v := (0 : Int32)) dX7_fewestTelling_7 rfl ?_
      refine qv_istore (lo2 := [some (.ref a0), some (.int a1), some (.int a2), some (.int x1), some (.int (0 : Int32))]) dX7_fewestTelling_8 (by decide) rfl (Nat.le_of_ble_eq_true rfl) rfl ?_
      obtain ⟨q16, e12, hA13⟩ := qv_bind hs
      have K11 : ∀ (_ : Unit), q16 = .inl () → qv_J l g mX7_fewestTelling 44 [some (.ref a0), some (.int a1), some (.int a2), some (.int x1), none] [] h (some (.int r), h) := by
        intro _ eq19
        subst eq19
        have hs := hA13
        dsimp only at hs
        refine qv_iinc (v := x1 + (1 : Int32)) (lo2 := [some (.ref a0), some (.int a1), some (.int a2), some (.int (x1 + (1 : Int32))), none]) dX7_fewestTelling_44 rfl rfl (by decide) rfl rfl ?_
        refine qv_goto (tgt := 2) dX7_fewestTelling_47 rfl ?_
        cases hs
        exact qv_dp (qv_le_s (qv_le_s (qv_le_s (qv_le_s (qv_le_n qv_le_0))))) (ih4 _ (qv_nx_l eb5))
      obtain ⟨n18, e12⟩ := qv_loop_of e12
      refine qv_dp (qv_le_s (qv_le_s (qv_le_s (qv_le_s (qv_le_s qv_le_0))))) (?_ : qv_J l g mX7_fewestTelling 10 [some (.ref a0), some (.int a1), some (.int a2), some (.int x1), some (.int (0 : Int32))] [] h (some (.int r), h))
      revert e12
      suffices lj17 : ∀ (x2 : Int32), qv_it _ n18 x2 = some q16 → qv_J l g mX7_fewestTelling 10 [some (.ref a0), some (.int a1), some (.int a2), some (.int x1), some (.int x2)] [] h (some (.int r), h) from lj17 (0 : Int32)
      induction n18 with
      | zero =>
        intro x2 e12
        cases e12
      | succ n18 ih14 =>
        intro x2 e12
        obtain ⟨_, hs, eb15⟩ := qv_it_s e12
        refine qv_iload dX7_fewestTelling_10 rfl ?_
        refine qv_iload_n dX7_fewestTelling_12 (i := 2) rfl rfl ?_
        by_cases c20 : a2 < x2
        · have hs := qv_pos c20 hs
          refine qv_icmp_gt (tgt := 44) dX7_fewestTelling_13 rfl (fun _ => ?_) (fun q => absurd c20 q)
          cases hs
          cases qv_nx_r eb15
          exact qv_dp (qv_le_s (qv_le_s (qv_le_s (qv_le_s (qv_le_n qv_le_0))))) (K11 () rfl)
        · have hs := qv_neg c20 hs
          refine qv_icmp_gt (tgt := 44) dX7_fewestTelling_13 rfl (fun q => absurd q c20) (fun _ => ?_)
          refine qv_iload dX7_fewestTelling_16 rfl ?_
          obtain ⟨v3, e21, hs⟩ := qv_bind hs
          refine qv_cS (d2 := mJ6_bitCount_0f7a4) (r := some (.int v3)) (h2 := h) (av := [.int x2]) (st := []) dX7_fewestTelling_18 qM_X7_84 qD_J6_bitCount_0f7a4 rfl ⟨by decide, by decide⟩ rfl (Nat.le_of_ble_eq_true rfl) (Nat.le_of_ble_eq_true rfl) (sJ6_bitCount_0f7a4 e21) rfl ?_
          refine qv_iload_n dX7_fewestTelling_21 (i := 3) rfl rfl ?_
          by_cases c22 : v3 = x1
          · have hs := qv_pos c22 hs
            refine qv_icmp_ne (tgt := 38) dX7_fewestTelling_22 rfl (fun q => absurd c22 q) (fun _ => ?_)
            refine qv_aload_n dX7_fewestTelling_25 (i := 0) rfl rfl ?_
            refine qv_iload_n dX7_fewestTelling_26 (i := 1) rfl rfl ?_
            refine qv_iload dX7_fewestTelling_27 rfl ?_
            obtain ⟨u4, e23, hs⟩ := qv_bind hs
            obtain ⟨v5, e24, hs⟩ := qv_bind hs
            refine qv_cV (d2 := mX7_isAlikeBy) (o := a0) (ci := 6) (r := some (.int v5)) (h2 := h) (av := [.int a1, .int x2]) (st := []) dX7_fewestTelling_29 qM_X7_89 qD_X7_isAlikeBy e23 rfl rfl ⟨by decide, by decide⟩ rfl (Nat.le_of_ble_eq_true rfl) (Nat.le_of_ble_eq_true rfl) (sX7_isAlikeBy e24) rfl ?_
            by_cases c25 : v5 = 0
            · have hs := qv_pos c25 hs
              refine qv_if_eq (tgt := 38) dX7_fewestTelling_32 rfl (fun _ => ?_) (fun q => absurd c25 q)
              refine qv_iinc (v := x2 + (1 : Int32)) (lo2 := [some (.ref a0), some (.int a1), some (.int a2), some (.int x1), some (.int (x2 + (1 : Int32)))]) dX7_fewestTelling_38 rfl rfl (by decide) rfl rfl ?_
              refine qv_goto (tgt := 10) dX7_fewestTelling_41 rfl ?_
              cases hs
              exact qv_dp (qv_le_s (qv_le_s (qv_le_s (qv_le_s (qv_le_s qv_le_0))))) (ih14 _ (qv_nx_l eb15))
            · have hs := qv_neg c25 hs
              refine qv_if_eq (tgt := 38) dX7_fewestTelling_32 rfl (fun q => absurd q c25) (fun _ => ?_)
              refine qv_iload dX7_fewestTelling_35 rfl ?_
              cases hs
              cases qv_nx_r eb15
              have hs := hA13
              dsimp only at hs
              cases hs
              cases qv_nx_r eb5
              have hs := hA3
              dsimp only at hs
              obtain rfl := qv_sm hs
              exact qv_iret dX7_fewestTelling_37 rfl
          · have hs := qv_neg c22 hs
            refine qv_icmp_ne (tgt := 38) dX7_fewestTelling_22 rfl (fun _ => ?_) (fun q => absurd q c22)
            refine qv_iinc (v := x2 + (1 : Int32)) (lo2 := [some (.ref a0), some (.int a1), some (.int a2), some (.int x1), some (.int (x2 + (1 : Int32)))]) dX7_fewestTelling_38 rfl rfl (by decide) rfl rfl ?_
            refine qv_goto (tgt := 10) dX7_fewestTelling_41 rfl ?_
            cases hs
            exact qv_dp (qv_le_s (qv_le_s (qv_le_s (qv_le_s (qv_le_s qv_le_0))))) (ih14 _ (qv_nx_l eb15))
theorem qD_X7_fewestTelling : qv_DV mX7_fewestTelling 2 := ⟨(qv_i10 (List.mem_of_getElem? (i := 16) (by decide +kernel))), (qv_i10 (List.mem_of_getElem? (i := 17) (by decide +kernel))), (qv_i1 (List.mem_of_getElem? (i := 9) (by decide +kernel))), (qv_i10 (List.mem_of_getElem? (i := 18) (by decide +kernel))), by decide +kernel, by decide +kernel⟩
/-- Clashes.markSetsThatCanBe(LTrueOneWay$Worlds;LTrueOneWay$Finds;I)V -/
noncomputable def fX1_markSetsThatCanBe (a0 : Nat) (a1 : Nat) (a2 : Nat) (a3 : Int32) (h : qv_H) : Option (qv_H) :=
  Option.bind (qv_loop (σ := Int32 × qv_H) (ρ := Int32 × qv_H) (fun (x1, h2) =>
      if a3 < x1 then
        some (.inr (a3, h2))
      else
        (qv_gR h2 0 a0 0).bind fun v3 =>
        (qv_sI h2 true v3 x1 (0 : Int32)).bind fun h4 =>
        some (.inl (x1 + (1 : Int32), h4))
    ) ((0 : Int32), h)) fun (y5, h6) =>
  Option.bind (qv_loop (σ := Int32 × qv_H) (ρ := qv_H) (fun (x7, h8) =>
      (qv_gI h8 6 a1 0).bind fun v9 =>
      if v9 < x7 then
        some (.inr h8)
      else
        (qv_ob h8 6 a1).bind fun _ =>
        (fX7_isFitting a1 x7 h8).bind fun v11 =>
        Option.bind (α := qv_H) (
            if v11 = 0 then
              some h8
            else
              (qv_gR h8 0 a0 0).bind fun v12 =>
              (qv_ob h8 1 a2).bind fun _ =>
              (fX2_keptIn a2 x7 h8).bind fun v14 =>
              (qv_sI h8 true v12 (v14 &&& y5) (1 : Int32)).bind fun h15 =>
              some h15
          ) fun h16 =>
        some (.inl (x7 + (1 : Int32), h16))
    ) ((0 : Int32), h6)) fun h17 =>
  Option.bind (qv_loop (σ := Int32 × qv_H) (ρ := qv_H) (fun (x18, h19) =>
      (qv_gI h19 1 a2 0).bind fun v20 =>
      if v20 ≤ x18 then
        some (.inr h19)
      else
        Option.bind (qv_loop (σ := Int32 × qv_H) (ρ := qv_H) (fun (x21, h22) =>
            if y5 < x21 then
              some (.inr h22)
            else
              (fX0_has x21 x18).bind fun v23 =>
              Option.bind (α := qv_H) (
                  if v23 = 0 then
                    some h22
                  else
                    (qv_gR h22 0 a0 0).bind fun v24 =>
                    (qv_aI h22 true v24 x21).bind fun v25 =>
                    if v25 = 0 then
                      some h22
                    else
                      (qv_gR h22 0 a0 0).bind fun v26 =>
                      (qv_sI h22 true v26 (x21 ^^^ ((1 : Int32) <<< (x18 &&& 31))) (1 : Int32)).bind fun h27 =>
                      some h27
                ) fun h28 =>
              some (.inl (x21 + (1 : Int32), h28))
          ) ((0 : Int32), h19)) fun h29 =>
        some (.inl (x18 + (1 : Int32), h29))
    ) ((0 : Int32), h17)) fun h30 =>
  some h30
abbrev mX1_markSetsThatCanBe : qv_M := (yX1_markSetsThatCanBe, cX1_markSetsThatCanBe, 6, (Option.none : Option Jvm.ClassFile.FieldType), 2, 44)
set_option maxRecDepth 100000 in
set_option maxHeartbeats 4000000 in
theorem sX1_markSetsThatCanBe {l : Launch} {g : qv_G} {a0 : Nat} {a1 : Nat} {a2 : Nat} {a3 : Int32} {h : qv_H} {hz : qv_H} (hs : fX1_markSetsThatCanBe a0 a1 a2 a3 h = some hz) : qv_J l g mX1_markSetsThatCanBe 0 [some (.ref a0), some (.ref a1), some (.ref a2), some (.int a3), none, none] [] h (none, hz) := by
  unfold fX1_markSetsThatCanBe at hs
  refine qv_iconst (v := (0 : Int32)) dX1_markSetsThatCanBe_0 rfl ?_
  refine qv_istore (lo2 := [some (.ref a0), some (.ref a1), some (.ref a2), some (.int a3), some (.int (0 : Int32)), none]) dX1_markSetsThatCanBe_1 (by decide) rfl (Nat.le_of_ble_eq_true rfl) rfl ?_
  obtain ⟨⟨y5, h6⟩, e2, hs⟩ := qv_bind hs
  dsimp only at hs
  have K1 : qv_J l g mX1_markSetsThatCanBe 23 [some (.ref a0), some (.ref a1), some (.ref a2), some (.int y5), none, none] [] h6 (none, hz) := by
    refine qv_iconst (v := (0 : Int32)) dX1_markSetsThatCanBe_23 rfl ?_
    refine qv_istore (lo2 := [some (.ref a0), some (.ref a1), some (.ref a2), some (.int y5), some (.int (0 : Int32)), none]) dX1_markSetsThatCanBe_24 (by decide) rfl (Nat.le_of_ble_eq_true rfl) rfl ?_
    obtain ⟨h17, e10, hs⟩ := qv_bind hs
    have K9 : qv_J l g mX1_markSetsThatCanBe 64 [some (.ref a0), none, some (.ref a2), some (.int y5), none, none] [] h17 (none, hz) := by
      refine qv_iconst (v := (0 : Int32)) dX1_markSetsThatCanBe_64 rfl ?_
      refine qv_istore (lo2 := [some (.ref a0), none, some (.ref a2), some (.int y5), some (.int (0 : Int32)), none]) dX1_markSetsThatCanBe_65 (by decide) rfl (Nat.le_of_ble_eq_true rfl) rfl ?_
      obtain ⟨h30, e18, hs⟩ := qv_bind hs
      have K17 : qv_J l g mX1_markSetsThatCanBe 130 [none, none, none, none, none, none] [] h30 (none, hz) := by
        obtain rfl := qv_sm hs
        exact qv_vret dX1_markSetsThatCanBe_130 rfl
      obtain ⟨n24, e18⟩ := qv_loop_of e18
      refine qv_dp (qv_le_s (qv_le_n (qv_le_s (qv_le_s (qv_le_s (qv_le_n qv_le_0)))))) (?_ : qv_J l g mX1_markSetsThatCanBe 67 [some (.ref a0), none, some (.ref a2), some (.int y5), some (.int (0 : Int32)), none] [] h17 (none, hz))
      revert e18
      suffices lj23 : ∀ (x18 : Int32) (h19 : qv_H), qv_it _ n24 (x18, h19) = some h30 → qv_J l g mX1_markSetsThatCanBe 67 [some (.ref a0), none, some (.ref a2), some (.int y5), some (.int x18), none] [] h19 (none, hz) from lj23 (0 : Int32) h17
      induction n24 with
      | zero =>
        intro x18 h19 e18
        cases e18
      | succ n24 ih20 =>
        intro x18 h19 e18
        obtain ⟨_, hs, eb21⟩ := qv_it_s e18
        dsimp only at hs
        refine qv_iload dX1_markSetsThatCanBe_67 rfl ?_
        refine qv_aload_n dX1_markSetsThatCanBe_69 (i := 2) rfl rfl ?_
        obtain ⟨v20, e25, hs⟩ := qv_bind hs
        refine qv_getI dX1_markSetsThatCanBe_70 qF_X1_15 e25 ?_
        by_cases c26 : v20 ≤ x18
        · have hs := qv_pos c26 hs
          refine qv_icmp_ge (tgt := 130) dX1_markSetsThatCanBe_73 rfl (fun _ => ?_) (fun q => absurd c26 q)
          cases hs
          cases qv_nx_r eb21
          exact qv_dp (qv_le_n (qv_le_n (qv_le_n (qv_le_n (qv_le_n (qv_le_n qv_le_0)))))) K17
        · have hs := qv_neg c26 hs
          refine qv_icmp_ge (tgt := 130) dX1_markSetsThatCanBe_73 rfl (fun q => absurd q c26) (fun _ => ?_)
          refine qv_iconst (v := (0 : Int32)) dX1_markSetsThatCanBe_76 rfl ?_
          refine qv_istore (lo2 := [some (.ref a0), none, some (.ref a2), some (.int y5), some (.int x18), some (.int (0 : Int32))]) dX1_markSetsThatCanBe_77 (by decide) rfl (Nat.le_of_ble_eq_true rfl) rfl ?_
          obtain ⟨h29, e28, hs⟩ := qv_bind hs
          have K27 : qv_J l g mX1_markSetsThatCanBe 124 [some (.ref a0), none, some (.ref a2), some (.int y5), some (.int x18), none] [] h29 (none, hz) := by
            refine qv_iinc (v := x18 + (1 : Int32)) (lo2 := [some (.ref a0), none, some (.ref a2), some (.int y5), some (.int (x18 + (1 : Int32))), none]) dX1_markSetsThatCanBe_124 rfl rfl (by decide) rfl rfl ?_
            refine qv_goto (tgt := 67) dX1_markSetsThatCanBe_127 rfl ?_
            cases hs
            exact qv_dp (qv_le_s (qv_le_n (qv_le_s (qv_le_s (qv_le_s (qv_le_n qv_le_0)))))) (ih20 _ _ (qv_nx_l eb21))
          obtain ⟨n34, e28⟩ := qv_loop_of e28
          refine qv_dp (qv_le_s (qv_le_n (qv_le_s (qv_le_s (qv_le_s (qv_le_s qv_le_0)))))) (?_ : qv_J l g mX1_markSetsThatCanBe 79 [some (.ref a0), none, some (.ref a2), some (.int y5), some (.int x18), some (.int (0 : Int32))] [] h19 (none, hz))
          revert e28
          suffices lj33 : ∀ (x21 : Int32) (h22 : qv_H), qv_it _ n34 (x21, h22) = some h29 → qv_J l g mX1_markSetsThatCanBe 79 [some (.ref a0), none, some (.ref a2), some (.int y5), some (.int x18), some (.int x21)] [] h22 (none, hz) from lj33 (0 : Int32) h19
          induction n34 with
          | zero =>
            intro x21 h22 e28
            cases e28
          | succ n34 ih30 =>
            intro x21 h22 e28
            obtain ⟨_, hs, eb31⟩ := qv_it_s e28
            dsimp only at hs
            refine qv_iload dX1_markSetsThatCanBe_79 rfl ?_
            refine qv_iload_n dX1_markSetsThatCanBe_81 (i := 3) rfl rfl ?_
            by_cases c35 : y5 < x21
            · have hs := qv_pos c35 hs
              refine qv_icmp_gt (tgt := 124) dX1_markSetsThatCanBe_82 rfl (fun _ => ?_) (fun q => absurd c35 q)
              cases hs
              cases qv_nx_r eb31
              exact qv_dp (qv_le_s (qv_le_n (qv_le_s (qv_le_s (qv_le_s (qv_le_n qv_le_0)))))) K27
            · have hs := qv_neg c35 hs
              refine qv_icmp_gt (tgt := 124) dX1_markSetsThatCanBe_82 rfl (fun q => absurd q c35) (fun _ => ?_)
              refine qv_iload dX1_markSetsThatCanBe_85 rfl ?_
              refine qv_iload dX1_markSetsThatCanBe_87 rfl ?_
              obtain ⟨v23, e36, hs⟩ := qv_bind hs
              refine qv_cS (d2 := mX0_has) (r := some (.int v23)) (h2 := h22) (av := [.int x21, .int x18]) (st := []) dX1_markSetsThatCanBe_89 qM_X1_43 qD_X0_has rfl ⟨by decide, by decide⟩ rfl (Nat.le_of_ble_eq_true rfl) (Nat.le_of_ble_eq_true rfl) (sX0_has e36) rfl ?_
              obtain ⟨h28, hj38, hs⟩ := qv_bind hs
              have K37 : qv_J l g mX1_markSetsThatCanBe 118 [some (.ref a0), none, some (.ref a2), some (.int y5), some (.int x18), some (.int x21)] [] h28 (none, hz) := by
                refine qv_iinc (v := x21 + (1 : Int32)) (lo2 := [some (.ref a0), none, some (.ref a2), some (.int y5), some (.int x18), some (.int (x21 + (1 : Int32)))]) dX1_markSetsThatCanBe_118 rfl rfl (by decide) rfl rfl ?_
                refine qv_goto (tgt := 79) dX1_markSetsThatCanBe_121 rfl ?_
                cases hs
                exact qv_dp (qv_le_s (qv_le_n (qv_le_s (qv_le_s (qv_le_s (qv_le_s qv_le_0)))))) (ih30 _ _ (qv_nx_l eb31))
              replace hs := hj38
              by_cases c39 : v23 = 0
              · have hs := qv_pos c39 hs
                refine qv_if_eq (tgt := 118) dX1_markSetsThatCanBe_92 rfl (fun _ => ?_) (fun q => absurd c39 q)
                cases hs
                exact qv_dp (qv_le_s (qv_le_n (qv_le_s (qv_le_s (qv_le_s (qv_le_s qv_le_0)))))) K37
              · have hs := qv_neg c39 hs
                refine qv_if_eq (tgt := 118) dX1_markSetsThatCanBe_92 rfl (fun q => absurd q c39) (fun _ => ?_)
                refine qv_aload_n dX1_markSetsThatCanBe_95 (i := 0) rfl rfl ?_
                obtain ⟨v24, e40, hs⟩ := qv_bind hs
                refine qv_getR dX1_markSetsThatCanBe_96 qF_X1_9 e40 ?_
                refine qv_iload dX1_markSetsThatCanBe_99 rfl ?_
                obtain ⟨v25, e41, hs⟩ := qv_bind hs
                refine qv_zald dX1_markSetsThatCanBe_101 e41 ?_
                by_cases c42 : v25 = 0
                · have hs := qv_pos c42 hs
                  refine qv_if_eq (tgt := 118) dX1_markSetsThatCanBe_102 rfl (fun _ => ?_) (fun q => absurd c42 q)
                  cases hs
                  exact qv_dp (qv_le_s (qv_le_n (qv_le_s (qv_le_s (qv_le_s (qv_le_s qv_le_0)))))) K37
                · have hs := qv_neg c42 hs
                  refine qv_if_eq (tgt := 118) dX1_markSetsThatCanBe_102 rfl (fun q => absurd q c42) (fun _ => ?_)
                  refine qv_aload_n dX1_markSetsThatCanBe_105 (i := 0) rfl rfl ?_
                  obtain ⟨v26, e43, hs⟩ := qv_bind hs
                  refine qv_getR dX1_markSetsThatCanBe_106 qF_X1_9 e43 ?_
                  refine qv_iload dX1_markSetsThatCanBe_109 rfl ?_
                  refine qv_iconst (v := (1 : Int32)) dX1_markSetsThatCanBe_111 rfl ?_
                  refine qv_iload dX1_markSetsThatCanBe_112 rfl ?_
                  refine qv_ishl dX1_markSetsThatCanBe_114 ?_
                  refine qv_ixor dX1_markSetsThatCanBe_115 ?_
                  refine qv_iconst (v := (1 : Int32)) dX1_markSetsThatCanBe_116 rfl ?_
                  obtain ⟨h27, e44, hs⟩ := qv_bind hs
                  refine qv_zast dX1_markSetsThatCanBe_117 e44 ?_
                  cases hs
                  exact qv_dp (qv_le_s (qv_le_n (qv_le_s (qv_le_s (qv_le_s (qv_le_s qv_le_0)))))) K37
    obtain ⟨n16, e10⟩ := qv_loop_of e10
    refine qv_dp (qv_le_s (qv_le_s (qv_le_s (qv_le_s (qv_le_s (qv_le_n qv_le_0)))))) (?_ : qv_J l g mX1_markSetsThatCanBe 26 [some (.ref a0), some (.ref a1), some (.ref a2), some (.int y5), some (.int (0 : Int32)), none] [] h6 (none, hz))
    revert e10
    suffices lj15 : ∀ (x7 : Int32) (h8 : qv_H), qv_it _ n16 (x7, h8) = some h17 → qv_J l g mX1_markSetsThatCanBe 26 [some (.ref a0), some (.ref a1), some (.ref a2), some (.int y5), some (.int x7), none] [] h8 (none, hz) from lj15 (0 : Int32) h6
    induction n16 with
    | zero =>
      intro x7 h8 e10
      cases e10
    | succ n16 ih12 =>
      intro x7 h8 e10
      obtain ⟨_, hs, eb13⟩ := qv_it_s e10
      dsimp only at hs
      refine qv_iload dX1_markSetsThatCanBe_26 rfl ?_
      refine qv_aload_n dX1_markSetsThatCanBe_28 (i := 1) rfl rfl ?_
      obtain ⟨v9, e45, hs⟩ := qv_bind hs
      refine qv_getI dX1_markSetsThatCanBe_29 qF_X1_31 e45 ?_
      by_cases c46 : v9 < x7
      · have hs := qv_pos c46 hs
        refine qv_icmp_gt (tgt := 64) dX1_markSetsThatCanBe_32 rfl (fun _ => ?_) (fun q => absurd c46 q)
        cases hs
        cases qv_nx_r eb13
        exact qv_dp (qv_le_s (qv_le_n (qv_le_s (qv_le_s (qv_le_n (qv_le_n qv_le_0)))))) K9
      · have hs := qv_neg c46 hs
        refine qv_icmp_gt (tgt := 64) dX1_markSetsThatCanBe_32 rfl (fun q => absurd q c46) (fun _ => ?_)
        refine qv_aload_n dX1_markSetsThatCanBe_35 (i := 1) rfl rfl ?_
        refine qv_iload dX1_markSetsThatCanBe_36 rfl ?_
        obtain ⟨u10, e47, hs⟩ := qv_bind hs
        obtain ⟨v11, e48, hs⟩ := qv_bind hs
        refine qv_cV (d2 := mX7_isFitting) (o := a1) (ci := 6) (r := some (.int v11)) (h2 := h8) (av := [.int x7]) (st := []) dX1_markSetsThatCanBe_38 qM_X1_36 qD_X7_isFitting e47 rfl rfl ⟨by decide, by decide⟩ rfl (Nat.le_of_ble_eq_true rfl) (Nat.le_of_ble_eq_true rfl) (sX7_isFitting e48) rfl ?_
        obtain ⟨h16, hj50, hs⟩ := qv_bind hs
        have K49 : qv_J l g mX1_markSetsThatCanBe 58 [some (.ref a0), some (.ref a1), some (.ref a2), some (.int y5), some (.int x7), none] [] h16 (none, hz) := by
          refine qv_iinc (v := x7 + (1 : Int32)) (lo2 := [some (.ref a0), some (.ref a1), some (.ref a2), some (.int y5), some (.int (x7 + (1 : Int32))), none]) dX1_markSetsThatCanBe_58 rfl rfl (by decide) rfl rfl ?_
          refine qv_goto (tgt := 26) dX1_markSetsThatCanBe_61 rfl ?_
          cases hs
          exact qv_dp (qv_le_s (qv_le_s (qv_le_s (qv_le_s (qv_le_s (qv_le_n qv_le_0)))))) (ih12 _ _ (qv_nx_l eb13))
        replace hs := hj50
        by_cases c51 : v11 = 0
        · have hs := qv_pos c51 hs
          refine qv_if_eq (tgt := 58) dX1_markSetsThatCanBe_41 rfl (fun _ => ?_) (fun q => absurd c51 q)
          cases hs
          exact qv_dp (qv_le_s (qv_le_s (qv_le_s (qv_le_s (qv_le_s (qv_le_n qv_le_0)))))) K49
        · have hs := qv_neg c51 hs
          refine qv_if_eq (tgt := 58) dX1_markSetsThatCanBe_41 rfl (fun q => absurd q c51) (fun _ => ?_)
          refine qv_aload_n dX1_markSetsThatCanBe_44 (i := 0) rfl rfl ?_
          obtain ⟨v12, e52, hs⟩ := qv_bind hs
          refine qv_getR dX1_markSetsThatCanBe_45 qF_X1_9 e52 ?_
          refine qv_aload_n dX1_markSetsThatCanBe_48 (i := 2) rfl rfl ?_
          refine qv_iload dX1_markSetsThatCanBe_49 rfl ?_
          obtain ⟨u13, e53, hs⟩ := qv_bind hs
          obtain ⟨v14, e54, hs⟩ := qv_bind hs
          refine qv_cV (d2 := mX2_keptIn) (o := a2) (ci := 1) (r := some (.int v14)) (h2 := h8) (av := [.int x7]) (st := [.ref v12]) dX1_markSetsThatCanBe_51 qM_X1_40 qD_X2_keptIn e53 rfl rfl ⟨by decide, by decide⟩ rfl (Nat.le_of_ble_eq_true rfl) (Nat.le_of_ble_eq_true rfl) (sX2_keptIn e54) rfl ?_
          refine qv_iload_n dX1_markSetsThatCanBe_54 (i := 3) rfl rfl ?_
          refine qv_iand dX1_markSetsThatCanBe_55 ?_
          refine qv_iconst (v := (1 : Int32)) dX1_markSetsThatCanBe_56 rfl ?_
          obtain ⟨h15, e55, hs⟩ := qv_bind hs
          refine qv_zast dX1_markSetsThatCanBe_57 e55 ?_
          cases hs
          exact qv_dp (qv_le_s (qv_le_s (qv_le_s (qv_le_s (qv_le_s (qv_le_n qv_le_0)))))) K49
  obtain ⟨n8, e2⟩ := qv_loop_of e2
  refine qv_dp (qv_le_s (qv_le_s (qv_le_s (qv_le_s (qv_le_s (qv_le_n qv_le_0)))))) (?_ : qv_J l g mX1_markSetsThatCanBe 3 [some (.ref a0), some (.ref a1), some (.ref a2), some (.int a3), some (.int (0 : Int32)), none] [] h (none, hz))
  revert e2
  suffices lj7 : ∀ (x1 : Int32) (h2 : qv_H), qv_it _ n8 (x1, h2) = some (y5, h6) → qv_J l g mX1_markSetsThatCanBe 3 [some (.ref a0), some (.ref a1), some (.ref a2), some (.int a3), some (.int x1), none] [] h2 (none, hz) from lj7 (0 : Int32) h
  induction n8 with
  | zero =>
    intro x1 h2 e2
    cases e2
  | succ n8 ih4 =>
    intro x1 h2 e2
    obtain ⟨_, hs, eb5⟩ := qv_it_s e2
    dsimp only at hs
    refine qv_iload dX1_markSetsThatCanBe_3 rfl ?_
    refine qv_iload_n dX1_markSetsThatCanBe_5 (i := 3) rfl rfl ?_
    by_cases c56 : a3 < x1
    · have hs := qv_pos c56 hs
      refine qv_icmp_gt (tgt := 23) dX1_markSetsThatCanBe_6 rfl (fun _ => ?_) (fun q => absurd c56 q)
      cases hs
      cases qv_nx_r eb5
      exact qv_dp (qv_le_s (qv_le_s (qv_le_s (qv_le_s (qv_le_n (qv_le_n qv_le_0)))))) K1
    · have hs := qv_neg c56 hs
      refine qv_icmp_gt (tgt := 23) dX1_markSetsThatCanBe_6 rfl (fun q => absurd q c56) (fun _ => ?_)
      refine qv_aload_n dX1_markSetsThatCanBe_9 (i := 0) rfl rfl ?_
      obtain ⟨v3, e57, hs⟩ := qv_bind hs
      refine qv_getR dX1_markSetsThatCanBe_10 qF_X1_9 e57 ?_
      refine qv_iload dX1_markSetsThatCanBe_13 rfl ?_
      refine qv_iconst (v := (0 : Int32)) dX1_markSetsThatCanBe_15 rfl ?_
      obtain ⟨h4, e58, hs⟩ := qv_bind hs
      refine qv_zast dX1_markSetsThatCanBe_16 e58 ?_
      refine qv_iinc (v := x1 + (1 : Int32)) (lo2 := [some (.ref a0), some (.ref a1), some (.ref a2), some (.int a3), some (.int (x1 + (1 : Int32))), none]) dX1_markSetsThatCanBe_17 rfl rfl (by decide) rfl rfl ?_
      refine qv_goto (tgt := 3) dX1_markSetsThatCanBe_20 rfl ?_
      cases hs
      exact qv_dp (qv_le_s (qv_le_s (qv_le_s (qv_le_s (qv_le_s (qv_le_n qv_le_0)))))) (ih4 _ _ (qv_nx_l eb5))
theorem qD_X1_markSetsThatCanBe : qv_DV mX1_markSetsThatCanBe 3 := ⟨(qv_i9 (List.mem_of_getElem? (i := 22) (by decide +kernel))), (qv_i0 (List.mem_of_getElem? (i := 13) (by decide +kernel))), (qv_i1 (List.mem_of_getElem? (i := 10) (by decide +kernel))), (qv_i9 (List.mem_of_getElem? (i := 23) (by decide +kernel))), by decide +kernel, by decide +kernel⟩
/-- Clashes.fewestClashing(LTrueOneWay$Worlds;LTrueOneWay$Finds;)I -/
noncomputable def fX1_fewestClashing (a0 : Nat) (a1 : Nat) (a2 : Nat) (h : qv_H) : Option (Int32 × qv_H) :=
  (qv_gI h 1 a2 0).bind fun v1 =>
  (qv_ob h 0 a0).bind fun _ =>
  (fX1_markSetsThatCanBe a0 a1 a2 (((1 : Int32) <<< (v1 &&& 31)) - (1 : Int32)) h).bind fun h3 =>
  Option.bind (qv_loop (σ := Int32 × Int32 × Int32) (ρ := Int32) (fun (x4, x5, x6) =>
      if (((1 : Int32) <<< (v1 &&& 31)) - (1 : Int32)) < x6 then
        some (.inr x4)
      else
        (qv_gR h3 0 a0 0).bind fun v7 =>
        (qv_aI h3 true v7 x6).bind fun v8 =>
        Option.bind (α := Int32 × Int32) (
            if v8 = 0 then
              (fJ6_bitCount_0f7a4 x6).bind fun v9 =>
              if x5 ≤ v9 then
                some (x4, x5)
              else
                (fJ6_bitCount_0f7a4 x6).bind fun v10 =>
                some (x6, v10)
            else
              some (x4, x5)
          ) fun (m11, m12) =>
        some (.inl (m11, m12, x6 + (1 : Int32)))
    ) ((0 : Int32), (13 : Int32), (0 : Int32))) fun y13 =>
  some (y13, h3)
abbrev mX1_fewestClashing : qv_M := (yX1_fewestClashing, cX1_fewestClashing, 7, (Option.some Jvm.ClassFile.FieldType.int), 3, 69)
set_option maxRecDepth 100000 in
set_option maxHeartbeats 4000000 in
theorem sX1_fewestClashing {l : Launch} {g : qv_G} {a0 : Nat} {a1 : Nat} {a2 : Nat} {h : qv_H} {r : Int32} {hz : qv_H} (hs : fX1_fewestClashing a0 a1 a2 h = some (r, hz)) : qv_J l g mX1_fewestClashing 0 [some (.ref a0), some (.ref a1), some (.ref a2), none, none, none, none] [] h (some (.int r), hz) := by
  unfold fX1_fewestClashing at hs
  refine qv_iconst (v := (1 : Int32)) dX1_fewestClashing_0 rfl ?_
  refine qv_aload_n dX1_fewestClashing_1 (i := 2) rfl rfl ?_
  obtain ⟨v1, e1, hs⟩ := qv_bind hs
  refine qv_getI dX1_fewestClashing_2 qF_X1_15 e1 ?_
  refine qv_ishl dX1_fewestClashing_5 ?_
  refine qv_iconst (v := (1 : Int32)) dX1_fewestClashing_6 rfl ?_
  refine qv_isub dX1_fewestClashing_7 ?_
  refine qv_istore_n (lo2 := [some (.ref a0), some (.ref a1), some (.ref a2), some (.int (((1 : Int32) <<< (v1 &&& 31)) - (1 : Int32))), none, none, none]) dX1_fewestClashing_8 (i := 3) rfl (by decide) rfl (Nat.le_of_ble_eq_true rfl) rfl ?_
  refine qv_aload_n dX1_fewestClashing_9 (i := 0) rfl rfl ?_
  refine qv_aload_n dX1_fewestClashing_10 (i := 1) rfl rfl ?_
  refine qv_aload_n dX1_fewestClashing_11 (i := 2) rfl rfl ?_
  refine qv_iload_n dX1_fewestClashing_12 (i := 3) rfl rfl ?_
  obtain ⟨u2, e2, hs⟩ := qv_bind hs
  obtain ⟨h3, e3, hs⟩ := qv_bind hs
  refine qv_cV (d2 := mX1_markSetsThatCanBe) (o := a0) (ci := 0) (r := none) (h2 := h3) (av := [.ref a1, .ref a2, .int (((1 : Int32) <<< (v1 &&& 31)) - (1 : Int32))]) (st := []) dX1_fewestClashing_13 qM_X1_21 qD_X1_markSetsThatCanBe e2 rfl rfl ⟨by decide, by decide⟩ rfl (Nat.le_of_ble_eq_true rfl) (Nat.le_of_ble_eq_true rfl) (sX1_markSetsThatCanBe e3) rfl ?_
  refine qv_iconst (v := (0 : Int32)) dX1_fewestClashing_16 rfl ?_
  refine qv_istore (lo2 := [some (.ref a0), some (.ref a1), some (.ref a2), some (.int (((1 : Int32) <<< (v1 &&& 31)) - (1 : Int32))), some (.int (0 : Int32)), none, none]) dX1_fewestClashing_17 (by decide) rfl (Nat.le_of_ble_eq_true rfl) rfl ?_
  refine qv_bipush (v := (13 : Int32)) dX1_fewestClashing_19 rfl ?_
  refine qv_istore (lo2 := [some (.ref a0), some (.ref a1), some (.ref a2), some (.int (((1 : Int32) <<< (v1 &&& 31)) - (1 : Int32))), some (.int (0 : Int32)), some (.int (13 : Int32)), none]) dX1_fewestClashing_21 (by decide) rfl (Nat.le_of_ble_eq_true rfl) rfl ?_
  refine qv_iconst (v := (0 : Int32)) dX1_fewestClashing_23 rfl ?_
  refine qv_istore (lo2 := [some (.ref a0), some (.ref a1), some (.ref a2), some (.int (((1 : Int32) <<< (v1 &&& 31)) - (1 : Int32))), some (.int (0 : Int32)), some (.int (13 : Int32)), some (.int (0 : Int32))]) dX1_fewestClashing_24 (by decide) rfl (Nat.le_of_ble_eq_true rfl) rfl ?_
  obtain ⟨y13, e5, hs⟩ := qv_bind hs
  have K4 : qv_J l g mX1_fewestClashing 69 [none, none, none, none, some (.int y13), none, none] [] h3 (some (.int r), hz) := by
    refine qv_iload dX1_fewestClashing_69 rfl ?_
    obtain ⟨rfl, rfl⟩ := qv_pr hs
    exact qv_iret dX1_fewestClashing_71 rfl
  obtain ⟨n11, e5⟩ := qv_loop_of e5
  refine qv_dp (qv_le_s (qv_le_n (qv_le_n (qv_le_s (qv_le_s (qv_le_s (qv_le_s qv_le_0))))))) (?_ : qv_J l g mX1_fewestClashing 26 [some (.ref a0), none, none, some (.int (((1 : Int32) <<< (v1 &&& 31)) - (1 : Int32))), some (.int (0 : Int32)), some (.int (13 : Int32)), some (.int (0 : Int32))] [] h3 (some (.int r), hz))
  revert e5
  suffices lj10 : ∀ (x4 : Int32) (x5 : Int32) (x6 : Int32), qv_it _ n11 (x4, x5, x6) = some y13 → qv_J l g mX1_fewestClashing 26 [some (.ref a0), none, none, some (.int (((1 : Int32) <<< (v1 &&& 31)) - (1 : Int32))), some (.int x4), some (.int x5), some (.int x6)] [] h3 (some (.int r), hz) from lj10 (0 : Int32) (13 : Int32) (0 : Int32)
  induction n11 with
  | zero =>
    intro x4 x5 x6 e5
    cases e5
  | succ n11 ih7 =>
    intro x4 x5 x6 e5
    obtain ⟨_, hs, eb8⟩ := qv_it_s e5
    dsimp only at hs
    refine qv_iload dX1_fewestClashing_26 rfl ?_
    refine qv_iload_n dX1_fewestClashing_28 (i := 3) rfl rfl ?_
    by_cases c12 : (((1 : Int32) <<< (v1 &&& 31)) - (1 : Int32)) < x6
    · have hs := qv_pos c12 hs
      refine qv_icmp_gt (tgt := 69) dX1_fewestClashing_29 rfl (fun _ => ?_) (fun q => absurd c12 q)
      cases hs
      cases qv_nx_r eb8
      exact qv_dp (qv_le_n (qv_le_n (qv_le_n (qv_le_n (qv_le_s (qv_le_n (qv_le_n qv_le_0))))))) K4
    · have hs := qv_neg c12 hs
      refine qv_icmp_gt (tgt := 69) dX1_fewestClashing_29 rfl (fun q => absurd q c12) (fun _ => ?_)
      refine qv_aload_n dX1_fewestClashing_32 (i := 0) rfl rfl ?_
      obtain ⟨v7, e13, hs⟩ := qv_bind hs
      refine qv_getR dX1_fewestClashing_33 qF_X1_9 e13 ?_
      refine qv_iload dX1_fewestClashing_36 rfl ?_
      obtain ⟨v8, e14, hs⟩ := qv_bind hs
      refine qv_zald dX1_fewestClashing_38 e14 ?_
      obtain ⟨⟨m11, m12⟩, hj16, hs⟩ := qv_bind hs
      dsimp only at hs
      have K15 : qv_J l g mX1_fewestClashing 63 [some (.ref a0), none, none, some (.int (((1 : Int32) <<< (v1 &&& 31)) - (1 : Int32))), some (.int m11), some (.int m12), some (.int x6)] [] h3 (some (.int r), hz) := by
        refine qv_iinc (v := x6 + (1 : Int32)) (lo2 := [some (.ref a0), none, none, some (.int (((1 : Int32) <<< (v1 &&& 31)) - (1 : Int32))), some (.int m11), some (.int m12), some (.int (x6 + (1 : Int32)))]) dX1_fewestClashing_63 rfl rfl (by decide) rfl rfl ?_
        refine qv_goto (tgt := 26) dX1_fewestClashing_66 rfl ?_
        cases hs
        exact qv_dp (qv_le_s (qv_le_n (qv_le_n (qv_le_s (qv_le_s (qv_le_s (qv_le_s qv_le_0))))))) (ih7 _ _ _ (qv_nx_l eb8))
      replace hs := hj16
      by_cases c17 : v8 = 0
      · have hs := qv_pos c17 hs
        refine qv_if_ne (tgt := 63) dX1_fewestClashing_39 rfl (fun q => absurd c17 q) (fun _ => ?_)
        refine qv_iload dX1_fewestClashing_42 rfl ?_
        obtain ⟨v9, e18, hs⟩ := qv_bind hs
        refine qv_cS (d2 := mJ6_bitCount_0f7a4) (r := some (.int v9)) (h2 := h3) (av := [.int x6]) (st := []) dX1_fewestClashing_44 qM_X1_25 qD_J6_bitCount_0f7a4 rfl ⟨by decide, by decide⟩ rfl (Nat.le_of_ble_eq_true rfl) (Nat.le_of_ble_eq_true rfl) (sJ6_bitCount_0f7a4 e18) rfl ?_
        refine qv_iload dX1_fewestClashing_47 rfl ?_
        by_cases c19 : x5 ≤ v9
        · have hs := qv_pos c19 hs
          refine qv_icmp_ge (tgt := 63) dX1_fewestClashing_49 rfl (fun _ => ?_) (fun q => absurd c19 q)
          cases hs
          exact qv_dp (qv_le_s (qv_le_n (qv_le_n (qv_le_s (qv_le_s (qv_le_s (qv_le_s qv_le_0))))))) K15
        · have hs := qv_neg c19 hs
          refine qv_icmp_ge (tgt := 63) dX1_fewestClashing_49 rfl (fun q => absurd q c19) (fun _ => ?_)
          refine qv_iload dX1_fewestClashing_52 rfl ?_
          refine qv_istore (lo2 := [some (.ref a0), none, none, some (.int (((1 : Int32) <<< (v1 &&& 31)) - (1 : Int32))), some (.int x6), some (.int x5), some (.int x6)]) dX1_fewestClashing_54 (by decide) rfl (Nat.le_of_ble_eq_true rfl) rfl ?_
          refine qv_iload dX1_fewestClashing_56 rfl ?_
          obtain ⟨v10, e20, hs⟩ := qv_bind hs
          refine qv_cS (d2 := mJ6_bitCount_0f7a4) (r := some (.int v10)) (h2 := h3) (av := [.int x6]) (st := []) dX1_fewestClashing_58 qM_X1_25 qD_J6_bitCount_0f7a4 rfl ⟨by decide, by decide⟩ rfl (Nat.le_of_ble_eq_true rfl) (Nat.le_of_ble_eq_true rfl) (sJ6_bitCount_0f7a4 e20) rfl ?_
          refine qv_istore (lo2 := [some (.ref a0), none, none, some (.int (((1 : Int32) <<< (v1 &&& 31)) - (1 : Int32))), some (.int x6), some (.int v10), some (.int x6)]) dX1_fewestClashing_61 (by decide) rfl (Nat.le_of_ble_eq_true rfl) rfl ?_
          cases hs
          exact qv_dp (qv_le_s (qv_le_n (qv_le_n (qv_le_s (qv_le_s (qv_le_s (qv_le_s qv_le_0))))))) K15
      · have hs := qv_neg c17 hs
        refine qv_if_ne (tgt := 63) dX1_fewestClashing_39 rfl (fun _ => ?_) (fun q => absurd q c17)
        cases hs
        exact qv_dp (qv_le_s (qv_le_n (qv_le_n (qv_le_s (qv_le_s (qv_le_s (qv_le_s qv_le_0))))))) K15
theorem qD_X1_fewestClashing : qv_DV mX1_fewestClashing 2 := ⟨(qv_i9 (List.mem_of_getElem? (i := 18) (by decide +kernel))), (qv_i9 (List.mem_of_getElem? (i := 19) (by decide +kernel))), (qv_i1 (List.mem_of_getElem? (i := 10) (by decide +kernel))), (qv_i9 (List.mem_of_getElem? (i := 20) (by decide +kernel))), by decide +kernel, by decide +kernel⟩
