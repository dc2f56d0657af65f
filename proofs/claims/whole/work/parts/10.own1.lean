/-! ===== 10.own1: by program (wip/whole/gen): for each method its pure function f.., its descriptor m.., the proof s.. that the frame logic runs it ===== -/
/-- Bits.has(II)Z -/
noncomputable def fX0_has (a0 : Int32) (a1 : Int32) : Option (Int32) :=
  Option.bind (α := Int32) (
      if ((a0 >>> (a1 &&& 31)) &&& (1 : Int32)) = (1 : Int32) then
        some (1 : Int32)
      else
        some (0 : Int32)
    ) fun m1 =>
  (qv_b1 m1).bind fun v2 =>
  some m1
abbrev mX0_has : qv_M := (yX0_has, cX0_has, 2, (Option.some Jvm.ClassFile.FieldType.boolean), 0, 0)
set_option maxRecDepth 100000 in
set_option maxHeartbeats 4000000 in
theorem sX0_has {l : Launch} {g : qv_G} {a0 : Int32} {a1 : Int32} {h : qv_H} {r : Int32} (hs : fX0_has a0 a1 = some r) : qv_J l g mX0_has 0 [some (.int a0), some (.int a1)] [] h (some (.int r), h) := by
  unfold fX0_has at hs
  refine qv_iload_n dX0_has_0 (i := 0) rfl rfl ?_
  refine qv_iload_n dX0_has_1 (i := 1) rfl rfl ?_
  refine qv_ishr dX0_has_2 ?_
  refine qv_iconst (v := (1 : Int32)) dX0_has_3 rfl ?_
  refine qv_iand dX0_has_4 ?_
  refine qv_iconst (v := (1 : Int32)) dX0_has_5 rfl ?_
  obtain ⟨m1, hj2, hs⟩ := qv_bind hs
  have K1 : qv_J l g mX0_has 14 [none, none] [.int m1] h (some (.int r), h) := by
    obtain ⟨v2, e3, hs⟩ := qv_bind hs
    obtain rfl := qv_sm hs
    exact qv_zret dX0_has_14 rfl (qv_b1_of e3).1
  replace hs := hj2
  by_cases c4 : ((a0 >>> (a1 &&& 31)) &&& (1 : Int32)) = (1 : Int32)
  · have hs := qv_pos c4 hs
    refine qv_icmp_ne (tgt := 13) dX0_has_6 rfl (fun q => absurd c4 q) (fun _ => ?_)
    refine qv_iconst (v := (1 : Int32)) dX0_has_9 rfl ?_
    refine qv_goto (tgt := 14) dX0_has_10 rfl ?_
    cases hs
    exact qv_dp (qv_le_n (qv_le_n qv_le_0)) K1
  · have hs := qv_neg c4 hs
    refine qv_icmp_ne (tgt := 13) dX0_has_6 rfl (fun _ => ?_) (fun q => absurd q c4)
    refine qv_iconst (v := (0 : Int32)) dX0_has_13 rfl ?_
    cases hs
    exact qv_dp (qv_le_n (qv_le_n qv_le_0)) K1
theorem qD_X0_has : qv_DS mX0_has 2 := ⟨(qv_i3 (List.mem_of_getElem? (i := 62) (by decide +kernel))), (qv_i1 (List.mem_of_getElem? (i := 13) (by decide +kernel))), (qv_i3 (List.mem_of_getElem? (i := 63) (by decide +kernel))), by decide +kernel, by decide +kernel⟩
/-- Bits.allow(III)Z -/
noncomputable def fX0_allow (a0 : Int32) (a1 : Int32) (a2 : Int32) : Option (Int32) :=
  Option.bind (α := Int32) (
      if (a0 &&& a1) = a1 then
        if (a0 &&& a2) = 0 then
          some (1 : Int32)
        else
          some (0 : Int32)
      else
        some (0 : Int32)
    ) fun m1 =>
  (qv_b1 m1).bind fun v2 =>
  some m1
abbrev mX0_allow : qv_M := (yX0_allow, cX0_allow, 3, (Option.some Jvm.ClassFile.FieldType.boolean), 0, 0)
set_option maxRecDepth 100000 in
set_option maxHeartbeats 4000000 in
theorem sX0_allow {l : Launch} {g : qv_G} {a0 : Int32} {a1 : Int32} {a2 : Int32} {h : qv_H} {r : Int32} (hs : fX0_allow a0 a1 a2 = some r) : qv_J l g mX0_allow 0 [some (.int a0), some (.int a1), some (.int a2)] [] h (some (.int r), h) := by
  unfold fX0_allow at hs
  refine qv_iload_n dX0_allow_0 (i := 0) rfl rfl ?_
  refine qv_iload_n dX0_allow_1 (i := 1) rfl rfl ?_
  refine qv_iand dX0_allow_2 ?_
  refine qv_iload_n dX0_allow_3 (i := 1) rfl rfl ?_
  obtain ⟨m1, hj2, hs⟩ := qv_bind hs
  have K1 : qv_J l g mX0_allow 18 [none, none, none] [.int m1] h (some (.int r), h) := by
    obtain ⟨v2, e3, hs⟩ := qv_bind hs
    obtain rfl := qv_sm hs
    exact qv_zret dX0_allow_18 rfl (qv_b1_of e3).1
  replace hs := hj2
  by_cases c4 : (a0 &&& a1) = a1
  · have hs := qv_pos c4 hs
    refine qv_icmp_ne (tgt := 17) dX0_allow_4 rfl (fun q => absurd c4 q) (fun _ => ?_)
    refine qv_iload_n dX0_allow_7 (i := 0) rfl rfl ?_
    refine qv_iload_n dX0_allow_8 (i := 2) rfl rfl ?_
    refine qv_iand dX0_allow_9 ?_
    by_cases c5 : (a0 &&& a2) = 0
    · have hs := qv_pos c5 hs
      refine qv_if_ne (tgt := 17) dX0_allow_10 rfl (fun q => absurd c5 q) (fun _ => ?_)
      refine qv_iconst (v := (1 : Int32)) dX0_allow_13 rfl ?_
      refine qv_goto (tgt := 18) dX0_allow_14 rfl ?_
      cases hs
      exact qv_dp (qv_le_n (qv_le_n (qv_le_n qv_le_0))) K1
    · have hs := qv_neg c5 hs
      refine qv_if_ne (tgt := 17) dX0_allow_10 rfl (fun _ => ?_) (fun q => absurd q c5)
      refine qv_iconst (v := (0 : Int32)) dX0_allow_17 rfl ?_
      cases hs
      exact qv_dp (qv_le_n (qv_le_n (qv_le_n qv_le_0))) K1
  · have hs := qv_neg c4 hs
    refine qv_icmp_ne (tgt := 17) dX0_allow_4 rfl (fun _ => ?_) (fun q => absurd q c4)
    refine qv_iconst (v := (0 : Int32)) dX0_allow_17 rfl ?_
    cases hs
    exact qv_dp (qv_le_n (qv_le_n (qv_le_n qv_le_0))) K1
theorem qD_X0_allow : qv_DS mX0_allow 3 := ⟨(qv_i4 (List.mem_of_getElem? (i := 28) (by decide +kernel))), (qv_i1 (List.mem_of_getElem? (i := 13) (by decide +kernel))), (qv_i4 (List.mem_of_getElem? (i := 29) (by decide +kernel))), by decide +kernel, by decide +kernel⟩
/-- Finds.keptIn(I)I -/
noncomputable def fX2_keptIn (a0 : Nat) (a1 : Int32) (h : qv_H) : Option (Int32) :=
  Option.bind (qv_loop (σ := Int32 × Int32) (ρ := Int32) (fun (x1, x2) =>
      (qv_gI h 1 a0 0).bind fun v3 =>
      if v3 ≤ x2 then
        some (.inr x1)
      else
        (qv_gR h 1 a0 1).bind fun v4 =>
        (qv_aI h false v4 x2).bind fun v5 =>
        (fX0_has a1 v5).bind fun v6 =>
        (qv_gR h 1 a0 2).bind fun v7 =>
        (qv_aI h true v7 x2).bind fun v8 =>
        Option.bind (α := Int32) (
            if v6 = v8 then
              some (x1 ||| ((1 : Int32) <<< (x2 &&& 31)))
            else
              some x1
          ) fun m9 =>
        some (.inl (m9, x2 + (1 : Int32)))
    ) ((0 : Int32), (0 : Int32))) fun y10 =>
  some y10
abbrev mX2_keptIn : qv_M := (yX2_keptIn, cX2_keptIn, 4, (Option.some Jvm.ClassFile.FieldType.int), 1, 21)
set_option maxRecDepth 100000 in
set_option maxHeartbeats 4000000 in
theorem sX2_keptIn {l : Launch} {g : qv_G} {a0 : Nat} {a1 : Int32} {h : qv_H} {r : Int32} (hs : fX2_keptIn a0 a1 h = some r) : qv_J l g mX2_keptIn 0 [some (.ref a0), some (.int a1), none, none] [] h (some (.int r), h) := by
  unfold fX2_keptIn at hs
  refine qv_iconst (v := (0 : Int32)) dX2_keptIn_0 rfl ?_
  refine qv_istore_n (lo2 := [some (.ref a0), some (.int a1), some (.int (0 : Int32)), none]) dX2_keptIn_1 (i := 2) rfl (by decide) rfl (Nat.le_of_ble_eq_true rfl) rfl ?_
  refine qv_iconst (v := (0 : Int32)) dX2_keptIn_2 rfl ?_
  refine qv_istore_n (lo2 := [some (.ref a0), some (.int a1), some (.int (0 : Int32)), some (.int (0 : Int32))]) dX2_keptIn_3 (i := 3) rfl (by decide) rfl (Nat.le_of_ble_eq_true rfl) rfl ?_
  obtain ⟨y10, e2, hs⟩ := qv_bind hs
  have K1 : qv_J l g mX2_keptIn 43 [none, none, some (.int y10), none] [] h (some (.int r), h) := by
    refine qv_iload_n dX2_keptIn_43 (i := 2) rfl rfl ?_
    obtain rfl := qv_sm hs
    exact qv_iret dX2_keptIn_44 rfl
  obtain ⟨n8, e2⟩ := qv_loop_of e2
  refine qv_dp (qv_le_s (qv_le_s (qv_le_s (qv_le_s qv_le_0)))) (?_ : qv_J l g mX2_keptIn 4 [some (.ref a0), some (.int a1), some (.int (0 : Int32)), some (.int (0 : Int32))] [] h (some (.int r), h))
  revert e2
  suffices lj7 : ∀ (x1 : Int32) (x2 : Int32), qv_it _ n8 (x1, x2) = some y10 → qv_J l g mX2_keptIn 4 [some (.ref a0), some (.int a1), some (.int x1), some (.int x2)] [] h (some (.int r), h) from lj7 (0 : Int32) (0 : Int32)
  induction n8 with
  | zero =>
    intro x1 x2 e2
    cases e2
  | succ n8 ih4 =>
    intro x1 x2 e2
    obtain ⟨_, hs, eb5⟩ := qv_it_s e2
    dsimp only at hs
    refine qv_iload_n dX2_keptIn_4 (i := 3) rfl rfl ?_
    refine qv_aload_n dX2_keptIn_5 (i := 0) rfl rfl ?_
    obtain ⟨v3, e9, hs⟩ := qv_bind hs
    refine qv_getI dX2_keptIn_6 qF_X2_9 e9 ?_
    by_cases c10 : v3 ≤ x2
    · have hs := qv_pos c10 hs
      refine qv_icmp_ge (tgt := 43) dX2_keptIn_9 rfl (fun _ => ?_) (fun q => absurd c10 q)
      cases hs
      cases qv_nx_r eb5
      exact qv_dp (qv_le_n (qv_le_n (qv_le_s (qv_le_n qv_le_0)))) K1
    · have hs := qv_neg c10 hs
      refine qv_icmp_ge (tgt := 43) dX2_keptIn_9 rfl (fun q => absurd q c10) (fun _ => ?_)
      refine qv_iload_n dX2_keptIn_12 (i := 1) rfl rfl ?_
      refine qv_aload_n dX2_keptIn_13 (i := 0) rfl rfl ?_
      obtain ⟨v4, e11, hs⟩ := qv_bind hs
      refine qv_getR dX2_keptIn_14 qF_X2_15 e11 ?_
      refine qv_iload_n dX2_keptIn_17 (i := 3) rfl rfl ?_
      obtain ⟨v5, e12, hs⟩ := qv_bind hs
      refine qv_iald dX2_keptIn_18 e12 ?_
      obtain ⟨v6, e13, hs⟩ := qv_bind hs
      refine qv_cS (d2 := mX0_has) (r := some (.int v6)) (h2 := h) (av := [.int a1, .int v5]) (st := []) dX2_keptIn_19 qM_X2_23 qD_X0_has rfl ⟨by decide, by decide⟩ rfl (Nat.le_of_ble_eq_true rfl) (Nat.le_of_ble_eq_true rfl) (sX0_has e13) rfl ?_
      refine qv_aload_n dX2_keptIn_22 (i := 0) rfl rfl ?_
      obtain ⟨v7, e14, hs⟩ := qv_bind hs
      refine qv_getR dX2_keptIn_23 qF_X2_19 e14 ?_
      refine qv_iload_n dX2_keptIn_26 (i := 3) rfl rfl ?_
      obtain ⟨v8, e15, hs⟩ := qv_bind hs
      refine qv_zald dX2_keptIn_27 e15 ?_
      obtain ⟨m9, hj17, hs⟩ := qv_bind hs
      have K16 : qv_J l g mX2_keptIn 37 [some (.ref a0), some (.int a1), some (.int m9), some (.int x2)] [] h (some (.int r), h) := by
        refine qv_iinc (v := x2 + (1 : Int32)) (lo2 := [some (.ref a0), some (.int a1), some (.int m9), some (.int (x2 + (1 : Int32)))]) dX2_keptIn_37 rfl rfl (by decide) rfl rfl ?_
        refine qv_goto (tgt := 4) dX2_keptIn_40 rfl ?_
        cases hs
        exact qv_dp (qv_le_s (qv_le_s (qv_le_s (qv_le_s qv_le_0)))) (ih4 _ _ (qv_nx_l eb5))
      replace hs := hj17
      by_cases c18 : v6 = v8
      · have hs := qv_pos c18 hs
        refine qv_icmp_ne (tgt := 37) dX2_keptIn_28 rfl (fun q => absurd c18 q) (fun _ => ?_)
        refine qv_iload_n dX2_keptIn_31 (i := 2) rfl rfl ?_
        refine qv_iconst (v := (1 : Int32)) dX2_keptIn_32 rfl ?_
        refine qv_iload_n dX2_keptIn_33 (i := 3) rfl rfl ?_
        refine qv_ishl dX2_keptIn_34 ?_
        refine qv_ior dX2_keptIn_35 ?_
        refine qv_istore_n (lo2 := [some (.ref a0), some (.int a1), some (.int (x1 ||| ((1 : Int32) <<< (x2 &&& 31)))), some (.int x2)]) dX2_keptIn_36 (i := 2) rfl (by decide) rfl (Nat.le_of_ble_eq_true rfl) rfl ?_
        cases hs
        exact qv_dp (qv_le_s (qv_le_s (qv_le_s (qv_le_s qv_le_0)))) K16
      · have hs := qv_neg c18 hs
        refine qv_icmp_ne (tgt := 37) dX2_keptIn_28 rfl (fun _ => ?_) (fun q => absurd q c18)
        cases hs
        exact qv_dp (qv_le_s (qv_le_s (qv_le_s (qv_le_s qv_le_0)))) K16
theorem qD_X2_keptIn : qv_DV mX2_keptIn 1 := ⟨(qv_i9 (List.mem_of_getElem? (i := 26) (by decide +kernel))), (qv_i9 (List.mem_of_getElem? (i := 27) (by decide +kernel))), (qv_i1 (List.mem_of_getElem? (i := 8) (by decide +kernel))), (qv_i9 (List.mem_of_getElem? (i := 28) (by decide +kernel))), by decide +kernel, by decide +kernel⟩
/-- java/lang/Integer.bitCount(I)I -/
noncomputable def fJ6_bitCount_0f7a4 (a0 : Int32) : Option (Int32) :=
  some ((((((((a0 - (((a0.toUInt32 >>> ((1 : Int32).toUInt32 &&& Int32.toUInt32 31)).toInt32) &&& (1431655765 : Int32))) &&& (858993459 : Int32)) + ((((a0 - (((a0.toUInt32 >>> ((1 : Int32).toUInt32 &&& Int32.toUInt32 31)).toInt32) &&& (1431655765 : Int32))).toUInt32 >>> ((2 : Int32).toUInt32 &&& Int32.toUInt32 31)).toInt32) &&& (858993459 : Int32))) + (((((a0 - (((a0.toUInt32 >>> ((1 : Int32).toUInt32 &&& Int32.toUInt32 31)).toInt32) &&& (1431655765 : Int32))) &&& (858993459 : Int32)) + ((((a0 - (((a0.toUInt32 >>> ((1 : Int32).toUInt32 &&& Int32.toUInt32 31)).toInt32) &&& (1431655765 : Int32))).toUInt32 >>> ((2 : Int32).toUInt32 &&& Int32.toUInt32 31)).toInt32) &&& (858993459 : Int32))).toUInt32 >>> ((4 : Int32).toUInt32 &&& Int32.toUInt32 31)).toInt32)) &&& (252645135 : Int32)) + (((((((a0 - (((a0.toUInt32 >>> ((1 : Int32).toUInt32 &&& Int32.toUInt32 31)).toInt32) &&& (1431655765 : Int32))) &&& (858993459 : Int32)) + ((((a0 - (((a0.toUInt32 >>> ((1 : Int32).toUInt32 &&& Int32.toUInt32 31)).toInt32) &&& (1431655765 : Int32))).toUInt32 >>> ((2 : Int32).toUInt32 &&& Int32.toUInt32 31)).toInt32) &&& (858993459 : Int32))) + (((((a0 - (((a0.toUInt32 >>> ((1 : Int32).toUInt32 &&& Int32.toUInt32 31)).toInt32) &&& (1431655765 : Int32))) &&& (858993459 : Int32)) + ((((a0 - (((a0.toUInt32 >>> ((1 : Int32).toUInt32 &&& Int32.toUInt32 31)).toInt32) &&& (1431655765 : Int32))).toUInt32 >>> ((2 : Int32).toUInt32 &&& Int32.toUInt32 31)).toInt32) &&& (858993459 : Int32))).toUInt32 >>> ((4 : Int32).toUInt32 &&& Int32.toUInt32 31)).toInt32)) &&& (252645135 : Int32)).toUInt32 >>> ((8 : Int32).toUInt32 &&& Int32.toUInt32 31)).toInt32)) + ((((((((a0 - (((a0.toUInt32 >>> ((1 : Int32).toUInt32 &&& Int32.toUInt32 31)).toInt32) &&& (1431655765 : Int32))) &&& (858993459 : Int32)) + ((((a0 - (((a0.toUInt32 >>> ((1 : Int32).toUInt32 &&& Int32.toUInt32 31)).toInt32) &&& (1431655765 : Int32))).toUInt32 >>> ((2 : Int32).toUInt32 &&& Int32.toUInt32 31)).toInt32) &&& (858993459 : Int32))) + (((((a0 - (((a0.toUInt32 >>> ((1 : Int32).toUInt32 &&& Int32.toUInt32 31)).toInt32) &&& (1431655765 : Int32))) &&& (858993459 : Int32)) + ((((a0 - (((a0.toUInt32 >>> ((1 : Int32).toUInt32 &&& Int32.toUInt32 31)).toInt32) &&& (1431655765 : Int32))).toUInt32 >>> ((2 : Int32).toUInt32 &&& Int32.toUInt32 31)).toInt32) &&& (858993459 : Int32))).toUInt32 >>> ((4 : Int32).toUInt32 &&& Int32.toUInt32 31)).toInt32)) &&& (252645135 : Int32)) + (((((((a0 - (((a0.toUInt32 >>> ((1 : Int32).toUInt32 &&& Int32.toUInt32 31)).toInt32) &&& (1431655765 : Int32))) &&& (858993459 : Int32)) + ((((a0 - (((a0.toUInt32 >>> ((1 : Int32).toUInt32 &&& Int32.toUInt32 31)).toInt32) &&& (1431655765 : Int32))).toUInt32 >>> ((2 : Int32).toUInt32 &&& Int32.toUInt32 31)).toInt32) &&& (858993459 : Int32))) + (((((a0 - (((a0.toUInt32 >>> ((1 : Int32).toUInt32 &&& Int32.toUInt32 31)).toInt32) &&& (1431655765 : Int32))) &&& (858993459 : Int32)) + ((((a0 - (((a0.toUInt32 >>> ((1 : Int32).toUInt32 &&& Int32.toUInt32 31)).toInt32) &&& (1431655765 : Int32))).toUInt32 >>> ((2 : Int32).toUInt32 &&& Int32.toUInt32 31)).toInt32) &&& (858993459 : Int32))).toUInt32 >>> ((4 : Int32).toUInt32 &&& Int32.toUInt32 31)).toInt32)) &&& (252645135 : Int32)).toUInt32 >>> ((8 : Int32).toUInt32 &&& Int32.toUInt32 31)).toInt32)).toUInt32 >>> ((16 : Int32).toUInt32 &&& Int32.toUInt32 31)).toInt32)) &&& (63 : Int32))
abbrev mJ6_bitCount_0f7a4 : qv_M := (yJ6_bitCount_0f7a4, cJ6_bitCount_0f7a4, 1, (Option.some Jvm.ClassFile.FieldType.int), 0, 0)
set_option maxRecDepth 100000 in
set_option maxHeartbeats 4000000 in
theorem sJ6_bitCount_0f7a4 {l : Launch} {g : qv_G} {a0 : Int32} {h : qv_H} {r : Int32} (hs : fJ6_bitCount_0f7a4 a0 = some r) : qv_J l g mJ6_bitCount_0f7a4 0 [some (.int a0)] [] h (some (.int r), h) := by
  unfold fJ6_bitCount_0f7a4 at hs
  refine qv_iload_n dJ6_bitCount_0f7a4_0 (i := 0) rfl rfl ?_
  refine qv_iload_n dJ6_bitCount_0f7a4_1 (i := 0) rfl rfl ?_
  refine qv_iconst (v := (1 : Int32)) dJ6_bitCount_0f7a4_2 rfl ?_
  refine qv_iushr dJ6_bitCount_0f7a4_3 ?_
  refine qv_ldcw qK_J6_265 dJ6_bitCount_0f7a4_4 ?_
  refine qv_iand dJ6_bitCount_0f7a4_7 ?_
  refine qv_isub dJ6_bitCount_0f7a4_8 ?_
  refine qv_istore_n (lo2 := [some (.int (a0 - (((a0.toUInt32 >>> ((1 : Int32).toUInt32 &&& Int32.toUInt32 31)).toInt32) &&& (1431655765 : Int32))))]) dJ6_bitCount_0f7a4_9 (i := 0) rfl (by decide) rfl (Nat.le_of_ble_eq_true rfl) rfl ?_
  refine qv_iload_n dJ6_bitCount_0f7a4_10 (i := 0) rfl rfl ?_
  refine qv_ldcw qK_J6_266 dJ6_bitCount_0f7a4_11 ?_
  refine qv_iand dJ6_bitCount_0f7a4_14 ?_
  refine qv_iload_n dJ6_bitCount_0f7a4_15 (i := 0) rfl rfl ?_
  refine qv_iconst (v := (2 : Int32)) dJ6_bitCount_0f7a4_16 rfl ?_
  refine qv_iushr dJ6_bitCount_0f7a4_17 ?_
  refine qv_ldcw qK_J6_266 dJ6_bitCount_0f7a4_18 ?_
  refine qv_iand dJ6_bitCount_0f7a4_21 ?_
  refine qv_iadd dJ6_bitCount_0f7a4_22 ?_
  refine qv_istore_n (lo2 := [some (.int (((a0 - (((a0.toUInt32 >>> ((1 : Int32).toUInt32 &&& Int32.toUInt32 31)).toInt32) &&& (1431655765 : Int32))) &&& (858993459 : Int32)) + ((((a0 - (((a0.toUInt32 >>> ((1 : Int32).toUInt32 &&& Int32.toUInt32 31)).toInt32) &&& (1431655765 : Int32))).toUInt32 >>> ((2 : Int32).toUInt32 &&& Int32.toUInt32 31)).toInt32) &&& (858993459 : Int32))))]) dJ6_bitCount_0f7a4_23 (i := 0) rfl (by decide) rfl (Nat.le_of_ble_eq_true rfl) rfl ?_
  refine qv_iload_n dJ6_bitCount_0f7a4_24 (i := 0) rfl rfl ?_
  refine qv_iload_n dJ6_bitCount_0f7a4_25 (i := 0) rfl rfl ?_
  refine qv_iconst (v := (4 : Int32)) dJ6_bitCount_0f7a4_26 rfl ?_
  refine qv_iushr dJ6_bitCount_0f7a4_27 ?_
  refine qv_iadd dJ6_bitCount_0f7a4_28 ?_
  refine qv_ldcw qK_J6_267 dJ6_bitCount_0f7a4_29 ?_
  refine qv_iand dJ6_bitCount_0f7a4_32 ?_
  refine qv_istore_n (lo2 := [some (.int (((((a0 - (((a0.toUInt32 >>> ((1 : Int32).toUInt32 &&& Int32.toUInt32 31)).toInt32) &&& (1431655765 : Int32))) &&& (858993459 : Int32)) + ((((a0 - (((a0.toUInt32 >>> ((1 : Int32).toUInt32 &&& Int32.toUInt32 31)).toInt32) &&& (1431655765 : Int32))).toUInt32 >>> ((2 : Int32).toUInt32 &&& Int32.toUInt32 31)).toInt32) &&& (858993459 : Int32))) + (((((a0 - (((a0.toUInt32 >>> ((1 : Int32).toUInt32 &&& Int32.toUInt32 31)).toInt32) &&& (1431655765 : Int32))) &&& (858993459 : Int32)) + ((((a0 - (((a0.toUInt32 >>> ((1 : Int32).toUInt32 &&& Int32.toUInt32 31)).toInt32) &&& (1431655765 : Int32))).toUInt32 >>> ((2 : Int32).toUInt32 &&& Int32.toUInt32 31)).toInt32) &&& (858993459 : Int32))).toUInt32 >>> ((4 : Int32).toUInt32 &&& Int32.toUInt32 31)).toInt32)) &&& (252645135 : Int32)))]) dJ6_bitCount_0f7a4_33 (i := 0) rfl (by decide) rfl (Nat.le_of_ble_eq_true rfl) rfl ?_
  refine qv_iload_n dJ6_bitCount_0f7a4_34 (i := 0) rfl rfl ?_
  refine qv_iload_n dJ6_bitCount_0f7a4_35 (i := 0) rfl rfl ?_
  refine qv_bipush (v := (8 : Int32)) dJ6_bitCount_0f7a4_36 rfl ?_
  refine qv_iushr dJ6_bitCount_0f7a4_38 ?_
  refine qv_iadd dJ6_bitCount_0f7a4_39 ?_
  refine qv_istore_n (lo2 := [some (.int ((((((a0 - (((a0.toUInt32 >>> ((1 : Int32).toUInt32 &&& Int32.toUInt32 31)).toInt32) &&& (1431655765 : Int32))) &&& (858993459 : Int32)) + ((((a0 - (((a0.toUInt32 >>> ((1 : Int32).toUInt32 &&& Int32.toUInt32 31)).toInt32) &&& (1431655765 : Int32))).toUInt32 >>> ((2 : Int32).toUInt32 &&& Int32.toUInt32 31)).toInt32) &&& (858993459 : Int32))) + (((((a0 - (((a0.toUInt32 >>> ((1 : Int32).toUInt32 &&& Int32.toUInt32 31)).toInt32) &&& (1431655765 : Int32))) &&& (858993459 : Int32)) + ((((a0 - (((a0.toUInt32 >>> ((1 : Int32).toUInt32 &&& Int32.toUInt32 31)).toInt32) &&& (1431655765 : Int32))).toUInt32 >>> ((2 : Int32).toUInt32 &&& Int32.toUInt32 31)).toInt32) &&& (858993459 : Int32))).toUInt32 >>> ((4 : Int32).toUInt32 &&& Int32.toUInt32 31)).toInt32)) &&& (252645135 : Int32)) + (((((((a0 - (((a0.toUInt32 >>> ((1 : Int32).toUInt32 &&& Int32.toUInt32 31)).toInt32) &&& (1431655765 : Int32))) &&& (858993459 : Int32)) + ((((a0 - (((a0.toUInt32 >>> ((1 : Int32).toUInt32 &&& Int32.toUInt32 31)).toInt32) &&& (1431655765 : Int32))).toUInt32 >>> ((2 : Int32).toUInt32 &&& Int32.toUInt32 31)).toInt32) &&& (858993459 : Int32))) + (((((a0 - (((a0.toUInt32 >>> ((1 : Int32).toUInt32 &&& Int32.toUInt32 31)).toInt32) &&& (1431655765 : Int32))) &&& (858993459 : Int32)) + ((((a0 - (((a0.toUInt32 >>> ((1 : Int32).toUInt32 &&& Int32.toUInt32 31)).toInt32) &&& (1431655765 : Int32))).toUInt32 >>> ((2 : Int32).toUInt32 &&& Int32.toUInt32 31)).toInt32) &&& (858993459 : Int32))).toUInt32 >>> ((4 : Int32).toUInt32 &&& Int32.toUInt32 31)).toInt32)) &&& (252645135 : Int32)).toUInt32 >>> ((8 : Int32).toUInt32 &&& Int32.toUInt32 31)).toInt32)))]) dJ6_bitCount_0f7a4_40 (i := 0) rfl (by decide) rfl (Nat.le_of_ble_eq_true rfl) rfl ?_
  refine qv_iload_n dJ6_bitCount_0f7a4_41 (i := 0) rfl rfl ?_
  refine qv_iload_n dJ6_bitCount_0f7a4_42 (i := 0) rfl rfl ?_
  refine qv_bipush (v := (16 : Int32)) dJ6_bitCount_0f7a4_43 rfl ?_
  refine qv_iushr dJ6_bitCount_0f7a4_45 ?_
  refine qv_iadd dJ6_bitCount_0f7a4_46 ?_
  refine qv_istore_n (lo2 := [some (.int (((((((a0 - (((a0.toUInt32 >>> ((1 : Int32).toUInt32 &&& Int32.toUInt32 31)).toInt32) &&& (1431655765 : Int32))) &&& (858993459 : Int32)) + ((((a0 - (((a0.toUInt32 >>> ((1 : Int32).toUInt32 &&& Int32.toUInt32 31)).toInt32) &&& (1431655765 : Int32))).toUInt32 >>> ((2 : Int32).toUInt32 &&& Int32.toUInt32 31)).toInt32) &&& (858993459 : Int32))) + (((((a0 - (((a0.toUInt32 >>> ((1 : Int32).toUInt32 &&& Int32.toUInt32 31)).toInt32) &&& (1431655765 : Int32))) &&& (858993459 : Int32)) + ((((a0 - (((a0.toUInt32 >>> ((1 : Int32).toUInt32 &&& Int32.toUInt32 31)).toInt32) &&& (1431655765 : Int32))).toUInt32 >>> ((2 : Int32).toUInt32 &&& Int32.toUInt32 31)).toInt32) &&& (858993459 : Int32))).toUInt32 >>> ((4 : Int32).toUInt32 &&& Int32.toUInt32 31)).toInt32)) &&& (252645135 : Int32)) + (((((((a0 - (((a0.toUInt32 >>> ((1 : Int32).toUInt32 &&& Int32.toUInt32 31)).toInt32) &&& (1431655765 : Int32))) &&& (858993459 : Int32)) + ((((a0 - (((a0.toUInt32 >>> ((1 : Int32).toUInt32 &&& Int32.toUInt32 31)).toInt32) &&& (1431655765 : Int32))).toUInt32 >>> ((2 : Int32).toUInt32 &&& Int32.toUInt32 31)).toInt32) &&& (858993459 : Int32))) + (((((a0 - (((a0.toUInt32 >>> ((1 : Int32).toUInt32 &&& Int32.toUInt32 31)).toInt32) &&& (1431655765 : Int32))) &&& (858993459 : Int32)) + ((((a0 - (((a0.toUInt32 >>> ((1 : Int32).toUInt32 &&& Int32.toUInt32 31)).toInt32) &&& (1431655765 : Int32))).toUInt32 >>> ((2 : Int32).toUInt32 &&& Int32.toUInt32 31)).toInt32) &&& (858993459 : Int32))).toUInt32 >>> ((4 : Int32).toUInt32 &&& Int32.toUInt32 31)).toInt32)) &&& (252645135 : Int32)).toUInt32 >>> ((8 : Int32).toUInt32 &&& Int32.toUInt32 31)).toInt32)) + ((((((((a0 - (((a0.toUInt32 >>> ((1 : Int32).toUInt32 &&& Int32.toUInt32 31)).toInt32) &&& (1431655765 : Int32))) &&& (858993459 : Int32)) + ((((a0 - (((a0.toUInt32 >>> ((1 : Int32).toUInt32 &&& Int32.toUInt32 31)).toInt32) &&& (1431655765 : Int32))).toUInt32 >>> ((2 : Int32).toUInt32 &&& Int32.toUInt32 31)).toInt32) &&& (858993459 : Int32))) + (((((a0 - (((a0.toUInt32 >>> ((1 : Int32).toUInt32 &&& Int32.toUInt32 31)).toInt32) &&& (1431655765 : Int32))) &&& (858993459 : Int32)) + ((((a0 - (((a0.toUInt32 >>> ((1 : Int32).toUInt32 &&& Int32.toUInt32 31)).toInt32) &&& (1431655765 : Int32))).toUInt32 >>> ((2 : Int32).toUInt32 &&& Int32.toUInt32 31)).toInt32) &&& (858993459 : Int32))).toUInt32 >>> ((4 : Int32).toUInt32 &&& Int32.toUInt32 31)).toInt32)) &&& (252645135 : Int32)) + (((((((a0 - (((a0.toUInt32 >>> ((1 : Int32).toUInt32 &&& Int32.toUInt32 31)).toInt32) &&& (1431655765 : Int32))) &&& (858993459 : Int32)) + ((((a0 - (((a0.toUInt32 >>> ((1 : Int32).toUInt32 &&& Int32.toUInt32 31)).toInt32) &&& (1431655765 : Int32))).toUInt32 >>> ((2 : Int32).toUInt32 &&& Int32.toUInt32 31)).toInt32) &&& (858993459 : Int32))) + (((((a0 - (((a0.toUInt32 >>> ((1 : Int32).toUInt32 &&& Int32.toUInt32 31)).toInt32) &&& (1431655765 : Int32))) &&& (858993459 : Int32)) + ((((a0 - (((a0.toUInt32 >>> ((1 : Int32).toUInt32 &&& Int32.toUInt32 31)).toInt32) &&& (1431655765 : Int32))).toUInt32 >>> ((2 : Int32).toUInt32 &&& Int32.toUInt32 31)).toInt32) &&& (858993459 : Int32))).toUInt32 >>> ((4 : Int32).toUInt32 &&& Int32.toUInt32 31)).toInt32)) &&& (252645135 : Int32)).toUInt32 >>> ((8 : Int32).toUInt32 &&& Int32.toUInt32 31)).toInt32)).toUInt32 >>> ((16 : Int32).toUInt32 &&& Int32.toUInt32 31)).toInt32)))]) dJ6_bitCount_0f7a4_47 (i := 0) rfl (by decide) rfl (Nat.le_of_ble_eq_true rfl) rfl ?_
  refine qv_iload_n dJ6_bitCount_0f7a4_48 (i := 0) rfl rfl ?_
  refine qv_bipush (v := (63 : Int32)) dJ6_bitCount_0f7a4_49 rfl ?_
  refine qv_iand dJ6_bitCount_0f7a4_51 ?_
  obtain rfl := qv_sm hs
  exact qv_iret dJ6_bitCount_0f7a4_52 rfl
theorem qD_J6_bitCount_0f7a4 : qv_DS mJ6_bitCount_0f7a4 1 := ⟨(qv_i9 (List.mem_of_getElem? (i := 32) (by decide +kernel))), (qv_i1 (List.mem_of_getElem? (i := 22) (by decide +kernel))), (qv_i9 (List.mem_of_getElem? (i := 33) (by decide +kernel))), by decide +kernel, by decide +kernel⟩
/-- Finds.become(LTrueOneWay$Finds;)V -/
noncomputable def fX2_become (a0 : Nat) (a1 : Nat) (h : qv_H) : Option (qv_H) :=
  (qv_gI h 1 a1 0).bind fun v1 =>
  (qv_pI h 1 a0 0 v1).bind fun h2 =>
  Option.bind (qv_loop (σ := Int32 × qv_H) (ρ := qv_H) (fun (x3, h4) =>
      (qv_gI h4 1 a0 0).bind fun v5 =>
      if v5 ≤ x3 then
        some (.inr h4)
      else
        (qv_gR h4 1 a0 1).bind fun v6 =>
        (qv_gR h4 1 a1 1).bind fun v7 =>
        (qv_aI h4 false v7 x3).bind fun v8 =>
        (qv_sI h4 false v6 x3 v8).bind fun h9 =>
        (qv_gR h9 1 a0 2).bind fun v10 =>
        (qv_gR h9 1 a1 2).bind fun v11 =>
        (qv_aI h9 true v11 x3).bind fun v12 =>
        (qv_sI h9 true v10 x3 v12).bind fun h13 =>
        some (.inl (x3 + (1 : Int32), h13))
    ) ((0 : Int32), h2)) fun h14 =>
  some h14
abbrev mX2_become : qv_M := (yX2_become, cX2_become, 3, (Option.none : Option Jvm.ClassFile.FieldType), 0, 0)
set_option maxRecDepth 100000 in
set_option maxHeartbeats 4000000 in
theorem sX2_become {l : Launch} {g : qv_G} {a0 : Nat} {a1 : Nat} {h : qv_H} {hz : qv_H} (hs : fX2_become a0 a1 h = some hz) : qv_J l g mX2_become 0 [some (.ref a0), some (.ref a1), none] [] h (none, hz) := by
  unfold fX2_become at hs
  refine qv_aload_n dX2_become_0 (i := 0) rfl rfl ?_
  refine qv_aload_n dX2_become_1 (i := 1) rfl rfl ?_
  obtain ⟨v1, e1, hs⟩ := qv_bind hs
  refine qv_getI dX2_become_2 qF_X2_9 e1 ?_
  obtain ⟨h2, e2, hs⟩ := qv_bind hs
  refine qv_putI dX2_become_5 qF_X2_9 e2 ?_
  refine qv_iconst (v := (0 : Int32)) dX2_become_8 rfl ?_
  refine qv_istore_n (lo2 := [some (.ref a0), some (.ref a1), some (.int (0 : Int32))]) dX2_become_9 (i := 2) rfl (by decide) rfl (Nat.le_of_ble_eq_true rfl) rfl ?_
  obtain ⟨h14, e4, hs⟩ := qv_bind hs
  have K3 : qv_J l g mX2_become 48 [none, none, none] [] h14 (none, hz) := by
    obtain rfl := qv_sm hs
    exact qv_vret dX2_become_48 rfl
  obtain ⟨n10, e4⟩ := qv_loop_of e4
  refine qv_dp (qv_le_s (qv_le_s (qv_le_s qv_le_0))) (?_ : qv_J l g mX2_become 10 [some (.ref a0), some (.ref a1), some (.int (0 : Int32))] [] h2 (none, hz))
  revert e4
  suffices lj9 : ∀ (x3 : Int32) (h4 : qv_H), qv_it _ n10 (x3, h4) = some h14 → qv_J l g mX2_become 10 [some (.ref a0), some (.ref a1), some (.int x3)] [] h4 (none, hz) from lj9 (0 : Int32) h2
  induction n10 with
  | zero =>
    intro x3 h4 e4
    cases e4
  | succ n10 ih6 =>
    intro x3 h4 e4
    obtain ⟨_, hs, eb7⟩ := qv_it_s e4
    dsimp only at hs
    refine qv_iload_n dX2_become_10 (i := 2) rfl rfl ?_
    refine qv_aload_n dX2_become_11 (i := 0) rfl rfl ?_
    obtain ⟨v5, e11, hs⟩ := qv_bind hs
    refine qv_getI dX2_become_12 qF_X2_9 e11 ?_
    by_cases c12 : v5 ≤ x3
    · have hs := qv_pos c12 hs
      refine qv_icmp_ge (tgt := 48) dX2_become_15 rfl (fun _ => ?_) (fun q => absurd c12 q)
      cases hs
      cases qv_nx_r eb7
      exact qv_dp (qv_le_n (qv_le_n (qv_le_n qv_le_0))) K3
    · have hs := qv_neg c12 hs
      refine qv_icmp_ge (tgt := 48) dX2_become_15 rfl (fun q => absurd q c12) (fun _ => ?_)
      refine qv_aload_n dX2_become_18 (i := 0) rfl rfl ?_
      obtain ⟨v6, e13, hs⟩ := qv_bind hs
      refine qv_getR dX2_become_19 qF_X2_15 e13 ?_
      refine qv_iload_n dX2_become_22 (i := 2) rfl rfl ?_
      refine qv_aload_n dX2_become_23 (i := 1) rfl rfl ?_
      obtain ⟨v7, e14, hs⟩ := qv_bind hs
      refine qv_getR dX2_become_24 qF_X2_15 e14 ?_
      refine qv_iload_n dX2_become_27 (i := 2) rfl rfl ?_
      obtain ⟨v8, e15, hs⟩ := qv_bind hs
      refine qv_iald dX2_become_28 e15 ?_
      obtain ⟨h9, e16, hs⟩ := qv_bind hs
      refine qv_iast dX2_become_29 e16 ?_
      refine qv_aload_n dX2_become_30 (i := 0) rfl rfl ?_
      obtain ⟨v10, e17, hs⟩ := qv_bind hs
      refine qv_getR dX2_become_31 qF_X2_19 e17 ?_
      refine qv_iload_n dX2_become_34 (i := 2) rfl rfl ?_
      refine qv_aload_n dX2_become_35 (i := 1) rfl rfl ?_
      obtain ⟨v11, e18, hs⟩ := qv_bind hs
      refine qv_getR dX2_become_36 qF_X2_19 e18 ?_
      refine qv_iload_n dX2_become_39 (i := 2) rfl rfl ?_
      obtain ⟨v12, e19, hs⟩ := qv_bind hs
      refine qv_zald dX2_become_40 e19 ?_
      obtain ⟨h13, e20, hs⟩ := qv_bind hs
      refine qv_zast dX2_become_41 e20 ?_
      refine qv_iinc (v := x3 + (1 : Int32)) (lo2 := [some (.ref a0), some (.ref a1), some (.int (x3 + (1 : Int32)))]) dX2_become_42 rfl rfl (by decide) rfl rfl ?_
      refine qv_goto (tgt := 10) dX2_become_45 rfl ?_
      cases hs
      exact qv_dp (qv_le_s (qv_le_s (qv_le_s qv_le_0))) (ih6 _ _ (qv_nx_l eb7))
theorem qD_X2_become : qv_DV mX2_become 1 := ⟨(qv_i12 (List.mem_of_getElem? (i := 23) (by decide +kernel))), (qv_i12 (List.mem_of_getElem? (i := 24) (by decide +kernel))), (qv_i1 (List.mem_of_getElem? (i := 8) (by decide +kernel))), (qv_i12 (List.mem_of_getElem? (i := 25) (by decide +kernel))), by decide +kernel, by decide +kernel⟩
/-- Finds.add(IZ)V -/
noncomputable def fX2_add (a0 : Nat) (a1 : Int32) (a2 : Int32) (h : qv_H) : Option (qv_H) :=
  (qv_gI h 1 a0 0).bind fun v1 =>
  Option.bind (α := qv_H) (
      if (12 : Int32) ≤ v1 then
        some h
      else
        (qv_gR h 1 a0 1).bind fun v2 =>
        (qv_gI h 1 a0 0).bind fun v3 =>
        (qv_sI h false v2 v3 a1).bind fun h4 =>
        (qv_gR h4 1 a0 2).bind fun v5 =>
        (qv_gI h4 1 a0 0).bind fun v6 =>
        (qv_sI h4 true v5 v6 a2).bind fun h7 =>
        (qv_gI h7 1 a0 0).bind fun v8 =>
        (qv_pI h7 1 a0 0 (v8 + (1 : Int32))).bind fun h9 =>
        some h9
    ) fun h10 =>
  some h10
abbrev mX2_add : qv_M := (yX2_add, cX2_add, 3, (Option.none : Option Jvm.ClassFile.FieldType), 0, 0)
set_option maxRecDepth 100000 in
set_option maxHeartbeats 4000000 in
theorem sX2_add {l : Launch} {g : qv_G} {a0 : Nat} {a1 : Int32} {a2 : Int32} {h : qv_H} {hz : qv_H} (hs : fX2_add a0 a1 a2 h = some hz) : qv_J l g mX2_add 0 [some (.ref a0), some (.int a1), some (.int a2)] [] h (none, hz) := by
  unfold fX2_add at hs
  refine qv_aload_n dX2_add_0 (i := 0) rfl rfl ?_
  obtain ⟨v1, e1, hs⟩ := qv_bind hs
  refine qv_getI dX2_add_1 qF_X2_9 e1 ?_
  refine qv_bipush (v := (12 : Int32)) dX2_add_4 rfl ?_
  obtain ⟨h10, hj3, hs⟩ := qv_bind hs
  have K2 : qv_J l g mX2_add 39 [none, none, none] [] h10 (none, hz) := by
    obtain rfl := qv_sm hs
    exact qv_vret dX2_add_39 rfl
  replace hs := hj3
  by_cases c4 : (12 : Int32) ≤ v1
  · have hs := qv_pos c4 hs
    refine qv_icmp_ge (tgt := 39) dX2_add_6 rfl (fun _ => ?_) (fun q => absurd c4 q)
    cases hs
    exact qv_dp (qv_le_n (qv_le_n (qv_le_n qv_le_0))) K2
  · have hs := qv_neg c4 hs
    refine qv_icmp_ge (tgt := 39) dX2_add_6 rfl (fun q => absurd q c4) (fun _ => ?_)
    refine qv_aload_n dX2_add_9 (i := 0) rfl rfl ?_
    obtain ⟨v2, e5, hs⟩ := qv_bind hs
    refine qv_getR dX2_add_10 qF_X2_15 e5 ?_
    refine qv_aload_n dX2_add_13 (i := 0) rfl rfl ?_
    obtain ⟨v3, e6, hs⟩ := qv_bind hs
    refine qv_getI dX2_add_14 qF_X2_9 e6 ?_
    refine qv_iload_n dX2_add_17 (i := 1) rfl rfl ?_
    obtain ⟨h4, e7, hs⟩ := qv_bind hs
    refine qv_iast dX2_add_18 e7 ?_
    refine qv_aload_n dX2_add_19 (i := 0) rfl rfl ?_
    obtain ⟨v5, e8, hs⟩ := qv_bind hs
    refine qv_getR dX2_add_20 qF_X2_19 e8 ?_
    refine qv_aload_n dX2_add_23 (i := 0) rfl rfl ?_
    obtain ⟨v6, e9, hs⟩ := qv_bind hs
    refine qv_getI dX2_add_24 qF_X2_9 e9 ?_
    refine qv_iload_n dX2_add_27 (i := 2) rfl rfl ?_
    obtain ⟨h7, e10, hs⟩ := qv_bind hs
    refine qv_zast dX2_add_28 e10 ?_
    refine qv_aload_n dX2_add_29 (i := 0) rfl rfl ?_
    refine qv_dup dX2_add_30 rfl ?_
    obtain ⟨v8, e11, hs⟩ := qv_bind hs
    refine qv_getI dX2_add_31 qF_X2_9 e11 ?_
    refine qv_iconst (v := (1 : Int32)) dX2_add_34 rfl ?_
    refine qv_iadd dX2_add_35 ?_
    obtain ⟨h9, e12, hs⟩ := qv_bind hs
    refine qv_putI dX2_add_36 qF_X2_9 e12 ?_
    cases hs
    exact qv_dp (qv_le_n (qv_le_n (qv_le_n qv_le_0))) K2
theorem qD_X2_add : qv_DV mX2_add 2 := ⟨(qv_i8 (List.mem_of_getElem? (i := 50) (by decide +kernel))), (qv_i8 (List.mem_of_getElem? (i := 51) (by decide +kernel))), (qv_i1 (List.mem_of_getElem? (i := 8) (by decide +kernel))), (qv_i8 (List.mem_of_getElem? (i := 52) (by decide +kernel))), by decide +kernel, by decide +kernel⟩
/-- Finds.dropLatest()V -/
noncomputable def fX2_dropLatest (a0 : Nat) (h : qv_H) : Option (qv_H) :=
  (qv_gI h 1 a0 0).bind fun v1 =>
  Option.bind (α := qv_H) (
      if v1 ≤ 0 then
        some h
      else
        (qv_gI h 1 a0 0).bind fun v2 =>
        (qv_pI h 1 a0 0 (v2 - (1 : Int32))).bind fun h3 =>
        some h3
    ) fun h4 =>
  some h4
abbrev mX2_dropLatest : qv_M := (yX2_dropLatest, cX2_dropLatest, 1, (Option.none : Option Jvm.ClassFile.FieldType), 0, 0)
set_option maxRecDepth 100000 in
set_option maxHeartbeats 4000000 in
theorem sX2_dropLatest {l : Launch} {g : qv_G} {a0 : Nat} {h : qv_H} {hz : qv_H} (hs : fX2_dropLatest a0 h = some hz) : qv_J l g mX2_dropLatest 0 [some (.ref a0)] [] h (none, hz) := by
  unfold fX2_dropLatest at hs
  refine qv_aload_n dX2_dropLatest_0 (i := 0) rfl rfl ?_
  obtain ⟨v1, e1, hs⟩ := qv_bind hs
  refine qv_getI dX2_dropLatest_1 qF_X2_9 e1 ?_
  obtain ⟨h4, hj3, hs⟩ := qv_bind hs
  have K2 : qv_J l g mX2_dropLatest 17 [none] [] h4 (none, hz) := by
    obtain rfl := qv_sm hs
    exact qv_vret dX2_dropLatest_17 rfl
  replace hs := hj3
  by_cases c4 : v1 ≤ 0
  · have hs := qv_pos c4 hs
    refine qv_if_le (tgt := 17) dX2_dropLatest_4 rfl (fun _ => ?_) (fun q => absurd c4 q)
    cases hs
    exact qv_dp (qv_le_n qv_le_0) K2
  · have hs := qv_neg c4 hs
    refine qv_if_le (tgt := 17) dX2_dropLatest_4 rfl (fun q => absurd q c4) (fun _ => ?_)
    refine qv_aload_n dX2_dropLatest_7 (i := 0) rfl rfl ?_
    refine qv_dup dX2_dropLatest_8 rfl ?_
    obtain ⟨v2, e5, hs⟩ := qv_bind hs
    refine qv_getI dX2_dropLatest_9 qF_X2_9 e5 ?_
    refine qv_iconst (v := (1 : Int32)) dX2_dropLatest_12 rfl ?_
    refine qv_isub dX2_dropLatest_13 ?_
    obtain ⟨h3, e6, hs⟩ := qv_bind hs
    refine qv_putI dX2_dropLatest_14 qF_X2_9 e6 ?_
    cases hs
    exact qv_dp (qv_le_n qv_le_0) K2
theorem qD_X2_dropLatest : qv_DV mX2_dropLatest 0 := ⟨(qv_i8 (List.mem_of_getElem? (i := 62) (by decide +kernel))), (qv_i8 (List.mem_of_getElem? (i := 63) (by decide +kernel))), (qv_i1 (List.mem_of_getElem? (i := 8) (by decide +kernel))), (qv_i9 (List.mem_of_getElem? (i := 0) (by decide +kernel))), by decide +kernel, by decide +kernel⟩
/-- Finds.bitsFound(Z)I -/
noncomputable def fX2_bitsFound (a0 : Nat) (a1 : Int32) (h : qv_H) : Option (Int32) :=
  Option.bind (qv_loop (σ := Int32 × Int32) (ρ := Int32) (fun (x1, x2) =>
      (qv_gI h 1 a0 0).bind fun v3 =>
      if v3 ≤ x2 then
        some (.inr x1)
      else
        (qv_gR h 1 a0 2).bind fun v4 =>
        (qv_aI h true v4 x2).bind fun v5 =>
        Option.bind (α := Int32) (
            if v5 = a1 then
              (qv_gR h 1 a0 1).bind fun v6 =>
              (qv_aI h false v6 x2).bind fun v7 =>
              some (x1 ||| ((1 : Int32) <<< (v7 &&& 31)))
            else
              some x1
          ) fun m8 =>
        some (.inl (m8, x2 + (1 : Int32)))
    ) ((0 : Int32), (0 : Int32))) fun y9 =>
  some y9
abbrev mX2_bitsFound : qv_M := (yX2_bitsFound, cX2_bitsFound, 4, (Option.some Jvm.ClassFile.FieldType.int), 0, 0)
set_option maxRecDepth 100000 in
set_option maxHeartbeats 4000000 in
theorem sX2_bitsFound {l : Launch} {g : qv_G} {a0 : Nat} {a1 : Int32} {h : qv_H} {r : Int32} (hs : fX2_bitsFound a0 a1 h = some r) : qv_J l g mX2_bitsFound 0 [some (.ref a0), some (.int a1), none, none] [] h (some (.int r), h) := by
  unfold fX2_bitsFound at hs
  refine qv_iconst (v := (0 : Int32)) dX2_bitsFound_0 rfl ?_
  refine qv_istore_n (lo2 := [some (.ref a0), some (.int a1), some (.int (0 : Int32)), none]) dX2_bitsFound_1 (i := 2) rfl (by decide) rfl (Nat.le_of_ble_eq_true rfl) rfl ?_
  refine qv_iconst (v := (0 : Int32)) dX2_bitsFound_2 rfl ?_
  refine qv_istore_n (lo2 := [some (.ref a0), some (.int a1), some (.int (0 : Int32)), some (.int (0 : Int32))]) dX2_bitsFound_3 (i := 3) rfl (by decide) rfl (Nat.le_of_ble_eq_true rfl) rfl ?_
  obtain ⟨y9, e2, hs⟩ := qv_bind hs
  have K1 : qv_J l g mX2_bitsFound 39 [none, none, some (.int y9), none] [] h (some (.int r), h) := by
    refine qv_iload_n dX2_bitsFound_39 (i := 2) rfl rfl ?_
    obtain rfl := qv_sm hs
    exact qv_iret dX2_bitsFound_40 rfl
  obtain ⟨n8, e2⟩ := qv_loop_of e2
  refine qv_dp (qv_le_s (qv_le_s (qv_le_s (qv_le_s qv_le_0)))) (?_ : qv_J l g mX2_bitsFound 4 [some (.ref a0), some (.int a1), some (.int (0 : Int32)), some (.int (0 : Int32))] [] h (some (.int r), h))
  revert e2
  suffices lj7 : ∀ (x1 : Int32) (x2 : Int32), qv_it _ n8 (x1, x2) = some y9 → qv_J l g mX2_bitsFound 4 [some (.ref a0), some (.int a1), some (.int x1), some (.int x2)] [] h (some (.int r), h) from lj7 (0 : Int32) (0 : Int32)
  induction n8 with
  | zero =>
    intro x1 x2 e2
    cases e2
  | succ n8 ih4 =>
    intro x1 x2 e2
    obtain ⟨_, hs, eb5⟩ := qv_it_s e2
    dsimp only at hs
    refine qv_iload_n dX2_bitsFound_4 (i := 3) rfl rfl ?_
    refine qv_aload_n dX2_bitsFound_5 (i := 0) rfl rfl ?_
    obtain ⟨v3, e9, hs⟩ := qv_bind hs
    refine qv_getI dX2_bitsFound_6 qF_X2_9 e9 ?_
    by_cases c10 : v3 ≤ x2
    · have hs := qv_pos c10 hs
      refine qv_icmp_ge (tgt := 39) dX2_bitsFound_9 rfl (fun _ => ?_) (fun q => absurd c10 q)
      cases hs
      cases qv_nx_r eb5
      exact qv_dp (qv_le_n (qv_le_n (qv_le_s (qv_le_n qv_le_0)))) K1
    · have hs := qv_neg c10 hs
      refine qv_icmp_ge (tgt := 39) dX2_bitsFound_9 rfl (fun q => absurd q c10) (fun _ => ?_)
      refine qv_aload_n dX2_bitsFound_12 (i := 0) rfl rfl ?_
      obtain ⟨v4, e11, hs⟩ := qv_bind hs
      refine qv_getR dX2_bitsFound_13 qF_X2_19 e11 ?_
      refine qv_iload_n dX2_bitsFound_16 (i := 3) rfl rfl ?_
      obtain ⟨v5, e12, hs⟩ := qv_bind hs
      refine qv_zald dX2_bitsFound_17 e12 ?_
      refine qv_iload_n dX2_bitsFound_18 (i := 1) rfl rfl ?_
      obtain ⟨m8, hj14, hs⟩ := qv_bind hs
      have K13 : qv_J l g mX2_bitsFound 33 [some (.ref a0), some (.int a1), some (.int m8), some (.int x2)] [] h (some (.int r), h) := by
        refine qv_iinc (v := x2 + (1 : Int32)) (lo2 := [some (.ref a0), some (.int a1), some (.int m8), some (.int (x2 + (1 : Int32)))]) dX2_bitsFound_33 rfl rfl (by decide) rfl rfl ?_
        refine qv_goto (tgt := 4) dX2_bitsFound_36 rfl ?_
        cases hs
        exact qv_dp (qv_le_s (qv_le_s (qv_le_s (qv_le_s qv_le_0)))) (ih4 _ _ (qv_nx_l eb5))
      replace hs := hj14
      by_cases c15 : v5 = a1
      · have hs := qv_pos c15 hs
        refine qv_icmp_ne (tgt := 33) dX2_bitsFound_19 rfl (fun q => absurd c15 q) (fun _ => ?_)
        refine qv_iload_n dX2_bitsFound_22 (i := 2) rfl rfl ?_
        refine qv_iconst (v := (1 : Int32)) dX2_bitsFound_23 rfl ?_
        refine qv_aload_n dX2_bitsFound_24 (i := 0) rfl rfl ?_
        obtain ⟨v6, e16, hs⟩ := qv_bind hs
        refine qv_getR dX2_bitsFound_25 qF_X2_15 e16 ?_
        refine qv_iload_n dX2_bitsFound_28 (i := 3) rfl rfl ?_
        obtain ⟨v7, e17, hs⟩ := qv_bind hs
        refine qv_iald dX2_bitsFound_29 e17 ?_
        refine qv_ishl dX2_bitsFound_30 ?_
        refine qv_ior dX2_bitsFound_31 ?_
        refine qv_istore_n (lo2 := [some (.ref a0), some (.int a1), some (.int (x1 ||| ((1 : Int32) <<< (v7 &&& 31)))), some (.int x2)]) dX2_bitsFound_32 (i := 2) rfl (by decide) rfl (Nat.le_of_ble_eq_true rfl) rfl ?_
        cases hs
        exact qv_dp (qv_le_s (qv_le_s (qv_le_s (qv_le_s qv_le_0)))) K13
      · have hs := qv_neg c15 hs
        refine qv_icmp_ne (tgt := 33) dX2_bitsFound_19 rfl (fun _ => ?_) (fun q => absurd q c15)
        cases hs
        exact qv_dp (qv_le_s (qv_le_s (qv_le_s (qv_le_s qv_le_0)))) K13
theorem qD_X2_bitsFound : qv_DV mX2_bitsFound 1 := ⟨(qv_i4 (List.mem_of_getElem? (i := 13) (by decide +kernel))), (qv_i4 (List.mem_of_getElem? (i := 14) (by decide +kernel))), (qv_i1 (List.mem_of_getElem? (i := 8) (by decide +kernel))), (qv_i4 (List.mem_of_getElem? (i := 15) (by decide +kernel))), by decide +kernel, by decide +kernel⟩
/-- Finds.firstBroken(I)I -/
noncomputable def fX2_firstBroken (a0 : Nat) (a1 : Int32) (h : qv_H) : Option (Int32) :=
  Option.bind (qv_loop (σ := Int32) (ρ := (Unit) ⊕ (Int32)) (fun x1 =>
      (qv_gI h 1 a0 0).bind fun v2 =>
      if v2 ≤ x1 then
        some (.inr (.inl ()))
      else
        (qv_gR h 1 a0 1).bind fun v3 =>
        (qv_aI h false v3 x1).bind fun v4 =>
        (fX0_has a1 v4).bind fun v5 =>
        (qv_gR h 1 a0 2).bind fun v6 =>
        (qv_aI h true v6 x1).bind fun v7 =>
        if v5 = v7 then
          some (.inl (x1 + (1 : Int32)))
        else
          some (.inr (.inr x1))
    ) (0 : Int32)) fun q => match q with
  | .inl _ =>
    some (-1 : Int32)
  | .inr q => some q
abbrev mX2_firstBroken : qv_M := (yX2_firstBroken, cX2_firstBroken, 3, (Option.some Jvm.ClassFile.FieldType.int), 1, 21)
set_option maxRecDepth 100000 in
set_option maxHeartbeats 4000000 in
theorem sX2_firstBroken {l : Launch} {g : qv_G} {a0 : Nat} {a1 : Int32} {h : qv_H} {r : Int32} (hs : fX2_firstBroken a0 a1 h = some r) : qv_J l g mX2_firstBroken 0 [some (.ref a0), some (.int a1), none] [] h (some (.int r), h) := by
  unfold fX2_firstBroken at hs
  refine qv_iconst (v := (0 : Int32)) dX2_firstBroken_0 rfl ?_
  refine qv_istore_n (lo2 := [some (.ref a0), some (.int a1), some (.int (0 : Int32))]) dX2_firstBroken_1 (i := 2) rfl (by decide) rfl (Nat.le_of_ble_eq_true rfl) rfl ?_
  obtain ⟨q6, e2, hA3⟩ := qv_bind hs
  have K1 : ∀ (_ : Unit), q6 = .inl () → qv_J l g mX2_firstBroken 37 [none, none, none] [] h (some (.int r), h) := by
    intro _ eq9
    subst eq9
    have hs := hA3
    dsimp only at hs
    refine qv_iconst (v := (-1 : Int32)) dX2_firstBroken_37 rfl ?_
    obtain rfl := qv_sm hs
    exact qv_iret dX2_firstBroken_38 rfl
  obtain ⟨n8, e2⟩ := qv_loop_of e2
  refine qv_dp (qv_le_s (qv_le_s (qv_le_s qv_le_0))) (?_ : qv_J l g mX2_firstBroken 2 [some (.ref a0), some (.int a1), some (.int (0 : Int32))] [] h (some (.int r), h))
  revert e2
  suffices lj7 : ∀ (x1 : Int32), qv_it _ n8 x1 = some q6 → qv_J l g mX2_firstBroken 2 [some (.ref a0), some (.int a1), some (.int x1)] [] h (some (.int r), h) from lj7 (0 : Int32)
  induction n8 with
  | zero =>
    intro x1 e2
    cases e2
  | succ n8 ih4 =>
    intro x1 e2
    obtain ⟨_, hs, eb5⟩ := qv_it_s e2
    refine qv_iload_n dX2_firstBroken_2 (i := 2) rfl rfl ?_
    refine qv_aload_n dX2_firstBroken_3 (i := 0) rfl rfl ?_
    obtain ⟨v2, e10, hs⟩ := qv_bind hs
    refine qv_getI dX2_firstBroken_4 qF_X2_9 e10 ?_
    by_cases c11 : v2 ≤ x1
    · have hs := qv_pos c11 hs
      refine qv_icmp_ge (tgt := 37) dX2_firstBroken_7 rfl (fun _ => ?_) (fun q => absurd c11 q)
      cases hs
      cases qv_nx_r eb5
      exact qv_dp (qv_le_n (qv_le_n (qv_le_n qv_le_0))) (K1 () rfl)
    · have hs := qv_neg c11 hs
      refine qv_icmp_ge (tgt := 37) dX2_firstBroken_7 rfl (fun q => absurd q c11) (fun _ => ?_)
      refine qv_iload_n dX2_firstBroken_10 (i := 1) rfl rfl ?_
      refine qv_aload_n dX2_firstBroken_11 (i := 0) rfl rfl ?_
      obtain ⟨v3, e12, hs⟩ := qv_bind hs
      refine qv_getR dX2_firstBroken_12 qF_X2_15 e12 ?_
      refine qv_iload_n dX2_firstBroken_15 (i := 2) rfl rfl ?_
      obtain ⟨v4, e13, hs⟩ := qv_bind hs
      refine qv_iald dX2_firstBroken_16 e13 ?_
      obtain ⟨v5, e14, hs⟩ := qv_bind hs
      refine qv_cS (d2 := mX0_has) (r := some (.int v5)) (h2 := h) (av := [.int a1, .int v4]) (st := []) dX2_firstBroken_17 qM_X2_23 qD_X0_has rfl ⟨by decide, by decide⟩ rfl (Nat.le_of_ble_eq_true rfl) (Nat.le_of_ble_eq_true rfl) (sX0_has e14) rfl ?_
      refine qv_aload_n dX2_firstBroken_20 (i := 0) rfl rfl ?_
      obtain ⟨v6, e15, hs⟩ := qv_bind hs
      refine qv_getR dX2_firstBroken_21 qF_X2_19 e15 ?_
      refine qv_iload_n dX2_firstBroken_24 (i := 2) rfl rfl ?_
      obtain ⟨v7, e16, hs⟩ := qv_bind hs
      refine qv_zald dX2_firstBroken_25 e16 ?_
      by_cases c17 : v5 = v7
      · have hs := qv_pos c17 hs
        refine qv_icmp_eq (tgt := 31) dX2_firstBroken_26 rfl (fun _ => ?_) (fun q => absurd c17 q)
        refine qv_iinc (v := x1 + (1 : Int32)) (lo2 := [some (.ref a0), some (.int a1), some (.int (x1 + (1 : Int32)))]) dX2_firstBroken_31 rfl rfl (by decide) rfl rfl ?_
        refine qv_goto (tgt := 2) dX2_firstBroken_34 rfl ?_
        cases hs
        exact qv_dp (qv_le_s (qv_le_s (qv_le_s qv_le_0))) (ih4 _ (qv_nx_l eb5))
      · have hs := qv_neg c17 hs
        refine qv_icmp_eq (tgt := 31) dX2_firstBroken_26 rfl (fun q => absurd q c17) (fun _ => ?_)
        refine qv_iload_n dX2_firstBroken_29 (i := 2) rfl rfl ?_
        cases hs
        cases qv_nx_r eb5
        have hs := hA3
        dsimp only at hs
        obtain rfl := qv_sm hs
        exact qv_iret dX2_firstBroken_30 rfl
theorem qD_X2_firstBroken : qv_DV mX2_firstBroken 1 := ⟨(qv_i12 (List.mem_of_getElem? (i := 11) (by decide +kernel))), (qv_i12 (List.mem_of_getElem? (i := 12) (by decide +kernel))), (qv_i1 (List.mem_of_getElem? (i := 8) (by decide +kernel))), (qv_i12 (List.mem_of_getElem? (i := 13) (by decide +kernel))), by decide +kernel, by decide +kernel⟩
/-- Land.become(LTrueOneWay$Land;)V -/
noncomputable def fX3_become (a0 : Nat) (a1 : Nat) (h : qv_H) : Option (qv_H) :=
  (qv_gI h 2 a1 0).bind fun v1 =>
  (qv_pI h 2 a0 0 v1).bind fun h2 =>
  (qv_gI h2 2 a1 1).bind fun v3 =>
  (qv_pI h2 2 a0 1 v3).bind fun h4 =>
  (qv_gI h4 2 a1 2).bind fun v5 =>
  (qv_pI h4 2 a0 2 v5).bind fun h6 =>
  (qv_gI h6 2 a1 3).bind fun v7 =>
  (qv_pI h6 2 a0 3 v7).bind fun h8 =>
  (qv_gR h8 2 a1 4).bind fun v9 =>
  (qv_gR h8 2 a0 4).bind fun v10 =>
  (qv_cp h8 v9 (0 : Int32) v10 (0 : Int32) (8 : Int32)).bind fun h11 =>
  (qv_gR h11 2 a1 5).bind fun v12 =>
  (qv_gR h11 2 a0 5).bind fun v13 =>
  (qv_cp h11 v12 (0 : Int32) v13 (0 : Int32) (8 : Int32)).bind fun h14 =>
  (qv_gR h14 2 a1 6).bind fun v15 =>
  (qv_gR h14 2 a0 6).bind fun v16 =>
  (qv_cp h14 v15 (0 : Int32) v16 (0 : Int32) (6 : Int32)).bind fun h17 =>
  (qv_gR h17 2 a1 7).bind fun v18 =>
  (qv_gR h17 2 a0 7).bind fun v19 =>
  (qv_cp h17 v18 (0 : Int32) v19 (0 : Int32) (6 : Int32)).bind fun h20 =>
  (qv_gR h20 2 a1 8).bind fun v21 =>
  (qv_gR h20 2 a0 8).bind fun v22 =>
  (qv_cp h20 v21 (0 : Int32) v22 (0 : Int32) (6 : Int32)).bind fun h23 =>
  (qv_gR h23 2 a1 9).bind fun v24 =>
  (qv_gR h23 2 a0 9).bind fun v25 =>
  (qv_cp h23 v24 (0 : Int32) v25 (0 : Int32) (6 : Int32)).bind fun h26 =>
  (qv_gR h26 2 a1 10).bind fun v27 =>
  (qv_gR h26 2 a0 10).bind fun v28 =>
  (qv_cp h26 v27 (0 : Int32) v28 (0 : Int32) (6 : Int32)).bind fun h29 =>
  (qv_gI h29 2 a1 11).bind fun v30 =>
  (qv_pI h29 2 a0 11 v30).bind fun h31 =>
  (qv_gI h31 2 a1 12).bind fun v32 =>
  (qv_pI h31 2 a0 12 v32).bind fun h33 =>
  (qv_gI h33 2 a1 13).bind fun v34 =>
  (qv_pI h33 2 a0 13 v34).bind fun h35 =>
  some h35
abbrev mX3_become : qv_M := (yX3_become, cX3_become, 2, (Option.none : Option Jvm.ClassFile.FieldType), 1, 40)
set_option maxRecDepth 100000 in
set_option maxHeartbeats 4000000 in
theorem sX3_become {l : Launch} {g : qv_G} {a0 : Nat} {a1 : Nat} {h : qv_H} {hz : qv_H} (hs : fX3_become a0 a1 h = some hz) : qv_J l g mX3_become 0 [some (.ref a0), some (.ref a1)] [] h (none, hz) := by
  unfold fX3_become at hs
  refine qv_aload_n dX3_become_0 (i := 0) rfl rfl ?_
  refine qv_aload_n dX3_become_1 (i := 1) rfl rfl ?_
  obtain ⟨v1, e1, hs⟩ := qv_bind hs
  refine qv_getI dX3_become_2 qF_X3_9 e1 ?_
  obtain ⟨h2, e2, hs⟩ := qv_bind hs
  refine qv_putI dX3_become_5 qF_X3_9 e2 ?_
  refine qv_aload_n dX3_become_8 (i := 0) rfl rfl ?_
  refine qv_aload_n dX3_become_9 (i := 1) rfl rfl ?_
  obtain ⟨v3, e3, hs⟩ := qv_bind hs
  refine qv_getI dX3_become_10 qF_X3_15 e3 ?_
  obtain ⟨h4, e4, hs⟩ := qv_bind hs
  refine qv_putI dX3_become_13 qF_X3_15 e4 ?_
  refine qv_aload_n dX3_become_16 (i := 0) rfl rfl ?_
  refine qv_aload_n dX3_become_17 (i := 1) rfl rfl ?_
  obtain ⟨v5, e5, hs⟩ := qv_bind hs
  refine qv_getI dX3_become_18 qF_X3_18 e5 ?_
  obtain ⟨h6, e6, hs⟩ := qv_bind hs
  refine qv_putI dX3_become_21 qF_X3_18 e6 ?_
  refine qv_aload_n dX3_become_24 (i := 0) rfl rfl ?_
  refine qv_aload_n dX3_become_25 (i := 1) rfl rfl ?_
  obtain ⟨v7, e7, hs⟩ := qv_bind hs
  refine qv_getI dX3_become_26 qF_X3_21 e7 ?_
  obtain ⟨h8, e8, hs⟩ := qv_bind hs
  refine qv_putI dX3_become_29 qF_X3_21 e8 ?_
  refine qv_aload_n dX3_become_32 (i := 1) rfl rfl ?_
  obtain ⟨v9, e9, hs⟩ := qv_bind hs
  refine qv_getR dX3_become_33 qF_X3_24 e9 ?_
  refine qv_iconst (v := (0 : Int32)) dX3_become_36 rfl ?_
  refine qv_aload_n dX3_become_37 (i := 0) rfl rfl ?_
  obtain ⟨v10, e10, hs⟩ := qv_bind hs
  refine qv_getR dX3_become_38 qF_X3_24 e10 ?_
  refine qv_iconst (v := (0 : Int32)) dX3_become_41 rfl ?_
  refine qv_bipush (v := (8 : Int32)) dX3_become_42 rfl ?_
  obtain ⟨h11, e11, hs⟩ := qv_bind hs
  refine qv_acopy dX3_become_44 qA_X3_55 ⟨by decide, by decide⟩ (Nat.le_of_ble_eq_true rfl) e11 ?_
  refine qv_aload_n dX3_become_47 (i := 1) rfl rfl ?_
  obtain ⟨v12, e12, hs⟩ := qv_bind hs
  refine qv_getR dX3_become_48 qF_X3_28 e12 ?_
  refine qv_iconst (v := (0 : Int32)) dX3_become_51 rfl ?_
  refine qv_aload_n dX3_become_52 (i := 0) rfl rfl ?_
  obtain ⟨v13, e13, hs⟩ := qv_bind hs
  refine qv_getR dX3_become_53 qF_X3_28 e13 ?_
  refine qv_iconst (v := (0 : Int32)) dX3_become_56 rfl ?_
  refine qv_bipush (v := (8 : Int32)) dX3_become_57 rfl ?_
  obtain ⟨h14, e14, hs⟩ := qv_bind hs
  refine qv_acopy dX3_become_59 qA_X3_55 ⟨by decide, by decide⟩ (Nat.le_of_ble_eq_true rfl) e14 ?_
  refine qv_aload_n dX3_become_62 (i := 1) rfl rfl ?_
  obtain ⟨v15, e15, hs⟩ := qv_bind hs
  refine qv_getR dX3_become_63 qF_X3_31 e15 ?_
  refine qv_iconst (v := (0 : Int32)) dX3_become_66 rfl ?_
  refine qv_aload_n dX3_become_67 (i := 0) rfl rfl ?_
  obtain ⟨v16, e16, hs⟩ := qv_bind hs
  refine qv_getR dX3_become_68 qF_X3_31 e16 ?_
  refine qv_iconst (v := (0 : Int32)) dX3_become_71 rfl ?_
  refine qv_bipush (v := (6 : Int32)) dX3_become_72 rfl ?_
  obtain ⟨h17, e17, hs⟩ := qv_bind hs
  refine qv_acopy dX3_become_74 qA_X3_55 ⟨by decide, by decide⟩ (Nat.le_of_ble_eq_true rfl) e17 ?_
  refine qv_aload_n dX3_become_77 (i := 1) rfl rfl ?_
  obtain ⟨v18, e18, hs⟩ := qv_bind hs
  refine qv_getR dX3_become_78 qF_X3_34 e18 ?_
  refine qv_iconst (v := (0 : Int32)) dX3_become_81 rfl ?_
  refine qv_aload_n dX3_become_82 (i := 0) rfl rfl ?_
  obtain ⟨v19, e19, hs⟩ := qv_bind hs
  refine qv_getR dX3_become_83 qF_X3_34 e19 ?_
  refine qv_iconst (v := (0 : Int32)) dX3_become_86 rfl ?_
  refine qv_bipush (v := (6 : Int32)) dX3_become_87 rfl ?_
  obtain ⟨h20, e20, hs⟩ := qv_bind hs
  refine qv_acopy dX3_become_89 qA_X3_55 ⟨by decide, by decide⟩ (Nat.le_of_ble_eq_true rfl) e20 ?_
  refine qv_aload_n dX3_become_92 (i := 1) rfl rfl ?_
  obtain ⟨v21, e21, hs⟩ := qv_bind hs
  refine qv_getR dX3_become_93 qF_X3_37 e21 ?_
  refine qv_iconst (v := (0 : Int32)) dX3_become_96 rfl ?_
  refine qv_aload_n dX3_become_97 (i := 0) rfl rfl ?_
  obtain ⟨v22, e22, hs⟩ := qv_bind hs
  refine qv_getR dX3_become_98 qF_X3_37 e22 ?_
  refine qv_iconst (v := (0 : Int32)) dX3_become_101 rfl ?_
  refine qv_bipush (v := (6 : Int32)) dX3_become_102 rfl ?_
  obtain ⟨h23, e23, hs⟩ := qv_bind hs
  refine qv_acopy dX3_become_104 qA_X3_55 ⟨by decide, by decide⟩ (Nat.le_of_ble_eq_true rfl) e23 ?_
  refine qv_aload_n dX3_become_107 (i := 1) rfl rfl ?_
  obtain ⟨v24, e24, hs⟩ := qv_bind hs
  refine qv_getR dX3_become_108 qF_X3_40 e24 ?_
  refine qv_iconst (v := (0 : Int32)) dX3_become_111 rfl ?_
  refine qv_aload_n dX3_become_112 (i := 0) rfl rfl ?_
  obtain ⟨v25, e25, hs⟩ := qv_bind hs
  refine qv_getR dX3_become_113 qF_X3_40 e25 ?_
  refine qv_iconst (v := (0 : Int32)) dX3_become_116 rfl ?_
  refine qv_bipush (v := (6 : Int32)) dX3_become_117 rfl ?_
  obtain ⟨h26, e26, hs⟩ := qv_bind hs
  refine qv_acopy dX3_become_119 qA_X3_55 ⟨by decide, by decide⟩ (Nat.le_of_ble_eq_true rfl) e26 ?_
  refine qv_aload_n dX3_become_122 (i := 1) rfl rfl ?_
  obtain ⟨v27, e27, hs⟩ := qv_bind hs
  refine qv_getR dX3_become_123 qF_X3_43 e27 ?_
  refine qv_iconst (v := (0 : Int32)) dX3_become_126 rfl ?_
  refine qv_aload_n dX3_become_127 (i := 0) rfl rfl ?_
  obtain ⟨v28, e28, hs⟩ := qv_bind hs
  refine qv_getR dX3_become_128 qF_X3_43 e28 ?_
  refine qv_iconst (v := (0 : Int32)) dX3_become_131 rfl ?_
  refine qv_bipush (v := (6 : Int32)) dX3_become_132 rfl ?_
  obtain ⟨h29, e29, hs⟩ := qv_bind hs
  refine qv_acopy dX3_become_134 qA_X3_55 ⟨by decide, by decide⟩ (Nat.le_of_ble_eq_true rfl) e29 ?_
  refine qv_aload_n dX3_become_137 (i := 0) rfl rfl ?_
  refine qv_aload_n dX3_become_138 (i := 1) rfl rfl ?_
  obtain ⟨v30, e30, hs⟩ := qv_bind hs
  refine qv_getI dX3_become_139 qF_X3_46 e30 ?_
  obtain ⟨h31, e31, hs⟩ := qv_bind hs
  refine qv_putI dX3_become_142 qF_X3_46 e31 ?_
  refine qv_aload_n dX3_become_145 (i := 0) rfl rfl ?_
  refine qv_aload_n dX3_become_146 (i := 1) rfl rfl ?_
  obtain ⟨v32, e32, hs⟩ := qv_bind hs
  refine qv_getI dX3_become_147 qF_X3_49 e32 ?_
  obtain ⟨h33, e33, hs⟩ := qv_bind hs
  refine qv_putI dX3_become_150 qF_X3_49 e33 ?_
  refine qv_aload_n dX3_become_153 (i := 0) rfl rfl ?_
  refine qv_aload_n dX3_become_154 (i := 1) rfl rfl ?_
  obtain ⟨v34, e34, hs⟩ := qv_bind hs
  refine qv_getI dX3_become_155 qF_X3_52 e34 ?_
  obtain ⟨h35, e35, hs⟩ := qv_bind hs
  refine qv_putI dX3_become_158 qF_X3_52 e35 ?_
  obtain rfl := qv_sm hs
  exact qv_vret dX3_become_161 rfl
theorem qD_X3_become : qv_DV mX3_become 1 := ⟨(qv_i6 (List.mem_of_getElem? (i := 60) (by decide +kernel))), (qv_i6 (List.mem_of_getElem? (i := 61) (by decide +kernel))), (qv_i1 (List.mem_of_getElem? (i := 7) (by decide +kernel))), (qv_i6 (List.mem_of_getElem? (i := 62) (by decide +kernel))), by decide +kernel, by decide +kernel⟩
/-- Land.hasPlace(I)Z -/
noncomputable def fX3_hasPlace (a0 : Nat) (a1 : Int32) (h : qv_H) : Option (Int32) :=
  Option.bind (α := Int32) (
      if a1 < 0 then
        some (0 : Int32)
      else
        (qv_gI h 2 a0 0).bind fun v1 =>
        if v1 ≤ a1 then
          some (0 : Int32)
        else
          some (1 : Int32)
    ) fun m2 =>
  (qv_b1 m2).bind fun v3 =>
  some m2
abbrev mX3_hasPlace : qv_M := (yX3_hasPlace, cX3_hasPlace, 2, (Option.some Jvm.ClassFile.FieldType.boolean), 0, 0)
set_option maxRecDepth 100000 in
set_option maxHeartbeats 4000000 in
theorem sX3_hasPlace {l : Launch} {g : qv_G} {a0 : Nat} {a1 : Int32} {h : qv_H} {r : Int32} (hs : fX3_hasPlace a0 a1 h = some r) : qv_J l g mX3_hasPlace 0 [some (.ref a0), some (.int a1)] [] h (some (.int r), h) := by
  unfold fX3_hasPlace at hs
  refine qv_iload_n dX3_hasPlace_0 (i := 1) rfl rfl ?_
  obtain ⟨m2, hj2, hs⟩ := qv_bind hs
  have K1 : qv_J l g mX3_hasPlace 17 [none, none] [.int m2] h (some (.int r), h) := by
    obtain ⟨v3, e3, hs⟩ := qv_bind hs
    obtain rfl := qv_sm hs
    exact qv_zret dX3_hasPlace_17 rfl (qv_b1_of e3).1
  replace hs := hj2
  by_cases c4 : a1 < 0
  · have hs := qv_pos c4 hs
    refine qv_if_lt (tgt := 16) dX3_hasPlace_1 rfl (fun _ => ?_) (fun q => absurd c4 q)
    refine qv_iconst (v := (0 : Int32)) dX3_hasPlace_16 rfl ?_
    cases hs
    exact qv_dp (qv_le_n (qv_le_n qv_le_0)) K1
  · have hs := qv_neg c4 hs
    refine qv_if_lt (tgt := 16) dX3_hasPlace_1 rfl (fun q => absurd q c4) (fun _ => ?_)
    refine qv_iload_n dX3_hasPlace_4 (i := 1) rfl rfl ?_
    refine qv_aload_n dX3_hasPlace_5 (i := 0) rfl rfl ?_
    obtain ⟨v1, e5, hs⟩ := qv_bind hs
    refine qv_getI dX3_hasPlace_6 qF_X3_9 e5 ?_
    by_cases c6 : v1 ≤ a1
    · have hs := qv_pos c6 hs
      refine qv_icmp_ge (tgt := 16) dX3_hasPlace_9 rfl (fun _ => ?_) (fun q => absurd c6 q)
      refine qv_iconst (v := (0 : Int32)) dX3_hasPlace_16 rfl ?_
      cases hs
      exact qv_dp (qv_le_n (qv_le_n qv_le_0)) K1
    · have hs := qv_neg c6 hs
      refine qv_icmp_ge (tgt := 16) dX3_hasPlace_9 rfl (fun q => absurd q c6) (fun _ => ?_)
      refine qv_iconst (v := (1 : Int32)) dX3_hasPlace_12 rfl ?_
      refine qv_goto (tgt := 17) dX3_hasPlace_13 rfl ?_
      cases hs
      exact qv_dp (qv_le_n (qv_le_n qv_le_0)) K1
theorem qD_X3_hasPlace : qv_DV mX3_hasPlace 1 := ⟨(qv_i7 (List.mem_of_getElem? (i := 26) (by decide +kernel))), (qv_i7 (List.mem_of_getElem? (i := 27) (by decide +kernel))), (qv_i1 (List.mem_of_getElem? (i := 7) (by decide +kernel))), (qv_i7 (List.mem_of_getElem? (i := 28) (by decide +kernel))), by decide +kernel, by decide +kernel⟩
/-- Land.hasRoad(I)Z -/
noncomputable def fX3_hasRoad (a0 : Nat) (a1 : Int32) (h : qv_H) : Option (Int32) :=
  Option.bind (α := Int32) (
      if a1 < 0 then
        some (0 : Int32)
      else
        (qv_gI h 2 a0 1).bind fun v1 =>
        if v1 ≤ a1 then
          some (0 : Int32)
        else
          some (1 : Int32)
    ) fun m2 =>
  (qv_b1 m2).bind fun v3 =>
  some m2
abbrev mX3_hasRoad : qv_M := (yX3_hasRoad, cX3_hasRoad, 2, (Option.some Jvm.ClassFile.FieldType.boolean), 0, 0)
set_option maxRecDepth 100000 in
set_option maxHeartbeats 4000000 in
theorem sX3_hasRoad {l : Launch} {g : qv_G} {a0 : Nat} {a1 : Int32} {h : qv_H} {r : Int32} (hs : fX3_hasRoad a0 a1 h = some r) : qv_J l g mX3_hasRoad 0 [some (.ref a0), some (.int a1)] [] h (some (.int r), h) := by
  unfold fX3_hasRoad at hs
  refine qv_iload_n dX3_hasRoad_0 (i := 1) rfl rfl ?_
  obtain ⟨m2, hj2, hs⟩ := qv_bind hs
  have K1 : qv_J l g mX3_hasRoad 17 [none, none] [.int m2] h (some (.int r), h) := by
    obtain ⟨v3, e3, hs⟩ := qv_bind hs
    obtain rfl := qv_sm hs
    exact qv_zret dX3_hasRoad_17 rfl (qv_b1_of e3).1
  replace hs := hj2
  by_cases c4 : a1 < 0
  · have hs := qv_pos c4 hs
    refine qv_if_lt (tgt := 16) dX3_hasRoad_1 rfl (fun _ => ?_) (fun q => absurd c4 q)
    refine qv_iconst (v := (0 : Int32)) dX3_hasRoad_16 rfl ?_
    cases hs
    exact qv_dp (qv_le_n (qv_le_n qv_le_0)) K1
  · have hs := qv_neg c4 hs
    refine qv_if_lt (tgt := 16) dX3_hasRoad_1 rfl (fun q => absurd q c4) (fun _ => ?_)
    refine qv_iload_n dX3_hasRoad_4 (i := 1) rfl rfl ?_
    refine qv_aload_n dX3_hasRoad_5 (i := 0) rfl rfl ?_
    obtain ⟨v1, e5, hs⟩ := qv_bind hs
    refine qv_getI dX3_hasRoad_6 qF_X3_15 e5 ?_
    by_cases c6 : v1 ≤ a1
    · have hs := qv_pos c6 hs
      refine qv_icmp_ge (tgt := 16) dX3_hasRoad_9 rfl (fun _ => ?_) (fun q => absurd c6 q)
      refine qv_iconst (v := (0 : Int32)) dX3_hasRoad_16 rfl ?_
      cases hs
      exact qv_dp (qv_le_n (qv_le_n qv_le_0)) K1
    · have hs := qv_neg c6 hs
      refine qv_icmp_ge (tgt := 16) dX3_hasRoad_9 rfl (fun q => absurd q c6) (fun _ => ?_)
      refine qv_iconst (v := (1 : Int32)) dX3_hasRoad_12 rfl ?_
      refine qv_goto (tgt := 17) dX3_hasRoad_13 rfl ?_
      cases hs
      exact qv_dp (qv_le_n (qv_le_n qv_le_0)) K1
theorem qD_X3_hasRoad : qv_DV mX3_hasRoad 1 := ⟨(qv_i7 (List.mem_of_getElem? (i := 40) (by decide +kernel))), (qv_i7 (List.mem_of_getElem? (i := 41) (by decide +kernel))), (qv_i1 (List.mem_of_getElem? (i := 7) (by decide +kernel))), (qv_i7 (List.mem_of_getElem? (i := 42) (by decide +kernel))), by decide +kernel, by decide +kernel⟩
/-- Land.hasFact(I)Z -/
noncomputable def fX3_hasFact (a0 : Nat) (a1 : Int32) (h : qv_H) : Option (Int32) :=
  Option.bind (α := Int32) (
      if a1 < 0 then
        some (0 : Int32)
      else
        (qv_gI h 2 a0 2).bind fun v1 =>
        if v1 ≤ a1 then
          some (0 : Int32)
        else
          some (1 : Int32)
    ) fun m2 =>
  (qv_b1 m2).bind fun v3 =>
  some m2
abbrev mX3_hasFact : qv_M := (yX3_hasFact, cX3_hasFact, 2, (Option.some Jvm.ClassFile.FieldType.boolean), 0, 0)
set_option maxRecDepth 100000 in
set_option maxHeartbeats 4000000 in
theorem sX3_hasFact {l : Launch} {g : qv_G} {a0 : Nat} {a1 : Int32} {h : qv_H} {r : Int32} (hs : fX3_hasFact a0 a1 h = some r) : qv_J l g mX3_hasFact 0 [some (.ref a0), some (.int a1)] [] h (some (.int r), h) := by
  unfold fX3_hasFact at hs
  refine qv_iload_n dX3_hasFact_0 (i := 1) rfl rfl ?_
  obtain ⟨m2, hj2, hs⟩ := qv_bind hs
  have K1 : qv_J l g mX3_hasFact 17 [none, none] [.int m2] h (some (.int r), h) := by
    obtain ⟨v3, e3, hs⟩ := qv_bind hs
    obtain rfl := qv_sm hs
    exact qv_zret dX3_hasFact_17 rfl (qv_b1_of e3).1
  replace hs := hj2
  by_cases c4 : a1 < 0
  · have hs := qv_pos c4 hs
    refine qv_if_lt (tgt := 16) dX3_hasFact_1 rfl (fun _ => ?_) (fun q => absurd c4 q)
    refine qv_iconst (v := (0 : Int32)) dX3_hasFact_16 rfl ?_
    cases hs
    exact qv_dp (qv_le_n (qv_le_n qv_le_0)) K1
  · have hs := qv_neg c4 hs
    refine qv_if_lt (tgt := 16) dX3_hasFact_1 rfl (fun q => absurd q c4) (fun _ => ?_)
    refine qv_iload_n dX3_hasFact_4 (i := 1) rfl rfl ?_
    refine qv_aload_n dX3_hasFact_5 (i := 0) rfl rfl ?_
    obtain ⟨v1, e5, hs⟩ := qv_bind hs
    refine qv_getI dX3_hasFact_6 qF_X3_18 e5 ?_
    by_cases c6 : v1 ≤ a1
    · have hs := qv_pos c6 hs
      refine qv_icmp_ge (tgt := 16) dX3_hasFact_9 rfl (fun _ => ?_) (fun q => absurd c6 q)
      refine qv_iconst (v := (0 : Int32)) dX3_hasFact_16 rfl ?_
      cases hs
      exact qv_dp (qv_le_n (qv_le_n qv_le_0)) K1
    · have hs := qv_neg c6 hs
      refine qv_icmp_ge (tgt := 16) dX3_hasFact_9 rfl (fun q => absurd q c6) (fun _ => ?_)
      refine qv_iconst (v := (1 : Int32)) dX3_hasFact_12 rfl ?_
      refine qv_goto (tgt := 17) dX3_hasFact_13 rfl ?_
      cases hs
      exact qv_dp (qv_le_n (qv_le_n qv_le_0)) K1
theorem qD_X3_hasFact : qv_DV mX3_hasFact 1 := ⟨(qv_i7 (List.mem_of_getElem? (i := 47) (by decide +kernel))), (qv_i7 (List.mem_of_getElem? (i := 48) (by decide +kernel))), (qv_i1 (List.mem_of_getElem? (i := 7) (by decide +kernel))), (qv_i7 (List.mem_of_getElem? (i := 49) (by decide +kernel))), by decide +kernel, by decide +kernel⟩
/-- Land.hasSign(I)Z -/
noncomputable def fX3_hasSign (a0 : Nat) (a1 : Int32) (h : qv_H) : Option (Int32) :=
  Option.bind (α := Int32) (
      if a1 < 0 then
        some (0 : Int32)
      else
        (qv_gI h 2 a0 3).bind fun v1 =>
        if v1 ≤ a1 then
          some (0 : Int32)
        else
          some (1 : Int32)
    ) fun m2 =>
  (qv_b1 m2).bind fun v3 =>
  some m2
abbrev mX3_hasSign : qv_M := (yX3_hasSign, cX3_hasSign, 2, (Option.some Jvm.ClassFile.FieldType.boolean), 0, 0)
set_option maxRecDepth 100000 in
set_option maxHeartbeats 4000000 in
theorem sX3_hasSign {l : Launch} {g : qv_G} {a0 : Nat} {a1 : Int32} {h : qv_H} {r : Int32} (hs : fX3_hasSign a0 a1 h = some r) : qv_J l g mX3_hasSign 0 [some (.ref a0), some (.int a1)] [] h (some (.int r), h) := by
  unfold fX3_hasSign at hs
  refine qv_iload_n dX3_hasSign_0 (i := 1) rfl rfl ?_
  obtain ⟨m2, hj2, hs⟩ := qv_bind hs
  have K1 : qv_J l g mX3_hasSign 17 [none, none] [.int m2] h (some (.int r), h) := by
    obtain ⟨v3, e3, hs⟩ := qv_bind hs
    obtain rfl := qv_sm hs
    exact qv_zret dX3_hasSign_17 rfl (qv_b1_of e3).1
  replace hs := hj2
  by_cases c4 : a1 < 0
  · have hs := qv_pos c4 hs
    refine qv_if_lt (tgt := 16) dX3_hasSign_1 rfl (fun _ => ?_) (fun q => absurd c4 q)
    refine qv_iconst (v := (0 : Int32)) dX3_hasSign_16 rfl ?_
    cases hs
    exact qv_dp (qv_le_n (qv_le_n qv_le_0)) K1
  · have hs := qv_neg c4 hs
    refine qv_if_lt (tgt := 16) dX3_hasSign_1 rfl (fun q => absurd q c4) (fun _ => ?_)
    refine qv_iload_n dX3_hasSign_4 (i := 1) rfl rfl ?_
    refine qv_aload_n dX3_hasSign_5 (i := 0) rfl rfl ?_
    obtain ⟨v1, e5, hs⟩ := qv_bind hs
    refine qv_getI dX3_hasSign_6 qF_X3_21 e5 ?_
    by_cases c6 : v1 ≤ a1
    · have hs := qv_pos c6 hs
      refine qv_icmp_ge (tgt := 16) dX3_hasSign_9 rfl (fun _ => ?_) (fun q => absurd c6 q)
      refine qv_iconst (v := (0 : Int32)) dX3_hasSign_16 rfl ?_
      cases hs
      exact qv_dp (qv_le_n (qv_le_n qv_le_0)) K1
    · have hs := qv_neg c6 hs
      refine qv_icmp_ge (tgt := 16) dX3_hasSign_9 rfl (fun q => absurd q c6) (fun _ => ?_)
      refine qv_iconst (v := (1 : Int32)) dX3_hasSign_12 rfl ?_
      refine qv_goto (tgt := 17) dX3_hasSign_13 rfl ?_
      cases hs
      exact qv_dp (qv_le_n (qv_le_n qv_le_0)) K1
theorem qD_X3_hasSign : qv_DV mX3_hasSign 1 := ⟨(qv_i4 (List.mem_of_getElem? (i := 5) (by decide +kernel))), (qv_i4 (List.mem_of_getElem? (i := 6) (by decide +kernel))), (qv_i1 (List.mem_of_getElem? (i := 7) (by decide +kernel))), (qv_i4 (List.mem_of_getElem? (i := 7) (by decide +kernel))), by decide +kernel, by decide +kernel⟩
/-- Land.hasInn()Z -/
noncomputable def fX3_hasInn (a0 : Nat) (h : qv_H) : Option (Int32) :=
  (qv_gI h 2 a0 13).bind fun v1 =>
  Option.bind (α := Int32) (
      if v1 < 0 then
        some (0 : Int32)
      else
        some (1 : Int32)
    ) fun m2 =>
  (qv_b1 m2).bind fun v3 =>
  some m2
abbrev mX3_hasInn : qv_M := (yX3_hasInn, cX3_hasInn, 1, (Option.some Jvm.ClassFile.FieldType.boolean), 0, 0)
set_option maxRecDepth 100000 in
set_option maxHeartbeats 4000000 in
theorem sX3_hasInn {l : Launch} {g : qv_G} {a0 : Nat} {h : qv_H} {r : Int32} (hs : fX3_hasInn a0 h = some r) : qv_J l g mX3_hasInn 0 [some (.ref a0)] [] h (some (.int r), h) := by
  unfold fX3_hasInn at hs
  refine qv_aload_n dX3_hasInn_0 (i := 0) rfl rfl ?_
  obtain ⟨v1, e1, hs⟩ := qv_bind hs
  refine qv_getI dX3_hasInn_1 qF_X3_52 e1 ?_
  obtain ⟨m2, hj3, hs⟩ := qv_bind hs
  have K2 : qv_J l g mX3_hasInn 12 [none] [.int m2] h (some (.int r), h) := by
    obtain ⟨v3, e4, hs⟩ := qv_bind hs
    obtain rfl := qv_sm hs
    exact qv_zret dX3_hasInn_12 rfl (qv_b1_of e4).1
  replace hs := hj3
  by_cases c5 : v1 < 0
  · have hs := qv_pos c5 hs
    refine qv_if_lt (tgt := 11) dX3_hasInn_4 rfl (fun _ => ?_) (fun q => absurd c5 q)
    refine qv_iconst (v := (0 : Int32)) dX3_hasInn_11 rfl ?_
    cases hs
    exact qv_dp (qv_le_n qv_le_0) K2
  · have hs := qv_neg c5 hs
    refine qv_if_lt (tgt := 11) dX3_hasInn_4 rfl (fun q => absurd q c5) (fun _ => ?_)
    refine qv_iconst (v := (1 : Int32)) dX3_hasInn_7 rfl ?_
    refine qv_goto (tgt := 12) dX3_hasInn_8 rfl ?_
    cases hs
    exact qv_dp (qv_le_n qv_le_0) K2
theorem qD_X3_hasInn : qv_DV mX3_hasInn 0 := ⟨(qv_i10 (List.mem_of_getElem? (i := 35) (by decide +kernel))), (qv_i10 (List.mem_of_getElem? (i := 36) (by decide +kernel))), (qv_i1 (List.mem_of_getElem? (i := 7) (by decide +kernel))), (qv_i10 (List.mem_of_getElem? (i := 37) (by decide +kernel))), by decide +kernel, by decide +kernel⟩
/-- Land.signMask()I -/
noncomputable def fX3_signMask (a0 : Nat) (h : qv_H) : Option (Int32) :=
  (qv_gI h 2 a0 3).bind fun v1 =>
  some (((1 : Int32) <<< (v1 &&& 31)) - (1 : Int32))
abbrev mX3_signMask : qv_M := (yX3_signMask, cX3_signMask, 1, (Option.some Jvm.ClassFile.FieldType.int), 0, 0)
set_option maxRecDepth 100000 in
set_option maxHeartbeats 4000000 in
theorem sX3_signMask {l : Launch} {g : qv_G} {a0 : Nat} {h : qv_H} {r : Int32} (hs : fX3_signMask a0 h = some r) : qv_J l g mX3_signMask 0 [some (.ref a0)] [] h (some (.int r), h) := by
  unfold fX3_signMask at hs
  refine qv_iconst (v := (1 : Int32)) dX3_signMask_0 rfl ?_
  refine qv_aload_n dX3_signMask_1 (i := 0) rfl rfl ?_
  obtain ⟨v1, e1, hs⟩ := qv_bind hs
  refine qv_getI dX3_signMask_2 qF_X3_21 e1 ?_
  refine qv_ishl dX3_signMask_5 ?_
  refine qv_iconst (v := (1 : Int32)) dX3_signMask_6 rfl ?_
  refine qv_isub dX3_signMask_7 ?_
  obtain rfl := qv_sm hs
  exact qv_iret dX3_signMask_8 rfl
theorem qD_X3_signMask : qv_DV mX3_signMask 0 := ⟨(qv_i3 (List.mem_of_getElem? (i := 47) (by decide +kernel))), (qv_i3 (List.mem_of_getElem? (i := 48) (by decide +kernel))), (qv_i1 (List.mem_of_getElem? (i := 7) (by decide +kernel))), (qv_i3 (List.mem_of_getElem? (i := 49) (by decide +kernel))), by decide +kernel, by decide +kernel⟩
/-- Land.worldMask()I -/
noncomputable def fX3_worldMask (a0 : Nat) (h : qv_H) : Option (Int32) :=
  (qv_gI h 2 a0 2).bind fun v1 =>
  (qv_ob h 2 a0).bind fun _ =>
  (fX3_signMask a0 h).bind fun v3 =>
  some ((((1 : Int32) <<< (v1 &&& 31)) - (1 : Int32)) ||| (v3 <<< ((4 : Int32) &&& 31)))
abbrev mX3_worldMask : qv_M := (yX3_worldMask, cX3_worldMask, 1, (Option.some Jvm.ClassFile.FieldType.int), 1, 20)
set_option maxRecDepth 100000 in
set_option maxHeartbeats 4000000 in
theorem sX3_worldMask {l : Launch} {g : qv_G} {a0 : Nat} {h : qv_H} {r : Int32} (hs : fX3_worldMask a0 h = some r) : qv_J l g mX3_worldMask 0 [some (.ref a0)] [] h (some (.int r), h) := by
  unfold fX3_worldMask at hs
  refine qv_iconst (v := (1 : Int32)) dX3_worldMask_0 rfl ?_
  refine qv_aload_n dX3_worldMask_1 (i := 0) rfl rfl ?_
  obtain ⟨v1, e1, hs⟩ := qv_bind hs
  refine qv_getI dX3_worldMask_2 qF_X3_18 e1 ?_
  refine qv_ishl dX3_worldMask_5 ?_
  refine qv_iconst (v := (1 : Int32)) dX3_worldMask_6 rfl ?_
  refine qv_isub dX3_worldMask_7 ?_
  refine qv_aload_n dX3_worldMask_8 (i := 0) rfl rfl ?_
  obtain ⟨u2, e2, hs⟩ := qv_bind hs
  obtain ⟨v3, e3, hs⟩ := qv_bind hs
  refine qv_cV (d2 := mX3_signMask) (o := a0) (ci := 2) (r := some (.int v3)) (h2 := h) (av := []) (st := [.int (((1 : Int32) <<< (v1 &&& 31)) - (1 : Int32))]) dX3_worldMask_9 qM_X3_61 qD_X3_signMask e2 rfl rfl ⟨by decide, by decide⟩ rfl (Nat.le_of_ble_eq_true rfl) (Nat.le_of_ble_eq_true rfl) (sX3_signMask e3) rfl ?_
  refine qv_iconst (v := (4 : Int32)) dX3_worldMask_12 rfl ?_
  refine qv_ishl dX3_worldMask_13 ?_
  refine qv_ior dX3_worldMask_14 ?_
  obtain rfl := qv_sm hs
  exact qv_iret dX3_worldMask_15 rfl
theorem qD_X3_worldMask : qv_DV mX3_worldMask 0 := ⟨(qv_i3 (List.mem_of_getElem? (i := 43) (by decide +kernel))), (qv_i3 (List.mem_of_getElem? (i := 44) (by decide +kernel))), (qv_i1 (List.mem_of_getElem? (i := 7) (by decide +kernel))), (qv_i3 (List.mem_of_getElem? (i := 45) (by decide +kernel))), by decide +kernel, by decide +kernel⟩
/-- Land.innIn(I)I -/
noncomputable def fX3_innIn (a0 : Nat) (a1 : Int32) (h : qv_H) : Option (Int32) :=
  (qv_gI h 2 a0 13).bind fun v1 =>
  (fX0_has a1 v1).bind fun v2 =>
  Option.bind (α := Int32) (
      if v2 = 0 then
        (qv_gI h 2 a0 12).bind fun v3 =>
        some v3
      else
        (qv_gI h 2 a0 11).bind fun v4 =>
        some v4
    ) fun m5 =>
  some m5
abbrev mX3_innIn : qv_M := (yX3_innIn, cX3_innIn, 2, (Option.some Jvm.ClassFile.FieldType.int), 1, 21)
set_option maxRecDepth 100000 in
set_option maxHeartbeats 4000000 in
theorem sX3_innIn {l : Launch} {g : qv_G} {a0 : Nat} {a1 : Int32} {h : qv_H} {r : Int32} (hs : fX3_innIn a0 a1 h = some r) : qv_J l g mX3_innIn 0 [some (.ref a0), some (.int a1)] [] h (some (.int r), h) := by
  unfold fX3_innIn at hs
  refine qv_iload_n dX3_innIn_0 (i := 1) rfl rfl ?_
  refine qv_aload_n dX3_innIn_1 (i := 0) rfl rfl ?_
  obtain ⟨v1, e1, hs⟩ := qv_bind hs
  refine qv_getI dX3_innIn_2 qF_X3_52 e1 ?_
  obtain ⟨v2, e2, hs⟩ := qv_bind hs
  refine qv_cS (d2 := mX0_has) (r := some (.int v2)) (h2 := h) (av := [.int a1, .int v1]) (st := []) dX3_innIn_5 qM_X3_65 qD_X0_has rfl ⟨by decide, by decide⟩ rfl (Nat.le_of_ble_eq_true rfl) (Nat.le_of_ble_eq_true rfl) (sX0_has e2) rfl ?_
  obtain ⟨m5, hj4, hs⟩ := qv_bind hs
  have K3 : qv_J l g mX3_innIn 22 [none, none] [.int m5] h (some (.int r), h) := by
    obtain rfl := qv_sm hs
    exact qv_iret dX3_innIn_22 rfl
  replace hs := hj4
  by_cases c5 : v2 = 0
  · have hs := qv_pos c5 hs
    refine qv_if_eq (tgt := 18) dX3_innIn_8 rfl (fun _ => ?_) (fun q => absurd c5 q)
    refine qv_aload_n dX3_innIn_18 (i := 0) rfl rfl ?_
    obtain ⟨v3, e6, hs⟩ := qv_bind hs
    refine qv_getI dX3_innIn_19 qF_X3_49 e6 ?_
    cases hs
    exact qv_dp (qv_le_n (qv_le_n qv_le_0)) K3
  · have hs := qv_neg c5 hs
    refine qv_if_eq (tgt := 18) dX3_innIn_8 rfl (fun q => absurd q c5) (fun _ => ?_)
    refine qv_aload_n dX3_innIn_11 (i := 0) rfl rfl ?_
    obtain ⟨v4, e7, hs⟩ := qv_bind hs
    refine qv_getI dX3_innIn_12 qF_X3_46 e7 ?_
    refine qv_goto (tgt := 22) dX3_innIn_15 rfl ?_
    cases hs
    exact qv_dp (qv_le_n (qv_le_n qv_le_0)) K3
theorem qD_X3_innIn : qv_DV mX3_innIn 1 := ⟨(qv_i10 (List.mem_of_getElem? (i := 59) (by decide +kernel))), (qv_i10 (List.mem_of_getElem? (i := 60) (by decide +kernel))), (qv_i1 (List.mem_of_getElem? (i := 7) (by decide +kernel))), (qv_i10 (List.mem_of_getElem? (i := 61) (by decide +kernel))), by decide +kernel, by decide +kernel⟩
/-- Land.isRoadBetween(II)Z -/
noncomputable def fX3_isRoadBetween (a0 : Nat) (a1 : Int32) (a2 : Int32) (h : qv_H) : Option (Int32) :=
  Option.bind (qv_loop (σ := Int32) (ρ := (Unit) ⊕ (Int32)) (fun x1 =>
      (qv_gI h 2 a0 1).bind fun v2 =>
      if v2 ≤ x1 then
        some (.inr (.inl ()))
      else
        (qv_gR h 2 a0 4).bind fun v3 =>
        (qv_aI h false v3 x1).bind fun v4 =>
        if v4 = a1 then
          (qv_gR h 2 a0 5).bind fun v9 =>
          (qv_aI h false v9 x1).bind fun v10 =>
          if v10 = a2 then
            some (.inr (.inr (1 : Int32)))
          else
            (qv_gR h 2 a0 4).bind fun v11 =>
            (qv_aI h false v11 x1).bind fun v12 =>
            if v12 = a2 then
              (qv_gR h 2 a0 5).bind fun v13 =>
              (qv_aI h false v13 x1).bind fun v14 =>
              if v14 = a1 then
                some (.inr (.inr (1 : Int32)))
              else
                some (.inl (x1 + (1 : Int32)))
            else
              some (.inl (x1 + (1 : Int32)))
        else
          (qv_gR h 2 a0 4).bind fun v5 =>
          (qv_aI h false v5 x1).bind fun v6 =>
          if v6 = a2 then
            (qv_gR h 2 a0 5).bind fun v7 =>
            (qv_aI h false v7 x1).bind fun v8 =>
            if v8 = a1 then
              some (.inr (.inr (1 : Int32)))
            else
              some (.inl (x1 + (1 : Int32)))
          else
            some (.inl (x1 + (1 : Int32)))
    ) (0 : Int32)) fun q => match q with
  | .inl _ =>
    some (0 : Int32)
  | .inr q => some q
abbrev mX3_isRoadBetween : qv_M := (yX3_isRoadBetween, cX3_isRoadBetween, 4, (Option.some Jvm.ClassFile.FieldType.boolean), 0, 0)
set_option maxRecDepth 100000 in
set_option maxHeartbeats 4000000 in
theorem sX3_isRoadBetween {l : Launch} {g : qv_G} {a0 : Nat} {a1 : Int32} {a2 : Int32} {h : qv_H} {r : Int32} (hs : fX3_isRoadBetween a0 a1 a2 h = some r) : qv_J l g mX3_isRoadBetween 0 [some (.ref a0), some (.int a1), some (.int a2), none] [] h (some (.int r), h) := by
  unfold fX3_isRoadBetween at hs
  refine qv_iconst (v := (0 : Int32)) dX3_isRoadBetween_0 rfl ?_
  refine qv_istore_n (lo2 := [some (.ref a0), some (.int a1), some (.int a2), some (.int (0 : Int32))]) dX3_isRoadBetween_1 (i := 3) rfl (by decide) rfl (Nat.le_of_ble_eq_true rfl) rfl ?_
  obtain ⟨q6, e2, hA3⟩ := qv_bind hs
  have K1 : ∀ (_ : Unit), q6 = .inl () → qv_J l g mX3_isRoadBetween 58 [none, none, none, none] [] h (some (.int r), h) := by
    intro _ eq9
    subst eq9
    have hs := hA3
    dsimp only at hs
    refine qv_iconst (v := (0 : Int32)) dX3_isRoadBetween_58 rfl ?_
    obtain rfl := qv_sm hs
    exact qv_zret dX3_isRoadBetween_59 rfl (by decide)
  obtain ⟨n8, e2⟩ := qv_loop_of e2
  refine qv_dp (qv_le_s (qv_le_s (qv_le_s (qv_le_s qv_le_0)))) (?_ : qv_J l g mX3_isRoadBetween 2 [some (.ref a0), some (.int a1), some (.int a2), some (.int (0 : Int32))] [] h (some (.int r), h))
  revert e2
  suffices lj7 : ∀ (x1 : Int32), qv_it _ n8 x1 = some q6 → qv_J l g mX3_isRoadBetween 2 [some (.ref a0), some (.int a1), some (.int a2), some (.int x1)] [] h (some (.int r), h) from lj7 (0 : Int32)
  induction n8 with
  | zero =>
    intro x1 e2
    cases e2
  | succ n8 ih4 =>
    intro x1 e2
    obtain ⟨_, hs, eb5⟩ := qv_it_s e2
    refine qv_iload_n dX3_isRoadBetween_2 (i := 3) rfl rfl ?_
    refine qv_aload_n dX3_isRoadBetween_3 (i := 0) rfl rfl ?_
    obtain ⟨v2, e10, hs⟩ := qv_bind hs
    refine qv_getI dX3_isRoadBetween_4 qF_X3_15 e10 ?_
    by_cases c11 : v2 ≤ x1
    · have hs := qv_pos c11 hs
      refine qv_icmp_ge (tgt := 58) dX3_isRoadBetween_7 rfl (fun _ => ?_) (fun q => absurd c11 q)
      cases hs
      cases qv_nx_r eb5
      exact qv_dp (qv_le_n (qv_le_n (qv_le_n (qv_le_n qv_le_0)))) (K1 () rfl)
    · have hs := qv_neg c11 hs
      refine qv_icmp_ge (tgt := 58) dX3_isRoadBetween_7 rfl (fun q => absurd q c11) (fun _ => ?_)
      refine qv_aload_n dX3_isRoadBetween_10 (i := 0) rfl rfl ?_
      obtain ⟨v3, e12, hs⟩ := qv_bind hs
      refine qv_getR dX3_isRoadBetween_11 qF_X3_24 e12 ?_
      refine qv_iload_n dX3_isRoadBetween_14 (i := 3) rfl rfl ?_
      obtain ⟨v4, e13, hs⟩ := qv_bind hs
      refine qv_iald dX3_isRoadBetween_15 e13 ?_
      refine qv_iload_n dX3_isRoadBetween_16 (i := 1) rfl rfl ?_
      by_cases c14 : v4 = a1
      · have hs := qv_pos c14 hs
        refine qv_icmp_ne (tgt := 30) dX3_isRoadBetween_17 rfl (fun q => absurd c14 q) (fun _ => ?_)
        refine qv_aload_n dX3_isRoadBetween_20 (i := 0) rfl rfl ?_
        obtain ⟨v9, e15, hs⟩ := qv_bind hs
        refine qv_getR dX3_isRoadBetween_21 qF_X3_28 e15 ?_
        refine qv_iload_n dX3_isRoadBetween_24 (i := 3) rfl rfl ?_
        obtain ⟨v10, e16, hs⟩ := qv_bind hs
        refine qv_iald dX3_isRoadBetween_25 e16 ?_
        refine qv_iload_n dX3_isRoadBetween_26 (i := 2) rfl rfl ?_
        by_cases c17 : v10 = a2
        · have hs := qv_pos c17 hs
          refine qv_icmp_eq (tgt := 50) dX3_isRoadBetween_27 rfl (fun _ => ?_) (fun q => absurd c17 q)
          refine qv_iconst (v := (1 : Int32)) dX3_isRoadBetween_50 rfl ?_
          cases hs
          cases qv_nx_r eb5
          have hs := hA3
          dsimp only at hs
          obtain rfl := qv_sm hs
          exact qv_zret dX3_isRoadBetween_51 rfl (by decide)
        · have hs := qv_neg c17 hs
          refine qv_icmp_eq (tgt := 50) dX3_isRoadBetween_27 rfl (fun q => absurd q c17) (fun _ => ?_)
          refine qv_aload_n dX3_isRoadBetween_30 (i := 0) rfl rfl ?_
          obtain ⟨v11, e18, hs⟩ := qv_bind hs
          refine qv_getR dX3_isRoadBetween_31 qF_X3_24 e18 ?_
          refine qv_iload_n dX3_isRoadBetween_34 (i := 3) rfl rfl ?_
          obtain ⟨v12, e19, hs⟩ := qv_bind hs
          refine qv_iald dX3_isRoadBetween_35 e19 ?_
          refine qv_iload_n dX3_isRoadBetween_36 (i := 2) rfl rfl ?_
          by_cases c20 : v12 = a2
          · have hs := qv_pos c20 hs
            refine qv_icmp_ne (tgt := 52) dX3_isRoadBetween_37 rfl (fun q => absurd c20 q) (fun _ => ?_)
            refine qv_aload_n dX3_isRoadBetween_40 (i := 0) rfl rfl ?_
            obtain ⟨v13, e21, hs⟩ := qv_bind hs
            refine qv_getR dX3_isRoadBetween_41 qF_X3_28 e21 ?_
            refine qv_iload_n dX3_isRoadBetween_44 (i := 3) rfl rfl ?_
            obtain ⟨v14, e22, hs⟩ := qv_bind hs
            refine qv_iald dX3_isRoadBetween_45 e22 ?_
            refine qv_iload_n dX3_isRoadBetween_46 (i := 1) rfl rfl ?_
            by_cases c23 : v14 = a1
            · have hs := qv_pos c23 hs
              refine qv_icmp_ne (tgt := 52) dX3_isRoadBetween_47 rfl (fun q => absurd c23 q) (fun _ => ?_)
              refine qv_iconst (v := (1 : Int32)) dX3_isRoadBetween_50 rfl ?_
              cases hs
              cases qv_nx_r eb5
              have hs := hA3
              dsimp only at hs
              obtain rfl := qv_sm hs
              exact qv_zret dX3_isRoadBetween_51 rfl (by decide)
            · have hs := qv_neg c23 hs
              refine qv_icmp_ne (tgt := 52) dX3_isRoadBetween_47 rfl (fun _ => ?_) (fun q => absurd q c23)
              refine qv_iinc (v := x1 + (1 : Int32)) (lo2 := [some (.ref a0), some (.int a1), some (.int a2), some (.int (x1 + (1 : Int32)))]) dX3_isRoadBetween_52 rfl rfl (by decide) rfl rfl ?_
              refine qv_goto (tgt := 2) dX3_isRoadBetween_55 rfl ?_
              cases hs
              exact qv_dp (qv_le_s (qv_le_s (qv_le_s (qv_le_s qv_le_0)))) (ih4 _ (qv_nx_l eb5))
          · have hs := qv_neg c20 hs
            refine qv_icmp_ne (tgt := 52) dX3_isRoadBetween_37 rfl (fun _ => ?_) (fun q => absurd q c20)
            refine qv_iinc (v := x1 + (1 : Int32)) (lo2 := [some (.ref a0), some (.int a1), some (.int a2), some (.int (x1 + (1 : Int32)))]) dX3_isRoadBetween_52 rfl rfl (by decide) rfl rfl ?_
            refine qv_goto (tgt := 2) dX3_isRoadBetween_55 rfl ?_
            cases hs
            exact qv_dp (qv_le_s (qv_le_s (qv_le_s (qv_le_s qv_le_0)))) (ih4 _ (qv_nx_l eb5))
      · have hs := qv_neg c14 hs
        refine qv_icmp_ne (tgt := 30) dX3_isRoadBetween_17 rfl (fun _ => ?_) (fun q => absurd q c14)
        refine qv_aload_n dX3_isRoadBetween_30 (i := 0) rfl rfl ?_
        obtain ⟨v5, e24, hs⟩ := qv_bind hs
        refine qv_getR dX3_isRoadBetween_31 qF_X3_24 e24 ?_
        refine qv_iload_n dX3_isRoadBetween_34 (i := 3) rfl rfl ?_
        obtain ⟨v6, e25, hs⟩ := qv_bind hs
        refine qv_iald dX3_isRoadBetween_35 e25 ?_
        refine qv_iload_n dX3_isRoadBetween_36 (i := 2) rfl rfl ?_
        by_cases c26 : v6 = a2
        · have hs := qv_pos c26 hs
          refine qv_icmp_ne (tgt := 52) dX3_isRoadBetween_37 rfl (fun q => absurd c26 q) (fun _ => ?_)
          refine qv_aload_n dX3_isRoadBetween_40 (i := 0) rfl rfl ?_
          obtain ⟨v7, e27, hs⟩ := qv_bind hs
          refine qv_getR dX3_isRoadBetween_41 qF_X3_28 e27 ?_
          refine qv_iload_n dX3_isRoadBetween_44 (i := 3) rfl rfl ?_
          obtain ⟨v8, e28, hs⟩ := qv_bind hs
          refine qv_iald dX3_isRoadBetween_45 e28 ?_
          refine qv_iload_n dX3_isRoadBetween_46 (i := 1) rfl rfl ?_
          by_cases c29 : v8 = a1
          · have hs := qv_pos c29 hs
            refine qv_icmp_ne (tgt := 52) dX3_isRoadBetween_47 rfl (fun q => absurd c29 q) (fun _ => ?_)
            refine qv_iconst (v := (1 : Int32)) dX3_isRoadBetween_50 rfl ?_
            cases hs
            cases qv_nx_r eb5
            have hs := hA3
            dsimp only at hs
            obtain rfl := qv_sm hs
            exact qv_zret dX3_isRoadBetween_51 rfl (by decide)
          · have hs := qv_neg c29 hs
            refine qv_icmp_ne (tgt := 52) dX3_isRoadBetween_47 rfl (fun _ => ?_) (fun q => absurd q c29)
            refine qv_iinc (v := x1 + (1 : Int32)) (lo2 := [some (.ref a0), some (.int a1), some (.int a2), some (.int (x1 + (1 : Int32)))]) dX3_isRoadBetween_52 rfl rfl (by decide) rfl rfl ?_
            refine qv_goto (tgt := 2) dX3_isRoadBetween_55 rfl ?_
            cases hs
            exact qv_dp (qv_le_s (qv_le_s (qv_le_s (qv_le_s qv_le_0)))) (ih4 _ (qv_nx_l eb5))
        · have hs := qv_neg c26 hs
          refine qv_icmp_ne (tgt := 52) dX3_isRoadBetween_37 rfl (fun _ => ?_) (fun q => absurd q c26)
          refine qv_iinc (v := x1 + (1 : Int32)) (lo2 := [some (.ref a0), some (.int a1), some (.int a2), some (.int (x1 + (1 : Int32)))]) dX3_isRoadBetween_52 rfl rfl (by decide) rfl rfl ?_
          refine qv_goto (tgt := 2) dX3_isRoadBetween_55 rfl ?_
          cases hs
          exact qv_dp (qv_le_s (qv_le_s (qv_le_s (qv_le_s qv_le_0)))) (ih4 _ (qv_nx_l eb5))
theorem qD_X3_isRoadBetween : qv_DV mX3_isRoadBetween 2 := ⟨(qv_i11 (List.mem_of_getElem? (i := 12) (by decide +kernel))), (qv_i11 (List.mem_of_getElem? (i := 13) (by decide +kernel))), (qv_i1 (List.mem_of_getElem? (i := 7) (by decide +kernel))), (qv_i11 (List.mem_of_getElem? (i := 14) (by decide +kernel))), by decide +kernel, by decide +kernel⟩
/-- Land.signsOn(I)I -/
noncomputable def fX3_signsOn (a0 : Nat) (a1 : Int32) (h : qv_H) : Option (Int32) :=
  Option.bind (qv_loop (σ := Int32 × Int32) (ρ := Int32) (fun (x1, x2) =>
      (qv_gI h 2 a0 3).bind fun v3 =>
      if v3 ≤ x2 then
        some (.inr x1)
      else
        (qv_gR h 2 a0 7).bind fun v4 =>
        (qv_aI h false v4 x2).bind fun v5 =>
        Option.bind (α := Int32) (
            if v5 = a1 then
              some (x1 ||| ((1 : Int32) <<< (x2 &&& 31)))
            else
              some x1
          ) fun m6 =>
        some (.inl (m6, x2 + (1 : Int32)))
    ) ((0 : Int32), (0 : Int32))) fun y7 =>
  some y7
abbrev mX3_signsOn : qv_M := (yX3_signsOn, cX3_signsOn, 4, (Option.some Jvm.ClassFile.FieldType.int), 0, 0)
set_option maxRecDepth 100000 in
set_option maxHeartbeats 4000000 in
theorem sX3_signsOn {l : Launch} {g : qv_G} {a0 : Nat} {a1 : Int32} {h : qv_H} {r : Int32} (hs : fX3_signsOn a0 a1 h = some r) : qv_J l g mX3_signsOn 0 [some (.ref a0), some (.int a1), none, none] [] h (some (.int r), h) := by
  unfold fX3_signsOn at hs
  refine qv_iconst (v := (0 : Int32)) dX3_signsOn_0 rfl ?_
  refine qv_istore_n (lo2 := [some (.ref a0), some (.int a1), some (.int (0 : Int32)), none]) dX3_signsOn_1 (i := 2) rfl (by decide) rfl (Nat.le_of_ble_eq_true rfl) rfl ?_
  refine qv_iconst (v := (0 : Int32)) dX3_signsOn_2 rfl ?_
  refine qv_istore_n (lo2 := [some (.ref a0), some (.int a1), some (.int (0 : Int32)), some (.int (0 : Int32))]) dX3_signsOn_3 (i := 3) rfl (by decide) rfl (Nat.le_of_ble_eq_true rfl) rfl ?_
  obtain ⟨y7, e2, hs⟩ := qv_bind hs
  have K1 : qv_J l g mX3_signsOn 34 [none, none, some (.int y7), none] [] h (some (.int r), h) := by
    refine qv_iload_n dX3_signsOn_34 (i := 2) rfl rfl ?_
    obtain rfl := qv_sm hs
    exact qv_iret dX3_signsOn_35 rfl
  obtain ⟨n8, e2⟩ := qv_loop_of e2
  refine qv_dp (qv_le_s (qv_le_s (qv_le_s (qv_le_s qv_le_0)))) (?_ : qv_J l g mX3_signsOn 4 [some (.ref a0), some (.int a1), some (.int (0 : Int32)), some (.int (0 : Int32))] [] h (some (.int r), h))
  revert e2
  suffices lj7 : ∀ (x1 : Int32) (x2 : Int32), qv_it _ n8 (x1, x2) = some y7 → qv_J l g mX3_signsOn 4 [some (.ref a0), some (.int a1), some (.int x1), some (.int x2)] [] h (some (.int r), h) from lj7 (0 : Int32) (0 : Int32)
  induction n8 with
  | zero =>
    intro x1 x2 e2
    cases e2
  | succ n8 ih4 =>
    intro x1 x2 e2
    obtain ⟨_, hs, eb5⟩ := qv_it_s e2
    dsimp only at hs
    refine qv_iload_n dX3_signsOn_4 (i := 3) rfl rfl ?_
    refine qv_aload_n dX3_signsOn_5 (i := 0) rfl rfl ?_
    obtain ⟨v3, e9, hs⟩ := qv_bind hs
    refine qv_getI dX3_signsOn_6 qF_X3_21 e9 ?_
    by_cases c10 : v3 ≤ x2
    · have hs := qv_pos c10 hs
      refine qv_icmp_ge (tgt := 34) dX3_signsOn_9 rfl (fun _ => ?_) (fun q => absurd c10 q)
      cases hs
      cases qv_nx_r eb5
      exact qv_dp (qv_le_n (qv_le_n (qv_le_s (qv_le_n qv_le_0)))) K1
    · have hs := qv_neg c10 hs
      refine qv_icmp_ge (tgt := 34) dX3_signsOn_9 rfl (fun q => absurd q c10) (fun _ => ?_)
      refine qv_aload_n dX3_signsOn_12 (i := 0) rfl rfl ?_
      obtain ⟨v4, e11, hs⟩ := qv_bind hs
      refine qv_getR dX3_signsOn_13 qF_X3_34 e11 ?_
      refine qv_iload_n dX3_signsOn_16 (i := 3) rfl rfl ?_
      obtain ⟨v5, e12, hs⟩ := qv_bind hs
      refine qv_iald dX3_signsOn_17 e12 ?_
      refine qv_iload_n dX3_signsOn_18 (i := 1) rfl rfl ?_
      obtain ⟨m6, hj14, hs⟩ := qv_bind hs
      have K13 : qv_J l g mX3_signsOn 28 [some (.ref a0), some (.int a1), some (.int m6), some (.int x2)] [] h (some (.int r), h) := by
        refine qv_iinc (v := x2 + (1 : Int32)) (lo2 := [some (.ref a0), some (.int a1), some (.int m6), some (.int (x2 + (1 : Int32)))]) dX3_signsOn_28 rfl rfl (by decide) rfl rfl ?_
        refine qv_goto (tgt := 4) dX3_signsOn_31 rfl ?_
        cases hs
        exact qv_dp (qv_le_s (qv_le_s (qv_le_s (qv_le_s qv_le_0)))) (ih4 _ _ (qv_nx_l eb5))
      replace hs := hj14
      by_cases c15 : v5 = a1
      · have hs := qv_pos c15 hs
        refine qv_icmp_ne (tgt := 28) dX3_signsOn_19 rfl (fun q => absurd c15 q) (fun _ => ?_)
        refine qv_iload_n dX3_signsOn_22 (i := 2) rfl rfl ?_
        refine qv_iconst (v := (1 : Int32)) dX3_signsOn_23 rfl ?_
        refine qv_iload_n dX3_signsOn_24 (i := 3) rfl rfl ?_
        refine qv_ishl dX3_signsOn_25 ?_
        refine qv_ior dX3_signsOn_26 ?_
        refine qv_istore_n (lo2 := [some (.ref a0), some (.int a1), some (.int (x1 ||| ((1 : Int32) <<< (x2 &&& 31)))), some (.int x2)]) dX3_signsOn_27 (i := 2) rfl (by decide) rfl (Nat.le_of_ble_eq_true rfl) rfl ?_
        cases hs
        exact qv_dp (qv_le_s (qv_le_s (qv_le_s (qv_le_s qv_le_0)))) K13
      · have hs := qv_neg c15 hs
        refine qv_icmp_ne (tgt := 28) dX3_signsOn_19 rfl (fun _ => ?_) (fun q => absurd q c15)
        cases hs
        exact qv_dp (qv_le_s (qv_le_s (qv_le_s (qv_le_s qv_le_0)))) K13
theorem qD_X3_signsOn : qv_DV mX3_signsOn 1 := ⟨(qv_i8 (List.mem_of_getElem? (i := 8) (by decide +kernel))), (qv_i8 (List.mem_of_getElem? (i := 9) (by decide +kernel))), (qv_i1 (List.mem_of_getElem? (i := 7) (by decide +kernel))), (qv_i8 (List.mem_of_getElem? (i := 10) (by decide +kernel))), by decide +kernel, by decide +kernel⟩
/-- Text.at(I)I -/
noncomputable def fX5_at (a0 : Nat) (a1 : Int32) (h : qv_H) : Option (Int32) :=
  Option.bind (α := Int32) (
      if a1 < 0 then
        some (0 : Int32)
      else
        (qv_gI h 4 a0 0).bind fun v1 =>
        if v1 ≤ a1 then
          some (0 : Int32)
        else
          (qv_gR h 4 a0 1).bind fun v2 =>
          (qv_aI h false v2 a1).bind fun v3 =>
          some v3
    ) fun m4 =>
  some m4
abbrev mX5_at : qv_M := (yX5_at, cX5_at, 2, (Option.some Jvm.ClassFile.FieldType.int), 0, 0)
set_option maxRecDepth 100000 in
set_option maxHeartbeats 4000000 in
theorem sX5_at {l : Launch} {g : qv_G} {a0 : Nat} {a1 : Int32} {h : qv_H} {r : Int32} (hs : fX5_at a0 a1 h = some r) : qv_J l g mX5_at 0 [some (.ref a0), some (.int a1)] [] h (some (.int r), h) := by
  unfold fX5_at at hs
  refine qv_iload_n dX5_at_0 (i := 1) rfl rfl ?_
  obtain ⟨m4, hj2, hs⟩ := qv_bind hs
  have K1 : qv_J l g mX5_at 22 [none, none] [.int m4] h (some (.int r), h) := by
    obtain rfl := qv_sm hs
    exact qv_iret dX5_at_22 rfl
  replace hs := hj2
  by_cases c3 : a1 < 0
  · have hs := qv_pos c3 hs
    refine qv_if_lt (tgt := 21) dX5_at_1 rfl (fun _ => ?_) (fun q => absurd c3 q)
    refine qv_iconst (v := (0 : Int32)) dX5_at_21 rfl ?_
    cases hs
    exact qv_dp (qv_le_n (qv_le_n qv_le_0)) K1
  · have hs := qv_neg c3 hs
    refine qv_if_lt (tgt := 21) dX5_at_1 rfl (fun q => absurd q c3) (fun _ => ?_)
    refine qv_iload_n dX5_at_4 (i := 1) rfl rfl ?_
    refine qv_aload_n dX5_at_5 (i := 0) rfl rfl ?_
    obtain ⟨v1, e4, hs⟩ := qv_bind hs
    refine qv_getI dX5_at_6 qF_X5_9 e4 ?_
    by_cases c5 : v1 ≤ a1
    · have hs := qv_pos c5 hs
      refine qv_icmp_ge (tgt := 21) dX5_at_9 rfl (fun _ => ?_) (fun q => absurd c5 q)
      refine qv_iconst (v := (0 : Int32)) dX5_at_21 rfl ?_
      cases hs
      exact qv_dp (qv_le_n (qv_le_n qv_le_0)) K1
    · have hs := qv_neg c5 hs
      refine qv_icmp_ge (tgt := 21) dX5_at_9 rfl (fun q => absurd q c5) (fun _ => ?_)
      refine qv_aload_n dX5_at_12 (i := 0) rfl rfl ?_
      obtain ⟨v2, e6, hs⟩ := qv_bind hs
      refine qv_getR dX5_at_13 qF_X5_15 e6 ?_
      refine qv_iload_n dX5_at_16 (i := 1) rfl rfl ?_
      obtain ⟨v3, e7, hs⟩ := qv_bind hs
      refine qv_iald dX5_at_17 e7 ?_
      refine qv_goto (tgt := 22) dX5_at_18 rfl ?_
      cases hs
      exact qv_dp (qv_le_n (qv_le_n qv_le_0)) K1
theorem qD_X5_at : qv_DV mX5_at 1 := ⟨(qv_i7 (List.mem_of_getElem? (i := 11) (by decide +kernel))), (qv_i7 (List.mem_of_getElem? (i := 12) (by decide +kernel))), (qv_i1 (List.mem_of_getElem? (i := 6) (by decide +kernel))), (qv_i7 (List.mem_of_getElem? (i := 13) (by decide +kernel))), by decide +kernel, by decide +kernel⟩
/-- Text.isDigit(I)Z -/
noncomputable def fX5_isDigit (a0 : Int32) : Option (Int32) :=
  Option.bind (α := Int32) (
      if a0 < (48 : Int32) then
        some (0 : Int32)
      else
        if (57 : Int32) < a0 then
          some (0 : Int32)
        else
          some (1 : Int32)
    ) fun m1 =>
  (qv_b1 m1).bind fun v2 =>
  some m1
abbrev mX5_isDigit : qv_M := (yX5_isDigit, cX5_isDigit, 1, (Option.some Jvm.ClassFile.FieldType.boolean), 0, 0)
set_option maxRecDepth 100000 in
set_option maxHeartbeats 4000000 in
theorem sX5_isDigit {l : Launch} {g : qv_G} {a0 : Int32} {h : qv_H} {r : Int32} (hs : fX5_isDigit a0 = some r) : qv_J l g mX5_isDigit 0 [some (.int a0)] [] h (some (.int r), h) := by
  unfold fX5_isDigit at hs
  refine qv_iload_n dX5_isDigit_0 (i := 0) rfl rfl ?_
  refine qv_bipush (v := (48 : Int32)) dX5_isDigit_1 rfl ?_
  obtain ⟨m1, hj2, hs⟩ := qv_bind hs
  have K1 : qv_J l g mX5_isDigit 17 [none] [.int m1] h (some (.int r), h) := by
    obtain ⟨v2, e3, hs⟩ := qv_bind hs
    obtain rfl := qv_sm hs
    exact qv_zret dX5_isDigit_17 rfl (qv_b1_of e3).1
  replace hs := hj2
  by_cases c4 : a0 < (48 : Int32)
  · have hs := qv_pos c4 hs
    refine qv_icmp_lt (tgt := 16) dX5_isDigit_3 rfl (fun _ => ?_) (fun q => absurd c4 q)
    refine qv_iconst (v := (0 : Int32)) dX5_isDigit_16 rfl ?_
    cases hs
    exact qv_dp (qv_le_n qv_le_0) K1
  · have hs := qv_neg c4 hs
    refine qv_icmp_lt (tgt := 16) dX5_isDigit_3 rfl (fun q => absurd q c4) (fun _ => ?_)
    refine qv_iload_n dX5_isDigit_6 (i := 0) rfl rfl ?_
    refine qv_bipush (v := (57 : Int32)) dX5_isDigit_7 rfl ?_
    by_cases c5 : (57 : Int32) < a0
    · have hs := qv_pos c5 hs
      refine qv_icmp_gt (tgt := 16) dX5_isDigit_9 rfl (fun _ => ?_) (fun q => absurd c5 q)
      refine qv_iconst (v := (0 : Int32)) dX5_isDigit_16 rfl ?_
      cases hs
      exact qv_dp (qv_le_n qv_le_0) K1
    · have hs := qv_neg c5 hs
      refine qv_icmp_gt (tgt := 16) dX5_isDigit_9 rfl (fun q => absurd q c5) (fun _ => ?_)
      refine qv_iconst (v := (1 : Int32)) dX5_isDigit_12 rfl ?_
      refine qv_goto (tgt := 17) dX5_isDigit_13 rfl ?_
      cases hs
      exact qv_dp (qv_le_n qv_le_0) K1
theorem qD_X5_isDigit : qv_DS mX5_isDigit 1 := ⟨(qv_i5 (List.mem_of_getElem? (i := 62) (by decide +kernel))), (qv_i1 (List.mem_of_getElem? (i := 6) (by decide +kernel))), (qv_i5 (List.mem_of_getElem? (i := 63) (by decide +kernel))), by decide +kernel, by decide +kernel⟩
/-- Text.digitAt(I)I -/
noncomputable def fX5_digitAt (a0 : Nat) (a1 : Int32) (h : qv_H) : Option (Int32) :=
  (qv_ob h 4 a0).bind fun _ =>
  (fX5_at a0 a1 h).bind fun v2 =>
  (fX5_isDigit v2).bind fun v3 =>
  Option.bind (α := Int32) (
      if v3 = 0 then
        some (-1 : Int32)
      else
        (qv_ob h 4 a0).bind fun _ =>
        (fX5_at a0 a1 h).bind fun v5 =>
        some (v5 - (48 : Int32))
    ) fun m6 =>
  some m6
abbrev mX5_digitAt : qv_M := (yX5_digitAt, cX5_digitAt, 2, (Option.some Jvm.ClassFile.FieldType.int), 1, 21)
set_option maxRecDepth 100000 in
set_option maxHeartbeats 4000000 in
theorem sX5_digitAt {l : Launch} {g : qv_G} {a0 : Nat} {a1 : Int32} {h : qv_H} {r : Int32} (hs : fX5_digitAt a0 a1 h = some r) : qv_J l g mX5_digitAt 0 [some (.ref a0), some (.int a1)] [] h (some (.int r), h) := by
  unfold fX5_digitAt at hs
  refine qv_aload_n dX5_digitAt_0 (i := 0) rfl rfl ?_
  refine qv_iload_n dX5_digitAt_1 (i := 1) rfl rfl ?_
  obtain ⟨u1, e1, hs⟩ := qv_bind hs
  obtain ⟨v2, e2, hs⟩ := qv_bind hs
  refine qv_cV (d2 := mX5_at) (o := a0) (ci := 4) (r := some (.int v2)) (h2 := h) (av := [.int a1]) (st := []) dX5_digitAt_2 qM_X5_19 qD_X5_at e1 rfl rfl ⟨by decide, by decide⟩ rfl (Nat.le_of_ble_eq_true rfl) (Nat.le_of_ble_eq_true rfl) (sX5_at e2) rfl ?_
  obtain ⟨v3, e3, hs⟩ := qv_bind hs
  refine qv_cS (d2 := mX5_isDigit) (r := some (.int v3)) (h2 := h) (av := [.int v2]) (st := []) dX5_digitAt_5 qM_X5_23 qD_X5_isDigit rfl ⟨by decide, by decide⟩ rfl (Nat.le_of_ble_eq_true rfl) (Nat.le_of_ble_eq_true rfl) (sX5_isDigit e3) rfl ?_
  obtain ⟨m6, hj5, hs⟩ := qv_bind hs
  have K4 : qv_J l g mX5_digitAt 23 [none, none] [.int m6] h (some (.int r), h) := by
    obtain rfl := qv_sm hs
    exact qv_iret dX5_digitAt_23 rfl
  replace hs := hj5
  by_cases c6 : v3 = 0
  · have hs := qv_pos c6 hs
    refine qv_if_eq (tgt := 22) dX5_digitAt_8 rfl (fun _ => ?_) (fun q => absurd c6 q)
    refine qv_iconst (v := (-1 : Int32)) dX5_digitAt_22 rfl ?_
    cases hs
    exact qv_dp (qv_le_n (qv_le_n qv_le_0)) K4
  · have hs := qv_neg c6 hs
    refine qv_if_eq (tgt := 22) dX5_digitAt_8 rfl (fun q => absurd q c6) (fun _ => ?_)
    refine qv_aload_n dX5_digitAt_11 (i := 0) rfl rfl ?_
    refine qv_iload_n dX5_digitAt_12 (i := 1) rfl rfl ?_
    obtain ⟨u4, e7, hs⟩ := qv_bind hs
    obtain ⟨v5, e8, hs⟩ := qv_bind hs
    refine qv_cV (d2 := mX5_at) (o := a0) (ci := 4) (r := some (.int v5)) (h2 := h) (av := [.int a1]) (st := []) dX5_digitAt_13 qM_X5_19 qD_X5_at e7 rfl rfl ⟨by decide, by decide⟩ rfl (Nat.le_of_ble_eq_true rfl) (Nat.le_of_ble_eq_true rfl) (sX5_at e8) rfl ?_
    refine qv_bipush (v := (48 : Int32)) dX5_digitAt_16 rfl ?_
    refine qv_isub dX5_digitAt_18 ?_
    refine qv_goto (tgt := 23) dX5_digitAt_19 rfl ?_
    cases hs
    exact qv_dp (qv_le_n (qv_le_n qv_le_0)) K4
theorem qD_X5_digitAt : qv_DV mX5_digitAt 1 := ⟨(qv_i7 (List.mem_of_getElem? (i := 7) (by decide +kernel))), (qv_i7 (List.mem_of_getElem? (i := 8) (by decide +kernel))), (qv_i1 (List.mem_of_getElem? (i := 6) (by decide +kernel))), (qv_i7 (List.mem_of_getElem? (i := 9) (by decide +kernel))), by decide +kernel, by decide +kernel⟩
/-- Land.placesToldOf()I -/
noncomputable def fX3_placesToldOf (a0 : Nat) (h : qv_H) : Option (Int32) :=
  (qv_gI h 2 a0 11).bind fun v1 =>
  (qv_gI h 2 a0 12).bind fun v2 =>
  Option.bind (qv_loop (σ := Int32 × Int32) (ρ := Int32) (fun (x3, x4) =>
      (qv_gI h 2 a0 1).bind fun v5 =>
      if v5 ≤ x4 then
        some (.inr x3)
      else
        (qv_gR h 2 a0 4).bind fun v6 =>
        (qv_aI h false v6 x4).bind fun v7 =>
        (qv_gR h 2 a0 5).bind fun v8 =>
        (qv_aI h false v8 x4).bind fun v9 =>
        some (.inl (qv_mx x3 (qv_mx v7 v9), x4 + (1 : Int32)))
    ) (qv_mx v1 v2, (0 : Int32))) fun y10 =>
  Option.bind (qv_loop (σ := Int32 × Int32) (ρ := Int32) (fun (x11, x12) =>
      if (6 : Int32) ≤ x12 then
        some (.inr x11)
      else
        (qv_gR h 2 a0 10).bind fun v13 =>
        (qv_aI h false v13 x12).bind fun v14 =>
        Option.bind (α := Int32) (
            if v14 = 0 then
              some x11
            else
              some (qv_mx x11 x12)
          ) fun m15 =>
        some (.inl (m15, x12 + (1 : Int32)))
    ) (y10, (0 : Int32))) fun y16 =>
  some (y16 + (1 : Int32))
abbrev mX3_placesToldOf : qv_M := (yX3_placesToldOf, cX3_placesToldOf, 3, (Option.some Jvm.ClassFile.FieldType.int), 1, 21)
set_option maxRecDepth 100000 in
set_option maxHeartbeats 4000000 in
theorem sX3_placesToldOf {l : Launch} {g : qv_G} {a0 : Nat} {h : qv_H} {r : Int32} (hs : fX3_placesToldOf a0 h = some r) : qv_J l g mX3_placesToldOf 0 [some (.ref a0), none, none] [] h (some (.int r), h) := by
  unfold fX3_placesToldOf at hs
  refine qv_aload_n dX3_placesToldOf_0 (i := 0) rfl rfl ?_
  obtain ⟨v1, e1, hs⟩ := qv_bind hs
  refine qv_getI dX3_placesToldOf_1 qF_X3_46 e1 ?_
  refine qv_aload_n dX3_placesToldOf_4 (i := 0) rfl rfl ?_
  obtain ⟨v2, e2, hs⟩ := qv_bind hs
  refine qv_getI dX3_placesToldOf_5 qF_X3_49 e2 ?_
  refine qv_cmx dX3_placesToldOf_8 qB_X3_108 ⟨by decide, by decide⟩ (Nat.le_of_ble_eq_true rfl) ?_
  refine qv_istore_n (lo2 := [some (.ref a0), some (.int (qv_mx v1 v2)), none]) dX3_placesToldOf_11 (i := 1) rfl (by decide) rfl (Nat.le_of_ble_eq_true rfl) rfl ?_
  refine qv_iconst (v := (0 : Int32)) dX3_placesToldOf_12 rfl ?_
  refine qv_istore_n (lo2 := [some (.ref a0), some (.int (qv_mx v1 v2)), some (.int (0 : Int32))]) dX3_placesToldOf_13 (i := 2) rfl (by decide) rfl (Nat.le_of_ble_eq_true rfl) rfl ?_
  obtain ⟨y10, e4, hs⟩ := qv_bind hs
  have K3 : qv_J l g mX3_placesToldOf 48 [some (.ref a0), some (.int y10), none] [] h (some (.int r), h) := by
    refine qv_iconst (v := (0 : Int32)) dX3_placesToldOf_48 rfl ?_
    refine qv_istore_n (lo2 := [some (.ref a0), some (.int y10), some (.int (0 : Int32))]) dX3_placesToldOf_49 (i := 2) rfl (by decide) rfl (Nat.le_of_ble_eq_true rfl) rfl ?_
    obtain ⟨y16, e12, hs⟩ := qv_bind hs
    have K11 : qv_J l g mX3_placesToldOf 77 [none, some (.int y16), none] [] h (some (.int r), h) := by
      refine qv_iload_n dX3_placesToldOf_77 (i := 1) rfl rfl ?_
      refine qv_iconst (v := (1 : Int32)) dX3_placesToldOf_78 rfl ?_
      refine qv_iadd dX3_placesToldOf_79 ?_
      obtain rfl := qv_sm hs
      exact qv_iret dX3_placesToldOf_80 rfl
    obtain ⟨n18, e12⟩ := qv_loop_of e12
    refine qv_dp (qv_le_s (qv_le_s (qv_le_s qv_le_0))) (?_ : qv_J l g mX3_placesToldOf 50 [some (.ref a0), some (.int y10), some (.int (0 : Int32))] [] h (some (.int r), h))
    revert e12
    suffices lj17 : ∀ (x11 : Int32) (x12 : Int32), qv_it _ n18 (x11, x12) = some y16 → qv_J l g mX3_placesToldOf 50 [some (.ref a0), some (.int x11), some (.int x12)] [] h (some (.int r), h) from lj17 y10 (0 : Int32)
    induction n18 with
    | zero =>
      intro x11 x12 e12
      cases e12
    | succ n18 ih14 =>
      intro x11 x12 e12
      obtain ⟨_, hs, eb15⟩ := qv_it_s e12
      dsimp only at hs
      refine qv_iload_n dX3_placesToldOf_50 (i := 2) rfl rfl ?_
      refine qv_bipush (v := (6 : Int32)) dX3_placesToldOf_51 rfl ?_
      by_cases c19 : (6 : Int32) ≤ x12
      · have hs := qv_pos c19 hs
        refine qv_icmp_ge (tgt := 77) dX3_placesToldOf_53 rfl (fun _ => ?_) (fun q => absurd c19 q)
        cases hs
        cases qv_nx_r eb15
        exact qv_dp (qv_le_n (qv_le_s (qv_le_n qv_le_0))) K11
      · have hs := qv_neg c19 hs
        refine qv_icmp_ge (tgt := 77) dX3_placesToldOf_53 rfl (fun q => absurd q c19) (fun _ => ?_)
        refine qv_aload_n dX3_placesToldOf_56 (i := 0) rfl rfl ?_
        obtain ⟨v13, e20, hs⟩ := qv_bind hs
        refine qv_getR dX3_placesToldOf_57 qF_X3_43 e20 ?_
        refine qv_iload_n dX3_placesToldOf_60 (i := 2) rfl rfl ?_
        obtain ⟨v14, e21, hs⟩ := qv_bind hs
        refine qv_iald dX3_placesToldOf_61 e21 ?_
        obtain ⟨m15, hj23, hs⟩ := qv_bind hs
        have K22 : qv_J l g mX3_placesToldOf 71 [some (.ref a0), some (.int m15), some (.int x12)] [] h (some (.int r), h) := by
          refine qv_iinc (v := x12 + (1 : Int32)) (lo2 := [some (.ref a0), some (.int m15), some (.int (x12 + (1 : Int32)))]) dX3_placesToldOf_71 rfl rfl (by decide) rfl rfl ?_
          refine qv_goto (tgt := 50) dX3_placesToldOf_74 rfl ?_
          cases hs
          exact qv_dp (qv_le_s (qv_le_s (qv_le_s qv_le_0))) (ih14 _ _ (qv_nx_l eb15))
        replace hs := hj23
        by_cases c24 : v14 = 0
        · have hs := qv_pos c24 hs
          refine qv_if_eq (tgt := 71) dX3_placesToldOf_62 rfl (fun _ => ?_) (fun q => absurd c24 q)
          cases hs
          exact qv_dp (qv_le_s (qv_le_s (qv_le_s qv_le_0))) K22
        · have hs := qv_neg c24 hs
          refine qv_if_eq (tgt := 71) dX3_placesToldOf_62 rfl (fun q => absurd q c24) (fun _ => ?_)
          refine qv_iload_n dX3_placesToldOf_65 (i := 1) rfl rfl ?_
          refine qv_iload_n dX3_placesToldOf_66 (i := 2) rfl rfl ?_
          refine qv_cmx dX3_placesToldOf_67 qB_X3_108 ⟨by decide, by decide⟩ (Nat.le_of_ble_eq_true rfl) ?_
          refine qv_istore_n (lo2 := [some (.ref a0), some (.int (qv_mx x11 x12)), some (.int x12)]) dX3_placesToldOf_70 (i := 1) rfl (by decide) rfl (Nat.le_of_ble_eq_true rfl) rfl ?_
          cases hs
          exact qv_dp (qv_le_s (qv_le_s (qv_le_s qv_le_0))) K22
  obtain ⟨n10, e4⟩ := qv_loop_of e4
  refine qv_dp (qv_le_s (qv_le_s (qv_le_s qv_le_0))) (?_ : qv_J l g mX3_placesToldOf 14 [some (.ref a0), some (.int (qv_mx v1 v2)), some (.int (0 : Int32))] [] h (some (.int r), h))
  revert e4
  suffices lj9 : ∀ (x3 : Int32) (x4 : Int32), qv_it _ n10 (x3, x4) = some y10 → qv_J l g mX3_placesToldOf 14 [some (.ref a0), some (.int x3), some (.int x4)] [] h (some (.int r), h) from lj9 (qv_mx v1 v2) (0 : Int32)
  induction n10 with
  | zero =>
    intro x3 x4 e4
    cases e4
  | succ n10 ih6 =>
    intro x3 x4 e4
    obtain ⟨_, hs, eb7⟩ := qv_it_s e4
    dsimp only at hs
    refine qv_iload_n dX3_placesToldOf_14 (i := 2) rfl rfl ?_
    refine qv_aload_n dX3_placesToldOf_15 (i := 0) rfl rfl ?_
    obtain ⟨v5, e25, hs⟩ := qv_bind hs
    refine qv_getI dX3_placesToldOf_16 qF_X3_15 e25 ?_
    by_cases c26 : v5 ≤ x4
    · have hs := qv_pos c26 hs
      refine qv_icmp_ge (tgt := 48) dX3_placesToldOf_19 rfl (fun _ => ?_) (fun q => absurd c26 q)
      cases hs
      cases qv_nx_r eb7
      exact qv_dp (qv_le_s (qv_le_s (qv_le_n qv_le_0))) K3
    · have hs := qv_neg c26 hs
      refine qv_icmp_ge (tgt := 48) dX3_placesToldOf_19 rfl (fun q => absurd q c26) (fun _ => ?_)
      refine qv_iload_n dX3_placesToldOf_22 (i := 1) rfl rfl ?_
      refine qv_aload_n dX3_placesToldOf_23 (i := 0) rfl rfl ?_
      obtain ⟨v6, e27, hs⟩ := qv_bind hs
      refine qv_getR dX3_placesToldOf_24 qF_X3_24 e27 ?_
      refine qv_iload_n dX3_placesToldOf_27 (i := 2) rfl rfl ?_
      obtain ⟨v7, e28, hs⟩ := qv_bind hs
      refine qv_iald dX3_placesToldOf_28 e28 ?_
      refine qv_aload_n dX3_placesToldOf_29 (i := 0) rfl rfl ?_
      obtain ⟨v8, e29, hs⟩ := qv_bind hs
      refine qv_getR dX3_placesToldOf_30 qF_X3_28 e29 ?_
      refine qv_iload_n dX3_placesToldOf_33 (i := 2) rfl rfl ?_
      obtain ⟨v9, e30, hs⟩ := qv_bind hs
      refine qv_iald dX3_placesToldOf_34 e30 ?_
      refine qv_cmx dX3_placesToldOf_35 qB_X3_108 ⟨by decide, by decide⟩ (Nat.le_of_ble_eq_true rfl) ?_
      refine qv_cmx dX3_placesToldOf_38 qB_X3_108 ⟨by decide, by decide⟩ (Nat.le_of_ble_eq_true rfl) ?_
      refine qv_istore_n (lo2 := [some (.ref a0), some (.int (qv_mx x3 (qv_mx v7 v9))), some (.int x4)]) dX3_placesToldOf_41 (i := 1) rfl (by decide) rfl (Nat.le_of_ble_eq_true rfl) rfl ?_
      refine qv_iinc (v := x4 + (1 : Int32)) (lo2 := [some (.ref a0), some (.int (qv_mx x3 (qv_mx v7 v9))), some (.int (x4 + (1 : Int32)))]) dX3_placesToldOf_42 rfl rfl (by decide) rfl rfl ?_
      refine qv_goto (tgt := 14) dX3_placesToldOf_45 rfl ?_
      cases hs
      exact qv_dp (qv_le_s (qv_le_s (qv_le_s qv_le_0))) (ih6 _ _ (qv_nx_l eb7))
theorem qD_X3_placesToldOf : qv_DV mX3_placesToldOf 0 := ⟨(qv_i7 (List.mem_of_getElem? (i := 19) (by decide +kernel))), (qv_i0 (List.mem_of_getElem? (i := 5) (by decide +kernel))), (qv_i1 (List.mem_of_getElem? (i := 7) (by decide +kernel))), (qv_i7 (List.mem_of_getElem? (i := 20) (by decide +kernel))), by decide +kernel, by decide +kernel⟩
/-- Land.takePlaces(I)Z -/
noncomputable def fX3_takePlaces (a0 : Nat) (a1 : Int32) (h : qv_H) : Option (Int32 × qv_H) :=
  if a1 < (2 : Int32) then
    some ((0 : Int32), h)
  else
    if (6 : Int32) < a1 then
      some ((0 : Int32), h)
    else
      (qv_ob h 2 a0).bind fun _ =>
      (fX3_placesToldOf a0 h).bind fun v2 =>
      if v2 ≤ a1 then
        (qv_pI h 2 a0 0 a1).bind fun h3 =>
        some ((1 : Int32), h3)
      else
        some ((0 : Int32), h)
abbrev mX3_takePlaces : qv_M := (yX3_takePlaces, cX3_takePlaces, 2, (Option.some Jvm.ClassFile.FieldType.boolean), 2, 43)
set_option maxRecDepth 100000 in
set_option maxHeartbeats 4000000 in
theorem sX3_takePlaces {l : Launch} {g : qv_G} {a0 : Nat} {a1 : Int32} {h : qv_H} {r : Int32} {hz : qv_H} (hs : fX3_takePlaces a0 a1 h = some (r, hz)) : qv_J l g mX3_takePlaces 0 [some (.ref a0), some (.int a1)] [] h (some (.int r), hz) := by
  unfold fX3_takePlaces at hs
  refine qv_iload_n dX3_takePlaces_0 (i := 1) rfl rfl ?_
  refine qv_iconst (v := (2 : Int32)) dX3_takePlaces_1 rfl ?_
  by_cases c1 : a1 < (2 : Int32)
  · have hs := qv_pos c1 hs
    refine qv_icmp_lt (tgt := 19) dX3_takePlaces_2 rfl (fun _ => ?_) (fun q => absurd c1 q)
    refine qv_iconst (v := (0 : Int32)) dX3_takePlaces_19 rfl ?_
    obtain ⟨rfl, rfl⟩ := qv_pr hs
    exact qv_zret dX3_takePlaces_20 rfl (by decide)
  · have hs := qv_neg c1 hs
    refine qv_icmp_lt (tgt := 19) dX3_takePlaces_2 rfl (fun q => absurd q c1) (fun _ => ?_)
    refine qv_iload_n dX3_takePlaces_5 (i := 1) rfl rfl ?_
    refine qv_bipush (v := (6 : Int32)) dX3_takePlaces_6 rfl ?_
    by_cases c2 : (6 : Int32) < a1
    · have hs := qv_pos c2 hs
      refine qv_icmp_gt (tgt := 19) dX3_takePlaces_8 rfl (fun _ => ?_) (fun q => absurd c2 q)
      refine qv_iconst (v := (0 : Int32)) dX3_takePlaces_19 rfl ?_
      obtain ⟨rfl, rfl⟩ := qv_pr hs
      exact qv_zret dX3_takePlaces_20 rfl (by decide)
    · have hs := qv_neg c2 hs
      refine qv_icmp_gt (tgt := 19) dX3_takePlaces_8 rfl (fun q => absurd q c2) (fun _ => ?_)
      refine qv_iload_n dX3_takePlaces_11 (i := 1) rfl rfl ?_
      refine qv_aload_n dX3_takePlaces_12 (i := 0) rfl rfl ?_
      obtain ⟨u1, e3, hs⟩ := qv_bind hs
      obtain ⟨v2, e4, hs⟩ := qv_bind hs
      refine qv_cV (d2 := mX3_placesToldOf) (o := a0) (ci := 2) (r := some (.int v2)) (h2 := h) (av := []) (st := [.int a1]) dX3_takePlaces_13 qM_X3_105 qD_X3_placesToldOf e3 rfl rfl ⟨by decide, by decide⟩ rfl (Nat.le_of_ble_eq_true rfl) (Nat.le_of_ble_eq_true rfl) (sX3_placesToldOf e4) rfl ?_
      by_cases c5 : v2 ≤ a1
      · have hs := qv_pos c5 hs
        refine qv_icmp_ge (tgt := 21) dX3_takePlaces_16 rfl (fun _ => ?_) (fun q => absurd c5 q)
        refine qv_aload_n dX3_takePlaces_21 (i := 0) rfl rfl ?_
        refine qv_iload_n dX3_takePlaces_22 (i := 1) rfl rfl ?_
        obtain ⟨h3, e6, hs⟩ := qv_bind hs
        refine qv_putI dX3_takePlaces_23 qF_X3_9 e6 ?_
        refine qv_iconst (v := (1 : Int32)) dX3_takePlaces_26 rfl ?_
        obtain ⟨rfl, rfl⟩ := qv_pr hs
        exact qv_zret dX3_takePlaces_27 rfl (by decide)
      · have hs := qv_neg c5 hs
        refine qv_icmp_ge (tgt := 21) dX3_takePlaces_16 rfl (fun q => absurd q c5) (fun _ => ?_)
        refine qv_iconst (v := (0 : Int32)) dX3_takePlaces_19 rfl ?_
        obtain ⟨rfl, rfl⟩ := qv_pr hs
        exact qv_zret dX3_takePlaces_20 rfl (by decide)
theorem qD_X3_takePlaces : qv_DV mX3_takePlaces 1 := ⟨(qv_i7 (List.mem_of_getElem? (i := 16) (by decide +kernel))), (qv_i0 (List.mem_of_getElem? (i := 4) (by decide +kernel))), (qv_i1 (List.mem_of_getElem? (i := 7) (by decide +kernel))), (qv_i7 (List.mem_of_getElem? (i := 17) (by decide +kernel))), by decide +kernel, by decide +kernel⟩
/-- Land.takeRoad(II)Z -/
noncomputable def fX3_takeRoad (a0 : Nat) (a1 : Int32) (a2 : Int32) (h : qv_H) : Option (Int32 × qv_H) :=
  (qv_ob h 2 a0).bind fun _ =>
  (fX3_hasPlace a0 a1 h).bind fun v2 =>
  if v2 = 0 then
    some ((0 : Int32), h)
  else
    (qv_ob h 2 a0).bind fun _ =>
    (fX3_hasPlace a0 a2 h).bind fun v4 =>
    if v4 = 0 then
      some ((0 : Int32), h)
    else
      if a1 = a2 then
        some ((0 : Int32), h)
      else
        (qv_gI h 2 a0 1).bind fun v5 =>
        if v5 < (8 : Int32) then
          (qv_gR h 2 a0 4).bind fun v6 =>
          (qv_gI h 2 a0 1).bind fun v7 =>
          (qv_sI h false v6 v7 a1).bind fun h8 =>
          (qv_gR h8 2 a0 5).bind fun v9 =>
          (qv_gI h8 2 a0 1).bind fun v10 =>
          (qv_sI h8 false v9 v10 a2).bind fun h11 =>
          (qv_gI h11 2 a0 1).bind fun v12 =>
          (qv_pI h11 2 a0 1 (v12 + (1 : Int32))).bind fun h13 =>
          some ((1 : Int32), h13)
        else
          some ((0 : Int32), h)
abbrev mX3_takeRoad : qv_M := (yX3_takeRoad, cX3_takeRoad, 3, (Option.some Jvm.ClassFile.FieldType.boolean), 1, 21)
set_option maxRecDepth 100000 in
set_option maxHeartbeats 4000000 in
theorem sX3_takeRoad {l : Launch} {g : qv_G} {a0 : Nat} {a1 : Int32} {a2 : Int32} {h : qv_H} {r : Int32} {hz : qv_H} (hs : fX3_takeRoad a0 a1 a2 h = some (r, hz)) : qv_J l g mX3_takeRoad 0 [some (.ref a0), some (.int a1), some (.int a2)] [] h (some (.int r), hz) := by
  unfold fX3_takeRoad at hs
  refine qv_aload_n dX3_takeRoad_0 (i := 0) rfl rfl ?_
  refine qv_iload_n dX3_takeRoad_1 (i := 1) rfl rfl ?_
  obtain ⟨u1, e1, hs⟩ := qv_bind hs
  obtain ⟨v2, e2, hs⟩ := qv_bind hs
  refine qv_cV (d2 := mX3_hasPlace) (o := a0) (ci := 2) (r := some (.int v2)) (h2 := h) (av := [.int a1]) (st := []) dX3_takeRoad_2 qM_X3_114 qD_X3_hasPlace e1 rfl rfl ⟨by decide, by decide⟩ rfl (Nat.le_of_ble_eq_true rfl) (Nat.le_of_ble_eq_true rfl) (sX3_hasPlace e2) rfl ?_
  by_cases c3 : v2 = 0
  · have hs := qv_pos c3 hs
    refine qv_if_eq (tgt := 30) dX3_takeRoad_5 rfl (fun _ => ?_) (fun q => absurd c3 q)
    refine qv_iconst (v := (0 : Int32)) dX3_takeRoad_30 rfl ?_
    obtain ⟨rfl, rfl⟩ := qv_pr hs
    exact qv_zret dX3_takeRoad_31 rfl (by decide)
  · have hs := qv_neg c3 hs
    refine qv_if_eq (tgt := 30) dX3_takeRoad_5 rfl (fun q => absurd q c3) (fun _ => ?_)
    refine qv_aload_n dX3_takeRoad_8 (i := 0) rfl rfl ?_
    refine qv_iload_n dX3_takeRoad_9 (i := 2) rfl rfl ?_
    obtain ⟨u3, e4, hs⟩ := qv_bind hs
    obtain ⟨v4, e5, hs⟩ := qv_bind hs
    refine qv_cV (d2 := mX3_hasPlace) (o := a0) (ci := 2) (r := some (.int v4)) (h2 := h) (av := [.int a2]) (st := []) dX3_takeRoad_10 qM_X3_114 qD_X3_hasPlace e4 rfl rfl ⟨by decide, by decide⟩ rfl (Nat.le_of_ble_eq_true rfl) (Nat.le_of_ble_eq_true rfl) (sX3_hasPlace e5) rfl ?_
    by_cases c6 : v4 = 0
    · have hs := qv_pos c6 hs
      refine qv_if_eq (tgt := 30) dX3_takeRoad_13 rfl (fun _ => ?_) (fun q => absurd c6 q)
      refine qv_iconst (v := (0 : Int32)) dX3_takeRoad_30 rfl ?_
      obtain ⟨rfl, rfl⟩ := qv_pr hs
      exact qv_zret dX3_takeRoad_31 rfl (by decide)
    · have hs := qv_neg c6 hs
      refine qv_if_eq (tgt := 30) dX3_takeRoad_13 rfl (fun q => absurd q c6) (fun _ => ?_)
      refine qv_iload_n dX3_takeRoad_16 (i := 1) rfl rfl ?_
      refine qv_iload_n dX3_takeRoad_17 (i := 2) rfl rfl ?_
      by_cases c7 : a1 = a2
      · have hs := qv_pos c7 hs
        refine qv_icmp_eq (tgt := 30) dX3_takeRoad_18 rfl (fun _ => ?_) (fun q => absurd c7 q)
        refine qv_iconst (v := (0 : Int32)) dX3_takeRoad_30 rfl ?_
        obtain ⟨rfl, rfl⟩ := qv_pr hs
        exact qv_zret dX3_takeRoad_31 rfl (by decide)
      · have hs := qv_neg c7 hs
        refine qv_icmp_eq (tgt := 30) dX3_takeRoad_18 rfl (fun q => absurd q c7) (fun _ => ?_)
        refine qv_aload_n dX3_takeRoad_21 (i := 0) rfl rfl ?_
        obtain ⟨v5, e8, hs⟩ := qv_bind hs
        refine qv_getI dX3_takeRoad_22 qF_X3_15 e8 ?_
        refine qv_bipush (v := (8 : Int32)) dX3_takeRoad_25 rfl ?_
        by_cases c9 : v5 < (8 : Int32)
        · have hs := qv_pos c9 hs
          refine qv_icmp_lt (tgt := 32) dX3_takeRoad_27 rfl (fun _ => ?_) (fun q => absurd c9 q)
          refine qv_aload_n dX3_takeRoad_32 (i := 0) rfl rfl ?_
          obtain ⟨v6, e10, hs⟩ := qv_bind hs
          refine qv_getR dX3_takeRoad_33 qF_X3_24 e10 ?_
          refine qv_aload_n dX3_takeRoad_36 (i := 0) rfl rfl ?_
          obtain ⟨v7, e11, hs⟩ := qv_bind hs
          refine qv_getI dX3_takeRoad_37 qF_X3_15 e11 ?_
          refine qv_iload_n dX3_takeRoad_40 (i := 1) rfl rfl ?_
          obtain ⟨h8, e12, hs⟩ := qv_bind hs
          refine qv_iast dX3_takeRoad_41 e12 ?_
          refine qv_aload_n dX3_takeRoad_42 (i := 0) rfl rfl ?_
          obtain ⟨v9, e13, hs⟩ := qv_bind hs
          refine qv_getR dX3_takeRoad_43 qF_X3_28 e13 ?_
          refine qv_aload_n dX3_takeRoad_46 (i := 0) rfl rfl ?_
          obtain ⟨v10, e14, hs⟩ := qv_bind hs
          refine qv_getI dX3_takeRoad_47 qF_X3_15 e14 ?_
          refine qv_iload_n dX3_takeRoad_50 (i := 2) rfl rfl ?_
          obtain ⟨h11, e15, hs⟩ := qv_bind hs
          refine qv_iast dX3_takeRoad_51 e15 ?_
          refine qv_aload_n dX3_takeRoad_52 (i := 0) rfl rfl ?_
          refine qv_dup dX3_takeRoad_53 rfl ?_
          obtain ⟨v12, e16, hs⟩ := qv_bind hs
          refine qv_getI dX3_takeRoad_54 qF_X3_15 e16 ?_
          refine qv_iconst (v := (1 : Int32)) dX3_takeRoad_57 rfl ?_
          refine qv_iadd dX3_takeRoad_58 ?_
          obtain ⟨h13, e17, hs⟩ := qv_bind hs
          refine qv_putI dX3_takeRoad_59 qF_X3_15 e17 ?_
          refine qv_iconst (v := (1 : Int32)) dX3_takeRoad_62 rfl ?_
          obtain ⟨rfl, rfl⟩ := qv_pr hs
          exact qv_zret dX3_takeRoad_63 rfl (by decide)
        · have hs := qv_neg c9 hs
          refine qv_icmp_lt (tgt := 32) dX3_takeRoad_27 rfl (fun q => absurd q c9) (fun _ => ?_)
          refine qv_iconst (v := (0 : Int32)) dX3_takeRoad_30 rfl ?_
          obtain ⟨rfl, rfl⟩ := qv_pr hs
          exact qv_zret dX3_takeRoad_31 rfl (by decide)
theorem qD_X3_takeRoad : qv_DV mX3_takeRoad 2 := ⟨(qv_i7 (List.mem_of_getElem? (i := 23) (by decide +kernel))), (qv_i0 (List.mem_of_getElem? (i := 6) (by decide +kernel))), (qv_i1 (List.mem_of_getElem? (i := 7) (by decide +kernel))), (qv_i7 (List.mem_of_getElem? (i := 24) (by decide +kernel))), by decide +kernel, by decide +kernel⟩
/-- Land.takeFact()Z -/
noncomputable def fX3_takeFact (a0 : Nat) (h : qv_H) : Option (Int32 × qv_H) :=
  (qv_gI h 2 a0 2).bind fun v1 =>
  if v1 < (4 : Int32) then
    (qv_gI h 2 a0 2).bind fun v2 =>
    (qv_pI h 2 a0 2 (v2 + (1 : Int32))).bind fun h3 =>
    some ((1 : Int32), h3)
  else
    some ((0 : Int32), h)
abbrev mX3_takeFact : qv_M := (yX3_takeFact, cX3_takeFact, 1, (Option.some Jvm.ClassFile.FieldType.boolean), 0, 0)
set_option maxRecDepth 100000 in
set_option maxHeartbeats 4000000 in
theorem sX3_takeFact {l : Launch} {g : qv_G} {a0 : Nat} {h : qv_H} {r : Int32} {hz : qv_H} (hs : fX3_takeFact a0 h = some (r, hz)) : qv_J l g mX3_takeFact 0 [some (.ref a0)] [] h (some (.int r), hz) := by
  unfold fX3_takeFact at hs
  refine qv_aload_n dX3_takeFact_0 (i := 0) rfl rfl ?_
  obtain ⟨v1, e1, hs⟩ := qv_bind hs
  refine qv_getI dX3_takeFact_1 qF_X3_18 e1 ?_
  refine qv_iconst (v := (4 : Int32)) dX3_takeFact_4 rfl ?_
  by_cases c2 : v1 < (4 : Int32)
  · have hs := qv_pos c2 hs
    refine qv_icmp_lt (tgt := 10) dX3_takeFact_5 rfl (fun _ => ?_) (fun q => absurd c2 q)
    refine qv_aload_n dX3_takeFact_10 (i := 0) rfl rfl ?_
    refine qv_dup dX3_takeFact_11 rfl ?_
    obtain ⟨v2, e3, hs⟩ := qv_bind hs
    refine qv_getI dX3_takeFact_12 qF_X3_18 e3 ?_
    refine qv_iconst (v := (1 : Int32)) dX3_takeFact_15 rfl ?_
    refine qv_iadd dX3_takeFact_16 ?_
    obtain ⟨h3, e4, hs⟩ := qv_bind hs
    refine qv_putI dX3_takeFact_17 qF_X3_18 e4 ?_
    refine qv_iconst (v := (1 : Int32)) dX3_takeFact_20 rfl ?_
    obtain ⟨rfl, rfl⟩ := qv_pr hs
    exact qv_zret dX3_takeFact_21 rfl (by decide)
  · have hs := qv_neg c2 hs
    refine qv_icmp_lt (tgt := 10) dX3_takeFact_5 rfl (fun q => absurd q c2) (fun _ => ?_)
    refine qv_iconst (v := (0 : Int32)) dX3_takeFact_8 rfl ?_
    obtain ⟨rfl, rfl⟩ := qv_pr hs
    exact qv_zret dX3_takeFact_9 rfl (by decide)
theorem qD_X3_takeFact : qv_DV mX3_takeFact 0 := ⟨(qv_i7 (List.mem_of_getElem? (i := 30) (by decide +kernel))), (qv_i0 (List.mem_of_getElem? (i := 7) (by decide +kernel))), (qv_i1 (List.mem_of_getElem? (i := 7) (by decide +kernel))), (qv_i7 (List.mem_of_getElem? (i := 31) (by decide +kernel))), by decide +kernel, by decide +kernel⟩
/-- Land.canSpeakOf(III)Z -/
noncomputable def fX3_canSpeakOf (a0 : Nat) (a1 : Int32) (a2 : Int32) (a3 : Int32) (h : qv_H) : Option (Int32) :=
  if a1 = (0 : Int32) then
    (qv_ob h 2 a0).bind fun _ =>
    (fX3_hasFact a0 a2 h).bind fun v26 =>
    (qv_b1 v26).bind fun v27 =>
    some v26
  else
    if a1 = (1 : Int32) then
      (qv_ob h 2 a0).bind fun _ =>
      (fX3_hasFact a0 a2 h).bind fun v23 =>
      (qv_b1 v23).bind fun v24 =>
      some v23
    else
      if a1 = (2 : Int32) then
        (qv_ob h 2 a0).bind fun _ =>
        (fX3_hasFact a0 a2 h).bind fun v17 =>
        Option.bind (α := Int32) (
            if v17 = 0 then
              some (0 : Int32)
            else
              (qv_ob h 2 a0).bind fun _ =>
              (fX3_hasFact a0 a3 h).bind fun v19 =>
              if v19 = 0 then
                some (0 : Int32)
              else
                some (1 : Int32)
          ) fun m20 =>
        (qv_b1 m20).bind fun v21 =>
        some m20
      else
        if a1 = (3 : Int32) then
          (qv_ob h 2 a0).bind fun _ =>
          (fX3_hasFact a0 a2 h).bind fun v11 =>
          Option.bind (α := Int32) (
              if v11 = 0 then
                some (0 : Int32)
              else
                (qv_ob h 2 a0).bind fun _ =>
                (fX3_hasFact a0 a3 h).bind fun v13 =>
                if v13 = 0 then
                  some (0 : Int32)
                else
                  some (1 : Int32)
            ) fun m14 =>
          (qv_b1 m14).bind fun v15 =>
          some m14
        else
          if a1 = (4 : Int32) then
            (qv_ob h 2 a0).bind fun _ =>
            (fX3_hasFact a0 a2 h).bind fun v5 =>
            Option.bind (α := Int32) (
                if v5 = 0 then
                  some (0 : Int32)
                else
                  (qv_ob h 2 a0).bind fun _ =>
                  (fX3_hasFact a0 a3 h).bind fun v7 =>
                  if v7 = 0 then
                    some (0 : Int32)
                  else
                    some (1 : Int32)
              ) fun m8 =>
            (qv_b1 m8).bind fun v9 =>
            some m8
          else
            if a1 = (5 : Int32) then
              Option.bind (α := Int32) (
                  if a2 < 0 then
                    some (0 : Int32)
                  else
                    (qv_gI h 2 a0 3).bind fun v1 =>
                    if v1 < a2 then
                      some (0 : Int32)
                    else
                      some (1 : Int32)
                ) fun m2 =>
              (qv_b1 m2).bind fun v3 =>
              some m2
            else
              if a1 = (6 : Int32) then
                some (1 : Int32)
              else
                some (0 : Int32)
abbrev mX3_canSpeakOf : qv_M := (yX3_canSpeakOf, cX3_canSpeakOf, 4, (Option.some Jvm.ClassFile.FieldType.boolean), 1, 21)
set_option maxRecDepth 100000 in
set_option maxHeartbeats 4000000 in
theorem sX3_canSpeakOf {l : Launch} {g : qv_G} {a0 : Nat} {a1 : Int32} {a2 : Int32} {a3 : Int32} {h : qv_H} {r : Int32} (hs : fX3_canSpeakOf a0 a1 a2 a3 h = some r) : qv_J l g mX3_canSpeakOf 0 [some (.ref a0), some (.int a1), some (.int a2), some (.int a3)] [] h (some (.int r), h) := by
  unfold fX3_canSpeakOf at hs
  refine qv_iload_n dX3_canSpeakOf_0 (i := 1) rfl rfl ?_
  by_cases c1 : a1 = (0 : Int32)
  · have hs := qv_pos c1 hs
    refine qv_tsIn (tgt := 44) (0 : Int32) c1 dX3_canSpeakOf_1 (by decide) (by decide) rfl rfl ?_
    refine qv_aload_n dX3_canSpeakOf_44 (i := 0) rfl rfl ?_
    refine qv_iload_n dX3_canSpeakOf_45 (i := 2) rfl rfl ?_
    obtain ⟨u25, e2, hs⟩ := qv_bind hs
    obtain ⟨v26, e3, hs⟩ := qv_bind hs
    refine qv_cV (d2 := mX3_hasFact) (o := a0) (ci := 2) (r := some (.int v26)) (h2 := h) (av := [.int a2]) (st := []) dX3_canSpeakOf_46 qM_X3_123 qD_X3_hasFact e2 rfl rfl ⟨by decide, by decide⟩ rfl (Nat.le_of_ble_eq_true rfl) (Nat.le_of_ble_eq_true rfl) (sX3_hasFact e3) rfl ?_
    obtain ⟨v27, e4, hs⟩ := qv_bind hs
    obtain rfl := qv_sm hs
    exact qv_zret dX3_canSpeakOf_49 rfl (qv_b1_of e4).1
  · have hs := qv_neg c1 hs
    by_cases c5 : a1 = (1 : Int32)
    · have hs := qv_pos c5 hs
      refine qv_tsIn (tgt := 44) (1 : Int32) c5 dX3_canSpeakOf_1 (by decide) (by decide) rfl rfl ?_
      refine qv_aload_n dX3_canSpeakOf_44 (i := 0) rfl rfl ?_
      refine qv_iload_n dX3_canSpeakOf_45 (i := 2) rfl rfl ?_
      obtain ⟨u22, e6, hs⟩ := qv_bind hs
      obtain ⟨v23, e7, hs⟩ := qv_bind hs
      refine qv_cV (d2 := mX3_hasFact) (o := a0) (ci := 2) (r := some (.int v23)) (h2 := h) (av := [.int a2]) (st := []) dX3_canSpeakOf_46 qM_X3_123 qD_X3_hasFact e6 rfl rfl ⟨by decide, by decide⟩ rfl (Nat.le_of_ble_eq_true rfl) (Nat.le_of_ble_eq_true rfl) (sX3_hasFact e7) rfl ?_
      obtain ⟨v24, e8, hs⟩ := qv_bind hs
      obtain rfl := qv_sm hs
      exact qv_zret dX3_canSpeakOf_49 rfl (qv_b1_of e8).1
    · have hs := qv_neg c5 hs
      by_cases c9 : a1 = (2 : Int32)
      · have hs := qv_pos c9 hs
        refine qv_tsIn (tgt := 50) (2 : Int32) c9 dX3_canSpeakOf_1 (by decide) (by decide) rfl rfl ?_
        refine qv_aload_n dX3_canSpeakOf_50 (i := 0) rfl rfl ?_
        refine qv_iload_n dX3_canSpeakOf_51 (i := 2) rfl rfl ?_
        obtain ⟨u16, e10, hs⟩ := qv_bind hs
        obtain ⟨v17, e11, hs⟩ := qv_bind hs
        refine qv_cV (d2 := mX3_hasFact) (o := a0) (ci := 2) (r := some (.int v17)) (h2 := h) (av := [.int a2]) (st := []) dX3_canSpeakOf_52 qM_X3_123 qD_X3_hasFact e10 rfl rfl ⟨by decide, by decide⟩ rfl (Nat.le_of_ble_eq_true rfl) (Nat.le_of_ble_eq_true rfl) (sX3_hasFact e11) rfl ?_
        obtain ⟨m20, hj13, hs⟩ := qv_bind hs
        have K12 : qv_J l g mX3_canSpeakOf 71 [none, none, none, none] [.int m20] h (some (.int r), h) := by
          obtain ⟨v21, e14, hs⟩ := qv_bind hs
          obtain rfl := qv_sm hs
          exact qv_zret dX3_canSpeakOf_71 rfl (qv_b1_of e14).1
        replace hs := hj13
        by_cases c15 : v17 = 0
        · have hs := qv_pos c15 hs
          refine qv_if_eq (tgt := 70) dX3_canSpeakOf_55 rfl (fun _ => ?_) (fun q => absurd c15 q)
          refine qv_iconst (v := (0 : Int32)) dX3_canSpeakOf_70 rfl ?_
          cases hs
          exact qv_dp (qv_le_n (qv_le_n (qv_le_n (qv_le_n qv_le_0)))) K12
        · have hs := qv_neg c15 hs
          refine qv_if_eq (tgt := 70) dX3_canSpeakOf_55 rfl (fun q => absurd q c15) (fun _ => ?_)
          refine qv_aload_n dX3_canSpeakOf_58 (i := 0) rfl rfl ?_
          refine qv_iload_n dX3_canSpeakOf_59 (i := 3) rfl rfl ?_
          obtain ⟨u18, e16, hs⟩ := qv_bind hs
          obtain ⟨v19, e17, hs⟩ := qv_bind hs
          refine qv_cV (d2 := mX3_hasFact) (o := a0) (ci := 2) (r := some (.int v19)) (h2 := h) (av := [.int a3]) (st := []) dX3_canSpeakOf_60 qM_X3_123 qD_X3_hasFact e16 rfl rfl ⟨by decide, by decide⟩ rfl (Nat.le_of_ble_eq_true rfl) (Nat.le_of_ble_eq_true rfl) (sX3_hasFact e17) rfl ?_
          by_cases c18 : v19 = 0
          · have hs := qv_pos c18 hs
            refine qv_if_eq (tgt := 70) dX3_canSpeakOf_63 rfl (fun _ => ?_) (fun q => absurd c18 q)
            refine qv_iconst (v := (0 : Int32)) dX3_canSpeakOf_70 rfl ?_
            cases hs
            exact qv_dp (qv_le_n (qv_le_n (qv_le_n (qv_le_n qv_le_0)))) K12
          · have hs := qv_neg c18 hs
            refine qv_if_eq (tgt := 70) dX3_canSpeakOf_63 rfl (fun q => absurd q c18) (fun _ => ?_)
            refine qv_iconst (v := (1 : Int32)) dX3_canSpeakOf_66 rfl ?_
            refine qv_goto (tgt := 71) dX3_canSpeakOf_67 rfl ?_
            cases hs
            exact qv_dp (qv_le_n (qv_le_n (qv_le_n (qv_le_n qv_le_0)))) K12
      · have hs := qv_neg c9 hs
        by_cases c19 : a1 = (3 : Int32)
        · have hs := qv_pos c19 hs
          refine qv_tsIn (tgt := 50) (3 : Int32) c19 dX3_canSpeakOf_1 (by decide) (by decide) rfl rfl ?_
          refine qv_aload_n dX3_canSpeakOf_50 (i := 0) rfl rfl ?_
          refine qv_iload_n dX3_canSpeakOf_51 (i := 2) rfl rfl ?_
          obtain ⟨u10, e20, hs⟩ := qv_bind hs
          obtain ⟨v11, e21, hs⟩ := qv_bind hs
          refine qv_cV (d2 := mX3_hasFact) (o := a0) (ci := 2) (r := some (.int v11)) (h2 := h) (av := [.int a2]) (st := []) dX3_canSpeakOf_52 qM_X3_123 qD_X3_hasFact e20 rfl rfl ⟨by decide, by decide⟩ rfl (Nat.le_of_ble_eq_true rfl) (Nat.le_of_ble_eq_true rfl) (sX3_hasFact e21) rfl ?_
          obtain ⟨m14, hj23, hs⟩ := qv_bind hs
          have K22 : qv_J l g mX3_canSpeakOf 71 [none, none, none, none] [.int m14] h (some (.int r), h) := by
            obtain ⟨v15, e24, hs⟩ := qv_bind hs
            obtain rfl := qv_sm hs
            exact qv_zret dX3_canSpeakOf_71 rfl (qv_b1_of e24).1
          replace hs := hj23
          by_cases c25 : v11 = 0
          · have hs := qv_pos c25 hs
            refine qv_if_eq (tgt := 70) dX3_canSpeakOf_55 rfl (fun _ => ?_) (fun q => absurd c25 q)
            refine qv_iconst (v := (0 : Int32)) dX3_canSpeakOf_70 rfl ?_
            cases hs
            exact qv_dp (qv_le_n (qv_le_n (qv_le_n (qv_le_n qv_le_0)))) K22
          · have hs := qv_neg c25 hs
            refine qv_if_eq (tgt := 70) dX3_canSpeakOf_55 rfl (fun q => absurd q c25) (fun _ => ?_)
            refine qv_aload_n dX3_canSpeakOf_58 (i := 0) rfl rfl ?_
            refine qv_iload_n dX3_canSpeakOf_59 (i := 3) rfl rfl ?_
            obtain ⟨u12, e26, hs⟩ := qv_bind hs
            obtain ⟨v13, e27, hs⟩ := qv_bind hs
            refine qv_cV (d2 := mX3_hasFact) (o := a0) (ci := 2) (r := some (.int v13)) (h2 := h) (av := [.int a3]) (st := []) dX3_canSpeakOf_60 qM_X3_123 qD_X3_hasFact e26 rfl rfl ⟨by decide, by decide⟩ rfl (Nat.le_of_ble_eq_true rfl) (Nat.le_of_ble_eq_true rfl) (sX3_hasFact e27) rfl ?_
            by_cases c28 : v13 = 0
            · have hs := qv_pos c28 hs
              refine qv_if_eq (tgt := 70) dX3_canSpeakOf_63 rfl (fun _ => ?_) (fun q => absurd c28 q)
              refine qv_iconst (v := (0 : Int32)) dX3_canSpeakOf_70 rfl ?_
              cases hs
              exact qv_dp (qv_le_n (qv_le_n (qv_le_n (qv_le_n qv_le_0)))) K22
            · have hs := qv_neg c28 hs
              refine qv_if_eq (tgt := 70) dX3_canSpeakOf_63 rfl (fun q => absurd q c28) (fun _ => ?_)
              refine qv_iconst (v := (1 : Int32)) dX3_canSpeakOf_66 rfl ?_
              refine qv_goto (tgt := 71) dX3_canSpeakOf_67 rfl ?_
              cases hs
              exact qv_dp (qv_le_n (qv_le_n (qv_le_n (qv_le_n qv_le_0)))) K22
        · have hs := qv_neg c19 hs
          by_cases c29 : a1 = (4 : Int32)
          · have hs := qv_pos c29 hs
            refine qv_tsIn (tgt := 50) (4 : Int32) c29 dX3_canSpeakOf_1 (by decide) (by decide) rfl rfl ?_
            refine qv_aload_n dX3_canSpeakOf_50 (i := 0) rfl rfl ?_
            refine qv_iload_n dX3_canSpeakOf_51 (i := 2) rfl rfl ?_
            obtain ⟨u4, e30, hs⟩ := qv_bind hs
            obtain ⟨v5, e31, hs⟩ := qv_bind hs
            refine qv_cV (d2 := mX3_hasFact) (o := a0) (ci := 2) (r := some (.int v5)) (h2 := h) (av := [.int a2]) (st := []) dX3_canSpeakOf_52 qM_X3_123 qD_X3_hasFact e30 rfl rfl ⟨by decide, by decide⟩ rfl (Nat.le_of_ble_eq_true rfl) (Nat.le_of_ble_eq_true rfl) (sX3_hasFact e31) rfl ?_
            obtain ⟨m8, hj33, hs⟩ := qv_bind hs
            have K32 : qv_J l g mX3_canSpeakOf 71 [none, none, none, none] [.int m8] h (some (.int r), h) := by
              obtain ⟨v9, e34, hs⟩ := qv_bind hs
              obtain rfl := qv_sm hs
              exact qv_zret dX3_canSpeakOf_71 rfl (qv_b1_of e34).1
            replace hs := hj33
            by_cases c35 : v5 = 0
            · have hs := qv_pos c35 hs
              refine qv_if_eq (tgt := 70) dX3_canSpeakOf_55 rfl (fun _ => ?_) (fun q => absurd c35 q)
              refine qv_iconst (v := (0 : Int32)) dX3_canSpeakOf_70 rfl ?_
              cases hs
              exact qv_dp (qv_le_n (qv_le_n (qv_le_n (qv_le_n qv_le_0)))) K32
            · have hs := qv_neg c35 hs
              refine qv_if_eq (tgt := 70) dX3_canSpeakOf_55 rfl (fun q => absurd q c35) (fun _ => ?_)
              refine qv_aload_n dX3_canSpeakOf_58 (i := 0) rfl rfl ?_
              refine qv_iload_n dX3_canSpeakOf_59 (i := 3) rfl rfl ?_
              obtain ⟨u6, e36, hs⟩ := qv_bind hs
              obtain ⟨v7, e37, hs⟩ := qv_bind hs
              refine qv_cV (d2 := mX3_hasFact) (o := a0) (ci := 2) (r := some (.int v7)) (h2 := h) (av := [.int a3]) (st := []) dX3_canSpeakOf_60 qM_X3_123 qD_X3_hasFact e36 rfl rfl ⟨by decide, by decide⟩ rfl (Nat.le_of_ble_eq_true rfl) (Nat.le_of_ble_eq_true rfl) (sX3_hasFact e37) rfl ?_
              by_cases c38 : v7 = 0
              · have hs := qv_pos c38 hs
                refine qv_if_eq (tgt := 70) dX3_canSpeakOf_63 rfl (fun _ => ?_) (fun q => absurd c38 q)
                refine qv_iconst (v := (0 : Int32)) dX3_canSpeakOf_70 rfl ?_
                cases hs
                exact qv_dp (qv_le_n (qv_le_n (qv_le_n (qv_le_n qv_le_0)))) K32
              · have hs := qv_neg c38 hs
                refine qv_if_eq (tgt := 70) dX3_canSpeakOf_63 rfl (fun q => absurd q c38) (fun _ => ?_)
                refine qv_iconst (v := (1 : Int32)) dX3_canSpeakOf_66 rfl ?_
                refine qv_goto (tgt := 71) dX3_canSpeakOf_67 rfl ?_
                cases hs
                exact qv_dp (qv_le_n (qv_le_n (qv_le_n (qv_le_n qv_le_0)))) K32
          · have hs := qv_neg c29 hs
            by_cases c39 : a1 = (5 : Int32)
            · have hs := qv_pos c39 hs
              refine qv_tsIn (tgt := 72) (5 : Int32) c39 dX3_canSpeakOf_1 (by decide) (by decide) rfl rfl ?_
              refine qv_iload_n dX3_canSpeakOf_72 (i := 2) rfl rfl ?_
              obtain ⟨m2, hj41, hs⟩ := qv_bind hs
              have K40 : qv_J l g mX3_canSpeakOf 89 [none, none, none, none] [.int m2] h (some (.int r), h) := by
                obtain ⟨v3, e42, hs⟩ := qv_bind hs
                obtain rfl := qv_sm hs
                exact qv_zret dX3_canSpeakOf_89 rfl (qv_b1_of e42).1
              replace hs := hj41
              by_cases c43 : a2 < 0
              · have hs := qv_pos c43 hs
                refine qv_if_lt (tgt := 88) dX3_canSpeakOf_73 rfl (fun _ => ?_) (fun q => absurd c43 q)
                refine qv_iconst (v := (0 : Int32)) dX3_canSpeakOf_88 rfl ?_
                cases hs
                exact qv_dp (qv_le_n (qv_le_n (qv_le_n (qv_le_n qv_le_0)))) K40
              · have hs := qv_neg c43 hs
                refine qv_if_lt (tgt := 88) dX3_canSpeakOf_73 rfl (fun q => absurd q c43) (fun _ => ?_)
                refine qv_iload_n dX3_canSpeakOf_76 (i := 2) rfl rfl ?_
                refine qv_aload_n dX3_canSpeakOf_77 (i := 0) rfl rfl ?_
                obtain ⟨v1, e44, hs⟩ := qv_bind hs
                refine qv_getI dX3_canSpeakOf_78 qF_X3_21 e44 ?_
                by_cases c45 : v1 < a2
                · have hs := qv_pos c45 hs
                  refine qv_icmp_gt (tgt := 88) dX3_canSpeakOf_81 rfl (fun _ => ?_) (fun q => absurd c45 q)
                  refine qv_iconst (v := (0 : Int32)) dX3_canSpeakOf_88 rfl ?_
                  cases hs
                  exact qv_dp (qv_le_n (qv_le_n (qv_le_n (qv_le_n qv_le_0)))) K40
                · have hs := qv_neg c45 hs
                  refine qv_icmp_gt (tgt := 88) dX3_canSpeakOf_81 rfl (fun q => absurd q c45) (fun _ => ?_)
                  refine qv_iconst (v := (1 : Int32)) dX3_canSpeakOf_84 rfl ?_
                  refine qv_goto (tgt := 89) dX3_canSpeakOf_85 rfl ?_
                  cases hs
                  exact qv_dp (qv_le_n (qv_le_n (qv_le_n (qv_le_n qv_le_0)))) K40
            · have hs := qv_neg c39 hs
              by_cases c46 : a1 = (6 : Int32)
              · have hs := qv_pos c46 hs
                refine qv_tsIn (tgt := 90) (6 : Int32) c46 dX3_canSpeakOf_1 (by decide) (by decide) rfl rfl ?_
                refine qv_iconst (v := (1 : Int32)) dX3_canSpeakOf_90 rfl ?_
                obtain rfl := qv_sm hs
                exact qv_zret dX3_canSpeakOf_91 rfl (by decide)
              · have hs := qv_neg c46 hs
                refine qv_tsDef (tgt := 92) dX3_canSpeakOf_1 (fun j hj ej => ?_) rfl ?_
                · rcases (show j = 0 ∨ j = 1 ∨ j = 2 ∨ j = 3 ∨ j = 4 ∨ j = 5 ∨ j = 6 by omega) with rfl | rfl | rfl | rfl | rfl | rfl | rfl
                  · exact absurd (Int32.toInt_inj.mp (by rw [ej]; rfl)) c1
                  · exact absurd (Int32.toInt_inj.mp (by rw [ej]; rfl)) c5
                  · exact absurd (Int32.toInt_inj.mp (by rw [ej]; rfl)) c9
                  · exact absurd (Int32.toInt_inj.mp (by rw [ej]; rfl)) c19
                  · exact absurd (Int32.toInt_inj.mp (by rw [ej]; rfl)) c29
                  · exact absurd (Int32.toInt_inj.mp (by rw [ej]; rfl)) c39
                  · exact absurd (Int32.toInt_inj.mp (by rw [ej]; rfl)) c46
                refine qv_iconst (v := (0 : Int32)) dX3_canSpeakOf_92 rfl ?_
                obtain rfl := qv_sm hs
                exact qv_zret dX3_canSpeakOf_93 rfl (by decide)
theorem qD_X3_canSpeakOf : qv_DV mX3_canSpeakOf 3 := ⟨(qv_i7 (List.mem_of_getElem? (i := 44) (by decide +kernel))), (qv_i0 (List.mem_of_getElem? (i := 9) (by decide +kernel))), (qv_i1 (List.mem_of_getElem? (i := 7) (by decide +kernel))), (qv_i7 (List.mem_of_getElem? (i := 45) (by decide +kernel))), by decide +kernel, by decide +kernel⟩
/-- Land.takeSign(IIII)Z -/
noncomputable def fX3_takeSign (a0 : Nat) (a1 : Int32) (a2 : Int32) (a3 : Int32) (a4 : Int32) (h : qv_H) : Option (Int32 × qv_H) :=
  (qv_ob h 2 a0).bind fun _ =>
  (fX3_hasRoad a0 a1 h).bind fun v2 =>
  if v2 = 0 then
    some ((0 : Int32), h)
  else
    (qv_gI h 2 a0 3).bind fun v3 =>
    if (6 : Int32) ≤ v3 then
      some ((0 : Int32), h)
    else
      (qv_ob h 2 a0).bind fun _ =>
      (fX3_canSpeakOf a0 a2 a3 a4 h).bind fun v5 =>
      if v5 = 0 then
        some ((0 : Int32), h)
      else
        (qv_gR h 2 a0 6).bind fun v6 =>
        (qv_gI h 2 a0 3).bind fun v7 =>
        (qv_sI h false v6 v7 a2).bind fun h8 =>
        (qv_gR h8 2 a0 7).bind fun v9 =>
        (qv_gI h8 2 a0 3).bind fun v10 =>
        (qv_sI h8 false v9 v10 a1).bind fun h11 =>
        (qv_gR h11 2 a0 8).bind fun v12 =>
        (qv_gI h11 2 a0 3).bind fun v13 =>
        (qv_sI h11 false v12 v13 a3).bind fun h14 =>
        (qv_gR h14 2 a0 9).bind fun v15 =>
        (qv_gI h14 2 a0 3).bind fun v16 =>
        (qv_sI h14 false v15 v16 a4).bind fun h17 =>
        (qv_gI h17 2 a0 3).bind fun v18 =>
        (qv_pI h17 2 a0 3 (v18 + (1 : Int32))).bind fun h19 =>
        some ((1 : Int32), h19)
abbrev mX3_takeSign : qv_M := (yX3_takeSign, cX3_takeSign, 5, (Option.some Jvm.ClassFile.FieldType.boolean), 2, 44)
set_option maxRecDepth 100000 in
set_option maxHeartbeats 4000000 in
theorem sX3_takeSign {l : Launch} {g : qv_G} {a0 : Nat} {a1 : Int32} {a2 : Int32} {a3 : Int32} {a4 : Int32} {h : qv_H} {r : Int32} {hz : qv_H} (hs : fX3_takeSign a0 a1 a2 a3 a4 h = some (r, hz)) : qv_J l g mX3_takeSign 0 [some (.ref a0), some (.int a1), some (.int a2), some (.int a3), some (.int a4)] [] h (some (.int r), hz) := by
  unfold fX3_takeSign at hs
  refine qv_aload_n dX3_takeSign_0 (i := 0) rfl rfl ?_
  refine qv_iload_n dX3_takeSign_1 (i := 1) rfl rfl ?_
  obtain ⟨u1, e1, hs⟩ := qv_bind hs
  obtain ⟨v2, e2, hs⟩ := qv_bind hs
  refine qv_cV (d2 := mX3_hasRoad) (o := a0) (ci := 2) (r := some (.int v2)) (h2 := h) (av := [.int a1]) (st := []) dX3_takeSign_2 qM_X3_117 qD_X3_hasRoad e1 rfl rfl ⟨by decide, by decide⟩ rfl (Nat.le_of_ble_eq_true rfl) (Nat.le_of_ble_eq_true rfl) (sX3_hasRoad e2) rfl ?_
  by_cases c3 : v2 = 0
  · have hs := qv_pos c3 hs
    refine qv_if_eq (tgt := 28) dX3_takeSign_5 rfl (fun _ => ?_) (fun q => absurd c3 q)
    refine qv_iconst (v := (0 : Int32)) dX3_takeSign_28 rfl ?_
    obtain ⟨rfl, rfl⟩ := qv_pr hs
    exact qv_zret dX3_takeSign_29 rfl (by decide)
  · have hs := qv_neg c3 hs
    refine qv_if_eq (tgt := 28) dX3_takeSign_5 rfl (fun q => absurd q c3) (fun _ => ?_)
    refine qv_aload_n dX3_takeSign_8 (i := 0) rfl rfl ?_
    obtain ⟨v3, e4, hs⟩ := qv_bind hs
    refine qv_getI dX3_takeSign_9 qF_X3_21 e4 ?_
    refine qv_bipush (v := (6 : Int32)) dX3_takeSign_12 rfl ?_
    by_cases c5 : (6 : Int32) ≤ v3
    · have hs := qv_pos c5 hs
      refine qv_icmp_ge (tgt := 28) dX3_takeSign_14 rfl (fun _ => ?_) (fun q => absurd c5 q)
      refine qv_iconst (v := (0 : Int32)) dX3_takeSign_28 rfl ?_
      obtain ⟨rfl, rfl⟩ := qv_pr hs
      exact qv_zret dX3_takeSign_29 rfl (by decide)
    · have hs := qv_neg c5 hs
      refine qv_icmp_ge (tgt := 28) dX3_takeSign_14 rfl (fun q => absurd q c5) (fun _ => ?_)
      refine qv_aload_n dX3_takeSign_17 (i := 0) rfl rfl ?_
      refine qv_iload_n dX3_takeSign_18 (i := 2) rfl rfl ?_
      refine qv_iload_n dX3_takeSign_19 (i := 3) rfl rfl ?_
      refine qv_iload dX3_takeSign_20 rfl ?_
      obtain ⟨u4, e6, hs⟩ := qv_bind hs
      obtain ⟨v5, e7, hs⟩ := qv_bind hs
      refine qv_cV (d2 := mX3_canSpeakOf) (o := a0) (ci := 2) (r := some (.int v5)) (h2 := h) (av := [.int a2, .int a3, .int a4]) (st := []) dX3_takeSign_22 qM_X3_120 qD_X3_canSpeakOf e6 rfl rfl ⟨by decide, by decide⟩ rfl (Nat.le_of_ble_eq_true rfl) (Nat.le_of_ble_eq_true rfl) (sX3_canSpeakOf e7) rfl ?_
      by_cases c8 : v5 = 0
      · have hs := qv_pos c8 hs
        refine qv_if_ne (tgt := 30) dX3_takeSign_25 rfl (fun q => absurd c8 q) (fun _ => ?_)
        refine qv_iconst (v := (0 : Int32)) dX3_takeSign_28 rfl ?_
        obtain ⟨rfl, rfl⟩ := qv_pr hs
        exact qv_zret dX3_takeSign_29 rfl (by decide)
      · have hs := qv_neg c8 hs
        refine qv_if_ne (tgt := 30) dX3_takeSign_25 rfl (fun _ => ?_) (fun q => absurd q c8)
        refine qv_aload_n dX3_takeSign_30 (i := 0) rfl rfl ?_
        obtain ⟨v6, e9, hs⟩ := qv_bind hs
        refine qv_getR dX3_takeSign_31 qF_X3_31 e9 ?_
        refine qv_aload_n dX3_takeSign_34 (i := 0) rfl rfl ?_
        obtain ⟨v7, e10, hs⟩ := qv_bind hs
        refine qv_getI dX3_takeSign_35 qF_X3_21 e10 ?_
        refine qv_iload_n dX3_takeSign_38 (i := 2) rfl rfl ?_
        obtain ⟨h8, e11, hs⟩ := qv_bind hs
        refine qv_iast dX3_takeSign_39 e11 ?_
        refine qv_aload_n dX3_takeSign_40 (i := 0) rfl rfl ?_
        obtain ⟨v9, e12, hs⟩ := qv_bind hs
        refine qv_getR dX3_takeSign_41 qF_X3_34 e12 ?_
        refine qv_aload_n dX3_takeSign_44 (i := 0) rfl rfl ?_
        obtain ⟨v10, e13, hs⟩ := qv_bind hs
        refine qv_getI dX3_takeSign_45 qF_X3_21 e13 ?_
        refine qv_iload_n dX3_takeSign_48 (i := 1) rfl rfl ?_
        obtain ⟨h11, e14, hs⟩ := qv_bind hs
        refine qv_iast dX3_takeSign_49 e14 ?_
        refine qv_aload_n dX3_takeSign_50 (i := 0) rfl rfl ?_
        obtain ⟨v12, e15, hs⟩ := qv_bind hs
        refine qv_getR dX3_takeSign_51 qF_X3_37 e15 ?_
        refine qv_aload_n dX3_takeSign_54 (i := 0) rfl rfl ?_
        obtain ⟨v13, e16, hs⟩ := qv_bind hs
        refine qv_getI dX3_takeSign_55 qF_X3_21 e16 ?_
        refine qv_iload_n dX3_takeSign_58 (i := 3) rfl rfl ?_
        obtain ⟨h14, e17, hs⟩ := qv_bind hs
        refine qv_iast dX3_takeSign_59 e17 ?_
        refine qv_aload_n dX3_takeSign_60 (i := 0) rfl rfl ?_
        obtain ⟨v15, e18, hs⟩ := qv_bind hs
        refine qv_getR dX3_takeSign_61 qF_X3_40 e18 ?_
        refine qv_aload_n dX3_takeSign_64 (i := 0) rfl rfl ?_
        obtain ⟨v16, e19, hs⟩ := qv_bind hs
        refine qv_getI dX3_takeSign_65 qF_X3_21 e19 ?_
        refine qv_iload dX3_takeSign_68 rfl ?_
        obtain ⟨h17, e20, hs⟩ := qv_bind hs
        refine qv_iast dX3_takeSign_70 e20 ?_
        refine qv_aload_n dX3_takeSign_71 (i := 0) rfl rfl ?_
        refine qv_dup dX3_takeSign_72 rfl ?_
        obtain ⟨v18, e21, hs⟩ := qv_bind hs
        refine qv_getI dX3_takeSign_73 qF_X3_21 e21 ?_
        refine qv_iconst (v := (1 : Int32)) dX3_takeSign_76 rfl ?_
        refine qv_iadd dX3_takeSign_77 ?_
        obtain ⟨h19, e22, hs⟩ := qv_bind hs
        refine qv_putI dX3_takeSign_78 qF_X3_21 e22 ?_
        refine qv_iconst (v := (1 : Int32)) dX3_takeSign_81 rfl ?_
        obtain ⟨rfl, rfl⟩ := qv_pr hs
        exact qv_zret dX3_takeSign_82 rfl (by decide)
theorem qD_X3_takeSign : qv_DV mX3_takeSign 4 := ⟨(qv_i7 (List.mem_of_getElem? (i := 37) (by decide +kernel))), (qv_i0 (List.mem_of_getElem? (i := 8) (by decide +kernel))), (qv_i1 (List.mem_of_getElem? (i := 7) (by decide +kernel))), (qv_i7 (List.mem_of_getElem? (i := 38) (by decide +kernel))), by decide +kernel, by decide +kernel⟩
/-- Land.takeShown(II)Z -/
noncomputable def fX3_takeShown (a0 : Nat) (a1 : Int32) (a2 : Int32) (h : qv_H) : Option (Int32 × qv_H) :=
  (qv_ob h 2 a0).bind fun _ =>
  (fX3_hasPlace a0 a1 h).bind fun v2 =>
  if v2 = 0 then
    some ((0 : Int32), h)
  else
    (qv_ob h 2 a0).bind fun _ =>
    (fX3_hasFact a0 a2 h).bind fun v4 =>
    if v4 = 0 then
      some ((0 : Int32), h)
    else
      (qv_gR h 2 a0 10).bind fun v5 =>
      (qv_aI h false v5 a1).bind fun v6 =>
      (qv_sI h false v5 a1 (v6 ||| ((1 : Int32) <<< (a2 &&& 31)))).bind fun h7 =>
      some ((1 : Int32), h7)
abbrev mX3_takeShown : qv_M := (yX3_takeShown, cX3_takeShown, 3, (Option.some Jvm.ClassFile.FieldType.boolean), 1, 21)
set_option maxRecDepth 100000 in
set_option maxHeartbeats 4000000 in
theorem sX3_takeShown {l : Launch} {g : qv_G} {a0 : Nat} {a1 : Int32} {a2 : Int32} {h : qv_H} {r : Int32} {hz : qv_H} (hs : fX3_takeShown a0 a1 a2 h = some (r, hz)) : qv_J l g mX3_takeShown 0 [some (.ref a0), some (.int a1), some (.int a2)] [] h (some (.int r), hz) := by
  unfold fX3_takeShown at hs
  refine qv_aload_n dX3_takeShown_0 (i := 0) rfl rfl ?_
  refine qv_iload_n dX3_takeShown_1 (i := 1) rfl rfl ?_
  obtain ⟨u1, e1, hs⟩ := qv_bind hs
  obtain ⟨v2, e2, hs⟩ := qv_bind hs
  refine qv_cV (d2 := mX3_hasPlace) (o := a0) (ci := 2) (r := some (.int v2)) (h2 := h) (av := [.int a1]) (st := []) dX3_takeShown_2 qM_X3_114 qD_X3_hasPlace e1 rfl rfl ⟨by decide, by decide⟩ rfl (Nat.le_of_ble_eq_true rfl) (Nat.le_of_ble_eq_true rfl) (sX3_hasPlace e2) rfl ?_
  by_cases c3 : v2 = 0
  · have hs := qv_pos c3 hs
    refine qv_if_eq (tgt := 16) dX3_takeShown_5 rfl (fun _ => ?_) (fun q => absurd c3 q)
    refine qv_iconst (v := (0 : Int32)) dX3_takeShown_16 rfl ?_
    obtain ⟨rfl, rfl⟩ := qv_pr hs
    exact qv_zret dX3_takeShown_17 rfl (by decide)
  · have hs := qv_neg c3 hs
    refine qv_if_eq (tgt := 16) dX3_takeShown_5 rfl (fun q => absurd q c3) (fun _ => ?_)
    refine qv_aload_n dX3_takeShown_8 (i := 0) rfl rfl ?_
    refine qv_iload_n dX3_takeShown_9 (i := 2) rfl rfl ?_
    obtain ⟨u3, e4, hs⟩ := qv_bind hs
    obtain ⟨v4, e5, hs⟩ := qv_bind hs
    refine qv_cV (d2 := mX3_hasFact) (o := a0) (ci := 2) (r := some (.int v4)) (h2 := h) (av := [.int a2]) (st := []) dX3_takeShown_10 qM_X3_123 qD_X3_hasFact e4 rfl rfl ⟨by decide, by decide⟩ rfl (Nat.le_of_ble_eq_true rfl) (Nat.le_of_ble_eq_true rfl) (sX3_hasFact e5) rfl ?_
    by_cases c6 : v4 = 0
    · have hs := qv_pos c6 hs
      refine qv_if_ne (tgt := 18) dX3_takeShown_13 rfl (fun q => absurd c6 q) (fun _ => ?_)
      refine qv_iconst (v := (0 : Int32)) dX3_takeShown_16 rfl ?_
      obtain ⟨rfl, rfl⟩ := qv_pr hs
      exact qv_zret dX3_takeShown_17 rfl (by decide)
    · have hs := qv_neg c6 hs
      refine qv_if_ne (tgt := 18) dX3_takeShown_13 rfl (fun _ => ?_) (fun q => absurd q c6)
      refine qv_aload_n dX3_takeShown_18 (i := 0) rfl rfl ?_
      obtain ⟨v5, e7, hs⟩ := qv_bind hs
      refine qv_getR dX3_takeShown_19 qF_X3_43 e7 ?_
      refine qv_iload_n dX3_takeShown_22 (i := 1) rfl rfl ?_
      refine qv_dup2 dX3_takeShown_23 rfl rfl ?_
      obtain ⟨v6, e8, hs⟩ := qv_bind hs
      refine qv_iald dX3_takeShown_24 e8 ?_
      refine qv_iconst (v := (1 : Int32)) dX3_takeShown_25 rfl ?_
      refine qv_iload_n dX3_takeShown_26 (i := 2) rfl rfl ?_
      refine qv_ishl dX3_takeShown_27 ?_
      refine qv_ior dX3_takeShown_28 ?_
      obtain ⟨h7, e9, hs⟩ := qv_bind hs
      refine qv_iast dX3_takeShown_29 e9 ?_
      refine qv_iconst (v := (1 : Int32)) dX3_takeShown_30 rfl ?_
      obtain ⟨rfl, rfl⟩ := qv_pr hs
      exact qv_zret dX3_takeShown_31 rfl (by decide)
theorem qD_X3_takeShown : qv_DV mX3_takeShown 2 := ⟨(qv_i7 (List.mem_of_getElem? (i := 51) (by decide +kernel))), (qv_i0 (List.mem_of_getElem? (i := 10) (by decide +kernel))), (qv_i1 (List.mem_of_getElem? (i := 7) (by decide +kernel))), (qv_i7 (List.mem_of_getElem? (i := 52) (by decide +kernel))), by decide +kernel, by decide +kernel⟩
/-- Land.takeInn(III)Z -/
noncomputable def fX3_takeInn (a0 : Nat) (a1 : Int32) (a2 : Int32) (a3 : Int32) (h : qv_H) : Option (Int32 × qv_H) :=
  (qv_ob h 2 a0).bind fun _ =>
  (fX3_hasPlace a0 a1 h).bind fun v2 =>
  if v2 = 0 then
    some ((0 : Int32), h)
  else
    (qv_ob h 2 a0).bind fun _ =>
    (fX3_hasPlace a0 a2 h).bind fun v4 =>
    if v4 = 0 then
      some ((0 : Int32), h)
    else
      if a1 = a2 then
        some ((0 : Int32), h)
      else
        (qv_ob h 2 a0).bind fun _ =>
        (fX3_hasFact a0 a3 h).bind fun v6 =>
        if v6 = 0 then
          some ((0 : Int32), h)
        else
          (qv_pI h 2 a0 11 a1).bind fun h7 =>
          (qv_pI h7 2 a0 12 a2).bind fun h8 =>
          (qv_pI h8 2 a0 13 a3).bind fun h9 =>
          some ((1 : Int32), h9)
abbrev mX3_takeInn : qv_M := (yX3_takeInn, cX3_takeInn, 4, (Option.some Jvm.ClassFile.FieldType.boolean), 1, 21)
set_option maxRecDepth 100000 in
set_option maxHeartbeats 4000000 in
theorem sX3_takeInn {l : Launch} {g : qv_G} {a0 : Nat} {a1 : Int32} {a2 : Int32} {a3 : Int32} {h : qv_H} {r : Int32} {hz : qv_H} (hs : fX3_takeInn a0 a1 a2 a3 h = some (r, hz)) : qv_J l g mX3_takeInn 0 [some (.ref a0), some (.int a1), some (.int a2), some (.int a3)] [] h (some (.int r), hz) := by
  unfold fX3_takeInn at hs
  refine qv_aload_n dX3_takeInn_0 (i := 0) rfl rfl ?_
  refine qv_iload_n dX3_takeInn_1 (i := 1) rfl rfl ?_
  obtain ⟨u1, e1, hs⟩ := qv_bind hs
  obtain ⟨v2, e2, hs⟩ := qv_bind hs
  refine qv_cV (d2 := mX3_hasPlace) (o := a0) (ci := 2) (r := some (.int v2)) (h2 := h) (av := [.int a1]) (st := []) dX3_takeInn_2 qM_X3_114 qD_X3_hasPlace e1 rfl rfl ⟨by decide, by decide⟩ rfl (Nat.le_of_ble_eq_true rfl) (Nat.le_of_ble_eq_true rfl) (sX3_hasPlace e2) rfl ?_
  by_cases c3 : v2 = 0
  · have hs := qv_pos c3 hs
    refine qv_if_eq (tgt := 29) dX3_takeInn_5 rfl (fun _ => ?_) (fun q => absurd c3 q)
    refine qv_iconst (v := (0 : Int32)) dX3_takeInn_29 rfl ?_
    obtain ⟨rfl, rfl⟩ := qv_pr hs
    exact qv_zret dX3_takeInn_30 rfl (by decide)
  · have hs := qv_neg c3 hs
    refine qv_if_eq (tgt := 29) dX3_takeInn_5 rfl (fun q => absurd q c3) (fun _ => ?_)
    refine qv_aload_n dX3_takeInn_8 (i := 0) rfl rfl ?_
    refine qv_iload_n dX3_takeInn_9 (i := 2) rfl rfl ?_
    obtain ⟨u3, e4, hs⟩ := qv_bind hs
    obtain ⟨v4, e5, hs⟩ := qv_bind hs
    refine qv_cV (d2 := mX3_hasPlace) (o := a0) (ci := 2) (r := some (.int v4)) (h2 := h) (av := [.int a2]) (st := []) dX3_takeInn_10 qM_X3_114 qD_X3_hasPlace e4 rfl rfl ⟨by decide, by decide⟩ rfl (Nat.le_of_ble_eq_true rfl) (Nat.le_of_ble_eq_true rfl) (sX3_hasPlace e5) rfl ?_
    by_cases c6 : v4 = 0
    · have hs := qv_pos c6 hs
      refine qv_if_eq (tgt := 29) dX3_takeInn_13 rfl (fun _ => ?_) (fun q => absurd c6 q)
      refine qv_iconst (v := (0 : Int32)) dX3_takeInn_29 rfl ?_
      obtain ⟨rfl, rfl⟩ := qv_pr hs
      exact qv_zret dX3_takeInn_30 rfl (by decide)
    · have hs := qv_neg c6 hs
      refine qv_if_eq (tgt := 29) dX3_takeInn_13 rfl (fun q => absurd q c6) (fun _ => ?_)
      refine qv_iload_n dX3_takeInn_16 (i := 1) rfl rfl ?_
      refine qv_iload_n dX3_takeInn_17 (i := 2) rfl rfl ?_
      by_cases c7 : a1 = a2
      · have hs := qv_pos c7 hs
        refine qv_icmp_eq (tgt := 29) dX3_takeInn_18 rfl (fun _ => ?_) (fun q => absurd c7 q)
        refine qv_iconst (v := (0 : Int32)) dX3_takeInn_29 rfl ?_
        obtain ⟨rfl, rfl⟩ := qv_pr hs
        exact qv_zret dX3_takeInn_30 rfl (by decide)
      · have hs := qv_neg c7 hs
        refine qv_icmp_eq (tgt := 29) dX3_takeInn_18 rfl (fun q => absurd q c7) (fun _ => ?_)
        refine qv_aload_n dX3_takeInn_21 (i := 0) rfl rfl ?_
        refine qv_iload_n dX3_takeInn_22 (i := 3) rfl rfl ?_
        obtain ⟨u5, e8, hs⟩ := qv_bind hs
        obtain ⟨v6, e9, hs⟩ := qv_bind hs
        refine qv_cV (d2 := mX3_hasFact) (o := a0) (ci := 2) (r := some (.int v6)) (h2 := h) (av := [.int a3]) (st := []) dX3_takeInn_23 qM_X3_123 qD_X3_hasFact e8 rfl rfl ⟨by decide, by decide⟩ rfl (Nat.le_of_ble_eq_true rfl) (Nat.le_of_ble_eq_true rfl) (sX3_hasFact e9) rfl ?_
        by_cases c10 : v6 = 0
        · have hs := qv_pos c10 hs
          refine qv_if_ne (tgt := 31) dX3_takeInn_26 rfl (fun q => absurd c10 q) (fun _ => ?_)
          refine qv_iconst (v := (0 : Int32)) dX3_takeInn_29 rfl ?_
          obtain ⟨rfl, rfl⟩ := qv_pr hs
          exact qv_zret dX3_takeInn_30 rfl (by decide)
        · have hs := qv_neg c10 hs
          refine qv_if_ne (tgt := 31) dX3_takeInn_26 rfl (fun _ => ?_) (fun q => absurd q c10)
          refine qv_aload_n dX3_takeInn_31 (i := 0) rfl rfl ?_
          refine qv_iload_n dX3_takeInn_32 (i := 1) rfl rfl ?_
          obtain ⟨h7, e11, hs⟩ := qv_bind hs
          refine qv_putI dX3_takeInn_33 qF_X3_46 e11 ?_
          refine qv_aload_n dX3_takeInn_36 (i := 0) rfl rfl ?_
          refine qv_iload_n dX3_takeInn_37 (i := 2) rfl rfl ?_
          obtain ⟨h8, e12, hs⟩ := qv_bind hs
          refine qv_putI dX3_takeInn_38 qF_X3_49 e12 ?_
          refine qv_aload_n dX3_takeInn_41 (i := 0) rfl rfl ?_
          refine qv_iload_n dX3_takeInn_42 (i := 3) rfl rfl ?_
          obtain ⟨h9, e13, hs⟩ := qv_bind hs
          refine qv_putI dX3_takeInn_43 qF_X3_52 e13 ?_
          refine qv_iconst (v := (1 : Int32)) dX3_takeInn_46 rfl ?_
          obtain ⟨rfl, rfl⟩ := qv_pr hs
          exact qv_zret dX3_takeInn_47 rfl (by decide)
theorem qD_X3_takeInn : qv_DV mX3_takeInn 3 := ⟨(qv_i7 (List.mem_of_getElem? (i := 54) (by decide +kernel))), (qv_i0 (List.mem_of_getElem? (i := 11) (by decide +kernel))), (qv_i1 (List.mem_of_getElem? (i := 7) (by decide +kernel))), (qv_i7 (List.mem_of_getElem? (i := 55) (by decide +kernel))), by decide +kernel, by decide +kernel⟩
/-- Land.isSaidSo(II)Z -/
noncomputable def fX3_isSaidSo (a0 : Nat) (a1 : Int32) (a2 : Int32) (h : qv_H) : Option (Int32) :=
  (qv_ob h 2 a0).bind fun _ =>
  (fX3_hasSign a0 a1 h).bind fun v2 =>
  if v2 = 0 then
    some (0 : Int32)
  else
    (qv_gR h 2 a0 8).bind fun v3 =>
    (qv_aI h false v3 a1).bind fun v4 =>
    (fX0_has a2 v4).bind fun v5 =>
    (qv_gR h 2 a0 9).bind fun v6 =>
    (qv_aI h false v6 a1).bind fun v7 =>
    (fX0_has a2 v7).bind fun v8 =>
    (qv_gR h 2 a0 6).bind fun v9 =>
    (qv_aI h false v9 a1).bind fun v10 =>
    if v10 = (0 : Int32) then
      (qv_b1 v5).bind fun v23 =>
      some v5
    else
      if v10 = (1 : Int32) then
        Option.bind (α := Int32) (
            if v5 = 0 then
              some (1 : Int32)
            else
              some (0 : Int32)
          ) fun m21 =>
        (qv_b1 m21).bind fun v22 =>
        some m21
      else
        if v10 = (2 : Int32) then
          Option.bind (α := Int32) (
              if v5 = 0 then
                some (0 : Int32)
              else
                if v8 = 0 then
                  some (0 : Int32)
                else
                  some (1 : Int32)
            ) fun m19 =>
          (qv_b1 m19).bind fun v20 =>
          some m19
        else
          if v10 = (3 : Int32) then
            Option.bind (α := Int32) (
                if v5 = 0 then
                  if v8 = 0 then
                    some (0 : Int32)
                  else
                    some (1 : Int32)
                else
                  some (1 : Int32)
              ) fun m17 =>
            (qv_b1 m17).bind fun v18 =>
            some m17
          else
            if v10 = (4 : Int32) then
              Option.bind (α := Int32) (
                  if v5 = v8 then
                    some (0 : Int32)
                  else
                    some (1 : Int32)
                ) fun m15 =>
              (qv_b1 m15).bind fun v16 =>
              some m15
            else
              if v10 = (5 : Int32) then
                (qv_gR h 2 a0 8).bind fun v11 =>
                (qv_aI h false v11 a1).bind fun v12 =>
                (fX0_has a2 ((4 : Int32) + v12)).bind fun v13 =>
                (qv_b1 v13).bind fun v14 =>
                some v13
              else
                some (0 : Int32)
abbrev mX3_isSaidSo : qv_M := (yX3_isSaidSo, cX3_isSaidSo, 5, (Option.some Jvm.ClassFile.FieldType.boolean), 1, 21)
set_option maxRecDepth 100000 in
set_option maxHeartbeats 4000000 in
theorem sX3_isSaidSo {l : Launch} {g : qv_G} {a0 : Nat} {a1 : Int32} {a2 : Int32} {h : qv_H} {r : Int32} (hs : fX3_isSaidSo a0 a1 a2 h = some r) : qv_J l g mX3_isSaidSo 0 [some (.ref a0), some (.int a1), some (.int a2), none, none] [] h (some (.int r), h) := by
  unfold fX3_isSaidSo at hs
  refine qv_aload_n dX3_isSaidSo_0 (i := 0) rfl rfl ?_
  refine qv_iload_n dX3_isSaidSo_1 (i := 1) rfl rfl ?_
  obtain ⟨u1, e1, hs⟩ := qv_bind hs
  obtain ⟨v2, e2, hs⟩ := qv_bind hs
  refine qv_cV (d2 := mX3_hasSign) (o := a0) (ci := 2) (r := some (.int v2)) (h2 := h) (av := [.int a1]) (st := []) dX3_isSaidSo_2 qM_X3_126 qD_X3_hasSign e1 rfl rfl ⟨by decide, by decide⟩ rfl (Nat.le_of_ble_eq_true rfl) (Nat.le_of_ble_eq_true rfl) (sX3_hasSign e2) rfl ?_
  by_cases c3 : v2 = 0
  · have hs := qv_pos c3 hs
    refine qv_if_ne (tgt := 10) dX3_isSaidSo_5 rfl (fun q => absurd c3 q) (fun _ => ?_)
    refine qv_iconst (v := (0 : Int32)) dX3_isSaidSo_8 rfl ?_
    obtain rfl := qv_sm hs
    exact qv_zret dX3_isSaidSo_9 rfl (by decide)
  · have hs := qv_neg c3 hs
    refine qv_if_ne (tgt := 10) dX3_isSaidSo_5 rfl (fun _ => ?_) (fun q => absurd q c3)
    refine qv_iload_n dX3_isSaidSo_10 (i := 2) rfl rfl ?_
    refine qv_aload_n dX3_isSaidSo_11 (i := 0) rfl rfl ?_
    obtain ⟨v3, e4, hs⟩ := qv_bind hs
    refine qv_getR dX3_isSaidSo_12 qF_X3_37 e4 ?_
    refine qv_iload_n dX3_isSaidSo_15 (i := 1) rfl rfl ?_
    obtain ⟨v4, e5, hs⟩ := qv_bind hs
    refine qv_iald dX3_isSaidSo_16 e5 ?_
    obtain ⟨v5, e6, hs⟩ := qv_bind hs
    refine qv_cS (d2 := mX0_has) (r := some (.int v5)) (h2 := h) (av := [.int a2, .int v4]) (st := []) dX3_isSaidSo_17 qM_X3_65 qD_X0_has rfl ⟨by decide, by decide⟩ rfl (Nat.le_of_ble_eq_true rfl) (Nat.le_of_ble_eq_true rfl) (sX0_has e6) rfl ?_
    refine qv_istore_n (lo2 := [some (.ref a0), some (.int a1), some (.int a2), some (.int v5), none]) dX3_isSaidSo_20 (i := 3) rfl (by decide) rfl (Nat.le_of_ble_eq_true rfl) rfl ?_
    refine qv_iload_n dX3_isSaidSo_21 (i := 2) rfl rfl ?_
    refine qv_aload_n dX3_isSaidSo_22 (i := 0) rfl rfl ?_
    obtain ⟨v6, e7, hs⟩ := qv_bind hs
    refine qv_getR dX3_isSaidSo_23 qF_X3_40 e7 ?_
    refine qv_iload_n dX3_isSaidSo_26 (i := 1) rfl rfl ?_
    obtain ⟨v7, e8, hs⟩ := qv_bind hs
    refine qv_iald dX3_isSaidSo_27 e8 ?_
    obtain ⟨v8, e9, hs⟩ := qv_bind hs
    refine qv_cS (d2 := mX0_has) (r := some (.int v8)) (h2 := h) (av := [.int a2, .int v7]) (st := []) dX3_isSaidSo_28 qM_X3_65 qD_X0_has rfl ⟨by decide, by decide⟩ rfl (Nat.le_of_ble_eq_true rfl) (Nat.le_of_ble_eq_true rfl) (sX0_has e9) rfl ?_
    refine qv_istore (lo2 := [some (.ref a0), some (.int a1), some (.int a2), some (.int v5), some (.int v8)]) dX3_isSaidSo_31 (by decide) rfl (Nat.le_of_ble_eq_true rfl) rfl ?_
    refine qv_aload_n dX3_isSaidSo_33 (i := 0) rfl rfl ?_
    obtain ⟨v9, e10, hs⟩ := qv_bind hs
    refine qv_getR dX3_isSaidSo_34 qF_X3_31 e10 ?_
    refine qv_iload_n dX3_isSaidSo_37 (i := 1) rfl rfl ?_
    obtain ⟨v10, e11, hs⟩ := qv_bind hs
    refine qv_iald dX3_isSaidSo_38 e11 ?_
    by_cases c12 : v10 = (0 : Int32)
    · have hs := qv_pos c12 hs
      refine qv_tsIn (tgt := 76) (0 : Int32) c12 dX3_isSaidSo_39 (by decide) (by decide) rfl rfl ?_
      refine qv_iload_n dX3_isSaidSo_76 (i := 3) rfl rfl ?_
      obtain ⟨v23, e13, hs⟩ := qv_bind hs
      obtain rfl := qv_sm hs
      exact qv_zret dX3_isSaidSo_77 rfl (qv_b1_of e13).1
    · have hs := qv_neg c12 hs
      by_cases c14 : v10 = (1 : Int32)
      · have hs := qv_pos c14 hs
        refine qv_tsIn (tgt := 78) (1 : Int32) c14 dX3_isSaidSo_39 (by decide) (by decide) rfl rfl ?_
        refine qv_iload_n dX3_isSaidSo_78 (i := 3) rfl rfl ?_
        obtain ⟨m21, hj16, hs⟩ := qv_bind hs
        have K15 : qv_J l g mX3_isSaidSo 87 [none, none, none, none, none] [.int m21] h (some (.int r), h) := by
          obtain ⟨v22, e17, hs⟩ := qv_bind hs
          obtain rfl := qv_sm hs
          exact qv_zret dX3_isSaidSo_87 rfl (qv_b1_of e17).1
        replace hs := hj16
        by_cases c18 : v5 = 0
        · have hs := qv_pos c18 hs
          refine qv_if_ne (tgt := 86) dX3_isSaidSo_79 rfl (fun q => absurd c18 q) (fun _ => ?_)
          refine qv_iconst (v := (1 : Int32)) dX3_isSaidSo_82 rfl ?_
          refine qv_goto (tgt := 87) dX3_isSaidSo_83 rfl ?_
          cases hs
          exact qv_dp (qv_le_n (qv_le_n (qv_le_n (qv_le_n (qv_le_n qv_le_0))))) K15
        · have hs := qv_neg c18 hs
          refine qv_if_ne (tgt := 86) dX3_isSaidSo_79 rfl (fun _ => ?_) (fun q => absurd q c18)
          refine qv_iconst (v := (0 : Int32)) dX3_isSaidSo_86 rfl ?_
          cases hs
          exact qv_dp (qv_le_n (qv_le_n (qv_le_n (qv_le_n (qv_le_n qv_le_0))))) K15
      · have hs := qv_neg c14 hs
        by_cases c19 : v10 = (2 : Int32)
        · have hs := qv_pos c19 hs
          refine qv_tsIn (tgt := 88) (2 : Int32) c19 dX3_isSaidSo_39 (by decide) (by decide) rfl rfl ?_
          refine qv_iload_n dX3_isSaidSo_88 (i := 3) rfl rfl ?_
          obtain ⟨m19, hj21, hs⟩ := qv_bind hs
          have K20 : qv_J l g mX3_isSaidSo 102 [none, none, none, none, none] [.int m19] h (some (.int r), h) := by
            obtain ⟨v20, e22, hs⟩ := qv_bind hs
            obtain rfl := qv_sm hs
            exact qv_zret dX3_isSaidSo_102 rfl (qv_b1_of e22).1
          replace hs := hj21
          by_cases c23 : v5 = 0
          · have hs := qv_pos c23 hs
            refine qv_if_eq (tgt := 101) dX3_isSaidSo_89 rfl (fun _ => ?_) (fun q => absurd c23 q)
            refine qv_iconst (v := (0 : Int32)) dX3_isSaidSo_101 rfl ?_
            cases hs
            exact qv_dp (qv_le_n (qv_le_n (qv_le_n (qv_le_n (qv_le_n qv_le_0))))) K20
          · have hs := qv_neg c23 hs
            refine qv_if_eq (tgt := 101) dX3_isSaidSo_89 rfl (fun q => absurd q c23) (fun _ => ?_)
            refine qv_iload dX3_isSaidSo_92 rfl ?_
            by_cases c24 : v8 = 0
            · have hs := qv_pos c24 hs
              refine qv_if_eq (tgt := 101) dX3_isSaidSo_94 rfl (fun _ => ?_) (fun q => absurd c24 q)
              refine qv_iconst (v := (0 : Int32)) dX3_isSaidSo_101 rfl ?_
              cases hs
              exact qv_dp (qv_le_n (qv_le_n (qv_le_n (qv_le_n (qv_le_n qv_le_0))))) K20
            · have hs := qv_neg c24 hs
              refine qv_if_eq (tgt := 101) dX3_isSaidSo_94 rfl (fun q => absurd q c24) (fun _ => ?_)
              refine qv_iconst (v := (1 : Int32)) dX3_isSaidSo_97 rfl ?_
              refine qv_goto (tgt := 102) dX3_isSaidSo_98 rfl ?_
              cases hs
              exact qv_dp (qv_le_n (qv_le_n (qv_le_n (qv_le_n (qv_le_n qv_le_0))))) K20
        · have hs := qv_neg c19 hs
          by_cases c25 : v10 = (3 : Int32)
          · have hs := qv_pos c25 hs
            refine qv_tsIn (tgt := 103) (3 : Int32) c25 dX3_isSaidSo_39 (by decide) (by decide) rfl rfl ?_
            refine qv_iload_n dX3_isSaidSo_103 (i := 3) rfl rfl ?_
            obtain ⟨m17, hj27, hs⟩ := qv_bind hs
            have K26 : qv_J l g mX3_isSaidSo 117 [none, none, none, none, none] [.int m17] h (some (.int r), h) := by
              obtain ⟨v18, e28, hs⟩ := qv_bind hs
              obtain rfl := qv_sm hs
              exact qv_zret dX3_isSaidSo_117 rfl (qv_b1_of e28).1
            replace hs := hj27
            by_cases c29 : v5 = 0
            · have hs := qv_pos c29 hs
              refine qv_if_ne (tgt := 112) dX3_isSaidSo_104 rfl (fun q => absurd c29 q) (fun _ => ?_)
              refine qv_iload dX3_isSaidSo_107 rfl ?_
              by_cases c30 : v8 = 0
              · have hs := qv_pos c30 hs
                refine qv_if_eq (tgt := 116) dX3_isSaidSo_109 rfl (fun _ => ?_) (fun q => absurd c30 q)
                refine qv_iconst (v := (0 : Int32)) dX3_isSaidSo_116 rfl ?_
                cases hs
                exact qv_dp (qv_le_n (qv_le_n (qv_le_n (qv_le_n (qv_le_n qv_le_0))))) K26
              · have hs := qv_neg c30 hs
                refine qv_if_eq (tgt := 116) dX3_isSaidSo_109 rfl (fun q => absurd q c30) (fun _ => ?_)
                refine qv_iconst (v := (1 : Int32)) dX3_isSaidSo_112 rfl ?_
                refine qv_goto (tgt := 117) dX3_isSaidSo_113 rfl ?_
                cases hs
                exact qv_dp (qv_le_n (qv_le_n (qv_le_n (qv_le_n (qv_le_n qv_le_0))))) K26
            · have hs := qv_neg c29 hs
              refine qv_if_ne (tgt := 112) dX3_isSaidSo_104 rfl (fun _ => ?_) (fun q => absurd q c29)
              refine qv_iconst (v := (1 : Int32)) dX3_isSaidSo_112 rfl ?_
              refine qv_goto (tgt := 117) dX3_isSaidSo_113 rfl ?_
              cases hs
              exact qv_dp (qv_le_n (qv_le_n (qv_le_n (qv_le_n (qv_le_n qv_le_0))))) K26
          · have hs := qv_neg c25 hs
            by_cases c31 : v10 = (4 : Int32)
            · have hs := qv_pos c31 hs
              refine qv_tsIn (tgt := 118) (4 : Int32) c31 dX3_isSaidSo_39 (by decide) (by decide) rfl rfl ?_
              refine qv_iload_n dX3_isSaidSo_118 (i := 3) rfl rfl ?_
              refine qv_iload dX3_isSaidSo_119 rfl ?_
              obtain ⟨m15, hj33, hs⟩ := qv_bind hs
              have K32 : qv_J l g mX3_isSaidSo 129 [none, none, none, none, none] [.int m15] h (some (.int r), h) := by
                obtain ⟨v16, e34, hs⟩ := qv_bind hs
                obtain rfl := qv_sm hs
                exact qv_zret dX3_isSaidSo_129 rfl (qv_b1_of e34).1
              replace hs := hj33
              by_cases c35 : v5 = v8
              · have hs := qv_pos c35 hs
                refine qv_icmp_eq (tgt := 128) dX3_isSaidSo_121 rfl (fun _ => ?_) (fun q => absurd c35 q)
                refine qv_iconst (v := (0 : Int32)) dX3_isSaidSo_128 rfl ?_
                cases hs
                exact qv_dp (qv_le_n (qv_le_n (qv_le_n (qv_le_n (qv_le_n qv_le_0))))) K32
              · have hs := qv_neg c35 hs
                refine qv_icmp_eq (tgt := 128) dX3_isSaidSo_121 rfl (fun q => absurd q c35) (fun _ => ?_)
                refine qv_iconst (v := (1 : Int32)) dX3_isSaidSo_124 rfl ?_
                refine qv_goto (tgt := 129) dX3_isSaidSo_125 rfl ?_
                cases hs
                exact qv_dp (qv_le_n (qv_le_n (qv_le_n (qv_le_n (qv_le_n qv_le_0))))) K32
            · have hs := qv_neg c31 hs
              by_cases c36 : v10 = (5 : Int32)
              · have hs := qv_pos c36 hs
                refine qv_tsIn (tgt := 130) (5 : Int32) c36 dX3_isSaidSo_39 (by decide) (by decide) rfl rfl ?_
                refine qv_iload_n dX3_isSaidSo_130 (i := 2) rfl rfl ?_
                refine qv_iconst (v := (4 : Int32)) dX3_isSaidSo_131 rfl ?_
                refine qv_aload_n dX3_isSaidSo_132 (i := 0) rfl rfl ?_
                obtain ⟨v11, e37, hs⟩ := qv_bind hs
                refine qv_getR dX3_isSaidSo_133 qF_X3_37 e37 ?_
                refine qv_iload_n dX3_isSaidSo_136 (i := 1) rfl rfl ?_
                obtain ⟨v12, e38, hs⟩ := qv_bind hs
                refine qv_iald dX3_isSaidSo_137 e38 ?_
                refine qv_iadd dX3_isSaidSo_138 ?_
                obtain ⟨v13, e39, hs⟩ := qv_bind hs
                refine qv_cS (d2 := mX0_has) (r := some (.int v13)) (h2 := h) (av := [.int a2, .int ((4 : Int32) + v12)]) (st := []) dX3_isSaidSo_139 qM_X3_65 qD_X0_has rfl ⟨by decide, by decide⟩ rfl (Nat.le_of_ble_eq_true rfl) (Nat.le_of_ble_eq_true rfl) (sX0_has e39) rfl ?_
                obtain ⟨v14, e40, hs⟩ := qv_bind hs
                obtain rfl := qv_sm hs
                exact qv_zret dX3_isSaidSo_142 rfl (qv_b1_of e40).1
              · have hs := qv_neg c36 hs
                refine qv_tsDef (tgt := 143) dX3_isSaidSo_39 (fun j hj ej => ?_) rfl ?_
                · rcases (show j = 0 ∨ j = 1 ∨ j = 2 ∨ j = 3 ∨ j = 4 ∨ j = 5 by omega) with rfl | rfl | rfl | rfl | rfl | rfl
                  · exact absurd (Int32.toInt_inj.mp (by rw [ej]; rfl)) c12
                  · exact absurd (Int32.toInt_inj.mp (by rw [ej]; rfl)) c14
                  · exact absurd (Int32.toInt_inj.mp (by rw [ej]; rfl)) c19
                  · exact absurd (Int32.toInt_inj.mp (by rw [ej]; rfl)) c25
                  · exact absurd (Int32.toInt_inj.mp (by rw [ej]; rfl)) c31
                  · exact absurd (Int32.toInt_inj.mp (by rw [ej]; rfl)) c36
                refine qv_iconst (v := (0 : Int32)) dX3_isSaidSo_143 rfl ?_
                obtain rfl := qv_sm hs
                exact qv_zret dX3_isSaidSo_144 rfl (by decide)
theorem qD_X3_isSaidSo : qv_DV mX3_isSaidSo 2 := ⟨(qv_i4 (List.mem_of_getElem? (i := 1) (by decide +kernel))), (qv_i4 (List.mem_of_getElem? (i := 2) (by decide +kernel))), (qv_i1 (List.mem_of_getElem? (i := 7) (by decide +kernel))), (qv_i4 (List.mem_of_getElem? (i := 3) (by decide +kernel))), by decide +kernel, by decide +kernel⟩
/-- Land.isMisfit(II)Z -/
noncomputable def fX3_isMisfit (a0 : Nat) (a1 : Int32) (a2 : Int32) (h : qv_H) : Option (Int32) :=
  (qv_gR h 2 a0 6).bind fun v1 =>
  (qv_aI h false v1 a1).bind fun v2 =>
  Option.bind (α := Int32) (
      if v2 = (6 : Int32) then
        some (0 : Int32)
      else
        (fX0_has a2 ((4 : Int32) + a1)).bind fun v3 =>
        (qv_ob h 2 a0).bind fun _ =>
        (fX3_isSaidSo a0 a1 a2 h).bind fun v5 =>
        if v3 = v5 then
          some (0 : Int32)
        else
          some (1 : Int32)
    ) fun m6 =>
  (qv_b1 m6).bind fun v7 =>
  some m6
abbrev mX3_isMisfit : qv_M := (yX3_isMisfit, cX3_isMisfit, 3, (Option.some Jvm.ClassFile.FieldType.boolean), 2, 45)
set_option maxRecDepth 100000 in
set_option maxHeartbeats 4000000 in
theorem sX3_isMisfit {l : Launch} {g : qv_G} {a0 : Nat} {a1 : Int32} {a2 : Int32} {h : qv_H} {r : Int32} (hs : fX3_isMisfit a0 a1 a2 h = some r) : qv_J l g mX3_isMisfit 0 [some (.ref a0), some (.int a1), some (.int a2)] [] h (some (.int r), h) := by
  unfold fX3_isMisfit at hs
  refine qv_aload_n dX3_isMisfit_0 (i := 0) rfl rfl ?_
  obtain ⟨v1, e1, hs⟩ := qv_bind hs
  refine qv_getR dX3_isMisfit_1 qF_X3_31 e1 ?_
  refine qv_iload_n dX3_isMisfit_4 (i := 1) rfl rfl ?_
  obtain ⟨v2, e2, hs⟩ := qv_bind hs
  refine qv_iald dX3_isMisfit_5 e2 ?_
  refine qv_bipush (v := (6 : Int32)) dX3_isMisfit_6 rfl ?_
  obtain ⟨m6, hj4, hs⟩ := qv_bind hs
  have K3 : qv_J l g mX3_isMisfit 32 [none, none, none] [.int m6] h (some (.int r), h) := by
    obtain ⟨v7, e5, hs⟩ := qv_bind hs
    obtain rfl := qv_sm hs
    exact qv_zret dX3_isMisfit_32 rfl (qv_b1_of e5).1
  replace hs := hj4
  by_cases c6 : v2 = (6 : Int32)
  · have hs := qv_pos c6 hs
    refine qv_icmp_eq (tgt := 31) dX3_isMisfit_8 rfl (fun _ => ?_) (fun q => absurd c6 q)
    refine qv_iconst (v := (0 : Int32)) dX3_isMisfit_31 rfl ?_
    cases hs
    exact qv_dp (qv_le_n (qv_le_n (qv_le_n qv_le_0))) K3
  · have hs := qv_neg c6 hs
    refine qv_icmp_eq (tgt := 31) dX3_isMisfit_8 rfl (fun q => absurd q c6) (fun _ => ?_)
    refine qv_iload_n dX3_isMisfit_11 (i := 2) rfl rfl ?_
    refine qv_iconst (v := (4 : Int32)) dX3_isMisfit_12 rfl ?_
    refine qv_iload_n dX3_isMisfit_13 (i := 1) rfl rfl ?_
    refine qv_iadd dX3_isMisfit_14 ?_
    obtain ⟨v3, e7, hs⟩ := qv_bind hs
    refine qv_cS (d2 := mX0_has) (r := some (.int v3)) (h2 := h) (av := [.int a2, .int ((4 : Int32) + a1)]) (st := []) dX3_isMisfit_15 qM_X3_65 qD_X0_has rfl ⟨by decide, by decide⟩ rfl (Nat.le_of_ble_eq_true rfl) (Nat.le_of_ble_eq_true rfl) (sX0_has e7) rfl ?_
    refine qv_aload_n dX3_isMisfit_18 (i := 0) rfl rfl ?_
    refine qv_iload_n dX3_isMisfit_19 (i := 1) rfl rfl ?_
    refine qv_iload_n dX3_isMisfit_20 (i := 2) rfl rfl ?_
    obtain ⟨u4, e8, hs⟩ := qv_bind hs
    obtain ⟨v5, e9, hs⟩ := qv_bind hs
    refine qv_cV (d2 := mX3_isSaidSo) (o := a0) (ci := 2) (r := some (.int v5)) (h2 := h) (av := [.int a1, .int a2]) (st := [.int v3]) dX3_isMisfit_21 qM_X3_129 qD_X3_isSaidSo e8 rfl rfl ⟨by decide, by decide⟩ rfl (Nat.le_of_ble_eq_true rfl) (Nat.le_of_ble_eq_true rfl) (sX3_isSaidSo e9) rfl ?_
    by_cases c10 : v3 = v5
    · have hs := qv_pos c10 hs
      refine qv_icmp_eq (tgt := 31) dX3_isMisfit_24 rfl (fun _ => ?_) (fun q => absurd c10 q)
      refine qv_iconst (v := (0 : Int32)) dX3_isMisfit_31 rfl ?_
      cases hs
      exact qv_dp (qv_le_n (qv_le_n (qv_le_n qv_le_0))) K3
    · have hs := qv_neg c10 hs
      refine qv_icmp_eq (tgt := 31) dX3_isMisfit_24 rfl (fun q => absurd q c10) (fun _ => ?_)
      refine qv_iconst (v := (1 : Int32)) dX3_isMisfit_27 rfl ?_
      refine qv_goto (tgt := 32) dX3_isMisfit_28 rfl ?_
      cases hs
      exact qv_dp (qv_le_n (qv_le_n (qv_le_n qv_le_0))) K3
theorem qD_X3_isMisfit : qv_DV mX3_isMisfit 2 := ⟨(qv_i3 (List.mem_of_getElem? (i := 59) (by decide +kernel))), (qv_i0 (List.mem_of_getElem? (i := 0) (by decide +kernel))), (qv_i1 (List.mem_of_getElem? (i := 7) (by decide +kernel))), (qv_i3 (List.mem_of_getElem? (i := 60) (by decide +kernel))), by decide +kernel, by decide +kernel⟩
/-- Land.misfitsIn(I)I -/
noncomputable def fX3_misfitsIn (a0 : Nat) (a1 : Int32) (h : qv_H) : Option (Int32) :=
  Option.bind (qv_loop (σ := Int32 × Int32) (ρ := Int32) (fun (x1, x2) =>
      (qv_gI h 2 a0 3).bind fun v3 =>
      if v3 ≤ x2 then
        some (.inr x1)
      else
        (qv_ob h 2 a0).bind fun _ =>
        (fX3_isMisfit a0 x2 a1 h).bind fun v5 =>
        Option.bind (α := Int32) (
            if v5 = 0 then
              some x1
            else
              some (x1 + (1 : Int32))
          ) fun m6 =>
        some (.inl (m6, x2 + (1 : Int32)))
    ) ((0 : Int32), (0 : Int32))) fun y7 =>
  some y7
abbrev mX3_misfitsIn : qv_M := (yX3_misfitsIn, cX3_misfitsIn, 4, (Option.some Jvm.ClassFile.FieldType.int), 3, 67)
set_option maxRecDepth 100000 in
set_option maxHeartbeats 4000000 in
theorem sX3_misfitsIn {l : Launch} {g : qv_G} {a0 : Nat} {a1 : Int32} {h : qv_H} {r : Int32} (hs : fX3_misfitsIn a0 a1 h = some r) : qv_J l g mX3_misfitsIn 0 [some (.ref a0), some (.int a1), none, none] [] h (some (.int r), h) := by
  unfold fX3_misfitsIn at hs
  refine qv_iconst (v := (0 : Int32)) dX3_misfitsIn_0 rfl ?_
  refine qv_istore_n (lo2 := [some (.ref a0), some (.int a1), some (.int (0 : Int32)), none]) dX3_misfitsIn_1 (i := 2) rfl (by decide) rfl (Nat.le_of_ble_eq_true rfl) rfl ?_
  refine qv_iconst (v := (0 : Int32)) dX3_misfitsIn_2 rfl ?_
  refine qv_istore_n (lo2 := [some (.ref a0), some (.int a1), some (.int (0 : Int32)), some (.int (0 : Int32))]) dX3_misfitsIn_3 (i := 3) rfl (by decide) rfl (Nat.le_of_ble_eq_true rfl) rfl ?_
  obtain ⟨y7, e2, hs⟩ := qv_bind hs
  have K1 : qv_J l g mX3_misfitsIn 30 [none, none, some (.int y7), none] [] h (some (.int r), h) := by
    refine qv_iload_n dX3_misfitsIn_30 (i := 2) rfl rfl ?_
    obtain rfl := qv_sm hs
    exact qv_iret dX3_misfitsIn_31 rfl
  obtain ⟨n8, e2⟩ := qv_loop_of e2
  refine qv_dp (qv_le_s (qv_le_s (qv_le_s (qv_le_s qv_le_0)))) (?_ : qv_J l g mX3_misfitsIn 4 [some (.ref a0), some (.int a1), some (.int (0 : Int32)), some (.int (0 : Int32))] [] h (some (.int r), h))
  revert e2
  suffices lj7 : ∀ (x1 : Int32) (x2 : Int32), qv_it _ n8 (x1, x2) = some y7 → qv_J l g mX3_misfitsIn 4 [some (.ref a0), some (.int a1), some (.int x1), some (.int x2)] [] h (some (.int r), h) from lj7 (0 : Int32) (0 : Int32)
  induction n8 with
  | zero =>
    intro x1 x2 e2
    cases e2
  | succ n8 ih4 =>
    intro x1 x2 e2
    obtain ⟨_, hs, eb5⟩ := qv_it_s e2
    dsimp only at hs
    refine qv_iload_n dX3_misfitsIn_4 (i := 3) rfl rfl ?_
    refine qv_aload_n dX3_misfitsIn_5 (i := 0) rfl rfl ?_
    obtain ⟨v3, e9, hs⟩ := qv_bind hs
    refine qv_getI dX3_misfitsIn_6 qF_X3_21 e9 ?_
    by_cases c10 : v3 ≤ x2
    · have hs := qv_pos c10 hs
      refine qv_icmp_ge (tgt := 30) dX3_misfitsIn_9 rfl (fun _ => ?_) (fun q => absurd c10 q)
      cases hs
      cases qv_nx_r eb5
      exact qv_dp (qv_le_n (qv_le_n (qv_le_s (qv_le_n qv_le_0)))) K1
    · have hs := qv_neg c10 hs
      refine qv_icmp_ge (tgt := 30) dX3_misfitsIn_9 rfl (fun q => absurd q c10) (fun _ => ?_)
      refine qv_aload_n dX3_misfitsIn_12 (i := 0) rfl rfl ?_
      refine qv_iload_n dX3_misfitsIn_13 (i := 3) rfl rfl ?_
      refine qv_iload_n dX3_misfitsIn_14 (i := 1) rfl rfl ?_
      obtain ⟨u4, e11, hs⟩ := qv_bind hs
      obtain ⟨v5, e12, hs⟩ := qv_bind hs
      refine qv_cV (d2 := mX3_isMisfit) (o := a0) (ci := 2) (r := some (.int v5)) (h2 := h) (av := [.int x2, .int a1]) (st := []) dX3_misfitsIn_15 qM_X3_132 qD_X3_isMisfit e11 rfl rfl ⟨by decide, by decide⟩ rfl (Nat.le_of_ble_eq_true rfl) (Nat.le_of_ble_eq_true rfl) (sX3_isMisfit e12) rfl ?_
      obtain ⟨m6, hj14, hs⟩ := qv_bind hs
      have K13 : qv_J l g mX3_misfitsIn 24 [some (.ref a0), some (.int a1), some (.int m6), some (.int x2)] [] h (some (.int r), h) := by
        refine qv_iinc (v := x2 + (1 : Int32)) (lo2 := [some (.ref a0), some (.int a1), some (.int m6), some (.int (x2 + (1 : Int32)))]) dX3_misfitsIn_24 rfl rfl (by decide) rfl rfl ?_
        refine qv_goto (tgt := 4) dX3_misfitsIn_27 rfl ?_
        cases hs
        exact qv_dp (qv_le_s (qv_le_s (qv_le_s (qv_le_s qv_le_0)))) (ih4 _ _ (qv_nx_l eb5))
      replace hs := hj14
      by_cases c15 : v5 = 0
      · have hs := qv_pos c15 hs
        refine qv_if_eq (tgt := 24) dX3_misfitsIn_18 rfl (fun _ => ?_) (fun q => absurd c15 q)
        cases hs
        exact qv_dp (qv_le_s (qv_le_s (qv_le_s (qv_le_s qv_le_0)))) K13
      · have hs := qv_neg c15 hs
        refine qv_if_eq (tgt := 24) dX3_misfitsIn_18 rfl (fun q => absurd q c15) (fun _ => ?_)
        refine qv_iinc (v := x1 + (1 : Int32)) (lo2 := [some (.ref a0), some (.int a1), some (.int (x1 + (1 : Int32))), some (.int x2)]) dX3_misfitsIn_21 rfl rfl (by decide) rfl rfl ?_
        cases hs
        exact qv_dp (qv_le_s (qv_le_s (qv_le_s (qv_le_s qv_le_0)))) K13
theorem qD_X3_misfitsIn : qv_DV mX3_misfitsIn 1 := ⟨(qv_i3 (List.mem_of_getElem? (i := 55) (by decide +kernel))), (qv_i3 (List.mem_of_getElem? (i := 56) (by decide +kernel))), (qv_i1 (List.mem_of_getElem? (i := 7) (by decide +kernel))), (qv_i3 (List.mem_of_getElem? (i := 57) (by decide +kernel))), by decide +kernel, by decide +kernel⟩
/-- Land.firstMisfit(I)I -/
noncomputable def fX3_firstMisfit (a0 : Nat) (a1 : Int32) (h : qv_H) : Option (Int32) :=
  Option.bind (qv_loop (σ := Int32) (ρ := (Unit) ⊕ (Int32)) (fun x1 =>
      (qv_gI h 2 a0 3).bind fun v2 =>
      if v2 ≤ x1 then
        some (.inr (.inl ()))
      else
        (qv_ob h 2 a0).bind fun _ =>
        (fX3_isMisfit a0 x1 a1 h).bind fun v4 =>
        if v4 = 0 then
          some (.inl (x1 + (1 : Int32)))
        else
          some (.inr (.inr x1))
    ) (0 : Int32)) fun q => match q with
  | .inl _ =>
    some (-1 : Int32)
  | .inr q => some q
abbrev mX3_firstMisfit : qv_M := (yX3_firstMisfit, cX3_firstMisfit, 3, (Option.some Jvm.ClassFile.FieldType.int), 3, 67)
set_option maxRecDepth 100000 in
set_option maxHeartbeats 4000000 in
theorem sX3_firstMisfit {l : Launch} {g : qv_G} {a0 : Nat} {a1 : Int32} {h : qv_H} {r : Int32} (hs : fX3_firstMisfit a0 a1 h = some r) : qv_J l g mX3_firstMisfit 0 [some (.ref a0), some (.int a1), none] [] h (some (.int r), h) := by
  unfold fX3_firstMisfit at hs
  refine qv_iconst (v := (0 : Int32)) dX3_firstMisfit_0 rfl ?_
  refine qv_istore_n (lo2 := [some (.ref a0), some (.int a1), some (.int (0 : Int32))]) dX3_firstMisfit_1 (i := 2) rfl (by decide) rfl (Nat.le_of_ble_eq_true rfl) rfl ?_
  obtain ⟨q6, e2, hA3⟩ := qv_bind hs
  have K1 : ∀ (_ : Unit), q6 = .inl () → qv_J l g mX3_firstMisfit 27 [none, none, none] [] h (some (.int r), h) := by
    intro _ eq9
    subst eq9
    have hs := hA3
    dsimp only at hs
    refine qv_iconst (v := (-1 : Int32)) dX3_firstMisfit_27 rfl ?_
    obtain rfl := qv_sm hs
    exact qv_iret dX3_firstMisfit_28 rfl
  obtain ⟨n8, e2⟩ := qv_loop_of e2
  refine qv_dp (qv_le_s (qv_le_s (qv_le_s qv_le_0))) (?_ : qv_J l g mX3_firstMisfit 2 [some (.ref a0), some (.int a1), some (.int (0 : Int32))] [] h (some (.int r), h))
  revert e2
  suffices lj7 : ∀ (x1 : Int32), qv_it _ n8 x1 = some q6 → qv_J l g mX3_firstMisfit 2 [some (.ref a0), some (.int a1), some (.int x1)] [] h (some (.int r), h) from lj7 (0 : Int32)
  induction n8 with
  | zero =>
    intro x1 e2
    cases e2
  | succ n8 ih4 =>
    intro x1 e2
    obtain ⟨_, hs, eb5⟩ := qv_it_s e2
    refine qv_iload_n dX3_firstMisfit_2 (i := 2) rfl rfl ?_
    refine qv_aload_n dX3_firstMisfit_3 (i := 0) rfl rfl ?_
    obtain ⟨v2, e10, hs⟩ := qv_bind hs
    refine qv_getI dX3_firstMisfit_4 qF_X3_21 e10 ?_
    by_cases c11 : v2 ≤ x1
    · have hs := qv_pos c11 hs
      refine qv_icmp_ge (tgt := 27) dX3_firstMisfit_7 rfl (fun _ => ?_) (fun q => absurd c11 q)
      cases hs
      cases qv_nx_r eb5
      exact qv_dp (qv_le_n (qv_le_n (qv_le_n qv_le_0))) (K1 () rfl)
    · have hs := qv_neg c11 hs
      refine qv_icmp_ge (tgt := 27) dX3_firstMisfit_7 rfl (fun q => absurd q c11) (fun _ => ?_)
      refine qv_aload_n dX3_firstMisfit_10 (i := 0) rfl rfl ?_
      refine qv_iload_n dX3_firstMisfit_11 (i := 2) rfl rfl ?_
      refine qv_iload_n dX3_firstMisfit_12 (i := 1) rfl rfl ?_
      obtain ⟨u3, e12, hs⟩ := qv_bind hs
      obtain ⟨v4, e13, hs⟩ := qv_bind hs
      refine qv_cV (d2 := mX3_isMisfit) (o := a0) (ci := 2) (r := some (.int v4)) (h2 := h) (av := [.int x1, .int a1]) (st := []) dX3_firstMisfit_13 qM_X3_132 qD_X3_isMisfit e12 rfl rfl ⟨by decide, by decide⟩ rfl (Nat.le_of_ble_eq_true rfl) (Nat.le_of_ble_eq_true rfl) (sX3_isMisfit e13) rfl ?_
      by_cases c14 : v4 = 0
      · have hs := qv_pos c14 hs
        refine qv_if_eq (tgt := 21) dX3_firstMisfit_16 rfl (fun _ => ?_) (fun q => absurd c14 q)
        refine qv_iinc (v := x1 + (1 : Int32)) (lo2 := [some (.ref a0), some (.int a1), some (.int (x1 + (1 : Int32)))]) dX3_firstMisfit_21 rfl rfl (by decide) rfl rfl ?_
        refine qv_goto (tgt := 2) dX3_firstMisfit_24 rfl ?_
        cases hs
        exact qv_dp (qv_le_s (qv_le_s (qv_le_s qv_le_0))) (ih4 _ (qv_nx_l eb5))
      · have hs := qv_neg c14 hs
        refine qv_if_eq (tgt := 21) dX3_firstMisfit_16 rfl (fun q => absurd q c14) (fun _ => ?_)
        refine qv_iload_n dX3_firstMisfit_19 (i := 2) rfl rfl ?_
        cases hs
        cases qv_nx_r eb5
        have hs := hA3
        dsimp only at hs
        obtain rfl := qv_sm hs
        exact qv_iret dX3_firstMisfit_20 rfl
theorem qD_X3_firstMisfit : qv_DV mX3_firstMisfit 1 := ⟨(qv_i12 (List.mem_of_getElem? (i := 15) (by decide +kernel))), (qv_i12 (List.mem_of_getElem? (i := 16) (by decide +kernel))), (qv_i1 (List.mem_of_getElem? (i := 7) (by decide +kernel))), (qv_i12 (List.mem_of_getElem? (i := 17) (by decide +kernel))), by decide +kernel, by decide +kernel⟩
/-- Land.comesBack(I)Z -/
noncomputable def fX3_comesBack (a0 : Nat) (a1 : Int32) (h : qv_H) : Option (Int32) :=
  Option.bind (qv_loop (σ := Int32 × Int32) (ρ := (Unit) ⊕ (Int32)) (fun (x1, x2) =>
      (qv_gI h 2 a0 3).bind fun v3 =>
      if v3 ≤ x2 then
        some (.inr (.inl ()))
      else
        (qv_ob h 2 a0).bind fun _ =>
        (fX3_hasSign a0 x1 h).bind fun v5 =>
        if v5 = 0 then
          some (.inr (.inr (0 : Int32)))
        else
          (qv_gR h 2 a0 6).bind fun v6 =>
          (qv_aI h false v6 x1).bind fun v7 =>
          if v7 = (5 : Int32) then
            (qv_gR h 2 a0 8).bind fun v8 =>
            (qv_aI h false v8 x1).bind fun v9 =>
            if v9 = a1 then
              some (.inr (.inr (1 : Int32)))
            else
              some (.inl (v9, x2 + (1 : Int32)))
          else
            some (.inr (.inr (0 : Int32)))
    ) (a1, (0 : Int32))) fun q => match q with
  | .inl _ =>
    some (0 : Int32)
  | .inr q => some q
abbrev mX3_comesBack : qv_M := (yX3_comesBack, cX3_comesBack, 4, (Option.some Jvm.ClassFile.FieldType.boolean), 1, 21)
set_option maxRecDepth 100000 in
set_option maxHeartbeats 4000000 in
theorem sX3_comesBack {l : Launch} {g : qv_G} {a0 : Nat} {a1 : Int32} {h : qv_H} {r : Int32} (hs : fX3_comesBack a0 a1 h = some r) : qv_J l g mX3_comesBack 0 [some (.ref a0), some (.int a1), none, none] [] h (some (.int r), h) := by
  unfold fX3_comesBack at hs
  refine qv_iload_n dX3_comesBack_0 (i := 1) rfl rfl ?_
  refine qv_istore_n (lo2 := [some (.ref a0), some (.int a1), some (.int a1), none]) dX3_comesBack_1 (i := 2) rfl (by decide) rfl (Nat.le_of_ble_eq_true rfl) rfl ?_
  refine qv_iconst (v := (0 : Int32)) dX3_comesBack_2 rfl ?_
  refine qv_istore_n (lo2 := [some (.ref a0), some (.int a1), some (.int a1), some (.int (0 : Int32))]) dX3_comesBack_3 (i := 3) rfl (by decide) rfl (Nat.le_of_ble_eq_true rfl) rfl ?_
  obtain ⟨q6, e2, hA3⟩ := qv_bind hs
  have K1 : ∀ (_ : Unit), q6 = .inl () → qv_J l g mX3_comesBack 52 [none, none, none, none] [] h (some (.int r), h) := by
    intro _ eq9
    subst eq9
    have hs := hA3
    dsimp only at hs
    refine qv_iconst (v := (0 : Int32)) dX3_comesBack_52 rfl ?_
    obtain rfl := qv_sm hs
    exact qv_zret dX3_comesBack_53 rfl (by decide)
  obtain ⟨n8, e2⟩ := qv_loop_of e2
  refine qv_dp (qv_le_s (qv_le_s (qv_le_s (qv_le_s qv_le_0)))) (?_ : qv_J l g mX3_comesBack 4 [some (.ref a0), some (.int a1), some (.int a1), some (.int (0 : Int32))] [] h (some (.int r), h))
  revert e2
  suffices lj7 : ∀ (x1 : Int32) (x2 : Int32), qv_it _ n8 (x1, x2) = some q6 → qv_J l g mX3_comesBack 4 [some (.ref a0), some (.int a1), some (.int x1), some (.int x2)] [] h (some (.int r), h) from lj7 a1 (0 : Int32)
  induction n8 with
  | zero =>
    intro x1 x2 e2
    cases e2
  | succ n8 ih4 =>
    intro x1 x2 e2
    obtain ⟨_, hs, eb5⟩ := qv_it_s e2
    dsimp only at hs
    refine qv_iload_n dX3_comesBack_4 (i := 3) rfl rfl ?_
    refine qv_aload_n dX3_comesBack_5 (i := 0) rfl rfl ?_
    obtain ⟨v3, e10, hs⟩ := qv_bind hs
    refine qv_getI dX3_comesBack_6 qF_X3_21 e10 ?_
    by_cases c11 : v3 ≤ x2
    · have hs := qv_pos c11 hs
      refine qv_icmp_ge (tgt := 52) dX3_comesBack_9 rfl (fun _ => ?_) (fun q => absurd c11 q)
      cases hs
      cases qv_nx_r eb5
      exact qv_dp (qv_le_n (qv_le_n (qv_le_n (qv_le_n qv_le_0)))) (K1 () rfl)
    · have hs := qv_neg c11 hs
      refine qv_icmp_ge (tgt := 52) dX3_comesBack_9 rfl (fun q => absurd q c11) (fun _ => ?_)
      refine qv_aload_n dX3_comesBack_12 (i := 0) rfl rfl ?_
      refine qv_iload_n dX3_comesBack_13 (i := 2) rfl rfl ?_
      obtain ⟨u4, e12, hs⟩ := qv_bind hs
      obtain ⟨v5, e13, hs⟩ := qv_bind hs
      refine qv_cV (d2 := mX3_hasSign) (o := a0) (ci := 2) (r := some (.int v5)) (h2 := h) (av := [.int x1]) (st := []) dX3_comesBack_14 qM_X3_126 qD_X3_hasSign e12 rfl rfl ⟨by decide, by decide⟩ rfl (Nat.le_of_ble_eq_true rfl) (Nat.le_of_ble_eq_true rfl) (sX3_hasSign e13) rfl ?_
      by_cases c14 : v5 = 0
      · have hs := qv_pos c14 hs
        refine qv_if_eq (tgt := 30) dX3_comesBack_17 rfl (fun _ => ?_) (fun q => absurd c14 q)
        refine qv_iconst (v := (0 : Int32)) dX3_comesBack_30 rfl ?_
        cases hs
        cases qv_nx_r eb5
        have hs := hA3
        dsimp only at hs
        obtain rfl := qv_sm hs
        exact qv_zret dX3_comesBack_31 rfl (by decide)
      · have hs := qv_neg c14 hs
        refine qv_if_eq (tgt := 30) dX3_comesBack_17 rfl (fun q => absurd q c14) (fun _ => ?_)
        refine qv_aload_n dX3_comesBack_20 (i := 0) rfl rfl ?_
        obtain ⟨v6, e15, hs⟩ := qv_bind hs
        refine qv_getR dX3_comesBack_21 qF_X3_31 e15 ?_
        refine qv_iload_n dX3_comesBack_24 (i := 2) rfl rfl ?_
        obtain ⟨v7, e16, hs⟩ := qv_bind hs
        refine qv_iald dX3_comesBack_25 e16 ?_
        refine qv_iconst (v := (5 : Int32)) dX3_comesBack_26 rfl ?_
        by_cases c17 : v7 = (5 : Int32)
        · have hs := qv_pos c17 hs
          refine qv_icmp_eq (tgt := 32) dX3_comesBack_27 rfl (fun _ => ?_) (fun q => absurd c17 q)
          refine qv_aload_n dX3_comesBack_32 (i := 0) rfl rfl ?_
          obtain ⟨v8, e18, hs⟩ := qv_bind hs
          refine qv_getR dX3_comesBack_33 qF_X3_37 e18 ?_
          refine qv_iload_n dX3_comesBack_36 (i := 2) rfl rfl ?_
          obtain ⟨v9, e19, hs⟩ := qv_bind hs
          refine qv_iald dX3_comesBack_37 e19 ?_
          refine qv_istore_n (lo2 := [some (.ref a0), some (.int a1), some (.int v9), some (.int x2)]) dX3_comesBack_38 (i := 2) rfl (by decide) rfl (Nat.le_of_ble_eq_true rfl) rfl ?_
          refine qv_iload_n dX3_comesBack_39 (i := 2) rfl rfl ?_
          refine qv_iload_n dX3_comesBack_40 (i := 1) rfl rfl ?_
          by_cases c20 : v9 = a1
          · have hs := qv_pos c20 hs
            refine qv_icmp_ne (tgt := 46) dX3_comesBack_41 rfl (fun q => absurd c20 q) (fun _ => ?_)
            refine qv_iconst (v := (1 : Int32)) dX3_comesBack_44 rfl ?_
            cases hs
            cases qv_nx_r eb5
            have hs := hA3
            dsimp only at hs
            obtain rfl := qv_sm hs
            exact qv_zret dX3_comesBack_45 rfl (by decide)
          · have hs := qv_neg c20 hs
            refine qv_icmp_ne (tgt := 46) dX3_comesBack_41 rfl (fun _ => ?_) (fun q => absurd q c20)
            refine qv_iinc (v := x2 + (1 : Int32)) (lo2 := [some (.ref a0), some (.int a1), some (.int v9), some (.int (x2 + (1 : Int32)))]) dX3_comesBack_46 rfl rfl (by decide) rfl rfl ?_
            refine qv_goto (tgt := 4) dX3_comesBack_49 rfl ?_
            cases hs
            exact qv_dp (qv_le_s (qv_le_s (qv_le_s (qv_le_s qv_le_0)))) (ih4 _ _ (qv_nx_l eb5))
        · have hs := qv_neg c17 hs
          refine qv_icmp_eq (tgt := 32) dX3_comesBack_27 rfl (fun q => absurd q c17) (fun _ => ?_)
          refine qv_iconst (v := (0 : Int32)) dX3_comesBack_30 rfl ?_
          cases hs
          cases qv_nx_r eb5
          have hs := hA3
          dsimp only at hs
          obtain rfl := qv_sm hs
          exact qv_zret dX3_comesBack_31 rfl (by decide)
theorem qD_X3_comesBack : qv_DV mX3_comesBack 1 := ⟨(qv_i9 (List.mem_of_getElem? (i := 52) (by decide +kernel))), (qv_i9 (List.mem_of_getElem? (i := 53) (by decide +kernel))), (qv_i1 (List.mem_of_getElem? (i := 7) (by decide +kernel))), (qv_i9 (List.mem_of_getElem? (i := 54) (by decide +kernel))), by decide +kernel, by decide +kernel⟩
/-- Reading.add(I)V -/
noncomputable def fX4_add (a0 : Nat) (a1 : Int32) (h : qv_H) : Option (qv_H) :=
  (qv_gI h 3 a0 0).bind fun v1 =>
  Option.bind (α := qv_H) (
      if (10 : Int32) ≤ v1 then
        some h
      else
        (qv_gR h 3 a0 1).bind fun v2 =>
        (qv_gI h 3 a0 0).bind fun v3 =>
        (qv_sI h false v2 v3 a1).bind fun h4 =>
        (qv_gI h4 3 a0 0).bind fun v5 =>
        (qv_pI h4 3 a0 0 (v5 + (1 : Int32))).bind fun h6 =>
        some h6
    ) fun h7 =>
  some h7
abbrev mX4_add : qv_M := (yX4_add, cX4_add, 2, (Option.none : Option Jvm.ClassFile.FieldType), 0, 0)
set_option maxRecDepth 100000 in
set_option maxHeartbeats 4000000 in
theorem sX4_add {l : Launch} {g : qv_G} {a0 : Nat} {a1 : Int32} {h : qv_H} {hz : qv_H} (hs : fX4_add a0 a1 h = some hz) : qv_J l g mX4_add 0 [some (.ref a0), some (.int a1)] [] h (none, hz) := by
  unfold fX4_add at hs
  refine qv_aload_n dX4_add_0 (i := 0) rfl rfl ?_
  obtain ⟨v1, e1, hs⟩ := qv_bind hs
  refine qv_getI dX4_add_1 qF_X4_9 e1 ?_
  refine qv_bipush (v := (10 : Int32)) dX4_add_4 rfl ?_
  obtain ⟨h7, hj3, hs⟩ := qv_bind hs
  have K2 : qv_J l g mX4_add 29 [none, none] [] h7 (none, hz) := by
    obtain rfl := qv_sm hs
    exact qv_vret dX4_add_29 rfl
  replace hs := hj3
  by_cases c4 : (10 : Int32) ≤ v1
  · have hs := qv_pos c4 hs
    refine qv_icmp_ge (tgt := 29) dX4_add_6 rfl (fun _ => ?_) (fun q => absurd c4 q)
    cases hs
    exact qv_dp (qv_le_n (qv_le_n qv_le_0)) K2
  · have hs := qv_neg c4 hs
    refine qv_icmp_ge (tgt := 29) dX4_add_6 rfl (fun q => absurd q c4) (fun _ => ?_)
    refine qv_aload_n dX4_add_9 (i := 0) rfl rfl ?_
    obtain ⟨v2, e5, hs⟩ := qv_bind hs
    refine qv_getR dX4_add_10 qF_X4_15 e5 ?_
    refine qv_aload_n dX4_add_13 (i := 0) rfl rfl ?_
    obtain ⟨v3, e6, hs⟩ := qv_bind hs
    refine qv_getI dX4_add_14 qF_X4_9 e6 ?_
    refine qv_iload_n dX4_add_17 (i := 1) rfl rfl ?_
    obtain ⟨h4, e7, hs⟩ := qv_bind hs
    refine qv_iast dX4_add_18 e7 ?_
    refine qv_aload_n dX4_add_19 (i := 0) rfl rfl ?_
    refine qv_dup dX4_add_20 rfl ?_
    obtain ⟨v5, e8, hs⟩ := qv_bind hs
    refine qv_getI dX4_add_21 qF_X4_9 e8 ?_
    refine qv_iconst (v := (1 : Int32)) dX4_add_24 rfl ?_
    refine qv_iadd dX4_add_25 ?_
    obtain ⟨h6, e9, hs⟩ := qv_bind hs
    refine qv_putI dX4_add_26 qF_X4_9 e9 ?_
    cases hs
    exact qv_dp (qv_le_n (qv_le_n qv_le_0)) K2
theorem qD_X4_add : qv_DV mX4_add 1 := ⟨(qv_i11 (List.mem_of_getElem? (i := 20) (by decide +kernel))), (qv_i11 (List.mem_of_getElem? (i := 21) (by decide +kernel))), (qv_i1 (List.mem_of_getElem? (i := 12) (by decide +kernel))), (qv_i11 (List.mem_of_getElem? (i := 22) (by decide +kernel))), by decide +kernel, by decide +kernel⟩
/-- Reading.clear()V -/
noncomputable def fX4_clear (a0 : Nat) (h : qv_H) : Option (qv_H) :=
  (qv_pI h 3 a0 0 (0 : Int32)).bind fun h1 =>
  some h1
abbrev mX4_clear : qv_M := (yX4_clear, cX4_clear, 1, (Option.none : Option Jvm.ClassFile.FieldType), 0, 0)
set_option maxRecDepth 100000 in
set_option maxHeartbeats 4000000 in
theorem sX4_clear {l : Launch} {g : qv_G} {a0 : Nat} {h : qv_H} {hz : qv_H} (hs : fX4_clear a0 h = some hz) : qv_J l g mX4_clear 0 [some (.ref a0)] [] h (none, hz) := by
  unfold fX4_clear at hs
  refine qv_aload_n dX4_clear_0 (i := 0) rfl rfl ?_
  refine qv_iconst (v := (0 : Int32)) dX4_clear_1 rfl ?_
  obtain ⟨h1, e1, hs⟩ := qv_bind hs
  refine qv_putI dX4_clear_2 qF_X4_9 e1 ?_
  obtain rfl := qv_sm hs
  exact qv_vret dX4_clear_5 rfl
theorem qD_X4_clear : qv_DV mX4_clear 0 := ⟨(qv_i11 (List.mem_of_getElem? (i := 48) (by decide +kernel))), (qv_i11 (List.mem_of_getElem? (i := 49) (by decide +kernel))), (qv_i1 (List.mem_of_getElem? (i := 12) (by decide +kernel))), (qv_i11 (List.mem_of_getElem? (i := 50) (by decide +kernel))), by decide +kernel, by decide +kernel⟩
/-- Reading.isReadNext(LTrueOneWay$Land;IZI)Z -/
noncomputable def fX4_isReadNext (a0 : Nat) (a1 : Nat) (a2 : Int32) (a3 : Int32) (a4 : Int32) (h : qv_H) : Option (Int32) :=
  Option.bind (qv_loop (σ := Int32 × Int32) (ρ := (Unit) ⊕ (Int32)) (fun (x1, x2) =>
      (qv_gI h 2 a1 3).bind fun v3 =>
      if v3 ≤ x2 then
        some (.inr (.inl ()))
      else
        Option.bind (α := Int32) (
            if a3 = 0 then
              (qv_gI h 2 a1 3).bind fun v4 =>
              some ((v4 - (1 : Int32)) - x2)
            else
              some x2
          ) fun m5 =>
        (qv_gR h 2 a1 7).bind fun v6 =>
        (qv_aI h false v6 m5).bind fun v7 =>
        if v7 = a2 then
          (qv_gI h 3 a0 0).bind fun v8 =>
          if v8 ≤ x1 then
            some (.inr (.inr (0 : Int32)))
          else
            (qv_gR h 3 a0 1).bind fun v9 =>
            (qv_aI h false v9 x1).bind fun v10 =>
            if v10 = m5 then
              some (.inl (x1 + (1 : Int32), x2 + (1 : Int32)))
            else
              some (.inr (.inr (0 : Int32)))
        else
          some (.inl (x1, x2 + (1 : Int32)))
    ) (a4, (0 : Int32))) fun q => match q with
  | .inl _ =>
    some (1 : Int32)
  | .inr q => some q
abbrev mX4_isReadNext : qv_M := (yX4_isReadNext, cX4_isReadNext, 8, (Option.some Jvm.ClassFile.FieldType.boolean), 0, 0)
set_option maxRecDepth 100000 in
set_option maxHeartbeats 4000000 in
theorem sX4_isReadNext {l : Launch} {g : qv_G} {a0 : Nat} {a1 : Nat} {a2 : Int32} {a3 : Int32} {a4 : Int32} {h : qv_H} {r : Int32} (hs : fX4_isReadNext a0 a1 a2 a3 a4 h = some r) : qv_J l g mX4_isReadNext 0 [some (.ref a0), some (.ref a1), some (.int a2), some (.int a3), some (.int a4), none, none, none] [] h (some (.int r), h) := by
  unfold fX4_isReadNext at hs
  refine qv_iload dX4_isReadNext_0 rfl ?_
  refine qv_istore (lo2 := [some (.ref a0), some (.ref a1), some (.int a2), some (.int a3), some (.int a4), some (.int a4), none, none]) dX4_isReadNext_2 (by decide) rfl (Nat.le_of_ble_eq_true rfl) rfl ?_
  refine qv_iconst (v := (0 : Int32)) dX4_isReadNext_4 rfl ?_
  refine qv_istore (lo2 := [some (.ref a0), some (.ref a1), some (.int a2), some (.int a3), some (.int a4), some (.int a4), some (.int (0 : Int32)), none]) dX4_isReadNext_5 (by decide) rfl (Nat.le_of_ble_eq_true rfl) rfl ?_
  obtain ⟨q6, e2, hA3⟩ := qv_bind hs
  have K1 : ∀ (_ : Unit), q6 = .inl () → qv_J l g mX4_isReadNext 79 [none, none, none, none, none, none, none, none] [] h (some (.int r), h) := by
    intro _ eq9
    subst eq9
    have hs := hA3
    dsimp only at hs
    refine qv_iconst (v := (1 : Int32)) dX4_isReadNext_79 rfl ?_
    obtain rfl := qv_sm hs
    exact qv_zret dX4_isReadNext_80 rfl (by decide)
  obtain ⟨n8, e2⟩ := qv_loop_of e2
  refine qv_dp (qv_le_s (qv_le_s (qv_le_s (qv_le_s (qv_le_n (qv_le_s (qv_le_s (qv_le_n qv_le_0)))))))) (?_ : qv_J l g mX4_isReadNext 7 [some (.ref a0), some (.ref a1), some (.int a2), some (.int a3), none, some (.int a4), some (.int (0 : Int32)), none] [] h (some (.int r), h))
  revert e2
  suffices lj7 : ∀ (x1 : Int32) (x2 : Int32), qv_it _ n8 (x1, x2) = some q6 → qv_J l g mX4_isReadNext 7 [some (.ref a0), some (.ref a1), some (.int a2), some (.int a3), none, some (.int x1), some (.int x2), none] [] h (some (.int r), h) from lj7 a4 (0 : Int32)
  induction n8 with
  | zero =>
    intro x1 x2 e2
    cases e2
  | succ n8 ih4 =>
    intro x1 x2 e2
    obtain ⟨_, hs, eb5⟩ := qv_it_s e2
    dsimp only at hs
    refine qv_iload dX4_isReadNext_7 rfl ?_
    refine qv_aload_n dX4_isReadNext_9 (i := 1) rfl rfl ?_
    obtain ⟨v3, e10, hs⟩ := qv_bind hs
    refine qv_getI dX4_isReadNext_10 qF_X4_53 e10 ?_
    by_cases c11 : v3 ≤ x2
    · have hs := qv_pos c11 hs
      refine qv_icmp_ge (tgt := 79) dX4_isReadNext_13 rfl (fun _ => ?_) (fun q => absurd c11 q)
      cases hs
      cases qv_nx_r eb5
      exact qv_dp (qv_le_n (qv_le_n (qv_le_n (qv_le_n (qv_le_n (qv_le_n (qv_le_n (qv_le_n qv_le_0)))))))) (K1 () rfl)
    · have hs := qv_neg c11 hs
      refine qv_icmp_ge (tgt := 79) dX4_isReadNext_13 rfl (fun q => absurd q c11) (fun _ => ?_)
      refine qv_iload_n dX4_isReadNext_16 (i := 3) rfl rfl ?_
      obtain ⟨m5, hj13, hs⟩ := qv_bind hs
      have K12 : qv_J l g mX4_isReadNext 34 [some (.ref a0), some (.ref a1), some (.int a2), some (.int a3), none, some (.int x1), some (.int x2), none] [.int m5] h (some (.int r), h) := by
        refine qv_istore (lo2 := [some (.ref a0), some (.ref a1), some (.int a2), some (.int a3), none, some (.int x1), some (.int x2), some (.int m5)]) dX4_isReadNext_34 (by decide) rfl (Nat.le_of_ble_eq_true rfl) rfl ?_
        refine qv_aload_n dX4_isReadNext_36 (i := 1) rfl rfl ?_
        obtain ⟨v6, e14, hs⟩ := qv_bind hs
        refine qv_getR dX4_isReadNext_37 qF_X4_56 e14 ?_
        refine qv_iload dX4_isReadNext_40 rfl ?_
        obtain ⟨v7, e15, hs⟩ := qv_bind hs
        refine qv_iald dX4_isReadNext_42 e15 ?_
        refine qv_iload_n dX4_isReadNext_43 (i := 2) rfl rfl ?_
        by_cases c16 : v7 = a2
        · have hs := qv_pos c16 hs
          refine qv_icmp_ne (tgt := 73) dX4_isReadNext_44 rfl (fun q => absurd c16 q) (fun _ => ?_)
          refine qv_iload dX4_isReadNext_47 rfl ?_
          refine qv_aload_n dX4_isReadNext_49 (i := 0) rfl rfl ?_
          obtain ⟨v8, e17, hs⟩ := qv_bind hs
          refine qv_getI dX4_isReadNext_50 qF_X4_9 e17 ?_
          by_cases c18 : v8 ≤ x1
          · have hs := qv_pos c18 hs
            refine qv_icmp_ge (tgt := 68) dX4_isReadNext_53 rfl (fun _ => ?_) (fun q => absurd c18 q)
            refine qv_iconst (v := (0 : Int32)) dX4_isReadNext_68 rfl ?_
            cases hs
            cases qv_nx_r eb5
            have hs := hA3
            dsimp only at hs
            obtain rfl := qv_sm hs
            exact qv_zret dX4_isReadNext_69 rfl (by decide)
          · have hs := qv_neg c18 hs
            refine qv_icmp_ge (tgt := 68) dX4_isReadNext_53 rfl (fun q => absurd q c18) (fun _ => ?_)
            refine qv_aload_n dX4_isReadNext_56 (i := 0) rfl rfl ?_
            obtain ⟨v9, e19, hs⟩ := qv_bind hs
            refine qv_getR dX4_isReadNext_57 qF_X4_15 e19 ?_
            refine qv_iload dX4_isReadNext_60 rfl ?_
            obtain ⟨v10, e20, hs⟩ := qv_bind hs
            refine qv_iald dX4_isReadNext_62 e20 ?_
            refine qv_iload dX4_isReadNext_63 rfl ?_
            by_cases c21 : v10 = m5
            · have hs := qv_pos c21 hs
              refine qv_icmp_eq (tgt := 70) dX4_isReadNext_65 rfl (fun _ => ?_) (fun q => absurd c21 q)
              refine qv_iinc (v := x1 + (1 : Int32)) (lo2 := [some (.ref a0), some (.ref a1), some (.int a2), some (.int a3), none, some (.int (x1 + (1 : Int32))), some (.int x2), some (.int m5)]) dX4_isReadNext_70 rfl rfl (by decide) rfl rfl ?_
              refine qv_iinc (v := x2 + (1 : Int32)) (lo2 := [some (.ref a0), some (.ref a1), some (.int a2), some (.int a3), none, some (.int (x1 + (1 : Int32))), some (.int (x2 + (1 : Int32))), some (.int m5)]) dX4_isReadNext_73 rfl rfl (by decide) rfl rfl ?_
              refine qv_goto (tgt := 7) dX4_isReadNext_76 rfl ?_
              cases hs
              exact qv_dp (qv_le_s (qv_le_s (qv_le_s (qv_le_s (qv_le_n (qv_le_s (qv_le_s (qv_le_n qv_le_0)))))))) (ih4 _ _ (qv_nx_l eb5))
            · have hs := qv_neg c21 hs
              refine qv_icmp_eq (tgt := 70) dX4_isReadNext_65 rfl (fun q => absurd q c21) (fun _ => ?_)
              refine qv_iconst (v := (0 : Int32)) dX4_isReadNext_68 rfl ?_
              cases hs
              cases qv_nx_r eb5
              have hs := hA3
              dsimp only at hs
              obtain rfl := qv_sm hs
              exact qv_zret dX4_isReadNext_69 rfl (by decide)
        · have hs := qv_neg c16 hs
          refine qv_icmp_ne (tgt := 73) dX4_isReadNext_44 rfl (fun _ => ?_) (fun q => absurd q c16)
          refine qv_iinc (v := x2 + (1 : Int32)) (lo2 := [some (.ref a0), some (.ref a1), some (.int a2), some (.int a3), none, some (.int x1), some (.int (x2 + (1 : Int32))), some (.int m5)]) dX4_isReadNext_73 rfl rfl (by decide) rfl rfl ?_
          refine qv_goto (tgt := 7) dX4_isReadNext_76 rfl ?_
          cases hs
          exact qv_dp (qv_le_s (qv_le_s (qv_le_s (qv_le_s (qv_le_n (qv_le_s (qv_le_s (qv_le_n qv_le_0)))))))) (ih4 _ _ (qv_nx_l eb5))
      replace hs := hj13
      by_cases c22 : a3 = 0
      · have hs := qv_pos c22 hs
        refine qv_if_eq (tgt := 25) dX4_isReadNext_17 rfl (fun _ => ?_) (fun q => absurd c22 q)
        refine qv_aload_n dX4_isReadNext_25 (i := 1) rfl rfl ?_
        obtain ⟨v4, e23, hs⟩ := qv_bind hs
        refine qv_getI dX4_isReadNext_26 qF_X4_53 e23 ?_
        refine qv_iconst (v := (1 : Int32)) dX4_isReadNext_29 rfl ?_
        refine qv_isub dX4_isReadNext_30 ?_
        refine qv_iload dX4_isReadNext_31 rfl ?_
        refine qv_isub dX4_isReadNext_33 ?_
        cases hs
        exact qv_dp (qv_le_s (qv_le_s (qv_le_s (qv_le_s (qv_le_n (qv_le_s (qv_le_s (qv_le_n qv_le_0)))))))) K12
      · have hs := qv_neg c22 hs
        refine qv_if_eq (tgt := 25) dX4_isReadNext_17 rfl (fun q => absurd q c22) (fun _ => ?_)
        refine qv_iload dX4_isReadNext_20 rfl ?_
        refine qv_goto (tgt := 34) dX4_isReadNext_22 rfl ?_
        cases hs
        exact qv_dp (qv_le_s (qv_le_s (qv_le_s (qv_le_s (qv_le_n (qv_le_s (qv_le_s (qv_le_n qv_le_0)))))))) K12
theorem qD_X4_isReadNext : qv_DV mX4_isReadNext 4 := ⟨(qv_i11 (List.mem_of_getElem? (i := 37) (by decide +kernel))), (qv_i0 (List.mem_of_getElem? (i := 19) (by decide +kernel))), (qv_i1 (List.mem_of_getElem? (i := 12) (by decide +kernel))), (qv_i11 (List.mem_of_getElem? (i := 38) (by decide +kernel))), by decide +kernel, by decide +kernel⟩
/-- Reading.walk(LTrueOneWay$Land;IZI)V -/
noncomputable def fX4_walk (a0 : Nat) (a1 : Nat) (a2 : Int32) (a3 : Int32) (a4 : Int32) (h : qv_H) : Option (qv_H) :=
  (qv_ob h 2 a1).bind fun _ =>
  (fX3_signsOn a1 a2 h).bind fun v2 =>
  (fJ6_bitCount_0f7a4 v2).bind fun v3 =>
  if v3 = 0 then
    some h
  else
    (qv_ob h 3 a0).bind fun _ =>
    (fX4_isReadNext a0 a1 a2 a3 a4 h).bind fun v5 =>
    if v5 = 0 then
      some h
    else
      Option.bind (α := Int32) (
          if a3 = 0 then
            (qv_gR h 2 a1 5).bind fun v6 =>
            (qv_aI h false v6 a2).bind fun v7 =>
            some v7
          else
            (qv_gR h 2 a1 4).bind fun v8 =>
            (qv_aI h false v8 a2).bind fun v9 =>
            some v9
        ) fun m10 =>
      Option.bind (α := Int32) (
          if a3 = 0 then
            (qv_gR h 2 a1 4).bind fun v11 =>
            (qv_aI h false v11 a2).bind fun v12 =>
            some v12
          else
            (qv_gR h 2 a1 5).bind fun v13 =>
            (qv_aI h false v13 a2).bind fun v14 =>
            some v14
        ) fun m15 =>
      (qv_gR h 3 a0 2).bind fun v16 =>
      (qv_aI h false v16 (((a4 + v3) * (6 : Int32)) + m15)).bind fun v17 =>
      (qv_gR h 3 a0 2).bind fun v18 =>
      (qv_aI h false v18 ((a4 * (6 : Int32)) + m10)).bind fun v19 =>
      (qv_sI h false v16 (((a4 + v3) * (6 : Int32)) + m15) (v17 + v19)).bind fun h20 =>
      some h20
abbrev mX4_walk : qv_M := (yX4_walk, cX4_walk, 8, (Option.none : Option Jvm.ClassFile.FieldType), 1, 27)
set_option maxRecDepth 100000 in
set_option maxHeartbeats 4000000 in
theorem sX4_walk {l : Launch} {g : qv_G} {a0 : Nat} {a1 : Nat} {a2 : Int32} {a3 : Int32} {a4 : Int32} {h : qv_H} {hz : qv_H} (hs : fX4_walk a0 a1 a2 a3 a4 h = some hz) : qv_J l g mX4_walk 0 [some (.ref a0), some (.ref a1), some (.int a2), some (.int a3), some (.int a4), none, none, none] [] h (none, hz) := by
  unfold fX4_walk at hs
  refine qv_aload_n dX4_walk_0 (i := 1) rfl rfl ?_
  refine qv_iload_n dX4_walk_1 (i := 2) rfl rfl ?_
  obtain ⟨u1, e1, hs⟩ := qv_bind hs
  obtain ⟨v2, e2, hs⟩ := qv_bind hs
  refine qv_cV (d2 := mX3_signsOn) (o := a1) (ci := 2) (r := some (.int v2)) (h2 := h) (av := [.int a2]) (st := []) dX4_walk_2 qM_X4_34 qD_X3_signsOn e1 rfl rfl ⟨by decide, by decide⟩ rfl (Nat.le_of_ble_eq_true rfl) (Nat.le_of_ble_eq_true rfl) (sX3_signsOn e2) rfl ?_
  obtain ⟨v3, e3, hs⟩ := qv_bind hs
  refine qv_cS (d2 := mJ6_bitCount_0f7a4) (r := some (.int v3)) (h2 := h) (av := [.int v2]) (st := []) dX4_walk_5 qM_X4_38 qD_J6_bitCount_0f7a4 rfl ⟨by decide, by decide⟩ rfl (Nat.le_of_ble_eq_true rfl) (Nat.le_of_ble_eq_true rfl) (sJ6_bitCount_0f7a4 e3) rfl ?_
  refine qv_istore (lo2 := [some (.ref a0), some (.ref a1), some (.int a2), some (.int a3), some (.int a4), some (.int v3), none, none]) dX4_walk_8 (by decide) rfl (Nat.le_of_ble_eq_true rfl) rfl ?_
  refine qv_iload dX4_walk_10 rfl ?_
  by_cases c4 : v3 = 0
  · have hs := qv_pos c4 hs
    refine qv_if_eq (tgt := 27) dX4_walk_12 rfl (fun _ => ?_) (fun q => absurd c4 q)
    obtain rfl := qv_sm hs
    exact qv_vret dX4_walk_27 rfl
  · have hs := qv_neg c4 hs
    refine qv_if_eq (tgt := 27) dX4_walk_12 rfl (fun q => absurd q c4) (fun _ => ?_)
    refine qv_aload_n dX4_walk_15 (i := 0) rfl rfl ?_
    refine qv_aload_n dX4_walk_16 (i := 1) rfl rfl ?_
    refine qv_iload_n dX4_walk_17 (i := 2) rfl rfl ?_
    refine qv_iload_n dX4_walk_18 (i := 3) rfl rfl ?_
    refine qv_iload dX4_walk_19 rfl ?_
    obtain ⟨u4, e5, hs⟩ := qv_bind hs
    obtain ⟨v5, e6, hs⟩ := qv_bind hs
    refine qv_cV (d2 := mX4_isReadNext) (o := a0) (ci := 3) (r := some (.int v5)) (h2 := h) (av := [.ref a1, .int a2, .int a3, .int a4]) (st := []) dX4_walk_21 qM_X4_43 qD_X4_isReadNext e5 rfl rfl ⟨by decide, by decide⟩ rfl (Nat.le_of_ble_eq_true rfl) (Nat.le_of_ble_eq_true rfl) (sX4_isReadNext e6) rfl ?_
    by_cases c7 : v5 = 0
    · have hs := qv_pos c7 hs
      refine qv_if_ne (tgt := 28) dX4_walk_24 rfl (fun q => absurd c7 q) (fun _ => ?_)
      obtain rfl := qv_sm hs
      exact qv_vret dX4_walk_27 rfl
    · have hs := qv_neg c7 hs
      refine qv_if_ne (tgt := 28) dX4_walk_24 rfl (fun _ => ?_) (fun q => absurd q c7)
      refine qv_iload_n dX4_walk_28 (i := 3) rfl rfl ?_
      obtain ⟨m10, hj9, hs⟩ := qv_bind hs
      have K8 : qv_J l g mX4_walk 47 [some (.ref a0), some (.ref a1), some (.int a2), some (.int a3), some (.int a4), some (.int v3), none, none] [.int m10] h (none, hz) := by
        refine qv_istore (lo2 := [some (.ref a0), some (.ref a1), some (.int a2), some (.int a3), some (.int a4), some (.int v3), some (.int m10), none]) dX4_walk_47 (by decide) rfl (Nat.le_of_ble_eq_true rfl) rfl ?_
        refine qv_iload_n dX4_walk_49 (i := 3) rfl rfl ?_
        obtain ⟨m15, hj11, hs⟩ := qv_bind hs
        have K10 : qv_J l g mX4_walk 68 [some (.ref a0), none, none, none, some (.int a4), some (.int v3), some (.int m10), none] [.int m15] h (none, hz) := by
          refine qv_istore (lo2 := [some (.ref a0), none, none, none, some (.int a4), some (.int v3), some (.int m10), some (.int m15)]) dX4_walk_68 (by decide) rfl (Nat.le_of_ble_eq_true rfl) rfl ?_
          refine qv_aload_n dX4_walk_70 (i := 0) rfl rfl ?_
          obtain ⟨v16, e12, hs⟩ := qv_bind hs
          refine qv_getR dX4_walk_71 qF_X4_19 e12 ?_
          refine qv_iload dX4_walk_74 rfl ?_
          refine qv_iload dX4_walk_76 rfl ?_
          refine qv_iadd dX4_walk_78 ?_
          refine qv_bipush (v := (6 : Int32)) dX4_walk_79 rfl ?_
          refine qv_imul dX4_walk_81 ?_
          refine qv_iload dX4_walk_82 rfl ?_
          refine qv_iadd dX4_walk_84 ?_
          refine qv_dup2 dX4_walk_85 rfl rfl ?_
          obtain ⟨v17, e13, hs⟩ := qv_bind hs
          refine qv_iald dX4_walk_86 e13 ?_
          refine qv_aload_n dX4_walk_87 (i := 0) rfl rfl ?_
          obtain ⟨v18, e14, hs⟩ := qv_bind hs
          refine qv_getR dX4_walk_88 qF_X4_19 e14 ?_
          refine qv_iload dX4_walk_91 rfl ?_
          refine qv_bipush (v := (6 : Int32)) dX4_walk_93 rfl ?_
          refine qv_imul dX4_walk_95 ?_
          refine qv_iload dX4_walk_96 rfl ?_
          refine qv_iadd dX4_walk_98 ?_
          obtain ⟨v19, e15, hs⟩ := qv_bind hs
          refine qv_iald dX4_walk_99 e15 ?_
          refine qv_iadd dX4_walk_100 ?_
          obtain ⟨h20, e16, hs⟩ := qv_bind hs
          refine qv_iast dX4_walk_101 e16 ?_
          obtain rfl := qv_sm hs
          exact qv_vret dX4_walk_102 rfl
        replace hs := hj11
        by_cases c17 : a3 = 0
        · have hs := qv_pos c17 hs
          refine qv_if_eq (tgt := 62) dX4_walk_50 rfl (fun _ => ?_) (fun q => absurd c17 q)
          refine qv_aload_n dX4_walk_62 (i := 1) rfl rfl ?_
          obtain ⟨v11, e18, hs⟩ := qv_bind hs
          refine qv_getR dX4_walk_63 qF_X4_47 e18 ?_
          refine qv_iload_n dX4_walk_66 (i := 2) rfl rfl ?_
          obtain ⟨v12, e19, hs⟩ := qv_bind hs
          refine qv_iald dX4_walk_67 e19 ?_
          cases hs
          exact qv_dp (qv_le_s (qv_le_n (qv_le_n (qv_le_n (qv_le_s (qv_le_s (qv_le_s (qv_le_n qv_le_0)))))))) K10
        · have hs := qv_neg c17 hs
          refine qv_if_eq (tgt := 62) dX4_walk_50 rfl (fun q => absurd q c17) (fun _ => ?_)
          refine qv_aload_n dX4_walk_53 (i := 1) rfl rfl ?_
          obtain ⟨v13, e20, hs⟩ := qv_bind hs
          refine qv_getR dX4_walk_54 qF_X4_50 e20 ?_
          refine qv_iload_n dX4_walk_57 (i := 2) rfl rfl ?_
          obtain ⟨v14, e21, hs⟩ := qv_bind hs
          refine qv_iald dX4_walk_58 e21 ?_
          refine qv_goto (tgt := 68) dX4_walk_59 rfl ?_
          cases hs
          exact qv_dp (qv_le_s (qv_le_n (qv_le_n (qv_le_n (qv_le_s (qv_le_s (qv_le_s (qv_le_n qv_le_0)))))))) K10
      replace hs := hj9
      by_cases c22 : a3 = 0
      · have hs := qv_pos c22 hs
        refine qv_if_eq (tgt := 41) dX4_walk_29 rfl (fun _ => ?_) (fun q => absurd c22 q)
        refine qv_aload_n dX4_walk_41 (i := 1) rfl rfl ?_
        obtain ⟨v6, e23, hs⟩ := qv_bind hs
        refine qv_getR dX4_walk_42 qF_X4_50 e23 ?_
        refine qv_iload_n dX4_walk_45 (i := 2) rfl rfl ?_
        obtain ⟨v7, e24, hs⟩ := qv_bind hs
        refine qv_iald dX4_walk_46 e24 ?_
        cases hs
        exact qv_dp (qv_le_s (qv_le_s (qv_le_s (qv_le_s (qv_le_s (qv_le_s (qv_le_n (qv_le_n qv_le_0)))))))) K8
      · have hs := qv_neg c22 hs
        refine qv_if_eq (tgt := 41) dX4_walk_29 rfl (fun q => absurd q c22) (fun _ => ?_)
        refine qv_aload_n dX4_walk_32 (i := 1) rfl rfl ?_
        obtain ⟨v8, e25, hs⟩ := qv_bind hs
        refine qv_getR dX4_walk_33 qF_X4_47 e25 ?_
        refine qv_iload_n dX4_walk_36 (i := 2) rfl rfl ?_
        obtain ⟨v9, e26, hs⟩ := qv_bind hs
        refine qv_iald dX4_walk_37 e26 ?_
        refine qv_goto (tgt := 47) dX4_walk_38 rfl ?_
        cases hs
        exact qv_dp (qv_le_s (qv_le_s (qv_le_s (qv_le_s (qv_le_s (qv_le_s (qv_le_n (qv_le_n qv_le_0)))))))) K8
theorem qD_X4_walk : qv_DV mX4_walk 4 := ⟨(qv_i11 (List.mem_of_getElem? (i := 32) (by decide +kernel))), (qv_i0 (List.mem_of_getElem? (i := 18) (by decide +kernel))), (qv_i1 (List.mem_of_getElem? (i := 12) (by decide +kernel))), (qv_i11 (List.mem_of_getElem? (i := 33) (by decide +kernel))), by decide +kernel, by decide +kernel⟩
/-- Reading.trace(LTrueOneWay$Land;)V -/
noncomputable def fX4_trace (a0 : Nat) (a1 : Nat) (h : qv_H) : Option (qv_H) :=
  Option.bind (qv_loop (σ := Int32 × qv_H) (ρ := qv_H) (fun (x1, h2) =>
      (qv_gR h2 3 a0 2).bind fun v3 =>
      (qv_ln h2 v3).bind fun v4 =>
      if v4 ≤ x1 then
        some (.inr h2)
      else
        (qv_gR h2 3 a0 2).bind fun v5 =>
        (qv_gI h2 2 a1 0).bind fun v6 =>
        Option.bind (α := Int32) (
            if v6 ≤ x1 then
              some (0 : Int32)
            else
              some (1 : Int32)
          ) fun m7 =>
        (qv_sI h2 false v5 x1 m7).bind fun h8 =>
        some (.inl (x1 + (1 : Int32), h8))
    ) ((0 : Int32), h)) fun h9 =>
  Option.bind (qv_loop (σ := Int32 × qv_H) (ρ := qv_H) (fun (x10, h11) =>
      (qv_gI h11 3 a0 0).bind fun v12 =>
      if v12 ≤ x10 then
        some (.inr h11)
      else
        Option.bind (qv_loop (σ := Int32 × qv_H) (ρ := qv_H) (fun (x13, h14) =>
            (qv_gI h14 2 a1 1).bind fun v15 =>
            if v15 ≤ x13 then
              some (.inr h14)
            else
              (qv_ob h14 3 a0).bind fun _ =>
              (fX4_walk a0 a1 x13 (1 : Int32) x10 h14).bind fun h17 =>
              (qv_ob h17 3 a0).bind fun _ =>
              (fX4_walk a0 a1 x13 (0 : Int32) x10 h17).bind fun h19 =>
              some (.inl (x13 + (1 : Int32), h19))
          ) ((0 : Int32), h11)) fun h20 =>
        some (.inl (x10 + (1 : Int32), h20))
    ) ((0 : Int32), h9)) fun h21 =>
  some h21
abbrev mX4_trace : qv_M := (yX4_trace, cX4_trace, 4, (Option.none : Option Jvm.ClassFile.FieldType), 2, 54)
set_option maxRecDepth 100000 in
set_option maxHeartbeats 4000000 in
theorem sX4_trace {l : Launch} {g : qv_G} {a0 : Nat} {a1 : Nat} {h : qv_H} {hz : qv_H} (hs : fX4_trace a0 a1 h = some hz) : qv_J l g mX4_trace 0 [some (.ref a0), some (.ref a1), none, none] [] h (none, hz) := by
  unfold fX4_trace at hs
  refine qv_iconst (v := (0 : Int32)) dX4_trace_0 rfl ?_
  refine qv_istore_n (lo2 := [some (.ref a0), some (.ref a1), some (.int (0 : Int32)), none]) dX4_trace_1 (i := 2) rfl (by decide) rfl (Nat.le_of_ble_eq_true rfl) rfl ?_
  obtain ⟨h9, e2, hs⟩ := qv_bind hs
  have K1 : qv_J l g mX4_trace 36 [some (.ref a0), some (.ref a1), none, none] [] h9 (none, hz) := by
    refine qv_iconst (v := (0 : Int32)) dX4_trace_36 rfl ?_
    refine qv_istore_n (lo2 := [some (.ref a0), some (.ref a1), some (.int (0 : Int32)), none]) dX4_trace_37 (i := 2) rfl (by decide) rfl (Nat.le_of_ble_eq_true rfl) rfl ?_
    obtain ⟨h21, e10, hs⟩ := qv_bind hs
    have K9 : qv_J l g mX4_trace 84 [none, none, none, none] [] h21 (none, hz) := by
      obtain rfl := qv_sm hs
      exact qv_vret dX4_trace_84 rfl
    obtain ⟨n16, e10⟩ := qv_loop_of e10
    refine qv_dp (qv_le_s (qv_le_s (qv_le_s (qv_le_n qv_le_0)))) (?_ : qv_J l g mX4_trace 38 [some (.ref a0), some (.ref a1), some (.int (0 : Int32)), none] [] h9 (none, hz))
    revert e10
    suffices lj15 : ∀ (x10 : Int32) (h11 : qv_H), qv_it _ n16 (x10, h11) = some h21 → qv_J l g mX4_trace 38 [some (.ref a0), some (.ref a1), some (.int x10), none] [] h11 (none, hz) from lj15 (0 : Int32) h9
    induction n16 with
    | zero =>
      intro x10 h11 e10
      cases e10
    | succ n16 ih12 =>
      intro x10 h11 e10
      obtain ⟨_, hs, eb13⟩ := qv_it_s e10
      dsimp only at hs
      refine qv_iload_n dX4_trace_38 (i := 2) rfl rfl ?_
      refine qv_aload_n dX4_trace_39 (i := 0) rfl rfl ?_
      obtain ⟨v12, e17, hs⟩ := qv_bind hs
      refine qv_getI dX4_trace_40 qF_X4_9 e17 ?_
      by_cases c18 : v12 ≤ x10
      · have hs := qv_pos c18 hs
        refine qv_icmp_ge (tgt := 84) dX4_trace_43 rfl (fun _ => ?_) (fun q => absurd c18 q)
        cases hs
        cases qv_nx_r eb13
        exact qv_dp (qv_le_n (qv_le_n (qv_le_n (qv_le_n qv_le_0)))) K9
      · have hs := qv_neg c18 hs
        refine qv_icmp_ge (tgt := 84) dX4_trace_43 rfl (fun q => absurd q c18) (fun _ => ?_)
        refine qv_iconst (v := (0 : Int32)) dX4_trace_46 rfl ?_
        refine qv_istore_n (lo2 := [some (.ref a0), some (.ref a1), some (.int x10), some (.int (0 : Int32))]) dX4_trace_47 (i := 3) rfl (by decide) rfl (Nat.le_of_ble_eq_true rfl) rfl ?_
        obtain ⟨h20, e20, hs⟩ := qv_bind hs
        have K19 : qv_J l g mX4_trace 78 [some (.ref a0), some (.ref a1), some (.int x10), none] [] h20 (none, hz) := by
          refine qv_iinc (v := x10 + (1 : Int32)) (lo2 := [some (.ref a0), some (.ref a1), some (.int (x10 + (1 : Int32))), none]) dX4_trace_78 rfl rfl (by decide) rfl rfl ?_
          refine qv_goto (tgt := 38) dX4_trace_81 rfl ?_
          cases hs
          exact qv_dp (qv_le_s (qv_le_s (qv_le_s (qv_le_n qv_le_0)))) (ih12 _ _ (qv_nx_l eb13))
        obtain ⟨n26, e20⟩ := qv_loop_of e20
        refine qv_dp (qv_le_s (qv_le_s (qv_le_s (qv_le_s qv_le_0)))) (?_ : qv_J l g mX4_trace 48 [some (.ref a0), some (.ref a1), some (.int x10), some (.int (0 : Int32))] [] h11 (none, hz))
        revert e20
        suffices lj25 : ∀ (x13 : Int32) (h14 : qv_H), qv_it _ n26 (x13, h14) = some h20 → qv_J l g mX4_trace 48 [some (.ref a0), some (.ref a1), some (.int x10), some (.int x13)] [] h14 (none, hz) from lj25 (0 : Int32) h11
        induction n26 with
        | zero =>
          intro x13 h14 e20
          cases e20
        | succ n26 ih22 =>
          intro x13 h14 e20
          obtain ⟨_, hs, eb23⟩ := qv_it_s e20
          dsimp only at hs
          refine qv_iload_n dX4_trace_48 (i := 3) rfl rfl ?_
          refine qv_aload_n dX4_trace_49 (i := 1) rfl rfl ?_
          obtain ⟨v15, e27, hs⟩ := qv_bind hs
          refine qv_getI dX4_trace_50 qF_X4_27 e27 ?_
          by_cases c28 : v15 ≤ x13
          · have hs := qv_pos c28 hs
            refine qv_icmp_ge (tgt := 78) dX4_trace_53 rfl (fun _ => ?_) (fun q => absurd c28 q)
            cases hs
            cases qv_nx_r eb23
            exact qv_dp (qv_le_s (qv_le_s (qv_le_s (qv_le_n qv_le_0)))) K19
          · have hs := qv_neg c28 hs
            refine qv_icmp_ge (tgt := 78) dX4_trace_53 rfl (fun q => absurd q c28) (fun _ => ?_)
            refine qv_aload_n dX4_trace_56 (i := 0) rfl rfl ?_
            refine qv_aload_n dX4_trace_57 (i := 1) rfl rfl ?_
            refine qv_iload_n dX4_trace_58 (i := 3) rfl rfl ?_
            refine qv_iconst (v := (1 : Int32)) dX4_trace_59 rfl ?_
            refine qv_iload_n dX4_trace_60 (i := 2) rfl rfl ?_
            obtain ⟨u16, e29, hs⟩ := qv_bind hs
            obtain ⟨h17, e30, hs⟩ := qv_bind hs
            refine qv_cV (d2 := mX4_walk) (o := a0) (ci := 3) (r := none) (h2 := h17) (av := [.ref a1, .int x13, .int (1 : Int32), .int x10]) (st := []) dX4_trace_61 qM_X4_30 qD_X4_walk e29 rfl rfl ⟨by decide, by decide⟩ rfl (Nat.le_of_ble_eq_true rfl) (Nat.le_of_ble_eq_true rfl) (sX4_walk e30) rfl ?_
            refine qv_aload_n dX4_trace_64 (i := 0) rfl rfl ?_
            refine qv_aload_n dX4_trace_65 (i := 1) rfl rfl ?_
            refine qv_iload_n dX4_trace_66 (i := 3) rfl rfl ?_
            refine qv_iconst (v := (0 : Int32)) dX4_trace_67 rfl ?_
            refine qv_iload_n dX4_trace_68 (i := 2) rfl rfl ?_
            obtain ⟨u18, e31, hs⟩ := qv_bind hs
            obtain ⟨h19, e32, hs⟩ := qv_bind hs
            refine qv_cV (d2 := mX4_walk) (o := a0) (ci := 3) (r := none) (h2 := h19) (av := [.ref a1, .int x13, .int (0 : Int32), .int x10]) (st := []) dX4_trace_69 qM_X4_30 qD_X4_walk e31 rfl rfl ⟨by decide, by decide⟩ rfl (Nat.le_of_ble_eq_true rfl) (Nat.le_of_ble_eq_true rfl) (sX4_walk e32) rfl ?_
            refine qv_iinc (v := x13 + (1 : Int32)) (lo2 := [some (.ref a0), some (.ref a1), some (.int x10), some (.int (x13 + (1 : Int32)))]) dX4_trace_72 rfl rfl (by decide) rfl rfl ?_
            refine qv_goto (tgt := 48) dX4_trace_75 rfl ?_
            cases hs
            exact qv_dp (qv_le_s (qv_le_s (qv_le_s (qv_le_s qv_le_0)))) (ih22 _ _ (qv_nx_l eb23))
  obtain ⟨n8, e2⟩ := qv_loop_of e2
  refine qv_dp (qv_le_s (qv_le_s (qv_le_s (qv_le_n qv_le_0)))) (?_ : qv_J l g mX4_trace 2 [some (.ref a0), some (.ref a1), some (.int (0 : Int32)), none] [] h (none, hz))
  revert e2
  suffices lj7 : ∀ (x1 : Int32) (h2 : qv_H), qv_it _ n8 (x1, h2) = some h9 → qv_J l g mX4_trace 2 [some (.ref a0), some (.ref a1), some (.int x1), none] [] h2 (none, hz) from lj7 (0 : Int32) h
  induction n8 with
  | zero =>
    intro x1 h2 e2
    cases e2
  | succ n8 ih4 =>
    intro x1 h2 e2
    obtain ⟨_, hs, eb5⟩ := qv_it_s e2
    dsimp only at hs
    refine qv_iload_n dX4_trace_2 (i := 2) rfl rfl ?_
    refine qv_aload_n dX4_trace_3 (i := 0) rfl rfl ?_
    obtain ⟨v3, e33, hs⟩ := qv_bind hs
    refine qv_getR dX4_trace_4 qF_X4_19 e33 ?_
    obtain ⟨v4, e34, hs⟩ := qv_bind hs
    refine qv_alen dX4_trace_7 e34 ?_
    by_cases c35 : v4 ≤ x1
    · have hs := qv_pos c35 hs
      refine qv_icmp_ge (tgt := 36) dX4_trace_8 rfl (fun _ => ?_) (fun q => absurd c35 q)
      cases hs
      cases qv_nx_r eb5
      exact qv_dp (qv_le_s (qv_le_s (qv_le_n (qv_le_n qv_le_0)))) K1
    · have hs := qv_neg c35 hs
      refine qv_icmp_ge (tgt := 36) dX4_trace_8 rfl (fun q => absurd q c35) (fun _ => ?_)
      refine qv_aload_n dX4_trace_11 (i := 0) rfl rfl ?_
      obtain ⟨v5, e36, hs⟩ := qv_bind hs
      refine qv_getR dX4_trace_12 qF_X4_19 e36 ?_
      refine qv_iload_n dX4_trace_15 (i := 2) rfl rfl ?_
      refine qv_iload_n dX4_trace_16 (i := 2) rfl rfl ?_
      refine qv_aload_n dX4_trace_17 (i := 1) rfl rfl ?_
      obtain ⟨v6, e37, hs⟩ := qv_bind hs
      refine qv_getI dX4_trace_18 qF_X4_22 e37 ?_
      obtain ⟨m7, hj39, hs⟩ := qv_bind hs
      have K38 : qv_J l g mX4_trace 29 [some (.ref a0), some (.ref a1), some (.int x1), none] [.int m7, .int x1, .ref v5] h2 (none, hz) := by
        obtain ⟨h8, e40, hs⟩ := qv_bind hs
        refine qv_iast dX4_trace_29 e40 ?_
        refine qv_iinc (v := x1 + (1 : Int32)) (lo2 := [some (.ref a0), some (.ref a1), some (.int (x1 + (1 : Int32))), none]) dX4_trace_30 rfl rfl (by decide) rfl rfl ?_
        refine qv_goto (tgt := 2) dX4_trace_33 rfl ?_
        cases hs
        exact qv_dp (qv_le_s (qv_le_s (qv_le_s (qv_le_n qv_le_0)))) (ih4 _ _ (qv_nx_l eb5))
      replace hs := hj39
      by_cases c41 : v6 ≤ x1
      · have hs := qv_pos c41 hs
        refine qv_icmp_ge (tgt := 28) dX4_trace_21 rfl (fun _ => ?_) (fun q => absurd c41 q)
        refine qv_iconst (v := (0 : Int32)) dX4_trace_28 rfl ?_
        cases hs
        exact qv_dp (qv_le_s (qv_le_s (qv_le_s (qv_le_n qv_le_0)))) K38
      · have hs := qv_neg c41 hs
        refine qv_icmp_ge (tgt := 28) dX4_trace_21 rfl (fun q => absurd q c41) (fun _ => ?_)
        refine qv_iconst (v := (1 : Int32)) dX4_trace_24 rfl ?_
        refine qv_goto (tgt := 29) dX4_trace_25 rfl ?_
        cases hs
        exact qv_dp (qv_le_s (qv_le_s (qv_le_s (qv_le_n qv_le_0)))) K38
theorem qD_X4_trace : qv_DV mX4_trace 1 := ⟨(qv_i11 (List.mem_of_getElem? (i := 28) (by decide +kernel))), (qv_i11 (List.mem_of_getElem? (i := 29) (by decide +kernel))), (qv_i1 (List.mem_of_getElem? (i := 12) (by decide +kernel))), (qv_i11 (List.mem_of_getElem? (i := 30) (by decide +kernel))), by decide +kernel, by decide +kernel⟩
/-- Reading.walkCount()I -/
noncomputable def fX4_walkCount (a0 : Nat) (h : qv_H) : Option (Int32) :=
  Option.bind (qv_loop (σ := Int32 × Int32) (ρ := Int32) (fun (x1, x2) =>
      if (6 : Int32) ≤ x2 then
        some (.inr x1)
      else
        (qv_gR h 3 a0 2).bind fun v3 =>
        (qv_gI h 3 a0 0).bind fun v4 =>
        (qv_aI h false v3 ((v4 * (6 : Int32)) + x2)).bind fun v5 =>
        some (.inl (x1 + v5, x2 + (1 : Int32)))
    ) ((0 : Int32), (0 : Int32))) fun y6 =>
  some y6
abbrev mX4_walkCount : qv_M := (yX4_walkCount, cX4_walkCount, 3, (Option.some Jvm.ClassFile.FieldType.int), 0, 0)
set_option maxRecDepth 100000 in
set_option maxHeartbeats 4000000 in
theorem sX4_walkCount {l : Launch} {g : qv_G} {a0 : Nat} {h : qv_H} {r : Int32} (hs : fX4_walkCount a0 h = some r) : qv_J l g mX4_walkCount 0 [some (.ref a0), none, none] [] h (some (.int r), h) := by
  unfold fX4_walkCount at hs
  refine qv_iconst (v := (0 : Int32)) dX4_walkCount_0 rfl ?_
  refine qv_istore_n (lo2 := [some (.ref a0), some (.int (0 : Int32)), none]) dX4_walkCount_1 (i := 1) rfl (by decide) rfl (Nat.le_of_ble_eq_true rfl) rfl ?_
  refine qv_iconst (v := (0 : Int32)) dX4_walkCount_2 rfl ?_
  refine qv_istore_n (lo2 := [some (.ref a0), some (.int (0 : Int32)), some (.int (0 : Int32))]) dX4_walkCount_3 (i := 2) rfl (by decide) rfl (Nat.le_of_ble_eq_true rfl) rfl ?_
  obtain ⟨y6, e2, hs⟩ := qv_bind hs
  have K1 : qv_J l g mX4_walkCount 33 [none, some (.int y6), none] [] h (some (.int r), h) := by
    refine qv_iload_n dX4_walkCount_33 (i := 1) rfl rfl ?_
    obtain rfl := qv_sm hs
    exact qv_iret dX4_walkCount_34 rfl
  obtain ⟨n8, e2⟩ := qv_loop_of e2
  refine qv_dp (qv_le_s (qv_le_s (qv_le_s qv_le_0))) (?_ : qv_J l g mX4_walkCount 4 [some (.ref a0), some (.int (0 : Int32)), some (.int (0 : Int32))] [] h (some (.int r), h))
  revert e2
  suffices lj7 : ∀ (x1 : Int32) (x2 : Int32), qv_it _ n8 (x1, x2) = some y6 → qv_J l g mX4_walkCount 4 [some (.ref a0), some (.int x1), some (.int x2)] [] h (some (.int r), h) from lj7 (0 : Int32) (0 : Int32)
  induction n8 with
  | zero =>
    intro x1 x2 e2
    cases e2
  | succ n8 ih4 =>
    intro x1 x2 e2
    obtain ⟨_, hs, eb5⟩ := qv_it_s e2
    dsimp only at hs
    refine qv_iload_n dX4_walkCount_4 (i := 2) rfl rfl ?_
    refine qv_bipush (v := (6 : Int32)) dX4_walkCount_5 rfl ?_
    by_cases c9 : (6 : Int32) ≤ x2
    · have hs := qv_pos c9 hs
      refine qv_icmp_ge (tgt := 33) dX4_walkCount_7 rfl (fun _ => ?_) (fun q => absurd c9 q)
      cases hs
      cases qv_nx_r eb5
      exact qv_dp (qv_le_n (qv_le_s (qv_le_n qv_le_0))) K1
    · have hs := qv_neg c9 hs
      refine qv_icmp_ge (tgt := 33) dX4_walkCount_7 rfl (fun q => absurd q c9) (fun _ => ?_)
      refine qv_iload_n dX4_walkCount_10 (i := 1) rfl rfl ?_
      refine qv_aload_n dX4_walkCount_11 (i := 0) rfl rfl ?_
      obtain ⟨v3, e10, hs⟩ := qv_bind hs
      refine qv_getR dX4_walkCount_12 qF_X4_19 e10 ?_
      refine qv_aload_n dX4_walkCount_15 (i := 0) rfl rfl ?_
      obtain ⟨v4, e11, hs⟩ := qv_bind hs
      refine qv_getI dX4_walkCount_16 qF_X4_9 e11 ?_
      refine qv_bipush (v := (6 : Int32)) dX4_walkCount_19 rfl ?_
      refine qv_imul dX4_walkCount_21 ?_
      refine qv_iload_n dX4_walkCount_22 (i := 2) rfl rfl ?_
      refine qv_iadd dX4_walkCount_23 ?_
      obtain ⟨v5, e12, hs⟩ := qv_bind hs
      refine qv_iald dX4_walkCount_24 e12 ?_
      refine qv_iadd dX4_walkCount_25 ?_
      refine qv_istore_n (lo2 := [some (.ref a0), some (.int (x1 + v5)), some (.int x2)]) dX4_walkCount_26 (i := 1) rfl (by decide) rfl (Nat.le_of_ble_eq_true rfl) rfl ?_
      refine qv_iinc (v := x2 + (1 : Int32)) (lo2 := [some (.ref a0), some (.int (x1 + v5)), some (.int (x2 + (1 : Int32)))]) dX4_walkCount_27 rfl rfl (by decide) rfl rfl ?_
      refine qv_goto (tgt := 4) dX4_walkCount_30 rfl ?_
      cases hs
      exact qv_dp (qv_le_s (qv_le_s (qv_le_s qv_le_0))) (ih4 _ _ (qv_nx_l eb5))
theorem qD_X4_walkCount : qv_DV mX4_walkCount 0 := ⟨(qv_i11 (List.mem_of_getElem? (i := 40) (by decide +kernel))), (qv_i11 (List.mem_of_getElem? (i := 41) (by decide +kernel))), (qv_i1 (List.mem_of_getElem? (i := 12) (by decide +kernel))), (qv_i11 (List.mem_of_getElem? (i := 42) (by decide +kernel))), by decide +kernel, by decide +kernel⟩
/-- Reading.endPlaces()I -/
noncomputable def fX4_endPlaces (a0 : Nat) (h : qv_H) : Option (Int32) :=
  Option.bind (qv_loop (σ := Int32 × Int32) (ρ := Int32) (fun (x1, x2) =>
      if (6 : Int32) ≤ x2 then
        some (.inr x1)
      else
        (qv_gR h 3 a0 2).bind fun v3 =>
        (qv_gI h 3 a0 0).bind fun v4 =>
        (qv_aI h false v3 ((v4 * (6 : Int32)) + x2)).bind fun v5 =>
        Option.bind (α := Int32) (
            if v5 ≤ 0 then
              some x1
            else
              some (x1 ||| ((1 : Int32) <<< (x2 &&& 31)))
          ) fun m6 =>
        some (.inl (m6, x2 + (1 : Int32)))
    ) ((0 : Int32), (0 : Int32))) fun y7 =>
  some y7
abbrev mX4_endPlaces : qv_M := (yX4_endPlaces, cX4_endPlaces, 3, (Option.some Jvm.ClassFile.FieldType.int), 0, 0)
set_option maxRecDepth 100000 in
set_option maxHeartbeats 4000000 in
theorem sX4_endPlaces {l : Launch} {g : qv_G} {a0 : Nat} {h : qv_H} {r : Int32} (hs : fX4_endPlaces a0 h = some r) : qv_J l g mX4_endPlaces 0 [some (.ref a0), none, none] [] h (some (.int r), h) := by
  unfold fX4_endPlaces at hs
  refine qv_iconst (v := (0 : Int32)) dX4_endPlaces_0 rfl ?_
  refine qv_istore_n (lo2 := [some (.ref a0), some (.int (0 : Int32)), none]) dX4_endPlaces_1 (i := 1) rfl (by decide) rfl (Nat.le_of_ble_eq_true rfl) rfl ?_
  refine qv_iconst (v := (0 : Int32)) dX4_endPlaces_2 rfl ?_
  refine qv_istore_n (lo2 := [some (.ref a0), some (.int (0 : Int32)), some (.int (0 : Int32))]) dX4_endPlaces_3 (i := 2) rfl (by decide) rfl (Nat.le_of_ble_eq_true rfl) rfl ?_
  obtain ⟨y7, e2, hs⟩ := qv_bind hs
  have K1 : qv_J l g mX4_endPlaces 39 [none, some (.int y7), none] [] h (some (.int r), h) := by
    refine qv_iload_n dX4_endPlaces_39 (i := 1) rfl rfl ?_
    obtain rfl := qv_sm hs
    exact qv_iret dX4_endPlaces_40 rfl
  obtain ⟨n8, e2⟩ := qv_loop_of e2
  refine qv_dp (qv_le_s (qv_le_s (qv_le_s qv_le_0))) (?_ : qv_J l g mX4_endPlaces 4 [some (.ref a0), some (.int (0 : Int32)), some (.int (0 : Int32))] [] h (some (.int r), h))
  revert e2
  suffices lj7 : ∀ (x1 : Int32) (x2 : Int32), qv_it _ n8 (x1, x2) = some y7 → qv_J l g mX4_endPlaces 4 [some (.ref a0), some (.int x1), some (.int x2)] [] h (some (.int r), h) from lj7 (0 : Int32) (0 : Int32)
  induction n8 with
  | zero =>
    intro x1 x2 e2
    cases e2
  | succ n8 ih4 =>
    intro x1 x2 e2
    obtain ⟨_, hs, eb5⟩ := qv_it_s e2
    dsimp only at hs
    refine qv_iload_n dX4_endPlaces_4 (i := 2) rfl rfl ?_
    refine qv_bipush (v := (6 : Int32)) dX4_endPlaces_5 rfl ?_
    by_cases c9 : (6 : Int32) ≤ x2
    · have hs := qv_pos c9 hs
      refine qv_icmp_ge (tgt := 39) dX4_endPlaces_7 rfl (fun _ => ?_) (fun q => absurd c9 q)
      cases hs
      cases qv_nx_r eb5
      exact qv_dp (qv_le_n (qv_le_s (qv_le_n qv_le_0))) K1
    · have hs := qv_neg c9 hs
      refine qv_icmp_ge (tgt := 39) dX4_endPlaces_7 rfl (fun q => absurd q c9) (fun _ => ?_)
      refine qv_aload_n dX4_endPlaces_10 (i := 0) rfl rfl ?_
      obtain ⟨v3, e10, hs⟩ := qv_bind hs
      refine qv_getR dX4_endPlaces_11 qF_X4_19 e10 ?_
      refine qv_aload_n dX4_endPlaces_14 (i := 0) rfl rfl ?_
      obtain ⟨v4, e11, hs⟩ := qv_bind hs
      refine qv_getI dX4_endPlaces_15 qF_X4_9 e11 ?_
      refine qv_bipush (v := (6 : Int32)) dX4_endPlaces_18 rfl ?_
      refine qv_imul dX4_endPlaces_20 ?_
      refine qv_iload_n dX4_endPlaces_21 (i := 2) rfl rfl ?_
      refine qv_iadd dX4_endPlaces_22 ?_
      obtain ⟨v5, e12, hs⟩ := qv_bind hs
      refine qv_iald dX4_endPlaces_23 e12 ?_
      obtain ⟨m6, hj14, hs⟩ := qv_bind hs
      have K13 : qv_J l g mX4_endPlaces 33 [some (.ref a0), some (.int m6), some (.int x2)] [] h (some (.int r), h) := by
        refine qv_iinc (v := x2 + (1 : Int32)) (lo2 := [some (.ref a0), some (.int m6), some (.int (x2 + (1 : Int32)))]) dX4_endPlaces_33 rfl rfl (by decide) rfl rfl ?_
        refine qv_goto (tgt := 4) dX4_endPlaces_36 rfl ?_
        cases hs
        exact qv_dp (qv_le_s (qv_le_s (qv_le_s qv_le_0))) (ih4 _ _ (qv_nx_l eb5))
      replace hs := hj14
      by_cases c15 : v5 ≤ 0
      · have hs := qv_pos c15 hs
        refine qv_if_le (tgt := 33) dX4_endPlaces_24 rfl (fun _ => ?_) (fun q => absurd c15 q)
        cases hs
        exact qv_dp (qv_le_s (qv_le_s (qv_le_s qv_le_0))) K13
      · have hs := qv_neg c15 hs
        refine qv_if_le (tgt := 33) dX4_endPlaces_24 rfl (fun q => absurd q c15) (fun _ => ?_)
        refine qv_iload_n dX4_endPlaces_27 (i := 1) rfl rfl ?_
        refine qv_iconst (v := (1 : Int32)) dX4_endPlaces_28 rfl ?_
        refine qv_iload_n dX4_endPlaces_29 (i := 2) rfl rfl ?_
        refine qv_ishl dX4_endPlaces_30 ?_
        refine qv_ior dX4_endPlaces_31 ?_
        refine qv_istore_n (lo2 := [some (.ref a0), some (.int (x1 ||| ((1 : Int32) <<< (x2 &&& 31)))), some (.int x2)]) dX4_endPlaces_32 (i := 1) rfl (by decide) rfl (Nat.le_of_ble_eq_true rfl) rfl ?_
        cases hs
        exact qv_dp (qv_le_s (qv_le_s (qv_le_s qv_le_0))) K13
theorem qD_X4_endPlaces : qv_DV mX4_endPlaces 0 := ⟨(qv_i11 (List.mem_of_getElem? (i := 44) (by decide +kernel))), (qv_i11 (List.mem_of_getElem? (i := 45) (by decide +kernel))), (qv_i1 (List.mem_of_getElem? (i := 12) (by decide +kernel))), (qv_i11 (List.mem_of_getElem? (i := 46) (by decide +kernel))), by decide +kernel, by decide +kernel⟩
/-- Text.add(I)V -/
noncomputable def fX5_add (a0 : Nat) (a1 : Int32) (h : qv_H) : Option (qv_H) :=
  (qv_gI h 4 a0 0).bind fun v1 =>
  (qv_gR h 4 a0 1).bind fun v2 =>
  (qv_ln h v2).bind fun v3 =>
  Option.bind (α := qv_H) (
      if v3 ≤ v1 then
        some h
      else
        (qv_gR h 4 a0 1).bind fun v4 =>
        (qv_gI h 4 a0 0).bind fun v5 =>
        (qv_sI h false v4 v5 a1).bind fun h6 =>
        (qv_gI h6 4 a0 0).bind fun v7 =>
        (qv_pI h6 4 a0 0 (v7 + (1 : Int32))).bind fun h8 =>
        some h8
    ) fun h9 =>
  some h9
abbrev mX5_add : qv_M := (yX5_add, cX5_add, 2, (Option.none : Option Jvm.ClassFile.FieldType), 0, 0)
set_option maxRecDepth 100000 in
set_option maxHeartbeats 4000000 in
theorem sX5_add {l : Launch} {g : qv_G} {a0 : Nat} {a1 : Int32} {h : qv_H} {hz : qv_H} (hs : fX5_add a0 a1 h = some hz) : qv_J l g mX5_add 0 [some (.ref a0), some (.int a1)] [] h (none, hz) := by
  unfold fX5_add at hs
  refine qv_aload_n dX5_add_0 (i := 0) rfl rfl ?_
  obtain ⟨v1, e1, hs⟩ := qv_bind hs
  refine qv_getI dX5_add_1 qF_X5_9 e1 ?_
  refine qv_aload_n dX5_add_4 (i := 0) rfl rfl ?_
  obtain ⟨v2, e2, hs⟩ := qv_bind hs
  refine qv_getR dX5_add_5 qF_X5_15 e2 ?_
  obtain ⟨v3, e3, hs⟩ := qv_bind hs
  refine qv_alen dX5_add_8 e3 ?_
  obtain ⟨h9, hj5, hs⟩ := qv_bind hs
  have K4 : qv_J l g mX5_add 32 [none, none] [] h9 (none, hz) := by
    obtain rfl := qv_sm hs
    exact qv_vret dX5_add_32 rfl
  replace hs := hj5
  by_cases c6 : v3 ≤ v1
  · have hs := qv_pos c6 hs
    refine qv_icmp_ge (tgt := 32) dX5_add_9 rfl (fun _ => ?_) (fun q => absurd c6 q)
    cases hs
    exact qv_dp (qv_le_n (qv_le_n qv_le_0)) K4
  · have hs := qv_neg c6 hs
    refine qv_icmp_ge (tgt := 32) dX5_add_9 rfl (fun q => absurd q c6) (fun _ => ?_)
    refine qv_aload_n dX5_add_12 (i := 0) rfl rfl ?_
    obtain ⟨v4, e7, hs⟩ := qv_bind hs
    refine qv_getR dX5_add_13 qF_X5_15 e7 ?_
    refine qv_aload_n dX5_add_16 (i := 0) rfl rfl ?_
    obtain ⟨v5, e8, hs⟩ := qv_bind hs
    refine qv_getI dX5_add_17 qF_X5_9 e8 ?_
    refine qv_iload_n dX5_add_20 (i := 1) rfl rfl ?_
    obtain ⟨h6, e9, hs⟩ := qv_bind hs
    refine qv_iast dX5_add_21 e9 ?_
    refine qv_aload_n dX5_add_22 (i := 0) rfl rfl ?_
    refine qv_dup dX5_add_23 rfl ?_
    obtain ⟨v7, e10, hs⟩ := qv_bind hs
    refine qv_getI dX5_add_24 qF_X5_9 e10 ?_
    refine qv_iconst (v := (1 : Int32)) dX5_add_27 rfl ?_
    refine qv_iadd dX5_add_28 ?_
    obtain ⟨h8, e11, hs⟩ := qv_bind hs
    refine qv_putI dX5_add_29 qF_X5_9 e11 ?_
    cases hs
    exact qv_dp (qv_le_n (qv_le_n qv_le_0)) K4
theorem qD_X5_add : qv_DV mX5_add 1 := ⟨(qv_i4 (List.mem_of_getElem? (i := 62) (by decide +kernel))), (qv_i4 (List.mem_of_getElem? (i := 63) (by decide +kernel))), (qv_i1 (List.mem_of_getElem? (i := 6) (by decide +kernel))), (qv_i5 (List.mem_of_getElem? (i := 0) (by decide +kernel))), by decide +kernel, by decide +kernel⟩
/-- Text.clear()V -/
noncomputable def fX5_clear (a0 : Nat) (h : qv_H) : Option (qv_H) :=
  (qv_pI h 4 a0 0 (0 : Int32)).bind fun h1 =>
  some h1
abbrev mX5_clear : qv_M := (yX5_clear, cX5_clear, 1, (Option.none : Option Jvm.ClassFile.FieldType), 0, 0)
set_option maxRecDepth 100000 in
set_option maxHeartbeats 4000000 in
theorem sX5_clear {l : Launch} {g : qv_G} {a0 : Nat} {h : qv_H} {hz : qv_H} (hs : fX5_clear a0 h = some hz) : qv_J l g mX5_clear 0 [some (.ref a0)] [] h (none, hz) := by
  unfold fX5_clear at hs
  refine qv_aload_n dX5_clear_0 (i := 0) rfl rfl ?_
  refine qv_iconst (v := (0 : Int32)) dX5_clear_1 rfl ?_
  obtain ⟨h1, e1, hs⟩ := qv_bind hs
  refine qv_putI dX5_clear_2 qF_X5_9 e1 ?_
  obtain rfl := qv_sm hs
  exact qv_vret dX5_clear_5 rfl
theorem qD_X5_clear : qv_DV mX5_clear 0 := ⟨(qv_i7 (List.mem_of_getElem? (i := 62) (by decide +kernel))), (qv_i7 (List.mem_of_getElem? (i := 63) (by decide +kernel))), (qv_i1 (List.mem_of_getElem? (i := 6) (by decide +kernel))), (qv_i8 (List.mem_of_getElem? (i := 0) (by decide +kernel))), by decide +kernel, by decide +kernel⟩
/-- Text.formOf(I)Ljava/lang/String; -/
noncomputable def fX5_formOf (a0 : Int32) : Option (Nat) :=
  if a0 = (102 : Int32) then
    some 1003
  else
    if a0 = (105 : Int32) then
      some 1006
    else
      if a0 = (108 : Int32) then
        some 1005
      else
        if a0 = (110 : Int32) then
          some 1001
        else
          if a0 = (114 : Int32) then
            some 1002
          else
            if a0 = (115 : Int32) then
              some 1004
            else
              some 1000
abbrev mX5_formOf : qv_M := (yX5_formOf, cX5_formOf, 1, (Option.some (Jvm.ClassFile.FieldType.object "java/lang/String")), 0, 0)
set_option maxRecDepth 100000 in
set_option maxHeartbeats 4000000 in
theorem sX5_formOf {l : Launch} {g : qv_G} {a0 : Int32} {h : qv_H} {r : Nat} (hs : fX5_formOf a0 = some r) : qv_J l g mX5_formOf 0 [some (.int a0)] [] h (some (.ref r), h) := by
  unfold fX5_formOf at hs
  refine qv_iload_n dX5_formOf_0 (i := 0) rfl rfl ?_
  by_cases c1 : a0 = (102 : Int32)
  · have hs := qv_pos c1 hs
    refine qv_tsIn (tgt := 78) (102 : Int32) c1 dX5_formOf_1 (by decide) (by decide) rfl rfl ?_
    refine qv_ldcs 3 (by decide) rfl rfl dX5_formOf_78 ?_
    obtain rfl := qv_sm hs
    exact qv_aret dX5_formOf_80 rfl
  · have hs := qv_neg c1 hs
    by_cases c2 : a0 = (105 : Int32)
    · have hs := qv_pos c2 hs
      refine qv_tsIn (tgt := 87) (105 : Int32) c2 dX5_formOf_1 (by decide) (by decide) rfl rfl ?_
      refine qv_ldcs 6 (by decide) rfl rfl dX5_formOf_87 ?_
      obtain rfl := qv_sm hs
      exact qv_aret dX5_formOf_89 rfl
    · have hs := qv_neg c2 hs
      by_cases c3 : a0 = (108 : Int32)
      · have hs := qv_pos c3 hs
        refine qv_tsIn (tgt := 84) (108 : Int32) c3 dX5_formOf_1 (by decide) (by decide) rfl rfl ?_
        refine qv_ldcs 5 (by decide) rfl rfl dX5_formOf_84 ?_
        obtain rfl := qv_sm hs
        exact qv_aret dX5_formOf_86 rfl
      · have hs := qv_neg c3 hs
        by_cases c4 : a0 = (110 : Int32)
        · have hs := qv_pos c4 hs
          refine qv_tsIn (tgt := 72) (110 : Int32) c4 dX5_formOf_1 (by decide) (by decide) rfl rfl ?_
          refine qv_ldcs 1 (by decide) rfl rfl dX5_formOf_72 ?_
          obtain rfl := qv_sm hs
          exact qv_aret dX5_formOf_74 rfl
        · have hs := qv_neg c4 hs
          by_cases c5 : a0 = (114 : Int32)
          · have hs := qv_pos c5 hs
            refine qv_tsIn (tgt := 75) (114 : Int32) c5 dX5_formOf_1 (by decide) (by decide) rfl rfl ?_
            refine qv_ldcs 2 (by decide) rfl rfl dX5_formOf_75 ?_
            obtain rfl := qv_sm hs
            exact qv_aret dX5_formOf_77 rfl
          · have hs := qv_neg c5 hs
            by_cases c6 : a0 = (115 : Int32)
            · have hs := qv_pos c6 hs
              refine qv_tsIn (tgt := 81) (115 : Int32) c6 dX5_formOf_1 (by decide) (by decide) rfl rfl ?_
              refine qv_ldcs 4 (by decide) rfl rfl dX5_formOf_81 ?_
              obtain rfl := qv_sm hs
              exact qv_aret dX5_formOf_83 rfl
            · have hs := qv_neg c6 hs
              refine qv_tsDef (tgt := 90) dX5_formOf_1 (fun j hj ej => ?_) rfl ?_
              · rcases (show j = 0 ∨ j = 1 ∨ j = 2 ∨ j = 3 ∨ j = 4 ∨ j = 5 ∨ j = 6 ∨ j = 7 ∨ j = 8 ∨ j = 9 ∨ j = 10 ∨ j = 11 ∨ j = 12 ∨ j = 13 by omega) with rfl | rfl | rfl | rfl | rfl | rfl | rfl | rfl | rfl | rfl | rfl | rfl | rfl | rfl
                · exact absurd (Int32.toInt_inj.mp (by rw [ej]; rfl)) c1
                · exact rfl
                · exact rfl
                · exact absurd (Int32.toInt_inj.mp (by rw [ej]; rfl)) c2
                · exact rfl
                · exact rfl
                · exact absurd (Int32.toInt_inj.mp (by rw [ej]; rfl)) c3
                · exact rfl
                · exact absurd (Int32.toInt_inj.mp (by rw [ej]; rfl)) c4
                · exact rfl
                · exact rfl
                · exact rfl
                · exact absurd (Int32.toInt_inj.mp (by rw [ej]; rfl)) c5
                · exact absurd (Int32.toInt_inj.mp (by rw [ej]; rfl)) c6
              refine qv_ldcs 0 (by decide) rfl rfl dX5_formOf_90 ?_
              obtain rfl := qv_sm hs
              exact qv_aret dX5_formOf_92 rfl
theorem qD_X5_formOf : qv_DS mX5_formOf 1 := ⟨(qv_i5 (List.mem_of_getElem? (i := 22) (by decide +kernel))), (qv_i1 (List.mem_of_getElem? (i := 6) (by decide +kernel))), (qv_i5 (List.mem_of_getElem? (i := 23) (by decide +kernel))), by decide +kernel, by decide +kernel⟩
