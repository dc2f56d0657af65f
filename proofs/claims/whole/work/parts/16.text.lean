/-! ===== 16.text: by program (wip/whole/gen): for each method its pure function f.., its descriptor m.., the proof s.. that the frame logic runs it ===== -/
/-- Text.kindAt(I)I -/
noncomputable def fX5_kindAt (a0 : Nat) (a1 : Int32) (h : qv_H) : Option (Int32) :=
  (qv_ob h 4 a0).bind fun _ =>
  (fX5_at a0 a1 h).bind fun v2 =>
  (qv_tidx 1007 ((v2.toUInt32 % 65536).toInt32)).bind fun v3 =>
  some v3
abbrev mX5_kindAt : qv_M := (yX5_kindAt, cX5_kindAt, 2, (Option.some Jvm.ClassFile.FieldType.int), 4, 91)
set_option maxRecDepth 100000 in
set_option maxHeartbeats 4000000 in
theorem sX5_kindAt {l : Launch} {g : qv_G} {a0 : Nat} {a1 : Int32} {h : qv_H} {r : Int32} (hs : fX5_kindAt a0 a1 h = some r) : qv_J l g mX5_kindAt 0 [some (.ref a0), some (.int a1)] [] h (some (.int r), h) := by
  unfold fX5_kindAt at hs
  refine qv_ldcs 7 (by decide) rfl rfl dX5_kindAt_0 ?_
  refine qv_aload_n dX5_kindAt_2 (i := 0) rfl rfl ?_
  refine qv_iload_n dX5_kindAt_3 (i := 1) rfl rfl ?_
  obtain ⟨u1, e1, hs⟩ := qv_bind hs
  obtain ⟨v2, e2, hs⟩ := qv_bind hs
  refine qv_cV (d2 := mX5_at) (o := a0) (ci := 4) (r := some (.int v2)) (h2 := h) (av := [.int a1]) (st := [.ref 1007]) dX5_kindAt_4 qM_X5_19 qD_X5_at e1 rfl rfl ⟨by decide, by decide⟩ rfl (Nat.le_of_ble_eq_true rfl) (Nat.le_of_ble_eq_true rfl) (sX5_at e2) rfl ?_
  refine qv_i2c dX5_kindAt_7 ?_
  obtain ⟨v3, e3, hs⟩ := qv_bind hs
  refine qv_stidx dX5_kindAt_8 qM_X5_29 ⟨by decide, by decide⟩ (Nat.le_of_ble_eq_true rfl) e3 ?_
  obtain rfl := qv_sm hs
  exact qv_iret dX5_kindAt_11 rfl
theorem qD_X5_kindAt : qv_DV mX5_kindAt 1 := ⟨(qv_i7 (List.mem_of_getElem? (i := 33) (by decide +kernel))), (qv_i7 (List.mem_of_getElem? (i := 34) (by decide +kernel))), (qv_i1 (List.mem_of_getElem? (i := 6) (by decide +kernel))), (qv_i7 (List.mem_of_getElem? (i := 35) (by decide +kernel))), by decide +kernel, by decide +kernel⟩
/-- Land.take(LTrueOneWay$Text;I)Z -/
noncomputable def fX3_take (a0 : Nat) (a1 : Nat) (a2 : Int32) (h : qv_H) : Option (Int32 × qv_H) :=
  (qv_ob h 4 a1).bind fun _ =>
  (fX5_digitAt a1 (a2 + (1 : Int32)) h).bind fun v2 =>
  (qv_ob h 4 a1).bind fun _ =>
  (fX5_digitAt a1 (a2 + (2 : Int32)) h).bind fun v4 =>
  (qv_ob h 4 a1).bind fun _ =>
  (fX5_digitAt a1 (a2 + (3 : Int32)) h).bind fun v6 =>
  (qv_ob h 4 a1).bind fun _ =>
  (fX5_at a1 a2 h).bind fun v8 =>
  if v8 = (102 : Int32) then
    (qv_ob h 2 a0).bind fun _ =>
    (fX3_takeFact a0 h).bind fun (v34, h35) =>
    (qv_b1 v34).bind fun v36 =>
    some (v34, h35)
  else
    if v8 = (105 : Int32) then
      (qv_ob h 2 a0).bind fun _ =>
      (fX3_takeInn a0 v2 v4 v6 h).bind fun (v30, h31) =>
      (qv_b1 v30).bind fun v32 =>
      some (v30, h31)
    else
      if v8 = (108 : Int32) then
        (qv_ob h 2 a0).bind fun _ =>
        (fX3_takeShown a0 v2 v4 h).bind fun (v26, h27) =>
        (qv_b1 v26).bind fun v28 =>
        some (v26, h27)
      else
        if v8 = (110 : Int32) then
          (qv_ob h 2 a0).bind fun _ =>
          (fX3_takePlaces a0 v2 h).bind fun (v22, h23) =>
          (qv_b1 v22).bind fun v24 =>
          some (v22, h23)
        else
          if v8 = (114 : Int32) then
            (qv_ob h 2 a0).bind fun _ =>
            (fX3_takeRoad a0 v2 v4 h).bind fun (v18, h19) =>
            (qv_b1 v18).bind fun v20 =>
            some (v18, h19)
          else
            if v8 = (115 : Int32) then
              (qv_ob h 4 a1).bind fun _ =>
              (fX5_kindAt a1 (a2 + (2 : Int32)) h).bind fun v10 =>
              (qv_ob h 4 a1).bind fun _ =>
              (fX5_digitAt a1 (a2 + (4 : Int32)) h).bind fun v12 =>
              (qv_ob h 2 a0).bind fun _ =>
              (fX3_takeSign a0 v2 v10 v6 v12 h).bind fun (v14, h15) =>
              (qv_b1 v14).bind fun v16 =>
              some (v14, h15)
            else
              some ((0 : Int32), h)
abbrev mX3_take : qv_M := (yX3_take, cX3_take, 6, (Option.some Jvm.ClassFile.FieldType.boolean), 5, 112)
set_option maxRecDepth 100000 in
set_option maxHeartbeats 4000000 in
theorem sX3_take {l : Launch} {g : qv_G} {a0 : Nat} {a1 : Nat} {a2 : Int32} {h : qv_H} {r : Int32} {hz : qv_H} (hs : fX3_take a0 a1 a2 h = some (r, hz)) : qv_J l g mX3_take 0 [some (.ref a0), some (.ref a1), some (.int a2), none, none, none] [] h (some (.int r), hz) := by
  unfold fX3_take at hs
  refine qv_aload_n dX3_take_0 (i := 1) rfl rfl ?_
  refine qv_iload_n dX3_take_1 (i := 2) rfl rfl ?_
  refine qv_iconst (v := (1 : Int32)) dX3_take_2 rfl ?_
  refine qv_iadd dX3_take_3 ?_
  obtain ⟨u1, e1, hs⟩ := qv_bind hs
  obtain ⟨v2, e2, hs⟩ := qv_bind hs
  refine qv_cV (d2 := mX5_digitAt) (o := a1) (ci := 4) (r := some (.int v2)) (h2 := h) (av := [.int (a2 + (1 : Int32))]) (st := []) dX3_take_4 qM_X3_71 qD_X5_digitAt e1 rfl rfl ⟨by decide, by decide⟩ rfl (Nat.le_of_ble_eq_true rfl) (Nat.le_of_ble_eq_true rfl) (sX5_digitAt e2) rfl ?_
  refine qv_istore_n (lo2 := [some (.ref a0), some (.ref a1), some (.int a2), some (.int v2), none, none]) dX3_take_7 (i := 3) rfl (by decide) rfl (Nat.le_of_ble_eq_true rfl) rfl ?_
  refine qv_aload_n dX3_take_8 (i := 1) rfl rfl ?_
  refine qv_iload_n dX3_take_9 (i := 2) rfl rfl ?_
  refine qv_iconst (v := (2 : Int32)) dX3_take_10 rfl ?_
  refine qv_iadd dX3_take_11 ?_
  obtain ⟨u3, e3, hs⟩ := qv_bind hs
  obtain ⟨v4, e4, hs⟩ := qv_bind hs
  refine qv_cV (d2 := mX5_digitAt) (o := a1) (ci := 4) (r := some (.int v4)) (h2 := h) (av := [.int (a2 + (2 : Int32))]) (st := []) dX3_take_12 qM_X3_71 qD_X5_digitAt e3 rfl rfl ⟨by decide, by decide⟩ rfl (Nat.le_of_ble_eq_true rfl) (Nat.le_of_ble_eq_true rfl) (sX5_digitAt e4) rfl ?_
  refine qv_istore (lo2 := [some (.ref a0), some (.ref a1), some (.int a2), some (.int v2), some (.int v4), none]) dX3_take_15 (by decide) rfl (Nat.le_of_ble_eq_true rfl) rfl ?_
  refine qv_aload_n dX3_take_17 (i := 1) rfl rfl ?_
  refine qv_iload_n dX3_take_18 (i := 2) rfl rfl ?_
  refine qv_iconst (v := (3 : Int32)) dX3_take_19 rfl ?_
  refine qv_iadd dX3_take_20 ?_
  obtain ⟨u5, e5, hs⟩ := qv_bind hs
  obtain ⟨v6, e6, hs⟩ := qv_bind hs
  refine qv_cV (d2 := mX5_digitAt) (o := a1) (ci := 4) (r := some (.int v6)) (h2 := h) (av := [.int (a2 + (3 : Int32))]) (st := []) dX3_take_21 qM_X3_71 qD_X5_digitAt e5 rfl rfl ⟨by decide, by decide⟩ rfl (Nat.le_of_ble_eq_true rfl) (Nat.le_of_ble_eq_true rfl) (sX5_digitAt e6) rfl ?_
  refine qv_istore (lo2 := [some (.ref a0), some (.ref a1), some (.int a2), some (.int v2), some (.int v4), some (.int v6)]) dX3_take_24 (by decide) rfl (Nat.le_of_ble_eq_true rfl) rfl ?_
  refine qv_aload_n dX3_take_26 (i := 1) rfl rfl ?_
  refine qv_iload_n dX3_take_27 (i := 2) rfl rfl ?_
  obtain ⟨u7, e7, hs⟩ := qv_bind hs
  obtain ⟨v8, e8, hs⟩ := qv_bind hs
  refine qv_cV (d2 := mX5_at) (o := a1) (ci := 4) (r := some (.int v8)) (h2 := h) (av := [.int a2]) (st := []) dX3_take_28 qM_X3_77 qD_X5_at e7 rfl rfl ⟨by decide, by decide⟩ rfl (Nat.le_of_ble_eq_true rfl) (Nat.le_of_ble_eq_true rfl) (sX5_at e8) rfl ?_
  by_cases c9 : v8 = (102 : Int32)
  · have hs := qv_pos c9 hs
    refine qv_tsIn (tgt := 114) (102 : Int32) c9 dX3_take_31 (by decide) (by decide) rfl rfl ?_
    refine qv_aload_n dX3_take_114 (i := 0) rfl rfl ?_
    obtain ⟨u33, e10, hs⟩ := qv_bind hs
    obtain ⟨⟨v34, h35⟩, e11, hs⟩ := qv_bind hs
    dsimp only at hs
    refine qv_cV (d2 := mX3_takeFact) (o := a0) (ci := 2) (r := some (.int v34)) (h2 := h35) (av := []) (st := []) dX3_take_115 qM_X3_87 qD_X3_takeFact e10 rfl rfl ⟨by decide, by decide⟩ rfl (Nat.le_of_ble_eq_true rfl) (Nat.le_of_ble_eq_true rfl) (sX3_takeFact e11) rfl ?_
    obtain ⟨v36, e12, hs⟩ := qv_bind hs
    obtain ⟨rfl, rfl⟩ := qv_pr hs
    exact qv_zret dX3_take_118 rfl (qv_b1_of e12).1
  · have hs := qv_neg c9 hs
    by_cases c13 : v8 = (105 : Int32)
    · have hs := qv_pos c13 hs
      refine qv_tsIn (tgt := 149) (105 : Int32) c13 dX3_take_31 (by decide) (by decide) rfl rfl ?_
      refine qv_aload_n dX3_take_149 (i := 0) rfl rfl ?_
      refine qv_iload_n dX3_take_150 (i := 3) rfl rfl ?_
      refine qv_iload dX3_take_151 rfl ?_
      refine qv_iload dX3_take_153 rfl ?_
      obtain ⟨u29, e14, hs⟩ := qv_bind hs
      obtain ⟨⟨v30, h31⟩, e15, hs⟩ := qv_bind hs
      dsimp only at hs
      refine qv_cV (d2 := mX3_takeInn) (o := a0) (ci := 2) (r := some (.int v30)) (h2 := h31) (av := [.int v2, .int v4, .int v6]) (st := []) dX3_take_155 qM_X3_101 qD_X3_takeInn e14 rfl rfl ⟨by decide, by decide⟩ rfl (Nat.le_of_ble_eq_true rfl) (Nat.le_of_ble_eq_true rfl) (sX3_takeInn e15) rfl ?_
      obtain ⟨v32, e16, hs⟩ := qv_bind hs
      obtain ⟨rfl, rfl⟩ := qv_pr hs
      exact qv_zret dX3_take_158 rfl (qv_b1_of e16).1
    · have hs := qv_neg c13 hs
      by_cases c17 : v8 = (108 : Int32)
      · have hs := qv_pos c17 hs
        refine qv_tsIn (tgt := 141) (108 : Int32) c17 dX3_take_31 (by decide) (by decide) rfl rfl ?_
        refine qv_aload_n dX3_take_141 (i := 0) rfl rfl ?_
        refine qv_iload_n dX3_take_142 (i := 3) rfl rfl ?_
        refine qv_iload dX3_take_143 rfl ?_
        obtain ⟨u25, e18, hs⟩ := qv_bind hs
        obtain ⟨⟨v26, h27⟩, e19, hs⟩ := qv_bind hs
        dsimp only at hs
        refine qv_cV (d2 := mX3_takeShown) (o := a0) (ci := 2) (r := some (.int v26)) (h2 := h27) (av := [.int v2, .int v4]) (st := []) dX3_take_145 qM_X3_98 qD_X3_takeShown e18 rfl rfl ⟨by decide, by decide⟩ rfl (Nat.le_of_ble_eq_true rfl) (Nat.le_of_ble_eq_true rfl) (sX3_takeShown e19) rfl ?_
        obtain ⟨v28, e20, hs⟩ := qv_bind hs
        obtain ⟨rfl, rfl⟩ := qv_pr hs
        exact qv_zret dX3_take_148 rfl (qv_b1_of e20).1
      · have hs := qv_neg c17 hs
        by_cases c21 : v8 = (110 : Int32)
        · have hs := qv_pos c21 hs
          refine qv_tsIn (tgt := 100) (110 : Int32) c21 dX3_take_31 (by decide) (by decide) rfl rfl ?_
          refine qv_aload_n dX3_take_100 (i := 0) rfl rfl ?_
          refine qv_iload_n dX3_take_101 (i := 3) rfl rfl ?_
          obtain ⟨u21, e22, hs⟩ := qv_bind hs
          obtain ⟨⟨v22, h23⟩, e23, hs⟩ := qv_bind hs
          dsimp only at hs
          refine qv_cV (d2 := mX3_takePlaces) (o := a0) (ci := 2) (r := some (.int v22)) (h2 := h23) (av := [.int v2]) (st := []) dX3_take_102 qM_X3_80 qD_X3_takePlaces e22 rfl rfl ⟨by decide, by decide⟩ rfl (Nat.le_of_ble_eq_true rfl) (Nat.le_of_ble_eq_true rfl) (sX3_takePlaces e23) rfl ?_
          obtain ⟨v24, e24, hs⟩ := qv_bind hs
          obtain ⟨rfl, rfl⟩ := qv_pr hs
          exact qv_zret dX3_take_105 rfl (qv_b1_of e24).1
        · have hs := qv_neg c21 hs
          by_cases c25 : v8 = (114 : Int32)
          · have hs := qv_pos c25 hs
            refine qv_tsIn (tgt := 106) (114 : Int32) c25 dX3_take_31 (by decide) (by decide) rfl rfl ?_
            refine qv_aload_n dX3_take_106 (i := 0) rfl rfl ?_
            refine qv_iload_n dX3_take_107 (i := 3) rfl rfl ?_
            refine qv_iload dX3_take_108 rfl ?_
            obtain ⟨u17, e26, hs⟩ := qv_bind hs
            obtain ⟨⟨v18, h19⟩, e27, hs⟩ := qv_bind hs
            dsimp only at hs
            refine qv_cV (d2 := mX3_takeRoad) (o := a0) (ci := 2) (r := some (.int v18)) (h2 := h19) (av := [.int v2, .int v4]) (st := []) dX3_take_110 qM_X3_84 qD_X3_takeRoad e26 rfl rfl ⟨by decide, by decide⟩ rfl (Nat.le_of_ble_eq_true rfl) (Nat.le_of_ble_eq_true rfl) (sX3_takeRoad e27) rfl ?_
            obtain ⟨v20, e28, hs⟩ := qv_bind hs
            obtain ⟨rfl, rfl⟩ := qv_pr hs
            exact qv_zret dX3_take_113 rfl (qv_b1_of e28).1
          · have hs := qv_neg c25 hs
            by_cases c29 : v8 = (115 : Int32)
            · have hs := qv_pos c29 hs
              refine qv_tsIn (tgt := 119) (115 : Int32) c29 dX3_take_31 (by decide) (by decide) rfl rfl ?_
              refine qv_aload_n dX3_take_119 (i := 0) rfl rfl ?_
              refine qv_iload_n dX3_take_120 (i := 3) rfl rfl ?_
              refine qv_aload_n dX3_take_121 (i := 1) rfl rfl ?_
              refine qv_iload_n dX3_take_122 (i := 2) rfl rfl ?_
              refine qv_iconst (v := (2 : Int32)) dX3_take_123 rfl ?_
              refine qv_iadd dX3_take_124 ?_
              obtain ⟨u9, e30, hs⟩ := qv_bind hs
              obtain ⟨v10, e31, hs⟩ := qv_bind hs
              refine qv_cV (d2 := mX5_kindAt) (o := a1) (ci := 4) (r := some (.int v10)) (h2 := h) (av := [.int (a2 + (2 : Int32))]) (st := [.int v2, .ref a0]) dX3_take_125 qM_X3_91 qD_X5_kindAt e30 rfl rfl ⟨by decide, by decide⟩ rfl (Nat.le_of_ble_eq_true rfl) (Nat.le_of_ble_eq_true rfl) (sX5_kindAt e31) rfl ?_
              refine qv_iload dX3_take_128 rfl ?_
              refine qv_aload_n dX3_take_130 (i := 1) rfl rfl ?_
              refine qv_iload_n dX3_take_131 (i := 2) rfl rfl ?_
              refine qv_iconst (v := (4 : Int32)) dX3_take_132 rfl ?_
              refine qv_iadd dX3_take_133 ?_
              obtain ⟨u11, e32, hs⟩ := qv_bind hs
              obtain ⟨v12, e33, hs⟩ := qv_bind hs
              refine qv_cV (d2 := mX5_digitAt) (o := a1) (ci := 4) (r := some (.int v12)) (h2 := h) (av := [.int (a2 + (4 : Int32))]) (st := [.int v6, .int v10, .int v2, .ref a0]) dX3_take_134 qM_X3_71 qD_X5_digitAt e32 rfl rfl ⟨by decide, by decide⟩ rfl (Nat.le_of_ble_eq_true rfl) (Nat.le_of_ble_eq_true rfl) (sX5_digitAt e33) rfl ?_
              obtain ⟨u13, e34, hs⟩ := qv_bind hs
              obtain ⟨⟨v14, h15⟩, e35, hs⟩ := qv_bind hs
              dsimp only at hs
              refine qv_cV (d2 := mX3_takeSign) (o := a0) (ci := 2) (r := some (.int v14)) (h2 := h15) (av := [.int v2, .int v10, .int v6, .int v12]) (st := []) dX3_take_137 qM_X3_94 qD_X3_takeSign e34 rfl rfl ⟨by decide, by decide⟩ rfl (Nat.le_of_ble_eq_true rfl) (Nat.le_of_ble_eq_true rfl) (sX3_takeSign e35) rfl ?_
              obtain ⟨v16, e36, hs⟩ := qv_bind hs
              obtain ⟨rfl, rfl⟩ := qv_pr hs
              exact qv_zret dX3_take_140 rfl (qv_b1_of e36).1
            · have hs := qv_neg c29 hs
              refine qv_tsDef (tgt := 159) dX3_take_31 (fun j hj ej => ?_) rfl ?_
              · rcases (show j = 0 ∨ j = 1 ∨ j = 2 ∨ j = 3 ∨ j = 4 ∨ j = 5 ∨ j = 6 ∨ j = 7 ∨ j = 8 ∨ j = 9 ∨ j = 10 ∨ j = 11 ∨ j = 12 ∨ j = 13 by omega) with rfl | rfl | rfl | rfl | rfl | rfl | rfl | rfl | rfl | rfl | rfl | rfl | rfl | rfl
                · exact absurd (Int32.toInt_inj.mp (by rw [ej]; rfl)) c9
                · exact rfl
                · exact rfl
                · exact absurd (Int32.toInt_inj.mp (by rw [ej]; rfl)) c13
                · exact rfl
                · exact rfl
                · exact absurd (Int32.toInt_inj.mp (by rw [ej]; rfl)) c17
                · exact rfl
                · exact absurd (Int32.toInt_inj.mp (by rw [ej]; rfl)) c21
                · exact rfl
                · exact rfl
                · exact rfl
                · exact absurd (Int32.toInt_inj.mp (by rw [ej]; rfl)) c25
                · exact absurd (Int32.toInt_inj.mp (by rw [ej]; rfl)) c29
              refine qv_iconst (v := (0 : Int32)) dX3_take_159 rfl ?_
              obtain ⟨rfl, rfl⟩ := qv_pr hs
              exact qv_zret dX3_take_160 rfl (by decide)
theorem qD_X3_take : qv_DV mX3_take 2 := ⟨(qv_i7 (List.mem_of_getElem? (i := 3) (by decide +kernel))), (qv_i7 (List.mem_of_getElem? (i := 4) (by decide +kernel))), (qv_i1 (List.mem_of_getElem? (i := 7) (by decide +kernel))), (qv_i7 (List.mem_of_getElem? (i := 5) (by decide +kernel))), by decide +kernel, by decide +kernel⟩
/-- Text.lengthAt(I)I -/
noncomputable def fX5_lengthAt (a0 : Nat) (a1 : Int32) (h : qv_H) : Option (Int32) :=
  (qv_ob h 4 a0).bind fun _ =>
  (fX5_at a0 a1 h).bind fun v2 =>
  (fX5_formOf v2).bind fun v3 =>
  (qv_tlen v3).bind fun v4 =>
  some v4
abbrev mX5_lengthAt : qv_M := (yX5_lengthAt, cX5_lengthAt, 2, (Option.some Jvm.ClassFile.FieldType.int), 2, 40)
set_option maxRecDepth 100000 in
set_option maxHeartbeats 4000000 in
theorem sX5_lengthAt {l : Launch} {g : qv_G} {a0 : Nat} {a1 : Int32} {h : qv_H} {r : Int32} (hs : fX5_lengthAt a0 a1 h = some r) : qv_J l g mX5_lengthAt 0 [some (.ref a0), some (.int a1)] [] h (some (.int r), h) := by
  unfold fX5_lengthAt at hs
  refine qv_aload_n dX5_lengthAt_0 (i := 0) rfl rfl ?_
  refine qv_iload_n dX5_lengthAt_1 (i := 1) rfl rfl ?_
  obtain ⟨u1, e1, hs⟩ := qv_bind hs
  obtain ⟨v2, e2, hs⟩ := qv_bind hs
  refine qv_cV (d2 := mX5_at) (o := a0) (ci := 4) (r := some (.int v2)) (h2 := h) (av := [.int a1]) (st := []) dX5_lengthAt_2 qM_X5_19 qD_X5_at e1 rfl rfl ⟨by decide, by decide⟩ rfl (Nat.le_of_ble_eq_true rfl) (Nat.le_of_ble_eq_true rfl) (sX5_at e2) rfl ?_
  obtain ⟨v3, e3, hs⟩ := qv_bind hs
  refine qv_cS (d2 := mX5_formOf) (r := some (.ref v3)) (h2 := h) (av := [.int v2]) (st := []) dX5_lengthAt_5 qM_X5_34 qD_X5_formOf rfl ⟨by decide, by decide⟩ rfl (Nat.le_of_ble_eq_true rfl) (Nat.le_of_ble_eq_true rfl) (sX5_formOf e3) rfl ?_
  obtain ⟨v4, e4, hs⟩ := qv_bind hs
  refine qv_stlen dX5_lengthAt_8 qM_X5_38 ⟨by decide, by decide⟩ (Nat.le_of_ble_eq_true rfl) e4 ?_
  obtain rfl := qv_sm hs
  exact qv_iret dX5_lengthAt_11 rfl
theorem qD_X5_lengthAt : qv_DV mX5_lengthAt 1 := ⟨(qv_i7 (List.mem_of_getElem? (i := 57) (by decide +kernel))), (qv_i7 (List.mem_of_getElem? (i := 58) (by decide +kernel))), (qv_i1 (List.mem_of_getElem? (i := 6) (by decide +kernel))), (qv_i7 (List.mem_of_getElem? (i := 59) (by decide +kernel))), by decide +kernel, by decide +kernel⟩
/-- Text.suits(CI)Z -/
noncomputable def fX5_suits (a0 : Int32) (a1 : Int32) : Option (Int32) :=
  if a0 = (100 : Int32) then
    (fX5_isDigit a1).bind fun v6 =>
    (qv_b1 v6).bind fun v7 =>
    some v6
  else
    if a0 = (107 : Int32) then
      (qv_tidx 1007 ((a1.toUInt32 % 65536).toInt32)).bind fun v3 =>
      Option.bind (α := Int32) (
          if v3 < 0 then
            some (0 : Int32)
          else
            some (1 : Int32)
        ) fun m4 =>
      (qv_b1 m4).bind fun v5 =>
      some m4
    else
      Option.bind (α := Int32) (
          if a0 = a1 then
            some (1 : Int32)
          else
            some (0 : Int32)
        ) fun m1 =>
      (qv_b1 m1).bind fun v2 =>
      some m1
abbrev mX5_suits : qv_M := (yX5_suits, cX5_suits, 2, (Option.some Jvm.ClassFile.FieldType.boolean), 4, 91)
set_option maxRecDepth 100000 in
set_option maxHeartbeats 4000000 in
theorem sX5_suits {l : Launch} {g : qv_G} {a0 : Int32} {a1 : Int32} {h : qv_H} {r : Int32} (hs : fX5_suits a0 a1 = some r) : qv_J l g mX5_suits 0 [some (.int a0), some (.int a1)] [] h (some (.int r), h) := by
  unfold fX5_suits at hs
  refine qv_iload_n dX5_suits_0 (i := 0) rfl rfl ?_
  refine qv_bipush (v := (100 : Int32)) dX5_suits_1 rfl ?_
  by_cases c1 : a0 = (100 : Int32)
  · have hs := qv_pos c1 hs
    refine qv_icmp_ne (tgt := 11) dX5_suits_3 rfl (fun q => absurd c1 q) (fun _ => ?_)
    refine qv_iload_n dX5_suits_6 (i := 1) rfl rfl ?_
    obtain ⟨v6, e2, hs⟩ := qv_bind hs
    refine qv_cS (d2 := mX5_isDigit) (r := some (.int v6)) (h2 := h) (av := [.int a1]) (st := []) dX5_suits_7 qM_X5_23 qD_X5_isDigit rfl ⟨by decide, by decide⟩ rfl (Nat.le_of_ble_eq_true rfl) (Nat.le_of_ble_eq_true rfl) (sX5_isDigit e2) rfl ?_
    obtain ⟨v7, e3, hs⟩ := qv_bind hs
    obtain rfl := qv_sm hs
    exact qv_zret dX5_suits_10 rfl (qv_b1_of e3).1
  · have hs := qv_neg c1 hs
    refine qv_icmp_ne (tgt := 11) dX5_suits_3 rfl (fun _ => ?_) (fun q => absurd q c1)
    refine qv_iload_n dX5_suits_11 (i := 0) rfl rfl ?_
    refine qv_bipush (v := (107 : Int32)) dX5_suits_12 rfl ?_
    by_cases c4 : a0 = (107 : Int32)
    · have hs := qv_pos c4 hs
      refine qv_icmp_ne (tgt := 33) dX5_suits_14 rfl (fun q => absurd c4 q) (fun _ => ?_)
      refine qv_ldcs 7 (by decide) rfl rfl dX5_suits_17 ?_
      refine qv_iload_n dX5_suits_19 (i := 1) rfl rfl ?_
      refine qv_i2c dX5_suits_20 ?_
      obtain ⟨v3, e5, hs⟩ := qv_bind hs
      refine qv_stidx dX5_suits_21 qM_X5_29 ⟨by decide, by decide⟩ (Nat.le_of_ble_eq_true rfl) e5 ?_
      obtain ⟨m4, hj7, hs⟩ := qv_bind hs
      have K6 : qv_J l g mX5_suits 32 [none, none] [.int m4] h (some (.int r), h) := by
        obtain ⟨v5, e8, hs⟩ := qv_bind hs
        obtain rfl := qv_sm hs
        exact qv_zret dX5_suits_32 rfl (qv_b1_of e8).1
      replace hs := hj7
      by_cases c9 : v3 < 0
      · have hs := qv_pos c9 hs
        refine qv_if_lt (tgt := 31) dX5_suits_24 rfl (fun _ => ?_) (fun q => absurd c9 q)
        refine qv_iconst (v := (0 : Int32)) dX5_suits_31 rfl ?_
        cases hs
        exact qv_dp (qv_le_n (qv_le_n qv_le_0)) K6
      · have hs := qv_neg c9 hs
        refine qv_if_lt (tgt := 31) dX5_suits_24 rfl (fun q => absurd q c9) (fun _ => ?_)
        refine qv_iconst (v := (1 : Int32)) dX5_suits_27 rfl ?_
        refine qv_goto (tgt := 32) dX5_suits_28 rfl ?_
        cases hs
        exact qv_dp (qv_le_n (qv_le_n qv_le_0)) K6
    · have hs := qv_neg c4 hs
      refine qv_icmp_ne (tgt := 33) dX5_suits_14 rfl (fun _ => ?_) (fun q => absurd q c4)
      refine qv_iload_n dX5_suits_33 (i := 0) rfl rfl ?_
      refine qv_iload_n dX5_suits_34 (i := 1) rfl rfl ?_
      obtain ⟨m1, hj11, hs⟩ := qv_bind hs
      have K10 : qv_J l g mX5_suits 43 [none, none] [.int m1] h (some (.int r), h) := by
        obtain ⟨v2, e12, hs⟩ := qv_bind hs
        obtain rfl := qv_sm hs
        exact qv_zret dX5_suits_43 rfl (qv_b1_of e12).1
      replace hs := hj11
      by_cases c13 : a0 = a1
      · have hs := qv_pos c13 hs
        refine qv_icmp_ne (tgt := 42) dX5_suits_35 rfl (fun q => absurd c13 q) (fun _ => ?_)
        refine qv_iconst (v := (1 : Int32)) dX5_suits_38 rfl ?_
        refine qv_goto (tgt := 43) dX5_suits_39 rfl ?_
        cases hs
        exact qv_dp (qv_le_n (qv_le_n qv_le_0)) K10
      · have hs := qv_neg c13 hs
        refine qv_icmp_ne (tgt := 42) dX5_suits_35 rfl (fun _ => ?_) (fun q => absurd q c13)
        refine qv_iconst (v := (0 : Int32)) dX5_suits_42 rfl ?_
        cases hs
        exact qv_dp (qv_le_n (qv_le_n qv_le_0)) K10
theorem qD_X5_suits : qv_DS mX5_suits 2 := ⟨(qv_i5 (List.mem_of_getElem? (i := 59) (by decide +kernel))), (qv_i1 (List.mem_of_getElem? (i := 6) (by decide +kernel))), (qv_i5 (List.mem_of_getElem? (i := 60) (by decide +kernel))), by decide +kernel, by decide +kernel⟩
/-- Text.firstOdd()I -/
noncomputable def fX5_firstOdd (a0 : Nat) (h : qv_H) : Option (Int32) :=
  Option.bind (qv_loop (σ := Nat × Int32 × Int32) (ρ := (Nat × Int32) ⊕ (Int32)) (fun (x1, x2, x3) =>
      (qv_gI h 4 a0 0).bind fun v4 =>
      if v4 ≤ x3 then
        some (.inr (.inl (x1, x2)))
      else
        (qv_tlen x1).bind fun v5 =>
        Option.bind (α := Nat × Int32) (
            if x2 = v5 then
              (qv_gR h 4 a0 1).bind fun v6 =>
              (qv_aI h false v6 x3).bind fun v7 =>
              (fX5_formOf v7).bind fun v8 =>
              some (v8, (0 : Int32))
            else
              some (x1, x2)
          ) fun (m9, m10) =>
        (qv_tlen m9).bind fun v11 =>
        if v11 ≤ m10 then
          some (.inr (.inr x3))
        else
          (qv_tchar m9 m10).bind fun v12 =>
          (qv_gR h 4 a0 1).bind fun v13 =>
          (qv_aI h false v13 x3).bind fun v14 =>
          (fX5_suits v12 v14).bind fun v15 =>
          if v15 = 0 then
            some (.inr (.inr x3))
          else
            some (.inl (m9, m10 + (1 : Int32), x3 + (1 : Int32)))
    ) (1000, (0 : Int32), (0 : Int32))) fun q => match q with
  | .inl (y16, y17) =>
    (qv_gI h 4 a0 0).bind fun v18 =>
    Option.bind (α := Int32) (
        if v18 = 0 then
          (qv_gI h 4 a0 0).bind fun v19 =>
          some v19
        else
          (qv_tlen y16).bind fun v20 =>
          if v20 ≤ y17 then
            some (-1 : Int32)
          else
            (qv_gI h 4 a0 0).bind fun v21 =>
            some v21
      ) fun m22 =>
    some m22
  | .inr q => some q
abbrev mX5_firstOdd : qv_M := (yX5_firstOdd, cX5_firstOdd, 4, (Option.some Jvm.ClassFile.FieldType.int), 5, 112)
set_option maxRecDepth 100000 in
set_option maxHeartbeats 4000000 in
theorem sX5_firstOdd {l : Launch} {g : qv_G} {a0 : Nat} {h : qv_H} {r : Int32} (hs : fX5_firstOdd a0 h = some r) : qv_J l g mX5_firstOdd 0 [some (.ref a0), none, none, none] [] h (some (.int r), h) := by
  unfold fX5_firstOdd at hs
  refine qv_ldcs 0 (by decide) rfl rfl dX5_firstOdd_0 ?_
  refine qv_astore_n (lo2 := [some (.ref a0), some (.ref 1000), none, none]) dX5_firstOdd_2 (i := 1) rfl (by decide) rfl (Nat.le_of_ble_eq_true rfl) rfl ?_
  refine qv_iconst (v := (0 : Int32)) dX5_firstOdd_3 rfl ?_
  refine qv_istore_n (lo2 := [some (.ref a0), some (.ref 1000), some (.int (0 : Int32)), none]) dX5_firstOdd_4 (i := 2) rfl (by decide) rfl (Nat.le_of_ble_eq_true rfl) rfl ?_
  refine qv_iconst (v := (0 : Int32)) dX5_firstOdd_5 rfl ?_
  refine qv_istore_n (lo2 := [some (.ref a0), some (.ref 1000), some (.int (0 : Int32)), some (.int (0 : Int32))]) dX5_firstOdd_6 (i := 3) rfl (by decide) rfl (Nat.le_of_ble_eq_true rfl) rfl ?_
  obtain ⟨q6, e2, hA3⟩ := qv_bind hs
  have K1 : ∀ (y16 : Nat) (y17 : Int32), q6 = .inl (y16, y17) → qv_J l g mX5_firstOdd 71 [some (.ref a0), some (.ref y16), some (.int y17), none] [] h (some (.int r), h) := by
    intro y16 y17 eq9
    subst eq9
    have hs := hA3
    dsimp only at hs
    refine qv_aload_n dX5_firstOdd_71 (i := 0) rfl rfl ?_
    obtain ⟨v18, e10, hs⟩ := qv_bind hs
    refine qv_getI dX5_firstOdd_72 qF_X5_9 e10 ?_
    obtain ⟨m22, hj12, hs⟩ := qv_bind hs
    have K11 : qv_J l g mX5_firstOdd 94 [none, none, none, none] [.int m22] h (some (.int r), h) := by
      obtain rfl := qv_sm hs
      exact qv_iret dX5_firstOdd_94 rfl
    replace hs := hj12
    by_cases c13 : v18 = 0
    · have hs := qv_pos c13 hs
      refine qv_if_eq (tgt := 86) dX5_firstOdd_75 rfl (fun _ => ?_) (fun q => absurd c13 q)
      refine qv_aload_n dX5_firstOdd_86 (i := 0) rfl rfl ?_
      obtain ⟨v19, e14, hs⟩ := qv_bind hs
      refine qv_getI dX5_firstOdd_87 qF_X5_9 e14 ?_
      refine qv_goto (tgt := 94) dX5_firstOdd_90 rfl ?_
      cases hs
      exact qv_dp (qv_le_n (qv_le_n (qv_le_n (qv_le_n qv_le_0)))) K11
    · have hs := qv_neg c13 hs
      refine qv_if_eq (tgt := 86) dX5_firstOdd_75 rfl (fun q => absurd q c13) (fun _ => ?_)
      refine qv_iload_n dX5_firstOdd_78 (i := 2) rfl rfl ?_
      refine qv_aload_n dX5_firstOdd_79 (i := 1) rfl rfl ?_
      obtain ⟨v20, e15, hs⟩ := qv_bind hs
      refine qv_stlen dX5_firstOdd_80 qM_X5_38 ⟨by decide, by decide⟩ (Nat.le_of_ble_eq_true rfl) e15 ?_
      by_cases c16 : v20 ≤ y17
      · have hs := qv_pos c16 hs
        refine qv_icmp_ge (tgt := 93) dX5_firstOdd_83 rfl (fun _ => ?_) (fun q => absurd c16 q)
        refine qv_iconst (v := (-1 : Int32)) dX5_firstOdd_93 rfl ?_
        cases hs
        exact qv_dp (qv_le_n (qv_le_n (qv_le_n (qv_le_n qv_le_0)))) K11
      · have hs := qv_neg c16 hs
        refine qv_icmp_ge (tgt := 93) dX5_firstOdd_83 rfl (fun q => absurd q c16) (fun _ => ?_)
        refine qv_aload_n dX5_firstOdd_86 (i := 0) rfl rfl ?_
        obtain ⟨v21, e17, hs⟩ := qv_bind hs
        refine qv_getI dX5_firstOdd_87 qF_X5_9 e17 ?_
        refine qv_goto (tgt := 94) dX5_firstOdd_90 rfl ?_
        cases hs
        exact qv_dp (qv_le_n (qv_le_n (qv_le_n (qv_le_n qv_le_0)))) K11
  obtain ⟨n8, e2⟩ := qv_loop_of e2
  refine qv_dp (qv_le_s (qv_le_s (qv_le_s (qv_le_s qv_le_0)))) (?_ : qv_J l g mX5_firstOdd 7 [some (.ref a0), some (.ref 1000), some (.int (0 : Int32)), some (.int (0 : Int32))] [] h (some (.int r), h))
  revert e2
  suffices lj7 : ∀ (x1 : Nat) (x2 : Int32) (x3 : Int32), qv_it _ n8 (x1, x2, x3) = some q6 → qv_J l g mX5_firstOdd 7 [some (.ref a0), some (.ref x1), some (.int x2), some (.int x3)] [] h (some (.int r), h) from lj7 1000 (0 : Int32) (0 : Int32)
  induction n8 with
  | zero =>
    intro x1 x2 x3 e2
    cases e2
  | succ n8 ih4 =>
    intro x1 x2 x3 e2
    obtain ⟨_, hs, eb5⟩ := qv_it_s e2
    dsimp only at hs
    refine qv_iload_n dX5_firstOdd_7 (i := 3) rfl rfl ?_
    refine qv_aload_n dX5_firstOdd_8 (i := 0) rfl rfl ?_
    obtain ⟨v4, e18, hs⟩ := qv_bind hs
    refine qv_getI dX5_firstOdd_9 qF_X5_9 e18 ?_
    by_cases c19 : v4 ≤ x3
    · have hs := qv_pos c19 hs
      refine qv_icmp_ge (tgt := 71) dX5_firstOdd_12 rfl (fun _ => ?_) (fun q => absurd c19 q)
      cases hs
      cases qv_nx_r eb5
      exact qv_dp (qv_le_s (qv_le_s (qv_le_s (qv_le_n qv_le_0)))) (K1 _ _ rfl)
    · have hs := qv_neg c19 hs
      refine qv_icmp_ge (tgt := 71) dX5_firstOdd_12 rfl (fun q => absurd q c19) (fun _ => ?_)
      refine qv_iload_n dX5_firstOdd_15 (i := 2) rfl rfl ?_
      refine qv_aload_n dX5_firstOdd_16 (i := 1) rfl rfl ?_
      obtain ⟨v5, e20, hs⟩ := qv_bind hs
      refine qv_stlen dX5_firstOdd_17 qM_X5_38 ⟨by decide, by decide⟩ (Nat.le_of_ble_eq_true rfl) e20 ?_
      obtain ⟨⟨m9, m10⟩, hj22, hs⟩ := qv_bind hs
      dsimp only at hs
      have K21 : qv_J l g mX5_firstOdd 35 [some (.ref a0), some (.ref m9), some (.int m10), some (.int x3)] [] h (some (.int r), h) := by
        refine qv_iload_n dX5_firstOdd_35 (i := 2) rfl rfl ?_
        refine qv_aload_n dX5_firstOdd_36 (i := 1) rfl rfl ?_
        obtain ⟨v11, e23, hs⟩ := qv_bind hs
        refine qv_stlen dX5_firstOdd_37 qM_X5_38 ⟨by decide, by decide⟩ (Nat.le_of_ble_eq_true rfl) e23 ?_
        by_cases c24 : v11 ≤ m10
        · have hs := qv_pos c24 hs
          refine qv_icmp_ge (tgt := 60) dX5_firstOdd_40 rfl (fun _ => ?_) (fun q => absurd c24 q)
          refine qv_iload_n dX5_firstOdd_60 (i := 3) rfl rfl ?_
          cases hs
          cases qv_nx_r eb5
          have hs := hA3
          dsimp only at hs
          obtain rfl := qv_sm hs
          exact qv_iret dX5_firstOdd_61 rfl
        · have hs := qv_neg c24 hs
          refine qv_icmp_ge (tgt := 60) dX5_firstOdd_40 rfl (fun q => absurd q c24) (fun _ => ?_)
          refine qv_aload_n dX5_firstOdd_43 (i := 1) rfl rfl ?_
          refine qv_iload_n dX5_firstOdd_44 (i := 2) rfl rfl ?_
          obtain ⟨v12, e25, hs⟩ := qv_bind hs
          refine qv_stchar dX5_firstOdd_45 qM_X5_44 ⟨by decide, by decide⟩ (Nat.le_of_ble_eq_true rfl) e25 ?_
          refine qv_aload_n dX5_firstOdd_48 (i := 0) rfl rfl ?_
          obtain ⟨v13, e26, hs⟩ := qv_bind hs
          refine qv_getR dX5_firstOdd_49 qF_X5_15 e26 ?_
          refine qv_iload_n dX5_firstOdd_52 (i := 3) rfl rfl ?_
          obtain ⟨v14, e27, hs⟩ := qv_bind hs
          refine qv_iald dX5_firstOdd_53 e27 ?_
          obtain ⟨v15, e28, hs⟩ := qv_bind hs
          refine qv_cS (d2 := mX5_suits) (r := some (.int v15)) (h2 := h) (av := [.int v12, .int v14]) (st := []) dX5_firstOdd_54 qM_X5_48 qD_X5_suits rfl ⟨by decide, by decide⟩ rfl (Nat.le_of_ble_eq_true rfl) (Nat.le_of_ble_eq_true rfl) (sX5_suits e28) rfl ?_
          by_cases c29 : v15 = 0
          · have hs := qv_pos c29 hs
            refine qv_if_ne (tgt := 62) dX5_firstOdd_57 rfl (fun q => absurd c29 q) (fun _ => ?_)
            refine qv_iload_n dX5_firstOdd_60 (i := 3) rfl rfl ?_
            cases hs
            cases qv_nx_r eb5
            have hs := hA3
            dsimp only at hs
            obtain rfl := qv_sm hs
            exact qv_iret dX5_firstOdd_61 rfl
          · have hs := qv_neg c29 hs
            refine qv_if_ne (tgt := 62) dX5_firstOdd_57 rfl (fun _ => ?_) (fun q => absurd q c29)
            refine qv_iinc (v := m10 + (1 : Int32)) (lo2 := [some (.ref a0), some (.ref m9), some (.int (m10 + (1 : Int32))), some (.int x3)]) dX5_firstOdd_62 rfl rfl (by decide) rfl rfl ?_
            refine qv_iinc (v := x3 + (1 : Int32)) (lo2 := [some (.ref a0), some (.ref m9), some (.int (m10 + (1 : Int32))), some (.int (x3 + (1 : Int32)))]) dX5_firstOdd_65 rfl rfl (by decide) rfl rfl ?_
            refine qv_goto (tgt := 7) dX5_firstOdd_68 rfl ?_
            cases hs
            exact qv_dp (qv_le_s (qv_le_s (qv_le_s (qv_le_s qv_le_0)))) (ih4 _ _ _ (qv_nx_l eb5))
      replace hs := hj22
      by_cases c30 : x2 = v5
      · have hs := qv_pos c30 hs
        refine qv_icmp_ne (tgt := 35) dX5_firstOdd_20 rfl (fun q => absurd c30 q) (fun _ => ?_)
        refine qv_aload_n dX5_firstOdd_23 (i := 0) rfl rfl ?_
        obtain ⟨v6, e31, hs⟩ := qv_bind hs
        refine qv_getR dX5_firstOdd_24 qF_X5_15 e31 ?_
        refine qv_iload_n dX5_firstOdd_27 (i := 3) rfl rfl ?_
        obtain ⟨v7, e32, hs⟩ := qv_bind hs
        refine qv_iald dX5_firstOdd_28 e32 ?_
        obtain ⟨v8, e33, hs⟩ := qv_bind hs
        refine qv_cS (d2 := mX5_formOf) (r := some (.ref v8)) (h2 := h) (av := [.int v7]) (st := []) dX5_firstOdd_29 qM_X5_34 qD_X5_formOf rfl ⟨by decide, by decide⟩ rfl (Nat.le_of_ble_eq_true rfl) (Nat.le_of_ble_eq_true rfl) (sX5_formOf e33) rfl ?_
        refine qv_astore_n (lo2 := [some (.ref a0), some (.ref v8), some (.int x2), some (.int x3)]) dX5_firstOdd_32 (i := 1) rfl (by decide) rfl (Nat.le_of_ble_eq_true rfl) rfl ?_
        refine qv_iconst (v := (0 : Int32)) dX5_firstOdd_33 rfl ?_
        refine qv_istore_n (lo2 := [some (.ref a0), some (.ref v8), some (.int (0 : Int32)), some (.int x3)]) dX5_firstOdd_34 (i := 2) rfl (by decide) rfl (Nat.le_of_ble_eq_true rfl) rfl ?_
        cases hs
        exact qv_dp (qv_le_s (qv_le_s (qv_le_s (qv_le_s qv_le_0)))) K21
      · have hs := qv_neg c30 hs
        refine qv_icmp_ne (tgt := 35) dX5_firstOdd_20 rfl (fun _ => ?_) (fun q => absurd q c30)
        cases hs
        exact qv_dp (qv_le_s (qv_le_s (qv_le_s (qv_le_s qv_le_0)))) K21
theorem qD_X5_firstOdd : qv_DV mX5_firstOdd 0 := ⟨(qv_i5 (List.mem_of_getElem? (i := 9) (by decide +kernel))), (qv_i5 (List.mem_of_getElem? (i := 10) (by decide +kernel))), (qv_i1 (List.mem_of_getElem? (i := 6) (by decide +kernel))), (qv_i5 (List.mem_of_getElem? (i := 11) (by decide +kernel))), by decide +kernel, by decide +kernel⟩
/-- TrueOneWay.readText()I -/
noncomputable def fX8_readText (a0 : Nat) (h : qv_H) : Option (Int32 × qv_H) :=
  (qv_gR h 7 a0 0).bind fun v1 =>
  (qv_ob h 4 v1).bind fun _ =>
  (fX5_firstOdd v1 h).bind fun v3 =>
  if v3 < 0 then
    (qv_gR h 7 a0 2).bind fun v4 =>
    (qv_gR h 7 a0 1).bind fun v5 =>
    (qv_ob h 2 v4).bind fun _ =>
    (fX3_become v4 v5 h).bind fun h7 =>
    Option.bind (qv_loop (σ := Int32 × Int32 × qv_H) (ρ := (Int32 × qv_H) ⊕ (Int32 × qv_H)) (fun (x8, x9, h10) =>
        (qv_gR h10 7 a0 0).bind fun v11 =>
        (qv_gI h10 4 v11 0).bind fun v12 =>
        if v12 ≤ x9 then
          some (.inr (.inl (x8, h10)))
        else
          (qv_gR h10 7 a0 2).bind fun v13 =>
          (qv_gR h10 7 a0 0).bind fun v14 =>
          (qv_ob h10 2 v13).bind fun _ =>
          (fX3_take v13 v14 x9 h10).bind fun (v16, h17) =>
          if v16 = 0 then
            some (.inr (.inr ((-2000 : Int32) - x9, h17)))
          else
            (qv_gR h17 7 a0 0).bind fun v18 =>
            (qv_ob h17 4 v18).bind fun _ =>
            (fX5_lengthAt v18 x9 h17).bind fun v20 =>
            some (.inl (x8 + (1 : Int32), x9 + (qv_mx (1 : Int32) v20), h17))
      ) ((0 : Int32), (0 : Int32), h7)) fun q => match q with
    | .inl (y21, h22) =>
      (qv_gR h22 7 a0 1).bind fun v23 =>
      (qv_gR h22 7 a0 2).bind fun v24 =>
      (qv_ob h22 2 v23).bind fun _ =>
      (fX3_become v23 v24 h22).bind fun h26 =>
      (qv_gR h26 7 a0 6).bind fun v27 =>
      (qv_gR h26 7 a0 1).bind fun v28 =>
      (qv_ob h26 6 v27).bind fun _ =>
      (fX7_reckon v27 v28 h26).bind fun h30 =>
      (qv_gR h30 7 a0 6).bind fun v31 =>
      (qv_gR h30 7 a0 4).bind fun v32 =>
      (qv_ob h30 6 v31).bind fun _ =>
      (fX7_sift v31 v32 h30).bind fun h34 =>
      some (y21, h34)
    | .inr q => some q
  else
    some ((-1000 : Int32) - v3, h)
abbrev mX8_readText : qv_M := (yX8_readText, cX8_readText, 4, (Option.some Jvm.ClassFile.FieldType.int), 6, 137)
set_option maxRecDepth 100000 in
set_option maxHeartbeats 4000000 in
theorem sX8_readText {l : Launch} {g : qv_G} {a0 : Nat} {h : qv_H} {r : Int32} {hz : qv_H} (hs : fX8_readText a0 h = some (r, hz)) : qv_J l g mX8_readText 0 [some (.ref a0), none, none, none] [] h (some (.int r), hz) := by
  unfold fX8_readText at hs
  refine qv_aload_n dX8_readText_0 (i := 0) rfl rfl ?_
  obtain ⟨v1, e1, hs⟩ := qv_bind hs
  refine qv_getR dX8_readText_1 qF_X8_10 e1 ?_
  obtain ⟨u2, e2, hs⟩ := qv_bind hs
  obtain ⟨v3, e3, hs⟩ := qv_bind hs
  refine qv_cV (d2 := mX5_firstOdd) (o := v1) (ci := 4) (r := some (.int v3)) (h2 := h) (av := []) (st := []) dX8_readText_4 qM_X8_272 qD_X5_firstOdd e2 rfl rfl ⟨by decide, by decide⟩ rfl (Nat.le_of_ble_eq_true rfl) (Nat.le_of_ble_eq_true rfl) (sX5_firstOdd e3) rfl ?_
  refine qv_istore_n (lo2 := [some (.ref a0), some (.int v3), none, none]) dX8_readText_7 (i := 1) rfl (by decide) rfl (Nat.le_of_ble_eq_true rfl) rfl ?_
  refine qv_iload_n dX8_readText_8 (i := 1) rfl rfl ?_
  by_cases c4 : v3 < 0
  · have hs := qv_pos c4 hs
    refine qv_if_lt (tgt := 18) dX8_readText_9 rfl (fun _ => ?_) (fun q => absurd c4 q)
    refine qv_aload_n dX8_readText_18 (i := 0) rfl rfl ?_
    obtain ⟨v4, e5, hs⟩ := qv_bind hs
    refine qv_getR dX8_readText_19 qF_X8_23 e5 ?_
    refine qv_aload_n dX8_readText_22 (i := 0) rfl rfl ?_
    obtain ⟨v5, e6, hs⟩ := qv_bind hs
    refine qv_getR dX8_readText_23 qF_X8_19 e6 ?_
    obtain ⟨u6, e7, hs⟩ := qv_bind hs
    obtain ⟨h7, e8, hs⟩ := qv_bind hs
    refine qv_cV (d2 := mX3_become) (o := v4) (ci := 2) (r := none) (h2 := h7) (av := [.ref v5]) (st := []) dX8_readText_26 qM_X8_261 qD_X3_become e7 rfl rfl ⟨by decide, by decide⟩ rfl (Nat.le_of_ble_eq_true rfl) (Nat.le_of_ble_eq_true rfl) (sX3_become e8) rfl ?_
    refine qv_iconst (v := (0 : Int32)) dX8_readText_29 rfl ?_
    refine qv_istore_n (lo2 := [some (.ref a0), some (.int v3), some (.int (0 : Int32)), none]) dX8_readText_30 (i := 2) rfl (by decide) rfl (Nat.le_of_ble_eq_true rfl) rfl ?_
    refine qv_iconst (v := (0 : Int32)) dX8_readText_31 rfl ?_
    refine qv_istore_n (lo2 := [some (.ref a0), some (.int v3), some (.int (0 : Int32)), some (.int (0 : Int32))]) dX8_readText_32 (i := 3) rfl (by decide) rfl (Nat.le_of_ble_eq_true rfl) rfl ?_
    obtain ⟨q14, e10, hA11⟩ := qv_bind hs
    have K9 : ∀ (y21 : Int32) (h22 : qv_H), q14 = .inl (y21, h22) → qv_J l g mX8_readText 86 [some (.ref a0), none, some (.int y21), none] [] h22 (some (.int r), hz) := by
      intro y21 h22 eq17
      subst eq17
      have hs := hA11
      dsimp only at hs
      refine qv_aload_n dX8_readText_86 (i := 0) rfl rfl ?_
      obtain ⟨v23, e18, hs⟩ := qv_bind hs
      refine qv_getR dX8_readText_87 qF_X8_19 e18 ?_
      refine qv_aload_n dX8_readText_90 (i := 0) rfl rfl ?_
      obtain ⟨v24, e19, hs⟩ := qv_bind hs
      refine qv_getR dX8_readText_91 qF_X8_23 e19 ?_
      obtain ⟨u25, e20, hs⟩ := qv_bind hs
      obtain ⟨h26, e21, hs⟩ := qv_bind hs
      refine qv_cV (d2 := mX3_become) (o := v23) (ci := 2) (r := none) (h2 := h26) (av := [.ref v24]) (st := []) dX8_readText_94 qM_X8_261 qD_X3_become e20 rfl rfl ⟨by decide, by decide⟩ rfl (Nat.le_of_ble_eq_true rfl) (Nat.le_of_ble_eq_true rfl) (sX3_become e21) rfl ?_
      refine qv_aload_n dX8_readText_97 (i := 0) rfl rfl ?_
      obtain ⟨v27, e22, hs⟩ := qv_bind hs
      refine qv_getR dX8_readText_98 qF_X8_42 e22 ?_
      refine qv_aload_n dX8_readText_101 (i := 0) rfl rfl ?_
      obtain ⟨v28, e23, hs⟩ := qv_bind hs
      refine qv_getR dX8_readText_102 qF_X8_19 e23 ?_
      obtain ⟨u29, e24, hs⟩ := qv_bind hs
      obtain ⟨h30, e25, hs⟩ := qv_bind hs
      refine qv_cV (d2 := mX7_reckon) (o := v27) (ci := 6) (r := none) (h2 := h30) (av := [.ref v28]) (st := []) dX8_readText_105 qM_X8_75 qD_X7_reckon e24 rfl rfl ⟨by decide, by decide⟩ rfl (Nat.le_of_ble_eq_true rfl) (Nat.le_of_ble_eq_true rfl) (sX7_reckon e25) rfl ?_
      refine qv_aload_n dX8_readText_108 (i := 0) rfl rfl ?_
      obtain ⟨v31, e26, hs⟩ := qv_bind hs
      refine qv_getR dX8_readText_109 qF_X8_42 e26 ?_
      refine qv_aload_n dX8_readText_112 (i := 0) rfl rfl ?_
      obtain ⟨v32, e27, hs⟩ := qv_bind hs
      refine qv_getR dX8_readText_113 qF_X8_32 e27 ?_
      obtain ⟨u33, e28, hs⟩ := qv_bind hs
      obtain ⟨h34, e29, hs⟩ := qv_bind hs
      refine qv_cV (d2 := mX7_sift) (o := v31) (ci := 6) (r := none) (h2 := h34) (av := [.ref v32]) (st := []) dX8_readText_116 qM_X8_79 qD_X7_sift e28 rfl rfl ⟨by decide, by decide⟩ rfl (Nat.le_of_ble_eq_true rfl) (Nat.le_of_ble_eq_true rfl) (sX7_sift e29) rfl ?_
      refine qv_iload_n dX8_readText_119 (i := 2) rfl rfl ?_
      obtain ⟨rfl, rfl⟩ := qv_pr hs
      exact qv_iret dX8_readText_120 rfl
    obtain ⟨n16, e10⟩ := qv_loop_of e10
    refine qv_dp (qv_le_s (qv_le_n (qv_le_s (qv_le_s qv_le_0)))) (?_ : qv_J l g mX8_readText 33 [some (.ref a0), none, some (.int (0 : Int32)), some (.int (0 : Int32))] [] h7 (some (.int r), hz))
    revert e10
    suffices lj15 : ∀ (x8 : Int32) (x9 : Int32) (h10 : qv_H), qv_it _ n16 (x8, x9, h10) = some q14 → qv_J l g mX8_readText 33 [some (.ref a0), none, some (.int x8), some (.int x9)] [] h10 (some (.int r), hz) from lj15 (0 : Int32) (0 : Int32) h7
    induction n16 with
    | zero =>
      intro x8 x9 h10 e10
      cases e10
    | succ n16 ih12 =>
      intro x8 x9 h10 e10
      obtain ⟨_, hs, eb13⟩ := qv_it_s e10
      dsimp only at hs
      refine qv_iload_n dX8_readText_33 (i := 3) rfl rfl ?_
      refine qv_aload_n dX8_readText_34 (i := 0) rfl rfl ?_
      obtain ⟨v11, e30, hs⟩ := qv_bind hs
      refine qv_getR dX8_readText_35 qF_X8_10 e30 ?_
      obtain ⟨v12, e31, hs⟩ := qv_bind hs
      refine qv_getI dX8_readText_38 qF_X8_87 e31 ?_
      by_cases c32 : v12 ≤ x9
      · have hs := qv_pos c32 hs
        refine qv_icmp_ge (tgt := 86) dX8_readText_41 rfl (fun _ => ?_) (fun q => absurd c32 q)
        cases hs
        cases qv_nx_r eb13
        exact qv_dp (qv_le_s (qv_le_n (qv_le_s (qv_le_n qv_le_0)))) (K9 _ _ rfl)
      · have hs := qv_neg c32 hs
        refine qv_icmp_ge (tgt := 86) dX8_readText_41 rfl (fun q => absurd q c32) (fun _ => ?_)
        refine qv_aload_n dX8_readText_44 (i := 0) rfl rfl ?_
        obtain ⟨v13, e33, hs⟩ := qv_bind hs
        refine qv_getR dX8_readText_45 qF_X8_23 e33 ?_
        refine qv_aload_n dX8_readText_48 (i := 0) rfl rfl ?_
        obtain ⟨v14, e34, hs⟩ := qv_bind hs
        refine qv_getR dX8_readText_49 qF_X8_10 e34 ?_
        refine qv_iload_n dX8_readText_52 (i := 3) rfl rfl ?_
        obtain ⟨u15, e35, hs⟩ := qv_bind hs
        obtain ⟨⟨v16, h17⟩, e36, hs⟩ := qv_bind hs
        dsimp only at hs
        refine qv_cV (d2 := mX3_take) (o := v13) (ci := 2) (r := some (.int v16)) (h2 := h17) (av := [.ref v14, .int x9]) (st := []) dX8_readText_53 qM_X8_275 qD_X3_take e35 rfl rfl ⟨by decide, by decide⟩ rfl (Nat.le_of_ble_eq_true rfl) (Nat.le_of_ble_eq_true rfl) (sX3_take e36) rfl ?_
        by_cases c37 : v16 = 0
        · have hs := qv_pos c37 hs
          refine qv_if_ne (tgt := 65) dX8_readText_56 rfl (fun q => absurd c37 q) (fun _ => ?_)
          refine qv_sipush (v := (-2000 : Int32)) dX8_readText_59 rfl ?_
          refine qv_iload_n dX8_readText_62 (i := 3) rfl rfl ?_
          refine qv_isub dX8_readText_63 ?_
          cases hs
          cases qv_nx_r eb13
          have hs := hA11
          dsimp only at hs
          obtain ⟨rfl, rfl⟩ := qv_pr hs
          exact qv_iret dX8_readText_64 rfl
        · have hs := qv_neg c37 hs
          refine qv_if_ne (tgt := 65) dX8_readText_56 rfl (fun _ => ?_) (fun q => absurd q c37)
          refine qv_iinc (v := x8 + (1 : Int32)) (lo2 := [some (.ref a0), none, some (.int (x8 + (1 : Int32))), some (.int x9)]) dX8_readText_65 rfl rfl (by decide) rfl rfl ?_
          refine qv_iload_n dX8_readText_68 (i := 3) rfl rfl ?_
          refine qv_iconst (v := (1 : Int32)) dX8_readText_69 rfl ?_
          refine qv_aload_n dX8_readText_70 (i := 0) rfl rfl ?_
          obtain ⟨v18, e38, hs⟩ := qv_bind hs
          refine qv_getR dX8_readText_71 qF_X8_10 e38 ?_
          refine qv_iload_n dX8_readText_74 (i := 3) rfl rfl ?_
          obtain ⟨u19, e39, hs⟩ := qv_bind hs
          obtain ⟨v20, e40, hs⟩ := qv_bind hs
          refine qv_cV (d2 := mX5_lengthAt) (o := v18) (ci := 4) (r := some (.int v20)) (h2 := h17) (av := [.int x9]) (st := [.int (1 : Int32), .int x9]) dX8_readText_75 qM_X8_279 qD_X5_lengthAt e39 rfl rfl ⟨by decide, by decide⟩ rfl (Nat.le_of_ble_eq_true rfl) (Nat.le_of_ble_eq_true rfl) (sX5_lengthAt e40) rfl ?_
          refine qv_cmx dX8_readText_78 qB_X8_195 ⟨by decide, by decide⟩ (Nat.le_of_ble_eq_true rfl) ?_
          refine qv_iadd dX8_readText_81 ?_
          refine qv_istore_n (lo2 := [some (.ref a0), none, some (.int (x8 + (1 : Int32))), some (.int (x9 + (qv_mx (1 : Int32) v20)))]) dX8_readText_82 (i := 3) rfl (by decide) rfl (Nat.le_of_ble_eq_true rfl) rfl ?_
          refine qv_goto (tgt := 33) dX8_readText_83 rfl ?_
          cases hs
          exact qv_dp (qv_le_s (qv_le_n (qv_le_s (qv_le_s qv_le_0)))) (ih12 _ _ _ (qv_nx_l eb13))
  · have hs := qv_neg c4 hs
    refine qv_if_lt (tgt := 18) dX8_readText_9 rfl (fun q => absurd q c4) (fun _ => ?_)
    refine qv_sipush (v := (-1000 : Int32)) dX8_readText_12 rfl ?_
    refine qv_iload_n dX8_readText_15 (i := 1) rfl rfl ?_
    refine qv_isub dX8_readText_16 ?_
    obtain ⟨rfl, rfl⟩ := qv_pr hs
    exact qv_iret dX8_readText_17 rfl
theorem qD_X8_readText : qv_DV mX8_readText 0 := ⟨(qv_i5 (List.mem_of_getElem? (i := 6) (by decide +kernel))), (qv_i0 (List.mem_of_getElem? (i := 3) (by decide +kernel))), (qv_i1 (List.mem_of_getElem? (i := 5) (by decide +kernel))), (qv_i5 (List.mem_of_getElem? (i := 7) (by decide +kernel))), by decide +kernel, by decide +kernel⟩
/-- TrueOneWay.land()I -/
noncomputable def fX8_land (a0 : Nat) (h : qv_H) : Option (Int32 × qv_H) :=
  (qv_ob h 7 a0).bind fun _ =>
  (fX8_readText a0 h).bind fun (v2, h3) =>
  (qv_gR h3 7 a0 0).bind fun v4 =>
  (qv_ob h3 4 v4).bind fun _ =>
  (fX5_clear v4 h3).bind fun h6 =>
  some (v2, h6)
abbrev mX8_land : qv_M := (yX8_land, cX8_land, 2, (Option.some Jvm.ClassFile.FieldType.int), 7, 160)
set_option maxRecDepth 100000 in
set_option maxHeartbeats 4000000 in
theorem sX8_land {l : Launch} {g : qv_G} {a0 : Nat} {h : qv_H} {r : Int32} {hz : qv_H} (hs : fX8_land a0 h = some (r, hz)) : qv_J l g mX8_land 0 [some (.ref a0), none] [] h (some (.int r), hz) := by
  unfold fX8_land at hs
  refine qv_aload_n dX8_land_0 (i := 0) rfl rfl ?_
  obtain ⟨u1, e1, hs⟩ := qv_bind hs
  obtain ⟨⟨v2, h3⟩, e2, hs⟩ := qv_bind hs
  dsimp only at hs
  refine qv_cV (d2 := mX8_readText) (o := a0) (ci := 7) (r := some (.int v2)) (h2 := h3) (av := []) (st := []) dX8_land_1 qM_X8_95 qD_X8_readText e1 rfl rfl ⟨by decide, by decide⟩ rfl (Nat.le_of_ble_eq_true rfl) (Nat.le_of_ble_eq_true rfl) (sX8_readText e2) rfl ?_
  refine qv_istore_n (lo2 := [some (.ref a0), some (.int v2)]) dX8_land_4 (i := 1) rfl (by decide) rfl (Nat.le_of_ble_eq_true rfl) rfl ?_
  refine qv_aload_n dX8_land_5 (i := 0) rfl rfl ?_
  obtain ⟨v4, e3, hs⟩ := qv_bind hs
  refine qv_getR dX8_land_6 qF_X8_10 e3 ?_
  obtain ⟨u5, e4, hs⟩ := qv_bind hs
  obtain ⟨h6, e5, hs⟩ := qv_bind hs
  refine qv_cV (d2 := mX5_clear) (o := v4) (ci := 4) (r := none) (h2 := h6) (av := []) (st := []) dX8_land_9 qM_X8_99 qD_X5_clear e4 rfl rfl ⟨by decide, by decide⟩ rfl (Nat.le_of_ble_eq_true rfl) (Nat.le_of_ble_eq_true rfl) (sX5_clear e5) rfl ?_
  refine qv_iload_n dX8_land_12 (i := 1) rfl rfl ?_
  obtain ⟨rfl, rfl⟩ := qv_pr hs
  exact qv_iret dX8_land_13 rfl
theorem qD_X8_land : qv_DV mX8_land 0 := ⟨(qv_i5 (List.mem_of_getElem? (i := 2) (by decide +kernel))), (qv_i5 (List.mem_of_getElem? (i := 3) (by decide +kernel))), (qv_i1 (List.mem_of_getElem? (i := 5) (by decide +kernel))), (qv_i5 (List.mem_of_getElem? (i := 4) (by decide +kernel))), by decide +kernel, by decide +kernel⟩
