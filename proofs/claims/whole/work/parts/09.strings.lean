/-! ===== 09: the texts: String.length, charAt, indexOf over the constants (place 1000 + i: the text; 1100 + i: its bytes) ===== -/
theorem dJ3_checkIndex_8e157_0 : decode cJ3_checkIndex_8e157 0 = .ok (.iload_n 0, 1) := by decide +kernel
theorem dJ3_checkIndex_8e157_1 : decode cJ3_checkIndex_8e157 1 = .ok (.ifCond .lt 8, 3) := by decide +kernel
theorem dJ3_checkIndex_8e157_4 : decode cJ3_checkIndex_8e157 4 = .ok (.iload_n 0, 1) := by decide +kernel
theorem dJ3_checkIndex_8e157_5 : decode cJ3_checkIndex_8e157 5 = .ok (.iload_n 1, 1) := by decide +kernel
theorem dJ3_checkIndex_8e157_6 : decode cJ3_checkIndex_8e157 6 = .ok (.if_icmp .lt 10, 3) := by decide +kernel
theorem dJ3_checkIndex_8e157_9 : decode cJ3_checkIndex_8e157 9 = .ok (.aload_n 2, 1) := by decide +kernel
theorem dJ3_checkIndex_8e157_10 : decode cJ3_checkIndex_8e157 10 = .ok (.iload_n 0, 1) := by decide +kernel
theorem dJ3_checkIndex_8e157_11 : decode cJ3_checkIndex_8e157 11 = .ok (.iload_n 1, 1) := by decide +kernel
theorem dJ3_checkIndex_8e157_12 : decode cJ3_checkIndex_8e157 12 = .ok (.invokestatic 95, 3) := by decide +kernel
theorem dJ3_checkIndex_8e157_15 : decode cJ3_checkIndex_8e157 15 = .ok (.athrow, 1) := by decide +kernel
theorem dJ3_checkIndex_8e157_16 : decode cJ3_checkIndex_8e157 16 = .ok (.iload_n 0, 1) := by decide +kernel
theorem dJ3_checkIndex_8e157_17 : decode cJ3_checkIndex_8e157 17 = .ok (.ireturn, 1) := by decide +kernel
theorem qF_J0_9 : Cond.fieldLink RJ0 9 "java/lang/String" "value" "[B" ∈ qv_WS := (qv_i18 (List.mem_of_getElem? (i := 14) (by decide +kernel)))
theorem qF_J0_15 : Cond.fieldLink RJ0 15 "java/lang/String" "coder" "B" ∈ qv_WS := (qv_i18 (List.mem_of_getElem? (i := 15) (by decide +kernel)))
theorem qF_J0_38 : Cond.fieldLink RJ0 38 "java/lang/String" "COMPACT_STRINGS" "Z" ∈ qv_WS := (qv_i5 (List.mem_of_getElem? (i := 20) (by decide +kernel)))
theorem qF_J0_1053 : Cond.fieldLink RJ0 1053 "jdk/internal/util/Preconditions" "SIOOBE_FORMATTER" "Ljava/util/function/BiFunction;" ∈ qv_WS := (qv_i5 (List.mem_of_getElem? (i := 38) (by decide +kernel)))
theorem qM_J0_335 : Cond.methodLink RJ0 335 yJ0_coder_7d493 ∈ qv_WS := (qv_i5 (List.mem_of_getElem? (i := 16) (by decide +kernel)))
theorem qM_J0_492 : Cond.methodLink RJ0 492 yJ0_isLatin1_aae02 ∈ qv_WS := (qv_i5 (List.mem_of_getElem? (i := 28) (by decide +kernel)))
theorem qM_J0_495 : Cond.methodLink RJ0 495 yJ1_charAt_3b067 ∈ qv_WS := (qv_i5 (List.mem_of_getElem? (i := 32) (by decide +kernel)))
theorem qM_J0_1059 : Cond.methodLink RJ0 1059 yJ3_checkIndex_8e157 ∈ qv_WS := (qv_i5 (List.mem_of_getElem? (i := 39) (by decide +kernel)))
theorem qM_J0_633 : Cond.methodLink RJ0 633 yJ0_indexOf_7cf53 ∈ qv_WS := (qv_i6 (List.mem_of_getElem? (i := 4) (by decide +kernel)))
theorem qM_J0_505 : Cond.methodLink RJ0 505 yJ0_length_8abf5 ∈ qv_WS := (qv_i6 (List.mem_of_getElem? (i := 8) (by decide +kernel)))
theorem qM_J0_637 : Cond.methodLink RJ0 637 yJ1_indexOf_4cfef ∈ qv_WS := (qv_i6 (List.mem_of_getElem? (i := 9) (by decide +kernel)))
theorem qM_J1_9 : Cond.methodLink RJ1 9 yJ0_checkIndex_df160 ∈ qv_WS := (qv_i5 (List.mem_of_getElem? (i := 35) (by decide +kernel)))
theorem qM_J1_88 : Cond.methodLink RJ1 88 yJ1_canEncode_9a6ad ∈ qv_WS := (qv_i6 (List.mem_of_getElem? (i := 12) (by decide +kernel)))
theorem qM_J1_95 : Cond.methodLink RJ1 95 yJ1_indexOfChar_4cfef ∈ qv_WS := (qv_i6 (List.mem_of_getElem? (i := 21) (by decide +kernel)))
theorem qB_J1_92 : Cond.methodLink RJ1 92 Lib.Math.max.name ∈ qv_WS := (qv_i6 (List.mem_of_getElem? (i := 15) (by decide +kernel)))
theorem qB_J1_38 : Cond.methodLink RJ1 38 Lib.Math.min.name ∈ qv_WS := (qv_i6 (List.mem_of_getElem? (i := 18) (by decide +kernel)))
abbrev mJ0_coder_7d493 : qv_M := (yJ0_coder_7d493, cJ0_coder_7d493, 1, (Option.some Jvm.ClassFile.FieldType.byte), 0, 0)
abbrev mJ0_isLatin1_aae02 : qv_M := (yJ0_isLatin1_aae02, cJ0_isLatin1_aae02, 1, (Option.some Jvm.ClassFile.FieldType.boolean), 0, 0)
abbrev mJ0_length_8abf5 : qv_M := (yJ0_length_8abf5, cJ0_length_8abf5, 1, (Option.some Jvm.ClassFile.FieldType.int), 1, 20)
abbrev mJ3_checkIndex_8e157 : qv_M := (yJ3_checkIndex_8e157, cJ3_checkIndex_8e157, 3, (Option.some Jvm.ClassFile.FieldType.int), 0, 0)
abbrev mJ0_checkIndex_df160 : qv_M := (yJ0_checkIndex_df160, cJ0_checkIndex_df160, 2, (Option.none : Option Jvm.ClassFile.FieldType), 1, 22)
abbrev mJ1_charAt_3b067 : qv_M := (yJ1_charAt_3b067, cJ1_charAt_3b067, 2, (Option.some Jvm.ClassFile.FieldType.char), 2, 43)
abbrev mJ0_charAt_5068e : qv_M := (yJ0_charAt_5068e, cJ0_charAt_5068e, 2, (Option.some Jvm.ClassFile.FieldType.char), 3, 64)
abbrev mJ1_canEncode_9a6ad : qv_M := (yJ1_canEncode_9a6ad, cJ1_canEncode_9a6ad, 1, (Option.some Jvm.ClassFile.FieldType.boolean), 0, 0)
abbrev mJ1_indexOfChar_4cfef : qv_M := (yJ1_indexOfChar_4cfef, cJ1_indexOfChar_4cfef, 6, (Option.some Jvm.ClassFile.FieldType.int), 0, 0)
abbrev mJ1_indexOf_4cfef : qv_M := (yJ1_indexOf_4cfef, cJ1_indexOf_4cfef, 4, (Option.some Jvm.ClassFile.FieldType.int), 1, 25)
abbrev mJ0_indexOf_7cf53 : qv_M := (yJ0_indexOf_7cf53, cJ0_indexOf_7cf53, 3, (Option.some Jvm.ClassFile.FieldType.int), 2, 48)
abbrev mJ0_indexOf_0f7a4 : qv_M := (yJ0_indexOf_0f7a4, cJ0_indexOf_0f7a4, 2, (Option.some Jvm.ClassFile.FieldType.int), 3, 70)
theorem qD_J0_coder_7d493 : qv_DV mJ0_coder_7d493 0 := ⟨(qv_i5 (List.mem_of_getElem? (i := 17) (by decide +kernel))), (qv_i5 (List.mem_of_getElem? (i := 18) (by decide +kernel))), (qv_i1 (List.mem_of_getElem? (i := 15) (by decide +kernel))), (qv_i5 (List.mem_of_getElem? (i := 19) (by decide +kernel))), by decide +kernel, by decide +kernel⟩
theorem qD_J0_isLatin1_aae02 : qv_DV mJ0_isLatin1_aae02 0 := ⟨(qv_i5 (List.mem_of_getElem? (i := 29) (by decide +kernel))), (qv_i5 (List.mem_of_getElem? (i := 30) (by decide +kernel))), (qv_i1 (List.mem_of_getElem? (i := 15) (by decide +kernel))), (qv_i5 (List.mem_of_getElem? (i := 31) (by decide +kernel))), by decide +kernel, by decide +kernel⟩
theorem qD_J0_length_8abf5 : qv_DV mJ0_length_8abf5 0 := ⟨(qv_i5 (List.mem_of_getElem? (i := 13) (by decide +kernel))), (qv_i5 (List.mem_of_getElem? (i := 14) (by decide +kernel))), (qv_i1 (List.mem_of_getElem? (i := 15) (by decide +kernel))), (qv_i5 (List.mem_of_getElem? (i := 15) (by decide +kernel))), by decide +kernel, by decide +kernel⟩
theorem qD_J3_checkIndex_8e157 : qv_DS mJ3_checkIndex_8e157 3 := ⟨(qv_i5 (List.mem_of_getElem? (i := 40) (by decide +kernel))), (qv_i1 (List.mem_of_getElem? (i := 17) (by decide +kernel))), (qv_i5 (List.mem_of_getElem? (i := 41) (by decide +kernel))), by decide +kernel, by decide +kernel⟩
theorem qD_J0_checkIndex_df160 : qv_DS mJ0_checkIndex_df160 2 := ⟨(qv_i5 (List.mem_of_getElem? (i := 36) (by decide +kernel))), (qv_i1 (List.mem_of_getElem? (i := 15) (by decide +kernel))), (qv_i5 (List.mem_of_getElem? (i := 37) (by decide +kernel))), by decide +kernel, by decide +kernel⟩
theorem qD_J1_charAt_3b067 : qv_DS mJ1_charAt_3b067 2 := ⟨(qv_i5 (List.mem_of_getElem? (i := 33) (by decide +kernel))), (qv_i1 (List.mem_of_getElem? (i := 16) (by decide +kernel))), (qv_i5 (List.mem_of_getElem? (i := 34) (by decide +kernel))), by decide +kernel, by decide +kernel⟩
theorem qD_J0_charAt_5068e : qv_DV mJ0_charAt_5068e 1 := ⟨(qv_i5 (List.mem_of_getElem? (i := 25) (by decide +kernel))), (qv_i5 (List.mem_of_getElem? (i := 26) (by decide +kernel))), (qv_i1 (List.mem_of_getElem? (i := 15) (by decide +kernel))), (qv_i5 (List.mem_of_getElem? (i := 27) (by decide +kernel))), by decide +kernel, by decide +kernel⟩
theorem qD_J1_canEncode_9a6ad : qv_DS mJ1_canEncode_9a6ad 1 := ⟨(qv_i6 (List.mem_of_getElem? (i := 13) (by decide +kernel))), (qv_i1 (List.mem_of_getElem? (i := 16) (by decide +kernel))), (qv_i6 (List.mem_of_getElem? (i := 14) (by decide +kernel))), by decide +kernel, by decide +kernel⟩
theorem qD_J1_indexOfChar_4cfef : qv_DS mJ1_indexOfChar_4cfef 4 := ⟨(qv_i6 (List.mem_of_getElem? (i := 22) (by decide +kernel))), (qv_i1 (List.mem_of_getElem? (i := 16) (by decide +kernel))), (qv_i6 (List.mem_of_getElem? (i := 23) (by decide +kernel))), by decide +kernel, by decide +kernel⟩
theorem qD_J1_indexOf_4cfef : qv_DS mJ1_indexOf_4cfef 4 := ⟨(qv_i6 (List.mem_of_getElem? (i := 10) (by decide +kernel))), (qv_i1 (List.mem_of_getElem? (i := 16) (by decide +kernel))), (qv_i6 (List.mem_of_getElem? (i := 11) (by decide +kernel))), by decide +kernel, by decide +kernel⟩
theorem qD_J0_indexOf_7cf53 : qv_DV mJ0_indexOf_7cf53 2 := ⟨(qv_i6 (List.mem_of_getElem? (i := 5) (by decide +kernel))), (qv_i6 (List.mem_of_getElem? (i := 6) (by decide +kernel))), (qv_i1 (List.mem_of_getElem? (i := 15) (by decide +kernel))), (qv_i6 (List.mem_of_getElem? (i := 7) (by decide +kernel))), by decide +kernel, by decide +kernel⟩
theorem qD_J0_indexOf_0f7a4 : qv_DV mJ0_indexOf_0f7a4 1 := ⟨(qv_i6 (List.mem_of_getElem? (i := 1) (by decide +kernel))), (qv_i6 (List.mem_of_getElem? (i := 2) (by decide +kernel))), (qv_i1 (List.mem_of_getElem? (i := 15) (by decide +kernel))), (qv_i6 (List.mem_of_getElem? (i := 3) (by decide +kernel))), by decide +kernel, by decide +kernel⟩
section QT
variable {l : Launch} {g : qv_G} {d : qv_M} {pc idx i : Nat} {lo : List (Option Value)} {st : List Value} {h : qv_H} {R : Option Value × qv_H}
theorem qv_sval (hi : i < 8) (hd : decode d.2.1 pc = .ok (.getfield idx, 3)) (hm : Cond.fieldLink d.1.cls idx "java/lang/String" "value" "[B" ∈ qv_WS) (k : qv_J l g d (pc + 3) lo (.ref (1100 + i) :: st) h R) : qv_J l g d pc lo (.ref (1000 + i) :: st) h R := by
  intro p e s m args below meth c A H locs ls X P S L
  have hE := (X.2.2.2.2.2.2.2.2.2.1.1 i hi).2.2.1
  exact vk_getf X.1 X.2.1 hE S X.2.2.2.1 (X.2.2.2.2.1 _ (List.mem_cons_of_mem _ hm)) (fun _ q => q) hd (k p e s m args below meth c A H locs ls X P S L)
theorem qv_scod (hi : i < 8) (hd : decode d.2.1 pc = .ok (.getfield idx, 3)) (hm : Cond.fieldLink d.1.cls idx "java/lang/String" "coder" "B" ∈ qv_WS) (k : qv_J l g d (pc + 3) lo (.int 0 :: st) h R) : qv_J l g d pc lo (.ref (1000 + i) :: st) h R := by
  intro p e s m args below meth c A H locs ls X P S L
  have hE := (X.2.2.2.2.2.2.2.2.2.1.1 i hi).2.1
  exact vk_getf X.1 X.2.1 hE S X.2.2.2.1 (X.2.2.2.2.1 _ (List.mem_cons_of_mem _ hm)) (fun _ q => q) hd (k p e s m args below meth c A H locs ls X P S L)
theorem qv_sbln (hi : i < 8) (hd : decode d.2.1 pc = .ok (.arraylength, 1)) (k : qv_J l g d (pc + 1) lo (.int (Int32.ofNat (qv_sl.getD i 0)) :: st) h R) : qv_J l g d pc lo (.ref (1100 + i) :: st) h R := by
  intro p e s m args below meth c A H locs ls X P S L
  have hE := (X.2.2.2.2.2.2.2.2.2.1.1 i hi).2.2.2
  exact va_tlen X.1 X.2.1 hE S rfl hd (k p e s m args below meth c A H locs ls X P S L)
theorem qv_sbal {j : Int32} (hi : i < 8) (hd : decode d.2.1 pc = .ok (.baload, 1)) (hj : vp_in j (qv_sl.getD i 0)) (k : qv_J l g d (pc + 1) lo (.int ((qv_sb.getD i []).getD j.toNatClampNeg 0) :: st) h R) : qv_J l g d pc lo (.int j :: .ref (1100 + i) :: st) h R := by
  intro p e s m args below meth c A H locs ls X P S L
  have hE := (X.2.2.2.2.2.2.2.2.2.1.1 i hi).2.2.2
  exact va_tb X.1 X.2.1 hE S hj rfl hd (k p e s m args below meth c A H locs ls X P S L)
theorem qv_gcs (hd : decode d.2.1 pc = .ok (.getstatic idx, 3)) (hm : Cond.fieldLink d.1.cls idx "java/lang/String" "COMPACT_STRINGS" "Z" ∈ qv_WS) (k : qv_J l g d (pc + 3) lo (.int 1 :: st) h R) : qv_J l g d pc lo st h R := by
  intro p e s m args below meth c A H locs ls X P S L
  exact va_gets X.1 X.2.1 X.2.2.2.2.2.2.2.2.2.2.2.1 S X.2.2.2.1 (X.2.2.2.2.1 _ (List.mem_cons_of_mem _ hm)) (fun _ q => q) hd (k p e s m args below meth c A H locs ls X P S L)
theorem qv_gsf (hd : decode d.2.1 pc = .ok (.getstatic idx, 3)) (hm : Cond.fieldLink d.1.cls idx "jdk/internal/util/Preconditions" "SIOOBE_FORMATTER" "Ljava/util/function/BiFunction;" ∈ qv_WS) (k1 : qv_J l g d (pc + 3) lo (.null :: st) h R) (k2 : qv_J l g d (pc + 3) lo (.ref 1200 :: st) h R) : qv_J l g d pc lo st h R := by
  intro p e s m args below meth c A H locs ls X P S L
  rcases X.2.2.2.2.2.2.2.2.2.2.2.2 with hz | hz
  · exact va_gets X.1 X.2.1 hz S X.2.2.2.1 (X.2.2.2.2.1 _ (List.mem_cons_of_mem _ hm)) (fun _ q => q) hd (k1 p e s m args below meth c A H locs ls X P S L)
  · exact va_gets X.1 X.2.1 hz S X.2.2.2.1 (X.2.2.2.2.1 _ (List.mem_cons_of_mem _ hm)) (fun _ q => q) hd (k2 p e s m args below meth c A H locs ls X P S L)
theorem qv_i2b {x : Int32} (hd : decode d.2.1 pc = .ok (.i2b, 1)) (k : qv_J l g d (pc + 1) lo (.int x.toInt8.toInt32 :: st) h R) : qv_J l g d pc lo (.int x :: st) h R := by
  intro p e s m args below meth c A H locs ls X P S L
  exact lv_i2b X.1 X.2.1 hd rfl (k p e s m args below meth c A H locs ls X P S L)
theorem qv_nret {v : Int32} {ty : FieldType} (hd : decode d.2.1 pc = .ok (.ireturn, 1)) (hr : d.2.2.2.1 = some ty) (hv : narrow ty (.int v) = .int v) : qv_J l g d pc lo [.int v] h (some (.int v), h) := by
  intro p e s m args below meth c A H locs ls X P S L
  exact W.zret X.1 X.2.1 (X.2.2.2.2.2.1.trans hr) hv (fun t ht hW => ⟨⟨rfl, by rw [ht]; exact P⟩, S.F ht⟩) S.2.2 hd X.2.2.2.2.2.2.1
theorem qv_cT {d2 : qv_M} {n : Nat} {h2 : qv_H} {r : Option Value} {av st0 : List Value} (hi : i < 8) (hd : decode d.2.1 pc = .ok (.invokevirtual idx, 3)) (hm : Cond.methodLink d.1.cls idx d2.1 ∈ qv_WS) (D : qv_DV d2 n) (hcl : d2.1.cls = "java/lang/String") (hn : av.length = n) (hR : d2.2.2.2.2.1 + 1 ≤ d.2.2.2.2.1 ∧ 8 + (d2.2.2.1 + 11) + d2.2.2.2.2.2 ≤ d.2.2.2.2.2) (hc : (av.all fun v => v.category == 1) = true) (hl : av.length + 1 ≤ d2.2.2.1) (hst : (st.map fun v => v.category).sum ≤ 8)
    (hJ : qv_J l g d2 0 (qv_lo0 d2.2.2.1 (.ref (1000 + i) :: av)) [] h (r, h2)) (hs0 : av.reverse ++ .ref (1000 + i) :: st = st0) (k : qv_J l g d (pc + 3) lo (r.toList ++ st) h2 R) : qv_J l g d pc lo st0 h R := by
  subst hs0
  intro p e s m args below meth c A H locs ls X P S L
  obtain ⟨D1, D2, D3, D4, D5, D6⟩ := D
  have cw := cwV (R := qv_rm d) (s := s) (args := args) (own := d.1.cls) (C := d2.1.cls) (index := idx) (y := d2.1) (bytes := d2.2.1) (maxL := d2.2.2.1) (ret := d2.2.2.2.1) (Ts := qv_wl d) (ws := qv_wl d2) (rm := qv_rm d2) (mc := 0) (ms := 0) n X.2.2.2.2.1 (by
    intro w hw
    unfold wsV at hw
    rcases List.mem_append.mp hw with hw | hw
    · simp only [List.mem_cons, List.not_mem_nil, or_false] at hw
      rcases hw with rfl | rfl | rfl | rfl
      · exact qv_gd hm
      · exact qv_gd D1
      · exact qv_gd D2
      · exact qv_gd D3
    · exact qv_gdl D4 w hw) rfl rfl rfl ⟨rfl, D6⟩ hR
  have hrecv : ∃ cellB : Cell, H[qv_ad g (1000 + i)]? = some cellB ∧ cellB.vm.isStatics = false ∧ s.vm.findClass d2.1.cls = some cellB.cls := by
    rw [hcl]
    exact vk_recv (i := i) (adK := fun i => qv_ad g (1000 + i)) X.2.2.2.2.2.2.2.2.2.1 hi S
  have hpre := qv_pre (av := .ref (1000 + i) :: av) X P S
  have hrun := va_runV (H := H) (locs := locs) (cells := 0) (slots := 0) (below := below) (e := e) (meth := meth) (b := qv_ad g (1000 + i)) (As := av.map (qv_rv (qv_ad g))) (rest := st.map (qv_rv (qv_ad g))) (g := F0 m pc ls ((av.reverse ++ .ref (1000 + i) :: st).map (qv_rv (qv_ad g)))) ⟨X.1, X.2.1, X.2.2.1, X.2.2.2.1, X.2.2.2.2.1⟩ (qv_met (sz := H.size) D5 (av := .ref (1000 + i) :: av) (by
      intro v hv
      rcases List.mem_cons.mp hv with rfl | hv
      · rfl
      · exact qv_allc hc v hv) hl hJ) cw ⟨hpre.1, hrecv, hpre.2⟩ rfl (by rw [List.length_map]; exact hn) L.1 (by simp [qv_rv]) (by
      have e5 : ((st.map (qv_rv (qv_ad g))).map fun v => v.category) = st.map fun v => v.category := by
        rw [List.map_map]; apply List.map_congr_left; intro v _; exact qv_cat _ v
      rw [e5]
      exact lv_room hst) hd ⟨Nat.le_refl _, Nat.le_refl _⟩
  exact qv_back X P S L hrun k
end QT
def qv_fnd (c : Int32) : List Int32 → Nat → Int32
  | [], _ => -1
  | b :: t, k => if b = c then nI k else qv_fnd c t (k + 1)
def qv_tlen (o : Nat) : Option Int32 := if 1000 ≤ o ∧ o < 1008 then some (Int32.ofNat (qv_sl.getD (o - 1000) 0)) else none
def qv_tchar (o : Nat) (k : Int32) : Option Int32 := if 1000 ≤ o ∧ o < 1008 ∧ ¬ k < 0 ∧ k < Int32.ofNat (qv_sl.getD (o - 1000) 0) then some ((qv_sb.getD (o - 1000) []).getD k.toNatClampNeg 0) else none
def qv_tidx (o : Nat) (c : Int32) : Option Int32 := if 1000 ≤ o ∧ o < 1008 ∧ (c < 0 ∨ c < 256) then some (if c < 0 then -1 else qv_fnd c (qv_sb.getD (o - 1000) []) 0) else none
theorem qv_sall : ∀ i, i < 8 → (qv_sl.getD i 0 = (qv_sb.getD i []).length ∧ (qv_sb.getD i []).length < 8 ∧ ∀ b ∈ qv_sb.getD i [], b.toInt8.toInt32 = b ∧ b &&& 255 = b ∧ (b.toUInt32 % 65536).toInt32 = b) := by decide +kernel
section QU
variable {l : Launch} {g : qv_G} {h : qv_H} {i : Nat}
theorem sJ0_coder (hi : i < 8) : qv_J l g mJ0_coder_7d493 0 [some (.ref (1000 + i))] [] h (some (.int 0), h) := by
  refine qv_gcs dJ0_coder_7d493_0 qF_J0_38 ?_
  refine qv_if_eq (tgt := 13) dJ0_coder_7d493_3 rfl (fun q => absurd q (by decide)) (fun _ => ?_)
  refine qv_aload_n dJ0_coder_7d493_6 (i := 0) rfl rfl ?_
  refine qv_scod hi dJ0_coder_7d493_7 qF_J0_15 ?_
  refine qv_goto (tgt := 14) dJ0_coder_7d493_10 rfl ?_
  exact qv_nret dJ0_coder_7d493_14 rfl rfl
theorem sJ0_latin (hi : i < 8) : qv_J l g mJ0_isLatin1_aae02 0 [some (.ref (1000 + i))] [] h (some (.int 1), h) := by
  refine qv_gcs dJ0_isLatin1_aae02_0 qF_J0_38 ?_
  refine qv_if_eq (tgt := 17) dJ0_isLatin1_aae02_3 rfl (fun q => absurd q (by decide)) (fun _ => ?_)
  refine qv_aload_n dJ0_isLatin1_aae02_6 (i := 0) rfl rfl ?_
  refine qv_scod hi dJ0_isLatin1_aae02_7 qF_J0_15 ?_
  refine qv_if_ne (tgt := 17) dJ0_isLatin1_aae02_10 rfl (fun q => absurd rfl q) (fun _ => ?_)
  refine qv_iconst (v := (1 : Int32)) dJ0_isLatin1_aae02_13 rfl ?_
  refine qv_goto (tgt := 18) dJ0_isLatin1_aae02_14 rfl ?_
  exact qv_nret dJ0_isLatin1_aae02_18 rfl rfl
theorem sJ0_length (hi : i < 8) : qv_J l g mJ0_length_8abf5 0 [some (.ref (1000 + i))] [] h (some (.int (Int32.ofNat (qv_sl.getD i 0))), h) := by
  refine qv_aload_n dJ0_length_8abf5_0 (i := 0) rfl rfl ?_
  refine qv_sval hi dJ0_length_8abf5_1 qF_J0_9 ?_
  refine qv_sbln hi dJ0_length_8abf5_4 ?_
  refine qv_aload_n dJ0_length_8abf5_5 (i := 0) rfl rfl ?_
  refine qv_cT (d2 := mJ0_coder_7d493) (r := some (.int 0)) (h2 := h) (av := []) (st := [.int (Int32.ofNat (qv_sl.getD i 0))]) hi dJ0_length_8abf5_6 qM_J0_335 qD_J0_coder_7d493 rfl rfl ⟨by decide, by decide⟩ rfl (by decide) (Nat.le_of_ble_eq_true rfl) (sJ0_coder hi) rfl ?_
  refine qv_ishr dJ0_length_8abf5_9 ?_
  rw [sb_shr0]
  exact qv_iret dJ0_length_8abf5_10 rfl
theorem sJ3_check {k n : Int32} {v : Value} (h1 : ¬ k < 0) (h2 : k < n) : qv_J l g mJ3_checkIndex_8e157 0 [some (.int k), some (.int n), some v] [] h (some (.int k), h) := by
  refine qv_iload_n dJ3_checkIndex_8e157_0 (i := 0) rfl rfl ?_
  refine qv_if_lt (tgt := 9) dJ3_checkIndex_8e157_1 rfl (fun q => absurd q h1) (fun _ => ?_)
  refine qv_iload_n dJ3_checkIndex_8e157_4 (i := 0) rfl rfl ?_
  refine qv_iload_n dJ3_checkIndex_8e157_5 (i := 1) rfl rfl ?_
  refine qv_icmp_lt (tgt := 16) dJ3_checkIndex_8e157_6 rfl (fun _ => ?_) (fun q => absurd h2 q)
  refine qv_iload_n dJ3_checkIndex_8e157_16 (i := 0) rfl rfl ?_
  exact qv_iret dJ3_checkIndex_8e157_17 rfl
theorem sJ0_check {k n : Int32} (h1 : ¬ k < 0) (h2 : k < n) : qv_J l g mJ0_checkIndex_df160 0 [some (.int k), some (.int n)] [] h (none, h) := by
  refine qv_iload_n dJ0_checkIndex_df160_0 (i := 0) rfl rfl ?_
  refine qv_iload_n dJ0_checkIndex_df160_1 (i := 1) rfl rfl ?_
  refine qv_gsf dJ0_checkIndex_df160_2 qF_J0_1053 ?_ ?_
  · refine qv_cS (d2 := mJ3_checkIndex_8e157) (r := some (.int k)) (h2 := h) (av := [.int k, .int n, .null]) (st := []) dJ0_checkIndex_df160_5 qM_J0_1059 qD_J3_checkIndex_8e157 rfl ⟨by decide, by decide⟩ rfl (Nat.le_of_ble_eq_true rfl) (Nat.le_of_ble_eq_true rfl) (sJ3_check h1 h2) rfl ?_
    refine qv_pop dJ0_checkIndex_df160_8 rfl ?_
    exact qv_vret dJ0_checkIndex_df160_9 rfl
  · refine qv_cS (d2 := mJ3_checkIndex_8e157) (r := some (.int k)) (h2 := h) (av := [.int k, .int n, .ref 1200]) (st := []) dJ0_checkIndex_df160_5 qM_J0_1059 qD_J3_checkIndex_8e157 rfl ⟨by decide, by decide⟩ rfl (Nat.le_of_ble_eq_true rfl) (Nat.le_of_ble_eq_true rfl) (sJ3_check h1 h2) rfl ?_
    refine qv_pop dJ0_checkIndex_df160_8 rfl ?_
    exact qv_vret dJ0_checkIndex_df160_9 rfl
theorem qv_inS {k : Int32} {n : Nat} (hn : n < 8) (h1 : ¬ k < 0) (h2 : k < Int32.ofNat n) : ∃ j, j < n ∧ k = nI j := by
  obtain ⟨j, h3, rfl⟩ := nI_of h1
  have h4 : nI j < nI n := h2
  exact ⟨j, (nI_ltI h3 (by omega)).mp h4, rfl⟩
theorem qv_sby {j : Nat} (hi : i < 8) (hj : j < qv_sl.getD i 0) : (qv_sb.getD i []).getD j 0 ∈ qv_sb.getD i [] := by
  obtain ⟨h1, h2, h3⟩ := qv_sall i hi
  rw [h1] at hj
  generalize qv_sb.getD i [] = t at hj ⊢
  rw [List.getD_eq_getElem?_getD, List.getElem?_eq_getElem hj]
  exact List.getElem_mem hj
theorem sJ1_charAt {k : Int32} (hi : i < 8) (h1 : ¬ k < 0) (h2 : k < Int32.ofNat (qv_sl.getD i 0)) : qv_J l g mJ1_charAt_3b067 0 [some (.ref (1100 + i)), some (.int k)] [] h (some (.int ((qv_sb.getD i []).getD k.toNatClampNeg 0)), h) := by
  obtain ⟨a1, a2, a3⟩ := qv_sall i hi
  obtain ⟨j, hj, rfl⟩ := qv_inS (by omega) h1 h2
  have e1 : (nI j).toNatClampNeg = j := nI_clamp (by omega)
  obtain ⟨b1, b2, b3⟩ := a3 _ (qv_sby hi hj)
  refine qv_iload_n dJ1_charAt_3b067_0 (i := 1) rfl rfl ?_
  refine qv_aload_n dJ1_charAt_3b067_1 (i := 0) rfl rfl ?_
  refine qv_sbln hi dJ1_charAt_3b067_2 ?_
  refine qv_cS (d2 := mJ0_checkIndex_df160) (r := none) (h2 := h) (av := [.int (nI j), .int (Int32.ofNat (qv_sl.getD i 0))]) (st := []) dJ1_charAt_3b067_3 qM_J1_9 qD_J0_checkIndex_df160 rfl ⟨by decide, by decide⟩ rfl (Nat.le_of_ble_eq_true rfl) (Nat.le_of_ble_eq_true rfl) (sJ0_check h1 h2) rfl ?_
  refine qv_aload_n dJ1_charAt_3b067_6 (i := 0) rfl rfl ?_
  refine qv_iload_n dJ1_charAt_3b067_7 (i := 1) rfl rfl ?_
  refine qv_sbal hi dJ1_charAt_3b067_8 (vp_in_nI hj (by omega)) ?_
  refine qv_sipush (v := (255 : Int32)) dJ1_charAt_3b067_9 rfl ?_
  refine qv_iand dJ1_charAt_3b067_12 ?_
  refine qv_i2c dJ1_charAt_3b067_13 ?_
  rw [e1, b2, b3]
  refine qv_nret dJ1_charAt_3b067_14 rfl ?_
  rw [← b2]
  exact sc_nar _
theorem sJ0_charAt {k : Int32} (hi : i < 8) (h1 : ¬ k < 0) (h2 : k < Int32.ofNat (qv_sl.getD i 0)) : qv_J l g mJ0_charAt_5068e 0 [some (.ref (1000 + i)), some (.int k)] [] h (some (.int ((qv_sb.getD i []).getD k.toNatClampNeg 0)), h) := by
  obtain ⟨a1, a2, a3⟩ := qv_sall i hi
  obtain ⟨j, hj, e0⟩ := qv_inS (by omega) h1 h2
  have e1 : k.toNatClampNeg = j := by rw [e0]; exact nI_clamp (by omega)
  obtain ⟨b1, b2, b3⟩ := a3 _ (qv_sby hi hj)
  refine qv_aload_n dJ0_charAt_5068e_0 (i := 0) rfl rfl ?_
  refine qv_cT (d2 := mJ0_isLatin1_aae02) (r := some (.int 1)) (h2 := h) (av := []) (st := []) hi dJ0_charAt_5068e_1 qM_J0_492 qD_J0_isLatin1_aae02 rfl rfl ⟨by decide, by decide⟩ rfl (by decide) (Nat.le_of_ble_eq_true rfl) (sJ0_latin hi) rfl ?_
  refine qv_if_eq (tgt := 16) dJ0_charAt_5068e_4 rfl (fun q => absurd q (by decide)) (fun _ => ?_)
  refine qv_aload_n dJ0_charAt_5068e_7 (i := 0) rfl rfl ?_
  refine qv_sval hi dJ0_charAt_5068e_8 qF_J0_9 ?_
  refine qv_iload_n dJ0_charAt_5068e_11 (i := 1) rfl rfl ?_
  refine qv_cS (d2 := mJ1_charAt_3b067) (r := some (.int ((qv_sb.getD i []).getD k.toNatClampNeg 0))) (h2 := h) (av := [.ref (1100 + i), .int k]) (st := []) dJ0_charAt_5068e_12 qM_J0_495 qD_J1_charAt_3b067 rfl ⟨by decide, by decide⟩ rfl (Nat.le_of_ble_eq_true rfl) (Nat.le_of_ble_eq_true rfl) (sJ1_charAt hi h1 h2) rfl ?_
  refine qv_nret dJ0_charAt_5068e_15 rfl ?_
  rw [e1, ← b2]
  exact sc_nar _
theorem sJ1_enc {c : Int32} (h1 : ¬ c < 0) (h2 : c < 256) : qv_J l g mJ1_canEncode_9a6ad 0 [some (.int c)] [] h (some (.int 1), h) := by
  refine qv_iload_n dJ1_canEncode_9a6ad_0 (i := 0) rfl rfl ?_
  refine qv_if_lt (tgt := 15) dJ1_canEncode_9a6ad_1 rfl (fun q => absurd q h1) (fun _ => ?_)
  refine qv_iload_n dJ1_canEncode_9a6ad_4 (i := 0) rfl rfl ?_
  refine qv_sipush (v := (255 : Int32)) dJ1_canEncode_9a6ad_5 rfl ?_
  refine qv_icmp_gt (tgt := 15) dJ1_canEncode_9a6ad_8 rfl (fun q => absurd q ?_) (fun _ => ?_)
  · rw [Int32.lt_iff_toInt_lt] at h2 ⊢
    have e1 : (256 : Int32).toInt = 256 := by decide
    have e2 : (255 : Int32).toInt = 255 := by decide
    omega
  · refine qv_iconst (v := (1 : Int32)) dJ1_canEncode_9a6ad_11 rfl ?_
    refine qv_goto (tgt := 16) dJ1_canEncode_9a6ad_12 rfl ?_
    exact qv_nret dJ1_canEncode_9a6ad_16 rfl rfl
theorem sJ1_encN {c : Int32} (h1 : c < 0) : qv_J l g mJ1_canEncode_9a6ad 0 [some (.int c)] [] h (some (.int 0), h) := by
  refine qv_iload_n dJ1_canEncode_9a6ad_0 (i := 0) rfl rfl ?_
  refine qv_if_lt (tgt := 15) dJ1_canEncode_9a6ad_1 rfl (fun _ => ?_) (fun q => absurd h1 q)
  refine qv_iconst (v := (0 : Int32)) dJ1_canEncode_9a6ad_15 rfl ?_
  exact qv_nret dJ1_canEncode_9a6ad_16 rfl rfl
theorem qv_fnd_loop {n : Nat} (hn : n < 256) (hi : i < 8) (f0 : Value) : ∀ (t : List Int32) (k : Nat), (qv_sb.getD i []).drop k = t → k ≤ qv_sl.getD i 0 → qv_J l g mJ1_indexOfChar_4cfef 7 [some (.ref (1100 + i)), none, none, some (.int (Int32.ofNat (qv_sl.getD i 0))), some (.int (nI n).toInt8.toInt32), some (.int (nI k))] [] h (some (.int (qv_fnd (nI n) t k)), h) := by
  obtain ⟨a1, a2, a3⟩ := qv_sall i hi
  intro t
  induction t with
  | nil =>
    intro k e hk
    have q : (qv_sb.getD i []).length ≤ k := List.drop_eq_nil_iff.mp e
    refine qv_iload dJ1_indexOfChar_4cfef_7 rfl ?_
    refine qv_iload_n dJ1_indexOfChar_4cfef_9 (i := 3) rfl rfl ?_
    refine qv_icmp_ge (tgt := 31) dJ1_indexOfChar_4cfef_10 rfl (fun _ => ?_) (fun q2 => absurd (nI_le (by omega) (by omega)) q2)
    refine qv_iconst (v := (-1 : Int32)) dJ1_indexOfChar_4cfef_31 rfl ?_
    exact qv_iret dJ1_indexOfChar_4cfef_32 rfl
  | cons b t ih =>
    intro k e hk
    obtain ⟨c1, c2, c3, c4⟩ := sc_dropC e
    obtain ⟨b1, b2, b3⟩ := a3 b c4
    have hkl : k < qv_sl.getD i 0 := by omega
    refine qv_iload dJ1_indexOfChar_4cfef_7 rfl ?_
    refine qv_iload_n dJ1_indexOfChar_4cfef_9 (i := 3) rfl rfl ?_
    refine qv_icmp_ge (tgt := 31) dJ1_indexOfChar_4cfef_10 rfl (fun q2 => absurd q2 (nI_ge hkl (by omega))) (fun _ => ?_)
    refine qv_aload_n dJ1_indexOfChar_4cfef_13 (i := 0) rfl rfl ?_
    refine qv_iload dJ1_indexOfChar_4cfef_14 rfl ?_
    refine qv_sbal hi dJ1_indexOfChar_4cfef_16 (vp_in_nI hkl (by omega)) ?_
    refine qv_iload dJ1_indexOfChar_4cfef_17 rfl ?_
    rw [nI_clamp (by omega), c2]
    have hiff : b = (nI n).toInt8.toInt32 ↔ b = nI n := by rw [sc_eq b1 hn, b2]
    refine qv_icmp_ne (tgt := 25) dJ1_indexOfChar_4cfef_19 rfl (fun q2 => ?_) (fun q2 => ?_)
    · refine qv_iinc (v := nI (k + 1)) (lo2 := [some (.ref (1100 + i)), none, none, some (.int (Int32.ofNat (qv_sl.getD i 0))), some (.int (nI n).toInt8.toInt32), some (.int (nI (k + 1)))]) dJ1_indexOfChar_4cfef_25 rfl (nI_1 k) (by decide) rfl rfl ?_
      refine qv_goto (tgt := 7) dJ1_indexOfChar_4cfef_28 rfl ?_
      have e2 : qv_fnd (nI n) (b :: t) k = qv_fnd (nI n) t (k + 1) := by
        show (if b = nI n then _ else _) = _
        rw [if_neg (fun z => q2 (hiff.mpr z))]
      rw [e2]
      exact ih (k + 1) c3 (by omega)
    · have e2 : qv_fnd (nI n) (b :: t) k = nI k := by
        show (if b = nI n then _ else _) = _
        rw [if_pos (hiff.mp q2)]
      rw [e2]
      refine qv_iload dJ1_indexOfChar_4cfef_22 rfl ?_
      exact qv_iret dJ1_indexOfChar_4cfef_24 rfl
theorem sJ1_ixc {n : Nat} (hn : n < 256) (hi : i < 8) : qv_J l g mJ1_indexOfChar_4cfef 0 [some (.ref (1100 + i)), some (.int (nI n)), some (.int 0), some (.int (Int32.ofNat (qv_sl.getD i 0))), none, none] [] h (some (.int (qv_fnd (nI n) (qv_sb.getD i []) 0)), h) := by
  refine qv_iload_n dJ1_indexOfChar_4cfef_0 (i := 1) rfl rfl ?_
  refine qv_i2b dJ1_indexOfChar_4cfef_1 ?_
  refine qv_istore (lo2 := [some (.ref (1100 + i)), some (.int (nI n)), some (.int 0), some (.int (Int32.ofNat (qv_sl.getD i 0))), some (.int (nI n).toInt8.toInt32), none]) dJ1_indexOfChar_4cfef_2 (by decide) rfl (Nat.le_of_ble_eq_true rfl) rfl ?_
  refine qv_iload_n dJ1_indexOfChar_4cfef_4 (i := 2) rfl rfl ?_
  refine qv_istore (lo2 := [some (.ref (1100 + i)), some (.int (nI n)), some (.int 0), some (.int (Int32.ofNat (qv_sl.getD i 0))), some (.int (nI n).toInt8.toInt32), some (.int 0)]) dJ1_indexOfChar_4cfef_5 (by decide) rfl (Nat.le_of_ble_eq_true rfl) rfl ?_
  exact qv_dp (qv_le_s (qv_le_n (qv_le_n (qv_le_s (qv_le_s (qv_le_s qv_le_0)))))) (qv_fnd_loop hn hi .null (qv_sb.getD i []) 0 rfl (Nat.zero_le _))
theorem sJ1_ix {c : Int32} (hc : c < 0 ∨ c < 256) (hi : i < 8) : qv_J l g mJ1_indexOf_4cfef 0 [some (.ref (1100 + i)), some (.int c), some (.int 0), some (.int (Int32.ofNat (qv_sl.getD i 0)))] [] h (some (.int (if c < 0 then -1 else qv_fnd c (qv_sb.getD i []) 0)), h) := by
  obtain ⟨a1, a2, a3⟩ := qv_sall i hi
  refine qv_iload_n dJ1_indexOf_4cfef_0 (i := 1) rfl rfl ?_
  by_cases h1 : c < 0
  · refine qv_cS (d2 := mJ1_canEncode_9a6ad) (r := some (.int 0)) (h2 := h) (av := [.int c]) (st := []) dJ1_indexOf_4cfef_1 qM_J1_88 qD_J1_canEncode_9a6ad rfl ⟨by decide, by decide⟩ rfl (Nat.le_of_ble_eq_true rfl) (Nat.le_of_ble_eq_true rfl) (sJ1_encN h1) rfl ?_
    refine qv_if_ne (tgt := 9) dJ1_indexOf_4cfef_4 rfl (fun q => absurd rfl q) (fun _ => ?_)
    refine qv_iconst (v := (-1 : Int32)) dJ1_indexOf_4cfef_7 rfl ?_
    rw [if_pos h1]
    exact qv_iret dJ1_indexOf_4cfef_8 rfl
  · have h2 : c < 256 := hc.resolve_left h1
    rw [if_neg h1]
    refine qv_cS (d2 := mJ1_canEncode_9a6ad) (r := some (.int 1)) (h2 := h) (av := [.int c]) (st := []) dJ1_indexOf_4cfef_1 qM_J1_88 qD_J1_canEncode_9a6ad rfl ⟨by decide, by decide⟩ rfl (Nat.le_of_ble_eq_true rfl) (Nat.le_of_ble_eq_true rfl) (sJ1_enc h1 h2) rfl ?_
    refine qv_if_ne (tgt := 9) dJ1_indexOf_4cfef_4 rfl (fun _ => ?_) (fun q => absurd q (by decide))
    refine qv_iload_n dJ1_indexOf_4cfef_9 (i := 2) rfl rfl ?_
    refine qv_iconst (v := (0 : Int32)) dJ1_indexOf_4cfef_10 rfl ?_
    refine qv_cmx dJ1_indexOf_4cfef_11 qB_J1_92 ⟨by decide, by decide⟩ (Nat.le_of_ble_eq_true rfl) ?_
    refine qv_istore_n (lo2 := [some (.ref (1100 + i)), some (.int c), some (.int 0), some (.int (Int32.ofNat (qv_sl.getD i 0)))]) dJ1_indexOf_4cfef_14 (i := 2) rfl (by decide) rfl (Nat.le_of_ble_eq_true rfl) rfl ?_
    refine qv_iload_n dJ1_indexOf_4cfef_15 (i := 3) rfl rfl ?_
    refine qv_aload_n dJ1_indexOf_4cfef_16 (i := 0) rfl rfl ?_
    refine qv_sbln hi dJ1_indexOf_4cfef_17 ?_
    refine qv_cmn dJ1_indexOf_4cfef_18 qB_J1_38 ⟨by decide, by decide⟩ (Nat.le_of_ble_eq_true rfl) ?_
    have e1 : qv_mn (Int32.ofNat (qv_sl.getD i 0)) (Int32.ofNat (qv_sl.getD i 0)) = Int32.ofNat (qv_sl.getD i 0) := by unfold qv_mn; split <;> rfl
    rw [e1]
    refine qv_istore_n (lo2 := [some (.ref (1100 + i)), some (.int c), some (.int 0), some (.int (Int32.ofNat (qv_sl.getD i 0)))]) dJ1_indexOf_4cfef_21 (i := 3) rfl (by decide) rfl (Nat.le_of_ble_eq_true rfl) rfl ?_
    refine qv_iload_n dJ1_indexOf_4cfef_22 (i := 2) rfl rfl ?_
    refine qv_iload_n dJ1_indexOf_4cfef_23 (i := 3) rfl rfl ?_
    obtain ⟨j, hj, rfl⟩ := nI_of h1
    have hj2 : j < 256 := (nI_ltI hj (by decide)).mp h2
    by_cases h0 : qv_sl.getD i 0 = 0
    · refine qv_icmp_lt (tgt := 29) dJ1_indexOf_4cfef_24 rfl (fun q => absurd q (by rw [h0]; decide)) (fun _ => ?_)
      refine qv_iconst (v := (-1 : Int32)) dJ1_indexOf_4cfef_27 rfl ?_
      have e2 : qv_sb.getD i [] = [] := List.length_eq_zero_iff.mp (by omega)
      rw [e2]
      exact qv_iret dJ1_indexOf_4cfef_28 rfl
    · refine qv_icmp_lt (tgt := 29) dJ1_indexOf_4cfef_24 rfl (fun _ => ?_) (fun q => absurd (nI_lt (a := 0) (b := qv_sl.getD i 0) (by omega) (by omega)) q)
      refine qv_aload_n dJ1_indexOf_4cfef_29 (i := 0) rfl rfl ?_
      refine qv_iload_n dJ1_indexOf_4cfef_30 (i := 1) rfl rfl ?_
      refine qv_iload_n dJ1_indexOf_4cfef_31 (i := 2) rfl rfl ?_
      refine qv_iload_n dJ1_indexOf_4cfef_32 (i := 3) rfl rfl ?_
      refine qv_cS (d2 := mJ1_indexOfChar_4cfef) (r := some (.int (qv_fnd (nI j) (qv_sb.getD i []) 0))) (h2 := h) (av := [.ref (1100 + i), .int (nI j), .int 0, .int (Int32.ofNat (qv_sl.getD i 0))]) (st := []) dJ1_indexOf_4cfef_33 qM_J1_95 qD_J1_indexOfChar_4cfef rfl ⟨by decide, by decide⟩ rfl (Nat.le_of_ble_eq_true rfl) (Nat.le_of_ble_eq_true rfl) (sJ1_ixc hj2 hi) rfl ?_
      exact qv_iret dJ1_indexOf_4cfef_36 rfl
theorem sJ0_ix2 {c : Int32} (hc : c < 0 ∨ c < 256) (hi : i < 8) : qv_J l g mJ0_indexOf_7cf53 0 [some (.ref (1000 + i)), some (.int c), some (.int 0)] [] h (some (.int (if c < 0 then -1 else qv_fnd c (qv_sb.getD i []) 0)), h) := by
  refine qv_aload_n dJ0_indexOf_7cf53_0 (i := 0) rfl rfl ?_
  refine qv_cT (d2 := mJ0_isLatin1_aae02) (r := some (.int 1)) (h2 := h) (av := []) (st := []) hi dJ0_indexOf_7cf53_1 qM_J0_492 qD_J0_isLatin1_aae02 rfl rfl ⟨by decide, by decide⟩ rfl (by decide) (Nat.le_of_ble_eq_true rfl) (sJ0_latin hi) rfl ?_
  refine qv_if_eq (tgt := 23) dJ0_indexOf_7cf53_4 rfl (fun q => absurd q (by decide)) (fun _ => ?_)
  refine qv_aload_n dJ0_indexOf_7cf53_7 (i := 0) rfl rfl ?_
  refine qv_sval hi dJ0_indexOf_7cf53_8 qF_J0_9 ?_
  refine qv_iload_n dJ0_indexOf_7cf53_11 (i := 1) rfl rfl ?_
  refine qv_iload_n dJ0_indexOf_7cf53_12 (i := 2) rfl rfl ?_
  refine qv_aload_n dJ0_indexOf_7cf53_13 (i := 0) rfl rfl ?_
  refine qv_cT (d2 := mJ0_length_8abf5) (r := some (.int (Int32.ofNat (qv_sl.getD i 0)))) (h2 := h) (av := []) (st := [.int 0, .int c, .ref (1100 + i)]) hi dJ0_indexOf_7cf53_14 qM_J0_505 qD_J0_length_8abf5 rfl rfl ⟨by decide, by decide⟩ rfl (by decide) (Nat.le_of_ble_eq_true rfl) (sJ0_length hi) rfl ?_
  refine qv_cS (d2 := mJ1_indexOf_4cfef) (r := some (.int (if c < 0 then -1 else qv_fnd c (qv_sb.getD i []) 0))) (h2 := h) (av := [.ref (1100 + i), .int c, .int 0, .int (Int32.ofNat (qv_sl.getD i 0))]) (st := []) dJ0_indexOf_7cf53_17 qM_J0_637 qD_J1_indexOf_4cfef rfl ⟨by decide, by decide⟩ rfl (Nat.le_of_ble_eq_true rfl) (Nat.le_of_ble_eq_true rfl) (sJ1_ix hc hi) rfl ?_
  refine qv_goto (tgt := 36) dJ0_indexOf_7cf53_20 rfl ?_
  exact qv_iret dJ0_indexOf_7cf53_36 rfl
theorem sJ0_ix1 {c : Int32} (hc : c < 0 ∨ c < 256) (hi : i < 8) : qv_J l g mJ0_indexOf_0f7a4 0 [some (.ref (1000 + i)), some (.int c)] [] h (some (.int (if c < 0 then -1 else qv_fnd c (qv_sb.getD i []) 0)), h) := by
  refine qv_aload_n dJ0_indexOf_0f7a4_0 (i := 0) rfl rfl ?_
  refine qv_iload_n dJ0_indexOf_0f7a4_1 (i := 1) rfl rfl ?_
  refine qv_iconst (v := (0 : Int32)) dJ0_indexOf_0f7a4_2 rfl ?_
  refine qv_cT (d2 := mJ0_indexOf_7cf53) (r := some (.int (if c < 0 then -1 else qv_fnd c (qv_sb.getD i []) 0))) (h2 := h) (av := [.int c, .int 0]) (st := []) hi dJ0_indexOf_0f7a4_3 qM_J0_633 qD_J0_indexOf_7cf53 rfl rfl ⟨by decide, by decide⟩ rfl (Nat.le_of_ble_eq_true rfl) (Nat.le_of_ble_eq_true rfl) (sJ0_ix2 hc hi) rfl ?_
  exact qv_iret dJ0_indexOf_0f7a4_6 rfl
end QU
section QZ
variable {l : Launch} {g : qv_G} {d : qv_M} {pc idx o : Nat} {lo : List (Option Value)} {st : List Value} {h : qv_H} {R : Option Value × qv_H}
theorem qv_stlen {v : Int32} (hd : decode d.2.1 pc = .ok (.invokevirtual idx, 3)) (hm : Cond.methodLink d.1.cls idx yJ0_length_8abf5 ∈ qv_WS) (hR : 2 ≤ d.2.2.2.2.1 ∧ 40 ≤ d.2.2.2.2.2) (hst : (st.map fun v => v.category).sum ≤ 8) (e : qv_tlen o = some v) (k : qv_J l g d (pc + 3) lo (.int v :: st) h R) : qv_J l g d pc lo (.ref o :: st) h R := by
  unfold qv_tlen at e
  split at e
  · rename_i ho
    obtain rfl := qv_sm e
    obtain ⟨i, rfl⟩ : ∃ i, o = 1000 + i := ⟨o - 1000, by omega⟩
    rw [show 1000 + i - 1000 = i by omega] at k
    exact qv_cT (d2 := mJ0_length_8abf5) (r := some (.int (Int32.ofNat (qv_sl.getD i 0)))) (h2 := h) (av := []) (st := st) (by omega) hd hm qD_J0_length_8abf5 rfl rfl hR rfl (by decide) hst (sJ0_length (by omega)) rfl k
  · cases e
theorem qv_stchar {c v : Int32} (hd : decode d.2.1 pc = .ok (.invokevirtual idx, 3)) (hm : Cond.methodLink d.1.cls idx yJ0_charAt_5068e ∈ qv_WS) (hR : 4 ≤ d.2.2.2.2.1 ∧ 85 ≤ d.2.2.2.2.2) (hst : (st.map fun v => v.category).sum ≤ 8) (e : qv_tchar o c = some v) (k : qv_J l g d (pc + 3) lo (.int v :: st) h R) : qv_J l g d pc lo (.int c :: .ref o :: st) h R := by
  unfold qv_tchar at e
  split at e
  · rename_i ho
    obtain rfl := qv_sm e
    obtain ⟨i, rfl⟩ : ∃ i, o = 1000 + i := ⟨o - 1000, by omega⟩
    rw [show 1000 + i - 1000 = i by omega] at k ho
    exact qv_cT (d2 := mJ0_charAt_5068e) (r := some (.int ((qv_sb.getD i []).getD c.toNatClampNeg 0))) (h2 := h) (av := [.int c]) (st := st) (by omega) hd hm qD_J0_charAt_5068e rfl rfl hR rfl (Nat.le_of_ble_eq_true rfl) hst (sJ0_charAt (by omega) ho.2.2.1 ho.2.2.2) rfl k
  · cases e
theorem qv_stidx {c v : Int32} (hd : decode d.2.1 pc = .ok (.invokevirtual idx, 3)) (hm : Cond.methodLink d.1.cls idx yJ0_indexOf_0f7a4 ∈ qv_WS) (hR : 4 ≤ d.2.2.2.2.1 ∧ 91 ≤ d.2.2.2.2.2) (hst : (st.map fun v => v.category).sum ≤ 8) (e : qv_tidx o c = some v) (k : qv_J l g d (pc + 3) lo (.int v :: st) h R) : qv_J l g d pc lo (.int c :: .ref o :: st) h R := by
  unfold qv_tidx at e
  split at e
  · rename_i ho
    obtain rfl := qv_sm e
    obtain ⟨i, rfl⟩ : ∃ i, o = 1000 + i := ⟨o - 1000, by omega⟩
    rw [show 1000 + i - 1000 = i by omega] at k
    exact qv_cT (d2 := mJ0_indexOf_0f7a4) (r := some (.int (if c < 0 then -1 else qv_fnd c (qv_sb.getD i []) 0))) (h2 := h) (av := [.int c]) (st := st) (by omega) hd hm qD_J0_indexOf_0f7a4 rfl rfl hR rfl (Nat.le_of_ble_eq_true rfl) hst (sJ0_ix1 ho.2.2 (by omega)) rfl k
  · cases e
end QZ
