/-! ===== 08: Math.max, Math.min ===== -/
def qv_mx (x y : Int32) : Int32 := if x < y then y else x
def qv_mn (x y : Int32) : Int32 := if y < x then y else x
theorem qv_mx1 : Cond.static Lib.Math.max.name ∈ qv_WS := (qv_i6 (List.mem_of_getElem? (i := 16) (by decide +kernel)))
theorem qv_mx2 : Cond.initialized "java/lang/Math" ∈ qv_WS := (qv_i1 (List.mem_of_getElem? (i := 19) (by decide +kernel)))
theorem qv_mx3 : Cond.code Lib.Math.max.name Lib.Math.max.code 2 (some .int) ∈ qv_WS := (qv_i6 (List.mem_of_getElem? (i := 17) (by decide +kernel)))
theorem qv_cmx {l : Launch} {g : qv_G} {d : qv_M} {pc idx : Nat} {lo : List (Option Value)} {st : List Value} {h : qv_H} {R : Option Value × qv_H} {x y : Int32} (hd : decode d.2.1 pc = .ok (.invokestatic idx, 3)) (hm : Cond.methodLink d.1.cls idx Lib.Math.max.name ∈ qv_WS) (hR : 1 ≤ d.2.2.2.2.1 ∧ 21 ≤ d.2.2.2.2.2) (hst : (st.map fun v => v.category).sum ≤ 8) (k : qv_J l g d (pc + 3) lo (.int (qv_mx x y) :: st) h R) : qv_J l g d pc lo (.int y :: .int x :: st) h R := by
  intro p e s m args below meth c A H locs ls X P S L
  have hts : ∀ w ∈ qv_WS, w.before args s = true := fun w hw => X.2.2.2.2.1 w (List.mem_cons_of_mem _ hw)
  have e5 : ((st.map (qv_rv (qv_ad g))).map fun v => v.category) = st.map fun v => v.category := by
    rw [List.map_map]; apply List.map_congr_left; intro v _; exact qv_cat _ v
  exact va_mmax X.1 X.2.1 (X.2.2.1.trans L.1.symm) X.2.2.2.1 (hts _ hm) (hts _ qv_mx1) (hts _ qv_mx2) (hts _ qv_mx3) hR.1 (by rw [e5]; exact Nat.le_trans (Nat.add_le_add_right hst _) hR.2) (Nat.le_refl _) (Nat.le_refl _) hd (k p e s m args below meth c A H locs ls X P S L)
theorem qv_mn1 : Cond.static Lib.Math.min.name ∈ qv_WS := (qv_i6 (List.mem_of_getElem? (i := 19) (by decide +kernel)))
theorem qv_mn2 : Cond.initialized "java/lang/Math" ∈ qv_WS := (qv_i1 (List.mem_of_getElem? (i := 19) (by decide +kernel)))
theorem qv_mn3 : Cond.code Lib.Math.min.name Lib.Math.min.code 2 (some .int) ∈ qv_WS := (qv_i6 (List.mem_of_getElem? (i := 20) (by decide +kernel)))
theorem qv_cmn {l : Launch} {g : qv_G} {d : qv_M} {pc idx : Nat} {lo : List (Option Value)} {st : List Value} {h : qv_H} {R : Option Value × qv_H} {x y : Int32} (hd : decode d.2.1 pc = .ok (.invokestatic idx, 3)) (hm : Cond.methodLink d.1.cls idx Lib.Math.min.name ∈ qv_WS) (hR : 1 ≤ d.2.2.2.2.1 ∧ 21 ≤ d.2.2.2.2.2) (hst : (st.map fun v => v.category).sum ≤ 8) (k : qv_J l g d (pc + 3) lo (.int (qv_mn x y) :: st) h R) : qv_J l g d pc lo (.int y :: .int x :: st) h R := by
  intro p e s m args below meth c A H locs ls X P S L
  have hts : ∀ w ∈ qv_WS, w.before args s = true := fun w hw => X.2.2.2.2.1 w (List.mem_cons_of_mem _ hw)
  have e5 : ((st.map (qv_rv (qv_ad g))).map fun v => v.category) = st.map fun v => v.category := by
    rw [List.map_map]; apply List.map_congr_left; intro v _; exact qv_cat _ v
  exact va_mmin X.1 X.2.1 (X.2.2.1.trans L.1.symm) X.2.2.2.1 (hts _ hm) (hts _ qv_mn1) (hts _ qv_mn2) (hts _ qv_mn3) hR.1 (by rw [e5]; exact Nat.le_trans (Nat.add_le_add_right hst _) hR.2) (Nat.le_refl _) (Nat.le_refl _) hd (k p e s m args below meth c A H locs ls X P S L)
theorem qv_pr {α β : Type} {a c : α} {b d : β} (h : some (a, b) = some (c, d)) : a = c ∧ b = d := Prod.mk.inj (Option.some.inj h)
theorem qv_sm {α : Type} {a b : α} (h : some a = some b) : a = b := Option.some.inj h
