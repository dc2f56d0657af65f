/-! ===== 21: the law's loop over any relation Inv that its calls keep ===== -/
def ql_X (g : qv_G) (p : Program) (s : State) (m : MethodId) (meth : Method) (c : Code) (b L : Nat) (xs : Nat → Int32) : Prop :=
  p.tables.exec = Jvm.exec ∧ c.code = code ∧ c.maxLocals = 4 ∧ s.vm.findClass RL = some m.cls ∧ (∀ w ∈ qv_WS, w.before #[Value.ref b] s = true) ∧ meth.sig.returnType = ret ∧ meth.locks = false ∧ va_K g.1 vwCl (qv_ty g) s ∧ qv_S g (fun q => s.heap.size ≤ q) s ∧ va_X b L xs s s.heap ∧ b < s.heap.size ∧ qv_ad g 2000 = b
def ql_J (l : Launch) (g : qv_G) (b L : Nat) (xs : Nat → Int32) (pc : Nat) (lo : List (Option Value)) (st : List Value) (h : qv_H) : Prop :=
  ∀ (p : Program) (e : Env) (s : State) (m : MethodId) (below : List Frame) (meth : Method) (c : Code) (H : Heap) (locs : List Loc) (ls : Array Slot),
    ql_X g p s m meth c b L xs → qv_P g (fun q => s.heap.size ≤ q) h H → va_S (fun q => s.heap.size ≤ q) s.heap H locs → qv_L ls 4 (qv_ad g) lo →
    W p l e room_1 s m #[Value.ref b] below meth c H locs 70 10851 (lw_Z below #[Value.ref b] s) (F0 m pc ls (st.map (qv_rv (qv_ad g))))
section QL
variable {l : Launch} {g : qv_G} {b L : Nat} {xs : Nat → Int32} {pc : Nat} {lo : List (Option Value)} {st : List Value} {h : qv_H}
theorem ql_iconst {n : Int} {v : Int32} (hd : decode code pc = .ok (.iconst n, 1)) (hv : Int32.ofInt n = v) (k : ql_J l g b L xs (pc + 1) lo (.int v :: st) h) : ql_J l g b L xs pc lo (st) h := by
  intro p e s m below meth c H locs ls X P S L1
  exact lv_iconst X.1 X.2.1 hd hv (k p e s m below meth c H locs ls X P S L1)
theorem ql_bipush {n : Int} {v : Int32} (hd : decode code pc = .ok (.bipush n, 2)) (hv : (Int8.ofInt n).toInt32 = v) (k : ql_J l g b L xs (pc + 2) lo (.int v :: st) h) : ql_J l g b L xs pc lo (st) h := by
  intro p e s m below meth c H locs ls X P S L1
  exact lv_bipush X.1 X.2.1 hd hv (k p e s m below meth c H locs ls X P S L1)
theorem ql_iadd {x y : Int32} (hd : decode code pc = .ok (.iadd, 1)) (k : ql_J l g b L xs (pc + 1) lo (.int (x + y) :: st) h) : ql_J l g b L xs pc lo (.int y :: .int x :: st) h := by
  intro p e s m below meth c H locs ls X P S L1
  exact lv_iadd X.1 X.2.1 hd (k p e s m below meth c H locs ls X P S L1)
theorem ql_isub {x y : Int32} (hd : decode code pc = .ok (.isub, 1)) (k : ql_J l g b L xs (pc + 1) lo (.int (x - y) :: st) h) : ql_J l g b L xs pc lo (.int y :: .int x :: st) h := by
  intro p e s m below meth c H locs ls X P S L1
  exact lv_isub X.1 X.2.1 hd (k p e s m below meth c H locs ls X P S L1)
theorem ql_iand {x y : Int32} (hd : decode code pc = .ok (.iand, 1)) (k : ql_J l g b L xs (pc + 1) lo (.int (x &&& y) :: st) h) : ql_J l g b L xs pc lo (.int y :: .int x :: st) h := by
  intro p e s m below meth c H locs ls X P S L1
  exact lv_iand X.1 X.2.1 hd (k p e s m below meth c H locs ls X P S L1)
theorem ql_iload_n {kk : Fin 4} {x : Int32} {i : Nat} (hd : decode code pc = .ok (.iload_n kk, 1)) (hi : (kk : Nat) = i) (hl : lo[i]? = some (some (.int x))) (k : ql_J l g b L xs (pc + 1) lo (.int x :: st) h) : ql_J l g b L xs pc lo st h := by
  intro p e s m below meth c H locs ls X P S L1
  exact lv_iload_n X.1 X.2.1 hd hi (L1.2.2 _ _ hl) (k p e s m below meth c H locs ls X P S L1)
theorem ql_aload_n {kk : Fin 4} {x : Nat} {i : Nat} (hd : decode code pc = .ok (.aload_n kk, 1)) (hi : (kk : Nat) = i) (hl : lo[i]? = some (some (.ref x))) (k : ql_J l g b L xs (pc + 1) lo (.ref x :: st) h) : ql_J l g b L xs pc lo st h := by
  intro p e s m below meth c H locs ls X P S L1
  exact lv_aload_n X.1 X.2.1 hd hi (L1.2.2 _ _ hl) (k p e s m below meth c H locs ls X P S L1)
theorem ql_istore_n {kk : Fin 4} {x : Int32} {i : Nat} {lo2 : List (Option Value)} (hd : decode code pc = .ok (.istore_n kk, 1)) (hi : (kk : Nat) = i) (hn : i < 4) (h2 : qv_n2 lo i = true) (hi2 : i < lo.length) (hlo : lo.set i (some (.int x)) = lo2) (k : ql_J l g b L xs (pc + 1) lo2 st h) : ql_J l g b L xs pc lo (.int x :: st) h := by
  intro p e s m below meth c H locs ls X P S L1
  exact lv_istore_n X.1 X.2.1 hd hi (qv_al_has L1) hn rfl (fun ls' hl => k p e s m below meth c H locs ls' X P S (hlo ▸ qv_st1 (v := .int x) h2 hi2 hl))
theorem ql_iinc {i : Nat} {n : Int} {x v : Int32} {lo2 : List (Option Value)} (hd : decode code pc = .ok (.iinc i n, 3)) (hl : lo[i]? = some (some (.int x))) (hv : x + Int32.ofInt n = v) (hn : i < 4) (h2 : qv_n2 lo i = true) (hlo : lo.set i (some (.int v)) = lo2) (k : ql_J l g b L xs (pc + 3) lo2 st h) : ql_J l g b L xs pc lo st h := by
  intro p e s m below meth c H locs ls X P S L1
  obtain ⟨j, hj⟩ := List.getElem?_of_mem (qv_al_mem (ad := qv_ad g) (q := (i, .int x)) |>.mpr ⟨_, hl, rfl⟩)
  exact lv_iinc X.1 X.2.1 hd (qv_al_has L1) hj hv hn rfl (fun ls' hl2 => k p e s m below meth c H locs ls' X P S (hlo ▸ qv_st1 (v := .int v) h2 (List.getElem?_eq_some_iff.mp hl).1 hl2))
theorem ql_goto {off : Int} {tgt : Nat} (hd : decode code pc = .ok (.goto off, 3)) (ht : (pc : Int) + off = (tgt : Int)) (k : ql_J l g b L xs tgt lo st h) : ql_J l g b L xs pc lo st h := by
  intro p e s m below meth c H locs ls X P S L1
  exact lv_goto X.1 X.2.1 hd ht (k p e s m below meth c H locs ls X P S L1)
theorem ql_icmp_eq {x y : Int32} {off : Int} {tgt : Nat} (hd : decode code pc = .ok (.if_icmp .eq off, 3)) (ht : (pc : Int) + off = (tgt : Int)) (kt : x = y → ql_J l g b L xs tgt lo st h) (kf : ¬ (x = y) → ql_J l g b L xs (pc + 3) lo st h) : ql_J l g b L xs pc lo (.int y :: .int x :: st) h := by
  intro p e s m below meth c H locs ls X P S L1
  exact lv_icmp_eq X.1 X.2.1 hd ht (fun q => kt q p e s m below meth c H locs ls X P S L1) (fun q => kf q p e s m below meth c H locs ls X P S L1)
theorem ql_icmp_gt {x y : Int32} {off : Int} {tgt : Nat} (hd : decode code pc = .ok (.if_icmp .gt off, 3)) (ht : (pc : Int) + off = (tgt : Int)) (kt : y < x → ql_J l g b L xs tgt lo st h) (kf : ¬ (y < x) → ql_J l g b L xs (pc + 3) lo st h) : ql_J l g b L xs pc lo (.int y :: .int x :: st) h := by
  intro p e s m below meth c H locs ls X P S L1
  exact lv_icmp_gt X.1 X.2.1 hd ht (fun q => kt q p e s m below meth c H locs ls X P S L1) (fun q => kf q p e s m below meth c H locs ls X P S L1)
theorem ql_tsIn {dflt lw hi : Int} {offs : Array Int} {len : Nat} {x : Int32} {off : Int} {tgt : Nat} (k0 : Int32) (hx : x = k0) (hd : decode code pc = .ok (.tableswitch dflt lw hi offs, len)) (h1 : ¬ k0.toInt < lw) (h2 : ¬ hi < k0.toInt) (ho : offs[(k0.toInt - lw).toNat]? = some off) (ht : (pc : Int) + off = (tgt : Int)) (k : ql_J l g b L xs tgt lo st h) : ql_J l g b L xs pc lo (.int x :: st) h := by
  subst hx
  intro p e s m below meth c H locs ls X P S L1
  exact lv_tableIn X.1 X.2.1 hd h1 h2 ho ht (k p e s m below meth c H locs ls X P S L1)
theorem ql_tsDef {dflt lw hi : Int} {offs : Array Int} {len : Nat} {x : Int32} {tgt : Nat} (hd : decode code pc = .ok (.tableswitch dflt lw hi offs, len)) (hx : ∀ j : Nat, lw + (j : Int) ≤ hi → x.toInt = lw + (j : Int) → offs[j]? = some dflt) (ht : (pc : Int) + dflt = (tgt : Int)) (k : ql_J l g b L xs tgt lo st h) : ql_J l g b L xs pc lo (.int x :: st) h := by
  by_cases h1 : x.toInt < lw ∨ hi < x.toInt
  · intro p e s m below meth c H locs ls X P S L1
    exact lv_tableOut X.1 X.2.1 hd h1 ht (k p e s m below meth c H locs ls X P S L1)
  · exact ql_tsIn x rfl hd (by omega) (by omega) (hx (x.toInt - lw).toNat (by omega) (by omega)) ht k
theorem ql_sld {i : Int32} (hd : decode code pc = .ok (.iaload, 1)) (hin : vp_in i L) (k : ql_J l g b L xs (pc + 1) lo (.int (xs i.toNatClampNeg) :: st) h) : ql_J l g b L xs pc lo (.int i :: .ref 2000 :: st) h := by
  intro p e s m below meth c H locs ls X P S L1
  obtain ⟨x1, x2, x3, x4, x5, x6, x7, x8, x9, x10, x11, x12⟩ := id X
  have e1 : (Value.int i :: .ref 2000 :: st).map (qv_rv (qv_ad g)) = .int i :: .ref b :: st.map (qv_rv (qv_ad g)) := by rw [← x12]; rfl
  rw [e1]
  exact va_sld x1 x2 x10 x11 (Nat.not_le.mpr x11) S hin hd (k p e s m below meth c H locs ls X P S L1)
theorem ql_slen (hd : decode code pc = .ok (.arraylength, 1)) (k : ql_J l g b L xs (pc + 1) lo (.int (Int32.ofNat L) :: st) h) : ql_J l g b L xs pc lo (.ref 2000 :: st) h := by
  intro p e s m below meth c H locs ls X P S L1
  obtain ⟨x1, x2, x3, x4, x5, x6, x7, x8, x9, x10, x11, x12⟩ := id X
  have e1 : (Value.ref 2000 :: st).map (qv_rv (qv_ad g)) = .ref b :: st.map (qv_rv (qv_ad g)) := by rw [← x12]; rfl
  rw [e1]
  exact va_slen x1 x2 x10 x11 (Nat.not_le.mpr x11) S hd (k p e s m below meth c H locs ls X P S L1)
theorem ql_ret (hd : decode code pc = .ok (.ireturn, 1)) : ql_J l g b L xs pc lo [.int 1] h := by
  intro p e s m below meth c H locs ls X P S L1
  exact va_forget (fun q hq => S.2.2 q hq) (lw_ret X.1 X.2.1 X.2.2.2.2.2.1 X.2.2.2.2.2.2.1 hd)
theorem ql_cV {d2 : qv_M} {idx n o ci : Nat} {u : Unit} {av : List Value} {r : Option Value} {h2 : qv_H} {st0 : List Value} (hd : decode code pc = .ok (.invokevirtual idx, 3)) (hm : Cond.methodLink RL idx d2.1 ∈ qv_WS) (D : qv_DV d2 n) (ho : qv_ob h ci o = some u) (hcl : (vwCl[ci]?).map (fun q => q.1) = some d2.1.cls) (hn : av.length = n) (hR : d2.2.2.2.2.1 + 1 ≤ 13 ∧ 8 + (d2.2.2.1 + 11) + d2.2.2.2.2.2 ≤ 498) (hc : (av.all fun v => v.category == 1) = true) (hl : av.length + 1 ≤ d2.2.2.1) (hst : (st.map fun v => v.category).sum ≤ 8)
    (hJ : qv_J l g d2 0 (qv_lo0 d2.2.2.1 (.ref o :: av)) [] h (r, h2)) (hs0 : av.reverse ++ .ref o :: st = st0) (k : ql_J l g b L xs (pc + 3) lo (r.toList ++ st) h2) : ql_J l g b L xs pc lo st0 h := by
  subst hs0
  intro p e s m below meth c H locs ls X P S L1
  obtain ⟨x1, x2, x3, x4, x5, x6, x7, x8, x9, x10, x11, x12⟩ := id X
  obtain ⟨D1, D2, D3, D4, D5, D6⟩ := D
  have gd : ∀ w ∈ qv_WS, w ∈ qv_WS ∧ ((w.onTables && w.keeps) = true ∨ ∃ ty, w = .arrayClass ty) := fun w h => ⟨h, good_of_word (qv_WS_good w h)⟩
  have cw := cwV (R := room_1) (s := s) (args := #[Value.ref b]) (own := RL) (C := d2.1.cls) (index := idx) (y := d2.1) (bytes := d2.2.1) (maxL := d2.2.2.1) (ret := d2.2.2.2.1) (Ts := qv_WS) (ws := qv_wl d2) (rm := qv_rm d2) (mc := 0) (ms := 0) n x5 (by
    intro w hw
    unfold wsV at hw
    rcases List.mem_append.mp hw with hw | hw
    · simp only [List.mem_cons, List.not_mem_nil, or_false] at hw
      rcases hw with rfl | rfl | rfl | rfl
      · exact gd _ hm
      · exact gd _ D1
      · exact gd _ D2
      · exact gd _ D3
    · rcases List.mem_cons.mp hw with rfl | hw
      · exact gd _ D4
      · exact gd _ hw) rfl rfl rfl ⟨rfl, D6⟩ hR
  obtain ⟨fs, o1, o2⟩ := qv_ob_of ho
  obtain ⟨hn0, hw0⟩ := qv_obj P o1 o2
  have hrecv : ∃ cellB : Cell, H[qv_ad g o]? = some cellB ∧ cellB.vm.isStatics = false ∧ s.vm.findClass d2.1.cls = some cellB.cls := by
    cases hq : vwCl[ci]? with
    | none => rw [hq] at hcl; cases hcl
    | some q =>
      rw [hq] at hcl
      have := va_recv x8 P.1 hq hw0
      have e9 : q.1 = d2.1.cls := Option.some.inj hcl
      rw [e9] at this
      exact this
  have hF : ∀ q, va_A (qv_ws g h) H.size q → s.heap.size ≤ q := by
    intro q hq
    rcases hq with ⟨j, e, hj⟩ | hq
    · exact P.2.1.2 j _ hj
    · exact Nat.le_trans S.1 hq
  have hpre : PreS s H (va_Pc ((Value.ref o :: av).map (qv_rv (qv_ad g))) (qv_B g h H.size)) ((Value.ref o :: av).map (qv_rv (qv_ad g))) := by
    refine ⟨fun a U gg mk q => ?_, fun U hU hW => ?_⟩
    · obtain ⟨q0, q1, q2, q3, q4, q5, q6⟩ := q
      exact ⟨q0, q1, q2, va_K.moved (u := U) (U := U.calling gg mk a) (Vm.Alike.refl U.vm) q3, q4, q5, q6.call⟩
    · exact ⟨rfl, by rw [hU], by rw [hU]; exact P.1, va_K.moved hW.alike x8, P.2.1.weaken (fun _ _ _ _ => trivial), P.2.2, x9.go S hU hW hF⟩
  have hr := va_runV (R := room_1) (H := H) (locs := locs) (cells := 70) (slots := 10851) (below := below) (e := e) (meth := meth) (b := qv_ad g o) (As := av.map (qv_rv (qv_ad g))) (rest := st.map (qv_rv (qv_ad g))) (g := F0 m pc ls ((av.reverse ++ .ref o :: st).map (qv_rv (qv_ad g)))) ⟨x1, x2, x3, x4, x5⟩ (qv_met (sz := H.size) D5 (av := .ref o :: av) (by
      intro v hv
      rcases List.mem_cons.mp hv with rfl | hv
      · rfl
      · exact qv_allc hc v hv) hl hJ) cw ⟨hpre.1, hrecv, hpre.2⟩ rfl (by rw [List.length_map]; exact hn) L1.1 (by simp [qv_rv]) (by
      have e5 : ((st.map (qv_rv (qv_ad g))).map fun v => v.category) = st.map fun v => v.category := by
        rw [List.map_map]; apply List.map_congr_left; intro v _; exact qv_cat _ v
      rw [e5]
      exact lv_room hst) hd ⟨Nat.le_refl _, Nat.le_refl _⟩
  intro T hT Y
  obtain ⟨v, st₀, t, T', LL, h0, X', hLL, e1, e2, ⟨⟨hv, hP1⟩, hz, hk⟩, stp⟩ := hr T hT Y
  cases hv
  rw [h0] at hz hk
  have hS1 : va_S (fun q => s.heap.size ≤ q) s.heap T'.heap (locs ++ LL) := ⟨Nat.le_trans S.1 (by rw [e1]; exact hz), fun q h1 h2 => by rw [e1, hk q (Nat.lt_of_lt_of_le h1 S.1) (fun z => h2 (hF q z))]; exact S.2.1 q h1 h2, fun q hq => by
      rcases List.mem_append.mp hq with h | h
      · exact S.2.2 q h
      · exact hF _ (hLL q h)⟩
  have hP2 : qv_P g (fun q => s.heap.size ≤ q) h2 T'.heap := ⟨by rw [e1]; exact hP1.1, hP1.2.1.weaken (fun _ q _ hq => hF q.1 hq), hP1.2.2⟩
  have e3 : (r.map (qv_rv (qv_ad g))).toList ++ st.map (qv_rv (qv_ad g)) = (r.toList ++ st).map (qv_rv (qv_ad g)) := by
    cases r <;> simp
  obtain ⟨t2, a1, b1⟩ := k p e s m below meth c T'.heap (locs ++ LL) ls X hP2 hS1 L1 T' rfl X'
  rw [← e3] at a1
  exact ⟨t2, stp t2 a1, b1⟩
end QL
