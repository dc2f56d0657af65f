/-! ===== 25: the law from its entry, over any relation that its calls keep ===== -/
theorem qlC_7 : Cond.classLink RL 7 RX8 ∈ qv_WS := (qv_i1 (List.mem_of_getElem? (i := 23) (by decide +kernel)))
theorem qlC_10 : Cond.classLink RL 10 RX9 ∈ qv_WS := (qv_i12 (List.mem_of_getElem? (i := 34) (by decide +kernel)))
theorem qlM_9 : Cond.methodLink RL 9 yX8_init ∈ qv_WS := (qv_i1 (List.mem_of_getElem? (i := 25) (by decide +kernel)))
theorem qlM_12 : Cond.methodLink RL 12 yX9_init ∈ qv_WS := (qv_i12 (List.mem_of_getElem? (i := 36) (by decide +kernel)))
abbrev ql_tm (i : Nat) : Term := Term.string "TrueOneWay$Text" (qv_ix.getD i 0)
abbrev ql_fl : List Cond := flatC (Jvm.Cond.and given_1 narrow_1)
set_option maxRecDepth 100000 in
theorem ql_f1 : ∀ i, i < 8 → Cond.exactly (ql_tm i) "java/lang/String" ∈ ql_fl := by decide +kernel
set_option maxRecDepth 100000 in
theorem ql_f2 : ∀ i, i < 8 → Cond.eq (.field (ql_tm i) "java/lang/String" "coder" "B") (.int 0) ∈ ql_fl := by decide +kernel
set_option maxRecDepth 100000 in
theorem ql_f3 : ∀ i, i < 8 → Cond.arrayOf (.field (ql_tm i) "java/lang/String" "value" "[B") .byte ∈ ql_fl := by decide +kernel
set_option maxRecDepth 100000 in
theorem ql_f4 : ∀ i, i < 8 → Cond.eq (.length (.field (ql_tm i) "java/lang/String" "value" "[B")) (.int (Int32.ofNat (qv_sl.getD i 0))) ∈ ql_fl := by decide +kernel
set_option maxRecDepth 100000 in
theorem ql_f5 : ∀ i, i < 8 → ∀ j, j < qv_sl.getD i 0 → Cond.eq (.elem (.field (ql_tm i) "java/lang/String" "value" "[B") (.int (Int32.ofNat j))) (.int ((qv_sb.getD i []).getD j 0)) ∈ ql_fl := by decide +kernel
set_option maxRecDepth 100000 in
theorem ql_f6 : ∀ i, i < 8 → ∀ j, j < 8 → i ≠ j → Cond.not (Cond.eq (ql_tm i) (ql_tm j)) ∈ ql_fl ∨ Cond.not (Cond.eq (ql_tm j) (ql_tm i)) ∈ ql_fl := by decide +kernel
set_option maxRecDepth 100000 in
theorem ql_f7 : Cond.eq (Term.static "java/lang/String" "COMPACT_STRINGS" "Z") (.int 1) ∈ ql_fl := by decide +kernel
set_option maxRecDepth 100000 in
theorem ql_f8 : Cond.isRef (Term.static "jdk/internal/util/Preconditions" "SIOOBE_FORMATTER" "Ljava/util/function/BiFunction;") ∈ ql_fl := by decide +kernel
theorem ql_s : ∀ i, i < 8 → Cond.stringRef "TrueOneWay$Text" (qv_ix.getD i 0) (qv_tx.getD i "") ∈ lw_tbl := by
  intro i hi
  rcases (show i = 0 ∨ i = 1 ∨ i = 2 ∨ i = 3 ∨ i = 4 ∨ i = 5 ∨ i = 6 ∨ i = 7 by omega) with rfl | rfl | rfl | rfl | rfl | rfl | rfl | rfl
  · exact (List.mem_of_getElem? (i := 395) (by decide +kernel))
  · exact (List.mem_of_getElem? (i := 409) (by decide +kernel))
  · exact (List.mem_of_getElem? (i := 410) (by decide +kernel))
  · exact (List.mem_of_getElem? (i := 411) (by decide +kernel))
  · exact (List.mem_of_getElem? (i := 412) (by decide +kernel))
  · exact (List.mem_of_getElem? (i := 413) (by decide +kernel))
  · exact (List.mem_of_getElem? (i := 414) (by decide +kernel))
  · exact (List.mem_of_getElem? (i := 459) (by decide +kernel))
theorem ql_z1 : Cond.laysStatic "java/lang/String" "COMPACT_STRINGS" "Z" ∈ lw_tbl := (List.mem_of_getElem? (i := 405) (by decide +kernel))
theorem ql_z2 : Cond.laysStatic "jdk/internal/util/Preconditions" "SIOOBE_FORMATTER" "Ljava/util/function/BiFunction;" ∈ lw_tbl := (List.mem_of_getElem? (i := 430) (by decide +kernel))
theorem ql_z3 : Cond.initialized "java/lang/String" ∈ lw_tbl := (List.mem_of_getElem? (i := 79) (by decide +kernel))
theorem ql_z4 : Cond.initialized "jdk/internal/util/Preconditions" ∈ lw_tbl := (List.mem_of_getElem? (i := 81) (by decide +kernel))
theorem ql_nest : ∀ w ∈ qk_nest, w ∈ lw_tbl := qv_fm (ps := [97, 112, 183, 202, 238, 248, 261]) (by decide +kernel)
theorem ql_nestT : ∀ w ∈ qk_nest, ∃ a i x q, w = Cond.methodLinkNest a i x q := by
  intro w hw
  simp only [qk_nest, List.mem_cons, List.not_mem_nil, or_false] at hw
  rcases hw with rfl | rfl | rfl | rfl | rfl | rfl | rfl <;> exact ⟨_, _, _, _, rfl⟩
theorem ql_def8 : ∀ j, j < 12 → defaultValue (tyX8 j) = vp_V [.null, .null, .null, .null, .null, .null, .null, .null, .null, .null, .null, .int 0] j := by decide +kernel
theorem ql_def9 : ∀ j, j < 40 → defaultValue (tyX9 j) = vp_V [.null, .null, .null, .null, .null, .null, .null, .null, .int 0, .int 0, .int 0, .int 0, .int 0, .int 0, .int 0, .null, .null, .int 0, .null, .null, .null, .null, .null, .null, .null, .int 0, .int 0, .int 0, .null, .int 0, .int 0, .int 0, .null, .int 0, .null, .null, .null, .null, .null, .int 0] j := by decide +kernel
/-- the addresses: the cells that the law makes, the texts, their bytes, the formatter, the script -/
def ql_ad (sz : Nat) (adK adV : Nat → Nat) (t0 b : Nat) : Nat → Nat := fun k => if k < 1000 then sz + k else if k < 1100 then adK (k - 1000) else if k < 1200 then adV (k - 1100) else if k = 1200 then t0 else b
theorem ql_strings {s : State} {b : Nat} (hts : ∀ w ∈ lw_tbl, w.before #[Value.ref b] s = true) (hgv : (Jvm.Cond.and given_1 narrow_1).before #[Value.ref b] s = true) : ∃ ad : Nat → Nat, (∀ k, k < 1000 → ad k = s.heap.size + k) ∧ ad 2000 = b ∧ ∀ (D : va_G) (cI cZ : ClassId), qv_S (D, cI, cZ, ad, 0) (fun q => s.heap.size ≤ q) s := by
  have hfl := flat_of_before _ hgv
  have hA : ∀ a : Nat, a < s.heap.size → ¬ (fun q : Nat => s.heap.size ≤ q) a := fun a h => Nat.not_le.mpr h
  obtain ⟨adK, adV, hS, hE⟩ := vk_Sof (args := #[Value.ref b]) (s := s) (N := 8) (tm := ql_tm) (len := qv_sl) (byt := qv_sb) (A := fun q => s.heap.size ≤ q) (fun i hi => by have := (qv_sall i hi).1; have := (qv_sall i hi).2.1; omega) (fun i hi => hfl _ (ql_f1 i hi)) (fun i hi => hfl _ (ql_f2 i hi)) (fun i hi => hfl _ (ql_f3 i hi)) (fun i hi => hfl _ (ql_f4 i hi)) (fun i hi j hj => hfl _ (ql_f5 i hi j hj)) (fun i j hi hj hn => (ql_f6 i hi j hj hn).imp (hfl _) (hfl _)) hA
  have hZ1 : va_Z "java/lang/String" "COMPACT_STRINGS" "Z" (.int 1) (fun q => s.heap.size ≤ q) s s.heap := va_Zof (hts _ ql_z1) (hts _ ql_z3) (va_eqi (hfl _ ql_f7)) hA
  have hZ2 : va_Zq "jdk/internal/util/Preconditions" "SIOOBE_FORMATTER" "Ljava/util/function/BiFunction;" (fun q => s.heap.size ≤ q) s s.heap := va_Zqof (hts _ ql_z2) (hts _ ql_z4) (hfl _ ql_f8) hA
  have key : ∀ t0, (va_Z "jdk/internal/util/Preconditions" "SIOOBE_FORMATTER" "Ljava/util/function/BiFunction;" .null (fun q => s.heap.size ≤ q) s s.heap ∨ va_Z "jdk/internal/util/Preconditions" "SIOOBE_FORMATTER" "Ljava/util/function/BiFunction;" (.ref t0) (fun q => s.heap.size ≤ q) s s.heap) → ∃ ad : Nat → Nat, (∀ k, k < 1000 → ad k = s.heap.size + k) ∧ ad 2000 = b ∧ ∀ (D : va_G) (cI cZ : ClassId), qv_S (D, cI, cZ, ad, 0) (fun q => s.heap.size ≤ q) s := by
    intro t0 hz
    have hK : ∀ i, i < 100 → ql_ad s.heap.size adK adV t0 b (1000 + i) = adK i := by
      intro i hi
      unfold ql_ad
      rw [if_neg (by omega), if_pos (by omega), show 1000 + i - 1000 = i by omega]
    have hV : ∀ i, i < 100 → ql_ad s.heap.size adK adV t0 b (1100 + i) = adV i := by
      intro i hi
      unfold ql_ad
      rw [if_neg (by omega), if_neg (by omega), if_pos (by omega), show 1100 + i - 1100 = i by omega]
    refine ⟨ql_ad s.heap.size adK adV t0 b, fun k hk => by unfold ql_ad; rw [if_pos hk], rfl, fun D cI cZ => ⟨⟨fun i hi => ?_, fun i j hi hj hij => ?_⟩, fun i hi => ?_, hZ1, hz⟩⟩
    · show va_O _ (ql_ad s.heap.size adK adV t0 b (1000 + i)) _ _ _ ∧ va_OF _ _ _ _ (ql_ad s.heap.size adK adV t0 b (1000 + i)) _ _ _ ∧ va_OF _ _ _ (.ref (ql_ad s.heap.size adK adV t0 b (1100 + i))) (ql_ad s.heap.size adK adV t0 b (1000 + i)) _ _ _ ∧ va_T _ (ql_ad s.heap.size adK adV t0 b (1100 + i)) _ _ _ _ _
      rw [hK i (by omega), hV i (by omega)]
      exact hS.1 i hi
    · have hij2 : ql_ad s.heap.size adK adV t0 b (1000 + i) = ql_ad s.heap.size adK adV t0 b (1000 + j) := hij
      rw [hK i (by omega), hK j (by omega)] at hij2
      exact hS.2 i j hi hj hij2
    · show vk_R _ _ _ (ql_ad s.heap.size adK adV t0 b (1000 + i)) s
      rw [hK i (by omega)]
      exact vk_R.of (hts _ (ql_s i hi)) (hE i hi)
  rcases hZ2 with hz | ⟨t, hz⟩
  · exact key 0 (Or.inl hz)
  · exact key t (Or.inr hz)
theorem ql_arr {s : State} {args : Array Value} {ty : FieldType} (hty : ty = .int ∨ ty = .boolean) (h : (Cond.arrayClass ty).before args s = true) : ∃ cA, ArrOfT s cA ty ∧ va_RA s cA ty := by
  obtain ⟨cA, kA, comp, hfind, hk, hkind⟩ := Cond.arrayClass_spec h
  refine ⟨cA, fun n z => ⟨fun k h => (by cases h), kA, hk, comp, hkind⟩, ?_⟩
  rcases hty with rfl | rfl <;> exact hfind
theorem ql_K {s : State} {b : Nat} (hts : ∀ w ∈ qv_WS, w.before #[Value.ref b] s = true) : ∃ (D : va_G) (cI cZ : ClassId), va_K D vwCl [(cI, .int), (cZ, .boolean)] s := by
  obtain ⟨cI, a1, a2⟩ := ql_arr (Or.inl rfl) (hts _ qk_aI)
  obtain ⟨cZ, b1, b2⟩ := ql_arr (Or.inr rfl) (hts _ qk_aZ)
  obtain ⟨c0, i0, k0⟩ := u_known (C := RX1) (T := TX1) (N := 1) (n := 1) hts qin_X1 (hts _ qkI_X1)
  obtain ⟨c1, i1, k1⟩ := u_known (C := RX2) (T := TX2) (N := 3) (n := 3) hts qin_X2 (hts _ qkI_X2)
  obtain ⟨c2, i2, k2⟩ := u_known (C := RX3) (T := TX3) (N := 14) (n := 14) hts qin_X3 (hts _ qkI_X3)
  obtain ⟨c3, i3, k3⟩ := u_known (C := RX4) (T := TX4) (N := 3) (n := 3) hts qin_X4 (hts _ qkI_X4)
  obtain ⟨c4, i4, k4⟩ := u_known (C := RX5) (T := TX5) (N := 2) (n := 2) hts qin_X5 (hts _ qkI_X5)
  obtain ⟨c5, i5, k5⟩ := u_known (C := RX6) (T := TX6) (N := 2) (n := 2) hts qin_X6 (hts _ qkI_X6)
  obtain ⟨c6, i6, k6⟩ := u_known (C := RX7) (T := TX7) (N := 7) (n := 7) hts qin_X7 (hts _ qkI_X7)
  obtain ⟨c7, i7, k7⟩ := u_known (C := RX8) (T := TX8) (N := 12) (n := 12) hts qin_X8 (hts _ qkI_X8)
  obtain ⟨c8, i8, k8⟩ := u_known (C := RX9) (T := TX9) (N := 40) (n := 40) hts qin_X9 (hts _ qkI_X9)
  refine ⟨(fun k => if k = 0 then c0 else if k = 1 then c1 else if k = 2 then c2 else if k = 3 then c3 else if k = 4 then c4 else if k = 5 then c5 else if k = 6 then c6 else if k = 7 then c7 else c8, fun k => if k = 0 then i0 else if k = 1 then i1 else if k = 2 then i2 else if k = 3 then i3 else if k = 4 then i4 else if k = 5 then i5 else if k = 6 then i6 else if k = 7 then i7 else i8), cI, cZ, fun k q hq => ?_, fun k q hq => ?_⟩
  · match k, hq with
    | 0, hq => cases hq; exact k0
    | 1, hq => cases hq; exact k1
    | 2, hq => cases hq; exact k2
    | 3, hq => cases hq; exact k3
    | 4, hq => cases hq; exact k4
    | 5, hq => cases hq; exact k5
    | 6, hq => cases hq; exact k6
    | 7, hq => cases hq; exact k7
    | 8, hq => cases hq; exact k8
    | k + 9, hq => simp [vwCl] at hq
  · match k, hq with
    | 0, hq => cases hq; exact ⟨a1, a2⟩
    | 1, hq => cases hq; exact ⟨b1, b2⟩
    | k + 2, hq => simp at hq
set_option maxRecDepth 100000 in
set_option maxHeartbeats 4000000 in
theorem ql_start {p : Program} {e : Env} {s : State} {m : MethodId} {below : List Frame} {meth : Method} {c : Code} (l : Launch) {b L : Nat} {xs : Nat → Int32} (hL : L ≤ 2048) (C0 : lw_At p s m meth c b L xs) {Inv : qv_H → Prop} (ok : ql_Ok Inv) {h1 h2 : qv_H} (e1 : fX7_reckon 33 3 kh33 = some h1) (g1 : qv_gR h1 7 0 6 = some 33) (g2 : qv_gR h1 7 0 4 = some 27) (ob1 : qv_ob h1 6 33 = some ()) (e2 : fX7_sift 33 27 h1 = some h2) (hI : Inv (kX9 (qv_set h2 45 (.inr (8, [.null, .null, .null, .null, .null, .null, .null, .null, .int 0, .int 0, .int 0, .int 0, .int 0, .int 0, .int 0, .null, .null, .int 0, .null, .null, .null, .null, .null, .null, .null, .int 0, .int 0, .int 0, .null, .int 0, .int 0, .int 0, .null, .int 0, .null, .null, .null, .null, .null, .int 0]))))) : W p l e room_1 s m #[Value.ref b] below meth c s.heap [] 0 0 (lw_Z below #[Value.ref b] s) (entryFrame m ([Value.ref b] : List Value).toArray 4) := by
  obtain ⟨hx, hb, hr, hml, hown, htb, hX, hbl, hlocks, hgv⟩ := id C0
  have hts : ∀ w ∈ qv_WS, w.before #[Value.ref b] s = true := fun w hw => htb w (qv_WS_tbl w hw)
  obtain ⟨D, cI, cZ, hK⟩ := ql_K hts
  obtain ⟨ad, had, hadb, hSt⟩ := ql_strings htb hgv
  have hSt := hSt D cI cZ
  have hown : s.vm.findClass RL = some m.cls := hown
  have hA : ∀ q : Nat, s.heap.size ≤ q → (fun q : Nat => s.heap.size ≤ q) q := fun _ h => h
  let G : qk_G := (D, cI, cZ, ad)
  have hk0 : ∀ k, k < 1000 → qk_ad G k = qk_ad G 0 + k := fun k hk => by
    show ad k = ad 0 + k
    rw [had k hk, had 0 (by decide)]
    omega
  have hsz0 : qk_ad G 0 = s.heap.size := had 0 (by decide)
  have P0 : qv_P (qk_g G 0) (fun q => s.heap.size ≤ q) (fun _ => .inr (99, [])) s.heap := by
    have ews : qv_ws (qk_g G 0) (fun _ => .inr (99, [])) = [] := rfl
    exact ⟨fun k q h => by rw [ews] at h; simp at h, ⟨fun i j p q h => by rw [ews] at h; simp at h, fun k q h => by rw [ews] at h; simp at h⟩, fun _ _ => rfl⟩
  have S0 : va_S (fun q : Nat => s.heap.size ≤ q) s.heap s.heap [] := va_S.rf
  have gd : ∀ w ∈ qv_WS, w ∈ qv_WS ∧ ((w.onTables && w.keeps) = true ∨ ∃ ty, w = .arrayClass ty) := fun w h => ⟨h, good_of_word (qv_WS_good w h)⟩
  have gdl : ∀ d2 : qv_M, Cond.code d2.1 d2.2.1 d2.2.2.1 d2.2.2.2.1 ∈ qv_WS → GoodIn qv_WS (qv_wl d2) := fun d2 h w hw => by
    rcases List.mem_cons.mp hw with rfl | hw
    · exact gd _ h
    · exact gd _ hw
  rw [lg_entry_eq]
  have L0 := qv_L0 (ad := ad) (av := [.ref 2000]) (n := 4) (fun v hv => by rw [List.mem_singleton.mp hv]; rfl) (by decide)
  have eb : [Value.ref 2000].map (qv_rv ad) = [Value.ref b] := by rw [← hadb]; rfl
  rw [eb] at L0
  generalize (lg_sl ([Value.ref b] : List Value) ++ List.replicate (4 - (lg_sl ([Value.ref b] : List Value)).length) Slot.unset).toArray = ls at L0 ⊢
  have L0 : qv_L ls 4 ad [some (.ref 2000), none, none, none] := L0
  -- new TrueOneWay
  have hKn8 := hK.1 7 _ rfl
  refine W.newcK (g := F0 m 0 ls []) hx hb hown (hts _ qlC_7) (hts _ qkI_X8) (hts _ qkJ_X8) rfl dL_law_0 (by decide) (by decide) hKn8.2.1 rfl (fun H1 kC hkC z0 z1 o1 => ?_)
  have P1 : qv_P (qk_g G 1) (fun q => s.heap.size ≤ q) kh0 H1 := by
    refine qk_P_push (.inr (7, [.null, .null, .null, .null, .null, .null, .null, .null, .null, .null, .null, .int 0])) P0 hsz0.symm (Nat.le_refl _) o1 ?_
    rw [show qk_ad G 0 = s.heap.size from hsz0]
    refine ⟨_, rfl, ?_⟩
    exact (u_born tyX8 hts qin_X8 hKn8 hkC z0 tyX8_ok).to ql_def8
  have S1 : va_S (fun q : Nat => s.heap.size ≤ q) s.heap H1 [] := ⟨by omega, fun x q1 q2 => o1 x q1, fun _ h => by cases h⟩
  refine lv_dup hx hb (pc := 3) (ls := ls) (rest := []) dL_law_3 rfl ?_
  -- its constructor
  have D8 := qkD_X8
  obtain ⟨D81, D82, D83, D84, D85, D86, D87⟩ := D8
  have cw8 := cwI (R := room_1) (s := s) (args := #[Value.ref b]) (own := RL) (index := 9) (y := yX8_init) (bytes := cX8_init) (maxL := 1) (Ts := qv_WS) (ws := qv_wl mX8_init) (rm := qk_rm mX8_init 44 8108) (mc := 44) (ms := 8108) 0 hts (gdl mX8_init D83) rfl rfl rfl (hts _ D82) (hts _ qlM_9) (hts _ D81) rfl D87 ⟨by decide, by decide⟩
  have hz1 : H1.size = qk_ad G 0 + 1 := by rw [hsz0]; exact z1
  have hr8 := va_runI (R := room_1) (H := H1) (locs := []) (cells := 0 + 1) (slots := 0 + 12) (below := below) (e := e) (meth := meth) (b := qk_ad G 0) (As := []) (rest := [.ref s.heap.size]) (g := F0 m (3 + 1) ls [.ref s.heap.size, .ref s.heap.size]) (Ts := qv_WS) ⟨hx, hb, hml, hown, hts⟩ (qk_met (l := l) (N := qk_nest) (sz := H1.size) (o := 0) D84 D85 (by decide) (kJ_X8 (G := G) e1 g1 g2 ob1 e2)) cw8 (qk_pre (G := G) (p := p) (m := m) (args := #[Value.ref b]) (meth := meth) (c := c) (A := fun q => s.heap.size ≤ q) hK hSt hA hk0 (fun w hw => by
      obtain ⟨x1, x2, x3, x4, rfl⟩ := ql_nestT w hw
      exact va_Nw.of rfl (htb _ (ql_nest _ hw))) ql_nestT hz1 P1 S1) rfl rfl L0.1 (by rw [hsz0]; rfl) (lv_room (Nat.le_of_ble_eq_true rfl)) dL_law_4 ⟨by decide, by decide⟩
  have hF1 : ∀ q, va_A (qv_ws (qk_g G 1) kh0) H1.size q → s.heap.size ≤ q := by
    intro q hq
    rcases hq with ⟨j, e, hj⟩ | hq
    · exact P1.2.1.2 j _ hj
    · omega
  intro T hT Y
  obtain ⟨v, st₀, t, T', LL, h0, X', hLL, e1', e2', ⟨⟨hv, hP1⟩, hzz, hk⟩, stp⟩ := hr8 T hT Y
  cases hv
  rw [h0] at hzz hk
  have S2 : va_S (fun q : Nat => s.heap.size ≤ q) s.heap T'.heap LL := ⟨by rw [e1']; omega, fun q q1 q2 => by rw [e1', hk q (by omega) (fun z => q2 (hF1 q z))]; exact o1 q q1, fun q hq => hF1 _ (hLL q hq)⟩
  have P2 : qv_P (qk_g G 45) (fun q => s.heap.size ≤ q) h2 T'.heap := ⟨by rw [e1']; exact hP1.1, hP1.2.1.weaken (fun _ q _ hq => hF1 q.1 hq), hP1.2.2⟩
  have hz2 : T'.heap.size = qk_ad G 0 + 45 := qk_size (cells := 0 + 1 + 44) (slots := 0 + 12 + 8108) X' rfl P2 (by decide) (by decide) hk0 (by rw [hsz0])
  suffices hgo : W p l e room_1 s m #[Value.ref b] below meth c T'.heap LL (0 + 1 + 44) (0 + 12 + 8108) (lw_Z below #[Value.ref b] s) (F0 m 7 ls [.ref s.heap.size]) by
    obtain ⟨t2, a1, b1⟩ := hgo T' rfl X'
    exact ⟨t2, stp t2 a1, b1⟩
  have Z2 : T'.heap.size = qk_ad G 0 + 45 := hz2
  generalize T'.heap = H2 at S2 P2 hz2 ⊢
  have er0 : (Value.ref s.heap.size) = qv_rv ad (.ref 0) := by show _ = Value.ref (ad 0); rw [← hsz0]
  rw [er0]
  refine lv_astore_n hx hb dL_law_7 (i := 1) rfl (qv_al_has L0) (by decide) rfl (fun ls1 hl1 => ?_)
  have L1 : qv_L ls1 4 ad [some (.ref 2000), some (.ref 0), none, none] := qv_st1 (v := .ref 0) (lo := [some (.ref 2000), none, none, none]) rfl (by decide) hl1
  -- new TrueOneWayModel
  have hKn9 := hK.1 8 _ rfl
  refine W.newcK (g := F0 m (7 + 1) ls1 []) hx hb hown (hts _ qlC_10) (hts _ qkI_X9) (hts _ qkJ_X9) rfl dL_law_8 (by decide) (by decide) hKn9.2.1 hz2 (fun H3 kC9 hkC9 y0 y1 o3 => ?_)
  have ea45 : qk_ad G 45 = qk_ad G 0 + 45 := hk0 45 (by decide)
  have P3 : qv_P (qk_g G 46) (fun q => s.heap.size ≤ q) (qv_set h2 45 (.inr (8, [.null, .null, .null, .null, .null, .null, .null, .null, .int 0, .int 0, .int 0, .int 0, .int 0, .int 0, .int 0, .null, .null, .int 0, .null, .null, .null, .null, .null, .null, .null, .int 0, .int 0, .int 0, .null, .int 0, .int 0, .int 0, .null, .int 0, .null, .null, .null, .null, .null, .int 0]))) H3 := by
    refine qk_P_push (.inr (8, [.null, .null, .null, .null, .null, .null, .null, .null, .int 0, .int 0, .int 0, .int 0, .int 0, .int 0, .int 0, .null, .null, .int 0, .null, .null, .null, .null, .null, .null, .null, .int 0, .int 0, .int 0, .null, .int 0, .int 0, .int 0, .null, .int 0, .null, .null, .null, .null, .null, .int 0])) P2 (hz2.trans ea45.symm) (show s.heap.size ≤ H2.size by rw [hz2, hsz0]; omega) (fun q hq => o3 q (by rw [← hz2]; exact hq)) ?_
    rw [ea45]
    refine ⟨_, rfl, ?_⟩
    exact (u_born tyX9 hts qin_X9 hKn9 hkC9 y0 tyX9_ok).to ql_def9
  have S3 : va_S (fun q : Nat => s.heap.size ≤ q) s.heap H3 LL := ⟨by rw [y1, hsz0]; omega, fun x q1 q2 => (o3 x (by rw [hsz0]; omega)).trans (S2.2.1 x q1 q2), S2.2.2⟩
  refine lv_dup hx hb (pc := 11) (ls := ls1) (rest := []) dL_law_11 rfl ?_
  obtain ⟨D91, D92, D93, D94, D95, D96, D97⟩ := qkD_X9
  have cw9 := cwI (R := room_1) (s := s) (args := #[Value.ref b]) (own := RL) (index := 12) (y := yX9_init) (bytes := cX9_init) (maxL := 1) (Ts := qv_WS) (ws := qv_wl mX9_init) (rm := qk_rm mX9_init 24 2691) (mc := 24) (ms := 2691) 0 hts (gdl mX9_init D93) rfl rfl rfl (hts _ D92) (hts _ qlM_12) (hts _ D91) rfl D97 ⟨by decide, by decide⟩
  have hz3 : H3.size = qk_ad G 0 + 46 := y1
  have hr9 := va_runI (R := room_1) (H := H3) (locs := LL) (cells := 0 + 1 + 44 + 1) (slots := 0 + 12 + 8108 + 40) (below := below) (e := e) (meth := meth) (b := qk_ad G 45) (As := []) (rest := [.ref (qk_ad G 0 + 45)]) (g := F0 m (11 + 1) ls1 [.ref (qk_ad G 0 + 45), .ref (qk_ad G 0 + 45)]) (Ts := qv_WS) ⟨hx, hb, hml, hown, hts⟩ (qk_met (l := l) (N := []) (sz := H3.size) (o := 45) D94 D95 (by decide) (kJ_X9 (G := G) (h := qv_set h2 45 (.inr (8, [.null, .null, .null, .null, .null, .null, .null, .null, .int 0, .int 0, .int 0, .int 0, .int 0, .int 0, .int 0, .null, .null, .int 0, .null, .null, .null, .null, .null, .null, .null, .int 0, .int 0, .int 0, .null, .int 0, .int 0, .int 0, .null, .int 0, .null, .null, .null, .null, .null, .int 0]))) (by simp [qv_set]))) cw9 (qk_pre (G := G) (p := p) (m := m) (args := #[Value.ref b]) (meth := meth) (c := c) (A := fun q => s.heap.size ≤ q) hK hSt hA hk0 (fun w hw => absurd hw List.not_mem_nil) (fun w hw => absurd hw List.not_mem_nil) hz3 P3 S3) rfl rfl L1.1 (by rw [ea45]; rfl) (lv_room (Nat.le_of_ble_eq_true rfl)) dL_law_12 ⟨by decide, by decide⟩
  have hF3 : ∀ q, va_A (qv_ws (qk_g G 46) (qv_set h2 45 (.inr (8, [.null, .null, .null, .null, .null, .null, .null, .null, .int 0, .int 0, .int 0, .int 0, .int 0, .int 0, .int 0, .null, .null, .int 0, .null, .null, .null, .null, .null, .null, .null, .int 0, .int 0, .int 0, .null, .int 0, .int 0, .int 0, .null, .int 0, .null, .null, .null, .null, .null, .int 0])))) H3.size q → s.heap.size ≤ q := by
    intro q hq
    rcases hq with ⟨j, e, hj⟩ | hq
    · exact P3.2.1.2 j _ hj
    · rw [hz3, hsz0] at hq; omega
  intro T3 hT3 Y3
  obtain ⟨v3, st3, t3, T3', LL3, h03, X3', hLL3, e13, e23, ⟨⟨hv3, hP3⟩, hzz3, hk3⟩, stp3⟩ := hr9 T3 hT3 Y3
  cases hv3
  rw [h03] at hzz3 hk3
  have S4 : va_S (fun q : Nat => s.heap.size ≤ q) s.heap T3'.heap (LL ++ LL3) := ⟨Nat.le_trans S3.1 (by rw [e13]; exact hzz3), fun q q1 q2 => by rw [e13, hk3 q (Nat.lt_of_lt_of_le q1 S3.1) (fun z => q2 (hF3 q z))]; exact S3.2.1 q q1 q2, fun q hq => by
      rcases List.mem_append.mp hq with h | h
      · exact S3.2.2 q h
      · exact hF3 _ (hLL3 q h)⟩
  have P4 : qv_P (qk_g G 70) (fun q => s.heap.size ≤ q) (kX9 (qv_set h2 45 (.inr (8, [.null, .null, .null, .null, .null, .null, .null, .null, .int 0, .int 0, .int 0, .int 0, .int 0, .int 0, .int 0, .null, .null, .int 0, .null, .null, .null, .null, .null, .null, .null, .int 0, .int 0, .int 0, .null, .int 0, .int 0, .int 0, .null, .int 0, .null, .null, .null, .null, .null, .int 0])))) T3'.heap := ⟨by rw [e13]; exact hP3.1, hP3.2.1.weaken (fun _ q _ hq => hF3 q.1 hq), hP3.2.2⟩
  suffices hgo : W p l e room_1 s m #[Value.ref b] below meth c T3'.heap (LL ++ LL3) 70 10851 (lw_Z below #[Value.ref b] s) (F0 m 15 ls1 [.ref (qk_ad G 0 + 45)]) by
    obtain ⟨t2, a1, b1⟩ := hgo T3' rfl X3'
    exact ⟨t2, stp3 t2 a1, b1⟩
  have er45 : (Value.ref (qk_ad G 0 + 45)) = qv_rv ad (.ref 45) := by show _ = Value.ref (ad 45); rw [← ea45]
  rw [er45]
  refine lv_astore_n hx hb dL_law_15 (i := 2) rfl (qv_al_has L1) (by decide) rfl (fun ls2 hl2 => ?_)
  have L2 : qv_L ls2 4 ad [some (.ref 2000), some (.ref 0), some (.ref 45), none] := qv_st1 (v := .ref 45) (lo := [some (.ref 2000), some (.ref 0), none, none]) rfl (by decide) hl2
  refine lv_iconst (v := 0) (pc := 15 + 1) hx hb dL_law_16 rfl ?_
  refine lv_istore_n (pc := 15 + 1 + 1) hx hb dL_law_17 (i := 3) rfl (qv_al_has L2) (by decide) rfl (fun ls3 hl3 => ?_)
  have L3 : qv_L ls3 4 ad [some (.ref 2000), some (.ref 0), some (.ref 45), some (.int 0)] := qv_st1 (v := .int 0) (lo := [some (.ref 2000), some (.ref 0), some (.ref 45), none]) rfl (by decide) hl3
  exact ql_loop (g := qk_g G 70) ok hL (L + 1) 0 _ (by omega) (by omega) hI p e s m below meth c T3'.heap (LL ++ LL3) ls3 ⟨hx, hb, hml, hown, hts, hr, hlocks, hK, hSt, hX, hbl, hadb⟩ P4 S4 L3
