/-! ===== 23: constructors: the logic of a frame that makes cells; place k lies at the first place's address and k ===== -/
abbrev qk_G : Type := va_G × ClassId × ClassId × (Nat → Nat)
abbrev qk_g (G : qk_G) (n : Nat) : qv_G := (G.1, G.2.1, G.2.2.1, G.2.2.2, n)
abbrev qk_ad (G : qk_G) : Nat → Nat := G.2.2.2
abbrev qk_rm (d : qv_M) (mc ms : Nat) : Room := { frames := d.2.2.2.2.1, cells := mc, slots := ms, locals := d.2.2.2.2.2 }
def qk_X (N : List Cond) (G : qk_G) (d : qv_M) (p : Program) (s : State) (m : MethodId) (args : Array Value) (meth : Method) (c : Code) (A : Nat → Prop) : Prop :=
  qv_X (qk_g G 0) d p s m args meth c A ∧ meth.name = "<init>" ∧ (∀ k, k < 1000 → qk_ad G k = qk_ad G 0 + k) ∧ ∀ w ∈ N, va_Nw w s
def qk_Q (G : qk_G) (A : Nat → Prop) (R : Nat × qv_H) : Array Value → State → Outcome → State → Prop := fun _ st oc t => (oc = .returned none ∧ qv_P (qk_g G R.1) A R.2 t.heap) ∧ va_F A st t
def qk_J (l : Launch) (N : List Cond) (G : qk_G) (d : qv_M) (mc ms pc : Nat) (lo : List (Option Value)) (st : List Value) (n : Nat) (h : qv_H) (cells slots : Nat) (R : Nat × qv_H) : Prop :=
  ∀ (p : Program) (e : Env) (s : State) (m : MethodId) (args : Array Value) (below : List Frame) (meth : Method) (c : Code) (A : Nat → Prop) (H : Heap) (locs : List Loc) (ls : Array Slot),
    qk_X N G d p s m args meth c A → qv_P (qk_g G n) A h H → s.heap.size + cells = qk_ad G 0 + n → va_S A s.heap H locs → qv_L ls d.2.2.1 (qk_ad G) lo →
    W p l e (qk_rm d mc ms) s m args below meth c H locs cells slots (MQ below (qk_Q G A R) args s mc ms A) (F0 m pc ls (st.map (qv_rv (qk_ad G))))
theorem qk_push {G : qk_G} {n : Nat} {h : qv_H} (c : qv_C) : qv_ws (qk_g G (n + 1)) (qv_set h n c) = qv_ws (qk_g G n) h ++ [(qk_ad G n, qv_ce G.2.1 G.2.2.1 (qk_ad G) c)] := by
  show (List.range (n + 1)).map _ = (List.range n).map _ ++ _
  rw [List.range_succ, List.map_append]
  congr 1
  · apply List.map_congr_left
    intro k hk
    have hk2 : k < n := List.mem_range.mp hk
    unfold qv_set
    rw [if_neg (by omega)]
  · simp [qv_set]
theorem qk_P_push {G : qk_G} {A : Nat → Prop} {n : Nat} {h : qv_H} {H H1 : Heap} (c : qv_C) (P : qv_P (qk_g G n) A h H) (hz : H.size = qk_ad G n) (hA : A H.size) (ho : ∀ q, q < H.size → H1[q]? = H[q]?) (hc : va_at G.1 vwCl (qk_ad G n, qv_ce G.2.1 G.2.2.1 (qk_ad G) c) H1) : qv_P (qk_g G (n + 1)) A (qv_set h n c) H1 := by
  have hk : ∀ (k : Nat) (x : Nat × va_E), (qv_ws (qk_g G n) h)[k]? = some x → H1[x.1]? = H[x.1]? := fun k x hx => ho x.1 ((P.1 k x hx).lt)
  refine ⟨?_, ?_, ?_⟩
  · rw [qk_push]
    refine (P.1.kept hk).app (fun k x hx => ?_)
    have hz : k < 1 := (List.getElem?_eq_some_iff.mp hx).1
    rw [show k = 0 by omega] at hx
    cases hx
    exact hc
  · rw [qk_push]
    exact P.2.1.push P.1 hz.symm (by rw [← hz]; exact hA)
  · intro k hk
    have hk2 : n + 1 ≤ k := hk
    unfold qv_set
    rw [if_neg (by omega)]
    exact P.2.2 k (Nat.le_of_succ_le hk2)
section QK
variable {l : Launch} {N : List Cond} {G : qk_G} {d : qv_M} {mc ms pc : Nat} {lo : List (Option Value)} {st : List Value} {n : Nat} {h : qv_H} {cells slots : Nat} {R : Nat × qv_H}
theorem qk_aload0 {x : Nat} (hd : decode d.2.1 pc = .ok (.aload_n 0, 1)) (hl : lo[0]? = some (some (.ref x))) (k : qk_J l N G d mc ms (pc + 1) lo (.ref x :: st) n h cells slots R) : qk_J l N G d mc ms pc lo st n h cells slots R := by
  intro p e s m args below meth c A H locs ls X P Z S L
  exact lv_aload_n X.1.1 X.1.2.1 hd rfl (L.2.2 _ _ hl) (k p e s m args below meth c A H locs ls X P Z S L)
theorem qk_iconst {j : Int} {v : Int32} (hd : decode d.2.1 pc = .ok (.iconst j, 1)) (hv : Int32.ofInt j = v) (k : qk_J l N G d mc ms (pc + 1) lo (.int v :: st) n h cells slots R) : qk_J l N G d mc ms pc lo st n h cells slots R := by
  intro p e s m args below meth c A H locs ls X P Z S L
  exact lv_iconst X.1.1 X.1.2.1 hd hv (k p e s m args below meth c A H locs ls X P Z S L)
theorem qk_bipush {j : Int} {v : Int32} (hd : decode d.2.1 pc = .ok (.bipush j, 2)) (hv : (Int8.ofInt j).toInt32 = v) (k : qk_J l N G d mc ms (pc + 2) lo (.int v :: st) n h cells slots R) : qk_J l N G d mc ms pc lo st n h cells slots R := by
  intro p e s m args below meth c A H locs ls X P Z S L
  exact lv_bipush X.1.1 X.1.2.1 hd hv (k p e s m args below meth c A H locs ls X P Z S L)
theorem qk_sipush {j : Int} {v : Int32} (hd : decode d.2.1 pc = .ok (.sipush j, 3)) (hv : (Int16.ofInt j).toInt32 = v) (k : qk_J l N G d mc ms (pc + 3) lo (.int v :: st) n h cells slots R) : qk_J l N G d mc ms pc lo st n h cells slots R := by
  intro p e s m args below meth c A H locs ls X P Z S L
  exact lv_sipush X.1.1 X.1.2.1 hd hv (k p e s m args below meth c A H locs ls X P Z S L)
theorem qk_dup {v : Value} (hd : decode d.2.1 pc = .ok (.dup, 1)) (hv : v.category = 1) (k : qk_J l N G d mc ms (pc + 1) lo (v :: v :: st) n h cells slots R) : qk_J l N G d mc ms pc lo (v :: st) n h cells slots R := by
  intro p e s m args below meth c A H locs ls X P Z S L
  exact lv_dup X.1.1 X.1.2.1 hd ((qv_cat _ _).trans hv) (k p e s m args below meth c A H locs ls X P Z S L)
theorem qk_oinit {idx x : Nat} (hd : decode d.2.1 pc = .ok (.invokespecial idx, 3)) (h1 : Cond.methodLink d.1.cls idx objectInit ∈ qv_WS) (h2 : Cond.instanceMethod objectInit ∈ qv_WS) (h3 : Cond.code objectInit ⟨#[0xb1]⟩ 1 none ∈ qv_WS) (hf : 1 ≤ d.2.2.2.2.1) (hl : (st.map fun v => v.category).sum + 12 ≤ d.2.2.2.2.2) (k : qk_J l N G d mc ms (pc + 3) lo st n h cells slots R) : qk_J l N G d mc ms pc lo (.ref x :: st) n h cells slots R := by
  intro p e s m args below meth c A H locs ls X P Z S L
  have e5 : ((st.map (qv_rv (qk_ad G))).map fun v => v.category) = st.map fun v => v.category := by
    rw [List.map_map]; apply List.map_congr_left; intro v _; exact qv_cat _ v
  have hts : ∀ w ∈ qv_WS, w.before args s = true := fun w hw => X.1.2.2.2.2.1 w (List.mem_cons_of_mem _ hw)
  exact W.objInit (g := F0 m pc ls ((Value.ref x :: st).map (qv_rv (qk_ad G)))) X.1.1 X.1.2.1 X.1.2.2.2.1 (hts _ h1) (hts _ h2) (hts _ h3) rfl (L.1.trans X.1.2.2.1.symm) rfl hd hf (by show 2 * 0 + (List.map _ _).sum + 12 ≤ d.2.2.2.2.2; rw [e5]; omega) (k p e s m args below meth c A H locs ls X P Z S L)
theorem qk_put {idx ci o j : Nat} {ty : FieldType} {v : Value} {fs : List Value} (hd : decode d.2.1 pc = .ok (.putfield idx, 3)) (hf : qv_F d.1.cls idx ci j ty false) (hh : h o = .inr (ci, fs)) (hk : j < fs.length) (hnar : ∀ ad, narrow ty (qv_rv ad v) = qv_rv ad v) (hfit : ∀ ad, fits ty (qv_rv ad v) = true) (kk : qk_J l N G d mc ms (pc + 3) lo st n (qv_set h o (.inr (ci, fs.set j v))) cells slots R) : qk_J l N G d mc ms pc lo (v :: .ref o :: st) n h cells slots R := by
  intro p e s m args below meth c A H locs ls X P Z S L
  obtain ⟨C, T, N0, ty0, f1, f2, f3, f4, f5, f6, f7, f8⟩ := hf
  obtain ⟨hn, hw⟩ := qv_obj P hh (fun q => by omega)
  refine va_put (ty := ty) (v := qv_rv (qk_ad G) v) X.1.1 X.1.2.1 X.1.2.2.2.2.1 (fun w hw => List.mem_cons_of_mem _ (f4 w hw)) ty0 f5 f6 X.1.2.2.2.1 X.1.2.2.2.2.2.2.2.1 P.1 P.2.1 S o hw f1 j f2 (X.1.2.2.2.2.1 _ (List.mem_cons_of_mem _ f3)) (fun _ q => q) f8 (by rw [f5 j f2, f7]) (hnar _) (hfit _) (by rw [List.length_map]; exact hk) hd (fun H1 locs1 hP hD hS => ?_)
  have e1 : (fs.map (qv_rv (qk_ad G))).set j (qv_rv (qk_ad G) v) = (fs.set j v).map (qv_rv (qk_ad G)) := by rw [List.map_set]
  rw [e1] at hP hD
  have e2 := qv_ws_set (h := h) (.inr (ci, fs.set j v)) hn
  exact kk p e s m args below meth c A H1 locs1 ls X ⟨by rw [← e2]; exact hP, by rw [← e2]; exact hD, fun q hq => by unfold qv_set; rw [if_neg (by have : n ≤ q := hq; have : o < n := hn; omega)]; exact P.2.2 q hq⟩ Z hS L
theorem qk_putF {idx ci o j : Nat} {ty : FieldType} {v : Value} {fs : List Value} (hd : decode d.2.1 pc = .ok (.putfield idx, 3)) (hf : qv_F d.1.cls idx ci j ty true) (hdecl : (vwCl[ci]?).map (fun q => (q.2.1 j).1) = some d.1.cls) (hh : h o = .inr (ci, fs)) (hk : j < fs.length) (hnar : ∀ ad, narrow ty (qv_rv ad v) = qv_rv ad v) (hfit : ∀ ad, fits ty (qv_rv ad v) = true) (kk : qk_J l N G d mc ms (pc + 3) lo st n (qv_set h o (.inr (ci, fs.set j v))) cells slots R) : qk_J l N G d mc ms pc lo (v :: .ref o :: st) n h cells slots R := by
  intro p e s m args below meth c A H locs ls X P Z S L
  obtain ⟨C, T, N0, ty0, f1, f2, f3, f4, f5, f6, f7, f8⟩ := hf
  obtain ⟨hn, hw⟩ := qv_obj P hh (fun q => by omega)
  have hdl : (T j).1 = d.1.cls := by
    rw [f1] at hdecl
    exact Option.some.inj hdecl
  refine va_putF (ty := ty) (v := qv_rv (qk_ad G) v) X.1.1 X.1.2.1 X.1.2.2.2.2.1 (fun w hw => List.mem_cons_of_mem _ (f4 w hw)) ty0 f5 f6 X.1.2.2.2.1 X.1.2.2.2.2.2.2.2.1 P.1 P.2.1 S o hw f1 j f2 (X.1.2.2.2.2.1 _ (List.mem_cons_of_mem _ f3)) (fun _ q => q) f8 X.2.1 hdl (by rw [f5 j f2, f7]) (hnar _) (hfit _) (by rw [List.length_map]; exact hk) hd (fun H1 locs1 hP hD hS => ?_)
  have e1 : (fs.map (qv_rv (qk_ad G))).set j (qv_rv (qk_ad G) v) = (fs.set j v).map (qv_rv (qk_ad G)) := by rw [List.map_set]
  rw [e1] at hP hD
  have e2 := qv_ws_set (h := h) (.inr (ci, fs.set j v)) hn
  exact kk p e s m args below meth c A H1 locs1 ls X ⟨by rw [← e2]; exact hP, by rw [← e2]; exact hD, fun q hq => by unfold qv_set; rw [if_neg (by have : n ≤ q := hq; have : o < n := hn; omega)]; exact P.2.2 q hq⟩ Z hS L
/-- how large the heap is -/
theorem qk_size {p : Program} {e : Env} {rm : Room} {s : State} {m : MethodId} {args : Array Value} {below : List Frame} {meth : Method} {c : Code} {T : State} {locs : List Loc} {A : Nat → Prop} {H : Heap} (Y : Stand p l e rm s m args below meth c T locs cells slots) (hT : T.heap = H) (P : qv_P (qk_g G n) A h H) (hn : 0 < n) (hn2 : n ≤ 1000) (ha : ∀ k, k < 1000 → qk_ad G k = qk_ad G 0 + k) (Z : s.heap.size + cells = qk_ad G 0 + n) : H.size = qk_ad G 0 + n := by
  have h1 : T.heap.size ≤ s.heap.size + cells := Y.same.2.2.1
  rw [hT] at h1
  have h2 := (P.1 (n - 1) _ (qv_ws_at (g := qk_g G n) (h := h) (k := n - 1) (show n - 1 < n by omega))).lt
  have h3 : qk_ad G (n - 1) < H.size := h2
  rw [ha (n - 1) (by omega)] at h3
  omega
theorem qk_new {idx ci N0 : Nat} {C : String} {T : u_T} {ty : Nat → FieldType} {fs : List Value} (hd : decode d.2.1 pc = .ok (.new idx, 3)) (h1 : Cond.classLink d.1.cls idx C ∈ qv_WS) (h2 : Cond.instantiable C N0 ∈ qv_WS) (h3 : Cond.initialized C ∈ qv_WS) (hc : vwCl[ci]? = some (C, T, N0)) (hin : ∀ w ∈ u_ws C T N0, w ∈ qv_WS) (hty : ∀ k, k < N0 → parseFieldDescriptor (T k).2.2.1 = some (ty k)) (hfs : ∀ j, j < N0 → defaultValue (ty j) = vp_V fs j) (hrv : ∀ ad, fs.map (qv_rv ad) = fs) (hn : 0 < n) (hn2 : n < 1000) (hcm : cells + 1 ≤ mc) (hsm : slots + N0 ≤ ms)
    (k : qk_J l N G d mc ms (pc + 3) lo (.ref n :: st) (n + 1) (qv_set h n (.inr (ci, fs))) (cells + 1) (slots + N0) R) : qk_J l N G d mc ms pc lo st n h cells slots R := by
  intro p e s m args below meth c A H locs ls X P Z S L TT hT Y
  have hz := qk_size Y hT P hn (by omega) X.2.2.1 Z
  have hts : ∀ w ∈ qv_WS, w.before args s = true := fun w hw => X.1.2.2.2.2.1 w (List.mem_cons_of_mem _ hw)
  have hKn := X.1.2.2.2.2.2.2.2.1.1 ci _ hc
  refine W.newcK (g := F0 m pc ls (st.map (qv_rv (qk_ad G)))) X.1.1 X.1.2.1 X.1.2.2.2.1 (hts _ h1) (hts _ h2) (hts _ h3) rfl hd hcm hsm hKn.2.1 rfl (fun H1 kC hkC e1 z1 o1 => ?_) TT hT Y
  have ean : qk_ad G n = H.size := by rw [X.2.2.1 n hn2]; exact hz.symm
  have hat : va_at G.1 vwCl (qk_ad G n, qv_ce G.2.1 G.2.2.1 (qk_ad G) (.inr (ci, fs))) H1 := by
    rw [ean]
    refine ⟨_, hc, ?_⟩
    show t_OB H.size _ N0 _ H1 (vp_V (fs.map (qv_rv (qk_ad G))))
    rw [hrv]
    exact (u_born ty hts hin hKn hkC e1 hty).to hfs
  have P1 := qk_P_push (.inr (ci, fs)) P ean.symm (X.1.2.2.2.2.2.2.2.2.1 _ S.1) o1 hat
  have hS1 : va_S A s.heap H1 locs := ⟨Nat.le_trans S.1 (by omega), fun x q1 q2 => (o1 x (Nat.lt_of_lt_of_le q1 S.1)).trans (S.2.1 x q1 q2), S.2.2⟩
  have e9 : (Value.ref n :: st).map (qv_rv (qk_ad G)) = .ref H.size :: st.map (qv_rv (qk_ad G)) := by rw [← ean]; rfl
  have := k p e s m args below meth c A H1 locs ls X P1 (by omega) hS1 L
  rw [e9] at this
  exact this
theorem qk_newa (z : Bool) {aty : ArrayType} {k0 : Int32} {K : Nat} (hd : decode d.2.1 pc = .ok (.newarray aty, 2)) (ha : newarray.typeOf aty = cond z .boolean .int) (h1 : Cond.arrayClass (cond z .boolean .int) ∈ qv_WS) (hk0 : ¬ k0 < 0) (hK : k0.toNatClampNeg = K) (hb : K ≤ 100000) (hn : 0 < n) (hn2 : n < 1000) (hcm : cells + 1 ≤ mc) (hsm : slots + K ≤ ms)
    (k : qk_J l N G d mc ms (pc + 2) lo (.ref n :: st) (n + 1) (qv_set h n (.inl (z, K, fun _ => 0))) (cells + 1) (slots + K) R) : qk_J l N G d mc ms pc lo (.int k0 :: st) n h cells slots R := by
  intro p e s m args below meth c A H locs ls X P Z S L TT hT Y
  have hz := qk_size Y hT P hn (by omega) X.2.2.1 Z
  have hts : ∀ w ∈ qv_WS, w.before args s = true := fun w hw => X.1.2.2.2.2.1 w (List.mem_cons_of_mem _ hw)
  have ean : qk_ad G n = H.size := by rw [X.2.2.1 n hn2]; exact hz.symm
  refine va_newaK (g := F0 m pc ls ((Value.int k0 :: st).map (qv_rv (qk_ad G)))) (rest := st.map (qv_rv (qk_ad G))) X.1.1 X.1.2.1 (by rw [ha]; exact hts _ h1) rfl hd rfl hk0 hK (by rw [ha]; cases z <;> (simp only [cond, componentBytes]; omega)) hcm hsm rfl (fun H1 cA e1 z1 o1 hAr hNm => ?_) TT hT Y
  rw [ha] at e1 hNm hAr
  have hat : va_at G.1 vwCl (qk_ad G n, qv_ce G.2.1 G.2.2.1 (qk_ad G) (.inl (z, K, fun _ => 0))) H1 := by
    rw [ean]
    show H1[H.size]? = some (vp_cell (cond z G.2.2.1 G.2.1) (K, .inl fun _ => 0))
    cases z with
    | false =>
      have hRA : s.vm.findClass ("[" ++ FieldType.int.toString) = some G.2.1 := (X.1.2.2.2.2.2.2.2.1.2 0 _ rfl).2
      have e7 : cA = G.2.1 := Option.some.inj (hNm.symm.trans hRA)
      rw [e1, e7]
      rfl
    | true =>
      have hRA : s.vm.findClass ("[" ++ FieldType.boolean.toString) = some G.2.2.1 := (X.1.2.2.2.2.2.2.2.1.2 1 _ rfl).2
      have e7 : cA = G.2.2.1 := Option.some.inj (hNm.symm.trans hRA)
      rw [e1, e7]
      rfl
  have P1 := qk_P_push (.inl (z, K, fun _ => 0)) P ean.symm (X.1.2.2.2.2.2.2.2.2.1 _ S.1) o1 hat
  have hS1 : va_S A s.heap H1 locs := ⟨Nat.le_trans S.1 (by omega), fun x q1 q2 => (o1 x (Nat.lt_of_lt_of_le q1 S.1)).trans (S.2.1 x q1 q2), S.2.2⟩
  have e9 : (Value.ref n :: st).map (qv_rv (qk_ad G)) = .ref H.size :: st.map (qv_rv (qk_ad G)) := by rw [← ean]; rfl
  have := k p e s m args below meth c A H1 locs ls X P1 (by omega) hS1 L
  rw [e9] at this
  exact this
theorem qk_vret (hd : decode d.2.1 pc = .ok (.return_, 1)) (hr : d.2.2.2.1 = none) : qk_J l N G d mc ms pc lo [] n h mc ms (n, h) := by
  intro p e s m args below meth c A H locs ls X P Z S L
  exact W.vret X.1.1 X.1.2.1 (X.1.2.2.2.2.2.1.trans hr) (fun t ht hW => ⟨⟨rfl, by rw [ht]; exact P⟩, S.F ht⟩) S.2.2 hd X.1.2.2.2.2.2.2.1
end QK
/-- what a constructor begins with -/
def qk_B (N : List Cond) (G : qk_G) (n : Nat) (h : qv_H) (sz : Nat) (U : State) : Prop := qv_B (qk_g G n) h sz U ∧ sz = qk_ad G 0 + n ∧ (∀ k, k < 1000 → qk_ad G k = qk_ad G 0 + k) ∧ ∀ w ∈ N, va_Nw w U
theorem qk_met {l : Launch} {N : List Cond} {G : qk_G} {d : qv_M} {mc ms o n : Nat} {h : qv_H} {R : Nat × qv_H} {sz : Nat} (hp : plainName d.1.cls = true) (hi : d.1.name = "<init>") (hl : 1 ≤ d.2.2.1) (hJ : qk_J l N G d mc ms 0 (qv_lo0 d.2.2.1 [.ref o]) [] n h 0 0 R) : Met l d.1 (qv_wl d) (qk_rm d mc ms) (va_Pc [.ref (qk_ad G o)] (qk_B N G n h sz)) (qk_Q G (va_A (qv_ws (qk_g G n) h) sz) R) mc ms (va_A (qv_ws (qk_g G n) h) sz) := by
  refine Met.ofW (cc := d.2.1) (maxL := d.2.2.1) (ret := d.2.2.2.1) hp rfl ?_
  intro p e s m args below meth c s₁ B hml hv
  obtain ⟨rfl, ⟨hsz, hP, hK, hD0, hN, hSt⟩, hs2, hkk, hnw⟩ := hv
  subst hsz
  have hts := atoms_spec (ws := qv_wl d) B.pre
  rw [lg_entry_eq]
  exact hJ p e s m _ below meth c (va_A (qv_ws (qk_g G n) h) s.heap.size) s.heap [] _ ⟨⟨B.exec, B.bytes, hml, findClass_of_methodNamed B.named, hts, B.returns, B.notSynchronized, hK, fun q hq => Or.inr hq, hSt⟩, (name_of_methodNamed B.named B.method).1.trans hi, hkk, hnw⟩ ⟨hP, hD0.self, hN⟩ hs2 va_S.rf (qv_L0 (ad := qk_ad G) (av := [.ref o]) (fun v hv => by rw [List.mem_singleton.mp hv]; rfl) hl)
/-- what the tables say of a constructor that is called -/
def qk_D (d : qv_M) : Prop := Cond.instanceMethod d.1 ∈ qv_WS ∧ Cond.initialized d.1.cls ∈ qv_WS ∧ Cond.code d.1 d.2.1 d.2.2.1 d.2.2.2.1 ∈ qv_WS ∧ plainName d.1.cls = true ∧ d.1.name = "<init>" ∧ d.2.2.2.1 = none ∧ (d.1.cls ≠ "java/lang/invoke/MethodHandle" ∧ d.1.cls ≠ "java/lang/invoke/VarHandle" ∧ (parseMethodDescriptor d.1.desc).map (fun q => q.parameters.length) = some 0)
section QM
variable {l : Launch} {N N2 : List Cond} {G : qk_G} {d d2 : qv_M} {mc ms mc2 ms2 pc idx o : Nat} {lo : List (Option Value)} {st : List Value} {n n2 : Nat} {h h2 : qv_H} {cells slots : Nat} {R : Nat × qv_H}
theorem qk_pre {s : State} {A : Nat → Prop} {H : Heap} {locs : List Loc} {p : Program} {m : MethodId} {args : Array Value} {meth : Method} {c : Code} (hK : va_K G.1 vwCl (qv_ty (qk_g G 0)) s) (hS0 : qv_S (qk_g G 0) A s) (hA : ∀ q, s.heap.size ≤ q → A q) (hk : ∀ k, k < 1000 → qk_ad G k = qk_ad G 0 + k) (hN : ∀ w ∈ N2, va_Nw w s) (hNt : ∀ w ∈ N2, ∃ a i x q, w = .methodLinkNest a i x q) (hz : H.size = qk_ad G 0 + n) (P : qv_P (qk_g G n) A h H) (S : va_S A s.heap H locs) : PreS s H (va_Pc [.ref (qk_ad G o)] (qk_B N2 G n h H.size)) [.ref (qk_ad G o)] := by
  have hF : ∀ q, va_A (qv_ws (qk_g G n) h) H.size q → A q := by
    intro q hq
    rcases hq with ⟨j, e, hj⟩ | hq
    · exact P.2.1.2 j _ hj
    · exact hA q (Nat.le_trans S.1 hq)
  refine ⟨fun a U gg mk q => ?_, fun U hU hW => ?_⟩
  · obtain ⟨q0, ⟨q1, q2, q3, q4, q5, q6⟩, q7, q8, q9⟩ := q
    exact ⟨q0, ⟨q1, q2, va_K.moved (u := U) (U := U.calling gg mk a) (Vm.Alike.refl U.vm) q3, q4, q5, q6.call⟩, q7, q8, fun w hw => by
      obtain ⟨x1, x2, x3, x4, rfl⟩ := hNt w hw
      exact va_Nw.same (u := U) rfl rfl (q9 _ hw)⟩
  · exact ⟨rfl, ⟨by rw [hU], by rw [hU]; exact P.1, va_K.moved hW.alike hK, P.2.1.weaken (fun _ _ _ _ => trivial), P.2.2, hS0.go S hU hW hF⟩, hz, hk, fun w hw => by
      obtain ⟨x1, x2, x3, x4, rfl⟩ := hNt w hw
      exact va_Nw.warmM hW (hN _ hw)⟩
/-- a nest mate's constructor -/
theorem qk_cN {host : String} (hd : decode d.2.1 pc = .ok (.invokespecial idx, 3)) (hnw : Cond.methodLinkNest d.1.cls idx d2.1 host ∈ N) (D : qk_D d2) (hR : d2.2.2.2.2.1 + 1 ≤ d.2.2.2.2.1 ∧ 8 + (d2.2.2.1 + 11) + d2.2.2.2.2.2 ≤ d.2.2.2.2.2) (hl : 1 ≤ d2.2.2.1) (hcm : cells + mc2 ≤ mc) (hsm : slots + ms2 ≤ ms) (hst : (st.map fun v => v.category).sum ≤ 8) (hn : 0 < n) (hn2 : n ≤ 1000) (hn3 : n2 = n + mc2)
    (hJ : qk_J l [] G d2 mc2 ms2 0 (qv_lo0 d2.2.2.1 [.ref o]) [] n h 0 0 (n2, h2)) (k : qk_J l N G d mc ms (pc + 3) lo st n2 h2 (cells + mc2) (slots + ms2) R) : qk_J l N G d mc ms pc lo (.ref o :: st) n h cells slots R := by
  intro p e s m args below meth c A H locs ls X P Z S L TT hT Y
  have hz := qk_size Y hT P hn hn2 X.2.2.1 Z
  obtain ⟨D1, D2, D3, D4, D5, D6, D7⟩ := D
  have hts : ∀ w ∈ qv_WS, w.before args s = true := fun w hw => X.1.2.2.2.2.1 w (List.mem_cons_of_mem _ hw)
  have cw := va_cnB (R := qk_rm d mc ms) (s := s) (args := args) (own := d.1.cls) (host := host) (index := idx) (y := d2.1) (bytes := d2.2.1) (maxL := d2.2.2.1) (ret := none) (Ts := qv_wl d) (ws := qv_wl d2) (rm := qk_rm d2 mc2 ms2) (mc := mc2) (ms := ms2) 0 X.1.2.2.2.2.1 (qv_gdl D3) (by rw [← D6]) rfl rfl (X.2.2.2 _ hnw) (hts _ D2) D7 hR
  have hF : ∀ q, va_A (qv_ws (qk_g G n) h) H.size q → A q := by
    intro q hq
    rcases hq with ⟨j, e, hj⟩ | hq
    · exact P.2.1.2 j _ hj
    · exact X.1.2.2.2.2.2.2.2.2.1 q (Nat.le_trans S.1 hq)
  have e5 : ((st.map (qv_rv (qk_ad G))).map fun v => v.category) = st.map fun v => v.category := by
    rw [List.map_map]; apply List.map_congr_left; intro v _; exact qv_cat _ v
  have hr := va_runIN (H := H) (locs := locs) (cells := cells) (slots := slots) (below := below) (e := e) (meth := meth) (b := qk_ad G o) (As := []) (rest := st.map (qv_rv (qk_ad G))) (g := F0 m pc ls ((Value.ref o :: st).map (qv_rv (qk_ad G)))) ⟨X.1.1, X.1.2.1, X.1.2.2.1, X.1.2.2.2.1, X.1.2.2.2.2.1⟩ (qk_met (sz := H.size) (o := o) D4 D5 hl hJ) ⟨cw, D5, hts _ D1⟩ (qk_pre (p := p) (m := m) (args := args) (meth := meth) (c := c) X.1.2.2.2.2.2.2.2.1 X.1.2.2.2.2.2.2.2.2.2 X.1.2.2.2.2.2.2.2.2.1 X.2.2.1 (fun w hw => absurd hw List.not_mem_nil) (fun w hw => absurd hw List.not_mem_nil) hz P S) rfl rfl L.1 rfl (by rw [e5]; exact lv_room hst) hd ⟨hcm, hsm⟩
  obtain ⟨v, st₀, t, T', LL, h0, X', hLL, e1, e2, ⟨⟨hv, hP1⟩, hzz, hk⟩, stp⟩ := hr TT hT Y
  cases hv
  rw [h0] at hzz hk
  have hS1 : va_S A s.heap T'.heap (locs ++ LL) := ⟨Nat.le_trans S.1 (by rw [e1]; exact hzz), fun q h1 h2 => by rw [e1, hk q (Nat.lt_of_lt_of_le h1 S.1) (fun z => h2 (hF q z))]; exact S.2.1 q h1 h2, fun q hq => by
      rcases List.mem_append.mp hq with h | h
      · exact S.2.2 q h
      · exact hF _ (hLL q h)⟩
  have hP2 : qv_P (qk_g G n2) A h2 T'.heap := ⟨by rw [e1]; exact hP1.1, hP1.2.1.weaken (fun _ q _ hq => hF q.1 hq), hP1.2.2⟩
  obtain ⟨t2, a1, b1⟩ := k p e s m args below meth c A T'.heap (locs ++ LL) ls X hP2 (by omega) hS1 L T' rfl X'
  exact ⟨t2, stp t2 a1, b1⟩
/-- a void method of an object, that makes nothing -/
theorem qk_cV {ci : Nat} {u : Unit} {av st0 : List Value} {na : Nat} (hd : decode d.2.1 pc = .ok (.invokevirtual idx, 3)) (hm : Cond.methodLink d.1.cls idx d2.1 ∈ qv_WS) (D : qv_DV d2 na) (ho : qv_ob h ci o = some u) (hcl : (vwCl[ci]?).map (fun q => q.1) = some d2.1.cls) (hna : av.length = na) (hR : d2.2.2.2.2.1 + 1 ≤ d.2.2.2.2.1 ∧ 8 + (d2.2.2.1 + 11) + d2.2.2.2.2.2 ≤ d.2.2.2.2.2) (hc : (av.all fun v => v.category == 1) = true) (hl : av.length + 1 ≤ d2.2.2.1) (hst : (st.map fun v => v.category).sum ≤ 8) (hcm : cells ≤ mc) (hsm : slots ≤ ms)
    (hJ : qv_J l (qk_g G n) d2 0 (qv_lo0 d2.2.2.1 (.ref o :: av)) [] h (none, h2)) (hs0 : av.reverse ++ .ref o :: st = st0) (k : qk_J l N G d mc ms (pc + 3) lo st n h2 cells slots R) : qk_J l N G d mc ms pc lo st0 n h cells slots R := by
  subst hs0
  intro p e s m args below meth c A H locs ls X P Z S L
  obtain ⟨D1, D2, D3, D4, D5, D6⟩ := D
  have X0 : qv_X (qk_g G n) d p s m args meth c A := X.1
  have cw := cwV (R := qk_rm d mc ms) (s := s) (args := args) (own := d.1.cls) (C := d2.1.cls) (index := idx) (y := d2.1) (bytes := d2.2.1) (maxL := d2.2.2.1) (ret := d2.2.2.2.1) (Ts := qv_wl d) (ws := qv_wl d2) (rm := qv_rm d2) (mc := 0) (ms := 0) na X0.2.2.2.2.1 (by
    intro w hw
    unfold wsV at hw
    rcases List.mem_append.mp hw with hw | hw
    · simp only [List.mem_cons, List.not_mem_nil, or_false] at hw
      rcases hw with rfl | rfl | rfl | rfl
      · exact qv_gd hm
      · exact qv_gd D1
      · exact qv_gd D2
      · exact qv_gd D3
    · exact qv_gdl D4 w hw) rfl rfl rfl ⟨rfl, D6⟩ hR
  obtain ⟨fs, o1, o2⟩ := qv_ob_of ho
  obtain ⟨hn0, hw0⟩ := qv_obj P o1 o2
  have hrecv : ∃ cellB : Cell, H[qk_ad G o]? = some cellB ∧ cellB.vm.isStatics = false ∧ s.vm.findClass d2.1.cls = some cellB.cls := by
    cases hq : vwCl[ci]? with
    | none => rw [hq] at hcl; cases hcl
    | some q =>
      rw [hq] at hcl
      have := va_recv X0.2.2.2.2.2.2.2.1 P.1 hq hw0
      have e9 : q.1 = d2.1.cls := Option.some.inj hcl
      rw [e9] at this
      exact this
  have hpre := qv_pre (av := .ref o :: av) X0 P S
  have e5 : ((st.map (qv_rv (qk_ad G))).map fun v => v.category) = st.map fun v => v.category := by
    rw [List.map_map]; apply List.map_congr_left; intro v _; exact qv_cat _ v
  have hr := va_runV (R := qk_rm d mc ms) (H := H) (locs := locs) (cells := cells) (slots := slots) (below := below) (e := e) (meth := meth) (b := qk_ad G o) (As := av.map (qv_rv (qk_ad G))) (rest := st.map (qv_rv (qk_ad G))) (g := F0 m pc ls ((av.reverse ++ .ref o :: st).map (qv_rv (qk_ad G)))) ⟨X0.1, X0.2.1, X0.2.2.1, X0.2.2.2.1, X0.2.2.2.2.1⟩ (qv_met (sz := H.size) D5 (av := .ref o :: av) (by
      intro v hv
      rcases List.mem_cons.mp hv with rfl | hv
      · rfl
      · exact qv_allc hc v hv) hl hJ) cw ⟨hpre.1, hrecv, hpre.2⟩ rfl (by rw [List.length_map]; exact hna) L.1 (by simp [qv_rv]) (by rw [e5]; exact lv_room hst) hd ⟨hcm, hsm⟩
  have hF : ∀ q, va_A (qv_ws (qk_g G n) h) H.size q → A q := by
    intro q hq
    rcases hq with ⟨j, e, hj⟩ | hq
    · exact P.2.1.2 j _ hj
    · exact X0.2.2.2.2.2.2.2.2.1 q (Nat.le_trans S.1 hq)
  intro T hT Y
  obtain ⟨v, st₀, t, T', L1, h0, X', hL, e1, e2, ⟨⟨hv, hP1⟩, hz, hk⟩, stp⟩ := hr T hT Y
  cases hv
  rw [h0] at hz hk
  have hS1 : va_S A s.heap T'.heap (locs ++ L1) := ⟨Nat.le_trans S.1 (by rw [e1]; exact hz), fun q h1 h2 => by rw [e1, hk q (Nat.lt_of_lt_of_le h1 S.1) (fun z => h2 (hF q z))]; exact S.2.1 q h1 h2, fun q hq => by
      rcases List.mem_append.mp hq with h | h
      · exact S.2.2 q h
      · exact hF _ (hL q h)⟩
  have hP2 : qv_P (qk_g G n) A h2 T'.heap := ⟨by rw [e1]; exact hP1.1, hP1.2.1.weaken (fun _ q _ hq => hF q.1 hq), hP1.2.2⟩
  obtain ⟨t2, a1, b1⟩ := k p e s m args below meth c A T'.heap (locs ++ L1) ls X hP2 Z hS1 L T' rfl X'
  exact ⟨t2, stp t2 a1, b1⟩
end QM
