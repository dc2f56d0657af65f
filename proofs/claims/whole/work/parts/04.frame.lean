/-! ===== 04: the logic of one method's frame: qv_J l g d pc lo st h R: from pc, with locals lo, stack st and the heap's picture h, method d returns R.1 and leaves the picture R.2 ===== -/
/-- a cell: an array (boolean or int, length, contents) or an object (its class's place in vwCl, its fields); a ref in a picture is a place, not an address -/
abbrev qv_C : Type := (Bool × Nat × (Nat → Int32)) ⊕ (Nat × List Value)
abbrev qv_H : Type := Nat → qv_C
def qv_set (h : qv_H) (k : Nat) (c : qv_C) : qv_H := fun j => if j = k then c else h j
def qv_rv (ad : Nat → Nat) (v : Value) : Value := match v with
  | .ref k => .ref (ad k)
  | w => w
def qv_ce (cI cZ : ClassId) (ad : Nat → Nat) (c : qv_C) : va_E := match c with
  | .inl a => .inl (cond a.1 cZ cI, a.2.1, .inl a.2.2)
  | .inr q => .inr (q.1, q.2.map (qv_rv ad))
/-- classes and slots; the ids of the int and the boolean arrays' classes; addresses of places; how many places -/
abbrev qv_G : Type := va_G × ClassId × ClassId × (Nat → Nat) × Nat
abbrev qv_ad (g : qv_G) : Nat → Nat := g.2.2.2.1
abbrev qv_n (g : qv_G) : Nat := g.2.2.2.2
abbrev qv_ty (g : qv_G) : List (ClassId × FieldType) := [(g.2.1, .int), (g.2.2.1, .boolean)]
def qv_ws (g : qv_G) (h : qv_H) : va_W := (List.range (qv_n g)).map (fun k => (qv_ad g k, qv_ce g.2.1 g.2.2.1 (qv_ad g) (h k)))
theorem qv_ws_at {g : qv_G} {h : qv_H} {k : Nat} (hk : k < qv_n g) : (qv_ws g h)[k]? = some (qv_ad g k, qv_ce g.2.1 g.2.2.1 (qv_ad g) (h k)) := by
  simp [qv_ws, hk]
theorem qv_ws_set {g : qv_G} {h : qv_H} {k : Nat} (c : qv_C) (hk : k < qv_n g) : (qv_ws g h).set k (qv_ad g k, qv_ce g.2.1 g.2.2.1 (qv_ad g) c) = qv_ws g (qv_set h k c) := by
  apply List.ext_getElem?
  intro j
  by_cases hj : j = k
  · subst hj
    rw [List.getElem?_set_self (by simp [qv_ws]; exact hk), qv_ws_at hk]
    simp [qv_set]
  · rw [List.getElem?_set_ne (Ne.symm hj)]
    by_cases hn : j < qv_n g
    · rw [qv_ws_at hn, qv_ws_at hn]
      simp [qv_set, hj]
    · rw [List.getElem?_eq_none (by simp [qv_ws]; omega), List.getElem?_eq_none (by simp [qv_ws]; omega)]
/-- the picture holds; what is beyond is nothing -/
def qv_P (g : qv_G) (A : Nat → Prop) (h : qv_H) (H : Heap) : Prop := va_P g.1 vwCl (qv_ws g h) H ∧ va_D A (qv_ws g h) ∧ ∀ k, qv_n g ≤ k → h k = .inr (99, [])
theorem qv_lt {g : qv_G} {A : Nat → Prop} {h : qv_H} {H : Heap} (P : qv_P g A h H) {k : Nat} (hk : ¬ h k = .inr (99, [])) : k < qv_n g := Nat.lt_of_not_le (fun q => hk (P.2.2 k q))

def qv_tx : List String := ["", "nd;", "rdd;", "f;", "sdkdd;", "ldd;", "iddd;", "fnaoxwj"]
def qv_ix : List Nat := [42, 52, 54, 56, 58, 60, 62, 27]
def qv_sl : List Nat := [0, 3, 4, 2, 6, 4, 5, 7]
def qv_sb : List (List Int32) := [[], [110, 100, 59], [114, 100, 100, 59], [102, 59], [115, 100, 107, 100, 100, 59], [108, 100, 100, 59], [105, 100, 100, 100, 59], [102, 110, 97, 111, 120, 119, 106]]
/-- the texts that stand in the class file of TrueOneWay$Text: place i of the list is the cell of place 1000 + i -/
def qv_S (g : qv_G) (A : Nat → Prop) (U : State) : Prop := vk_S 8 qv_sl qv_sb (fun i => qv_ad g (1000 + i)) (fun i => qv_ad g (1100 + i)) A U U.heap ∧ (∀ i, i < 8 → vk_R "TrueOneWay$Text" (qv_ix.getD i 0) (qv_tx.getD i "") (qv_ad g (1000 + i)) U) ∧ va_Z "java/lang/String" "COMPACT_STRINGS" "Z" (.int 1) A U U.heap ∧ (va_Z "jdk/internal/util/Preconditions" "SIOOBE_FORMATTER" "Ljava/util/function/BiFunction;" .null A U U.heap ∨ va_Z "jdk/internal/util/Preconditions" "SIOOBE_FORMATTER" "Ljava/util/function/BiFunction;" (.ref (qv_ad g 1200)) A U U.heap)
theorem qv_S.go {g : qv_G} {A B : Nat → Prop} {s U : State} {locs : List Loc} {H : Heap} (h : qv_S g A s) (hS : va_S A s.heap H locs) (hU : U.heap = H) (hW : s.WarmedH U.vm) (hB : ∀ q, B q → A q) : qv_S g B U := by
  obtain ⟨h1, h2, h3, h4⟩ := h
  subst hU
  refine ⟨((h1.kept hS.2.1).moved hW.alike).narrow hB, fun i hi => (h2 i hi).warm hW, ((h3.kept hS.2.1).moved hW.alike).narrow hB, ?_⟩
  rcases h4 with h4 | h4
  · exact Or.inl (((h4.kept hS.2.1).moved hW.alike).narrow hB)
  · exact Or.inr (((h4.kept hS.2.1).moved hW.alike).narrow hB)
theorem qv_S.call {g : qv_G} {A : Nat → Prop} {U : State} {gg : JFrame} {mk : MethodId} {a : Array Value} (h : qv_S g A U) : qv_S g A (U.calling gg mk a) := by
  obtain ⟨h1, h2, h3, h4⟩ := h
  refine ⟨h1.moved (u := U) (U := U.calling gg mk a) (Vm.Alike.refl U.vm), fun i hi => vk_R.same (u := U) rfl (h2 i hi), h3.moved (u := U) (U := U.calling gg mk a) (Vm.Alike.refl U.vm), ?_⟩
  rcases h4 with h4 | h4
  · exact Or.inl (h4.moved (u := U) (U := U.calling gg mk a) (Vm.Alike.refl U.vm))
  · exact Or.inr (h4.moved (u := U) (U := U.calling gg mk a) (Vm.Alike.refl U.vm))
/-- a method: name, code, locals, what it returns; frames and locals of its calls -/
abbrev qv_M : Type := MethodName × ByteArray × Nat × Option FieldType × Nat × Nat
abbrev qv_rm (d : qv_M) : Room := { frames := d.2.2.2.2.1, cells := 0, slots := 0, locals := d.2.2.2.2.2 }
abbrev qv_wl (d : qv_M) : List Cond := Cond.code d.1 d.2.1 d.2.2.1 d.2.2.2.1 :: qv_WS
def qv_X (g : qv_G) (d : qv_M) (p : Program) (s : State) (m : MethodId) (args : Array Value) (meth : Method) (c : Code) (A : Nat → Prop) : Prop :=
  p.tables.exec = Jvm.exec ∧ c.code = d.2.1 ∧ c.maxLocals = d.2.2.1 ∧ s.vm.findClass d.1.cls = some m.cls ∧ (∀ w ∈ qv_wl d, w.before args s = true) ∧ meth.sig.returnType = d.2.2.2.1 ∧ meth.locks = false ∧ va_K g.1 vwCl (qv_ty g) s ∧ (∀ q, s.heap.size ≤ q → A q) ∧ qv_S g A s
/-- the locals: by their places; nothing is said where none stands -/
def qv_L (ls : Array Slot) (nL : Nat) (ad : Nat → Nat) (lo : List (Option Value)) : Prop := ls.size = nL ∧ lv_wf ls ∧ ∀ (i : Nat) (v : Value), lo[i]? = some (some v) → ls[i]? = some (.val (qv_rv ad v))
def qv_Q (g : qv_G) (A : Nat → Prop) (R : Option Value × qv_H) : Array Value → State → Outcome → State → Prop := fun _ st oc t => (oc = .returned (R.1.map (qv_rv (qv_ad g))) ∧ qv_P g A R.2 t.heap) ∧ va_F A st t
def qv_J (l : Launch) (g : qv_G) (d : qv_M) (pc : Nat) (lo : List (Option Value)) (st : List Value) (h : qv_H) (R : Option Value × qv_H) : Prop :=
  ∀ (p : Program) (e : Env) (s : State) (m : MethodId) (args : Array Value) (below : List Frame) (meth : Method) (c : Code) (A : Nat → Prop) (H : Heap) (locs : List Loc) (ls : Array Slot),
    qv_X g d p s m args meth c A → qv_P g A h H → va_S A s.heap H locs → qv_L ls d.2.2.1 (qv_ad g) lo →
    W p l e (qv_rm d) s m args below meth c H locs 0 0 (MQ below (qv_Q g A R) args s 0 0 A) (F0 m pc ls (st.map (qv_rv (qv_ad g))))

section QV
variable {l : Launch} {g : qv_G} {d : qv_M} {pc : Nat} {lo : List (Option Value)} {st : List Value} {h : qv_H} {R : Option Value × qv_H}
theorem qv_iconst {n : Int} {v : Int32} (hd : decode d.2.1 pc = .ok (.iconst n, 1)) (hv : Int32.ofInt n = v) (k : qv_J l g d (pc + 1) lo (.int v :: st) h R) : qv_J l g d pc lo (st) h R := by
  intro p e s m args below meth c A H locs ls X P S L
  exact lv_iconst X.1 X.2.1 hd hv (k p e s m args below meth c A H locs ls X P S L)
theorem qv_bipush {n : Int} {v : Int32} (hd : decode d.2.1 pc = .ok (.bipush n, 2)) (hv : (Int8.ofInt n).toInt32 = v) (k : qv_J l g d (pc + 2) lo (.int v :: st) h R) : qv_J l g d pc lo (st) h R := by
  intro p e s m args below meth c A H locs ls X P S L
  exact lv_bipush X.1 X.2.1 hd hv (k p e s m args below meth c A H locs ls X P S L)
theorem qv_sipush {n : Int} {v : Int32} (hd : decode d.2.1 pc = .ok (.sipush n, 3)) (hv : (Int16.ofInt n).toInt32 = v) (k : qv_J l g d (pc + 3) lo (.int v :: st) h R) : qv_J l g d pc lo (st) h R := by
  intro p e s m args below meth c A H locs ls X P S L
  exact lv_sipush X.1 X.2.1 hd hv (k p e s m args below meth c A H locs ls X P S L)
theorem qv_lconst {n : Fin 2} {v : Int64} (hd : decode d.2.1 pc = .ok (.lconst n, 1)) (hv : Int64.ofNat (n : Nat) = v) (k : qv_J l g d (pc + 1) lo (.long v :: st) h R) : qv_J l g d pc lo (st) h R := by
  intro p e s m args below meth c A H locs ls X P S L
  exact lv_lconst X.1 X.2.1 hd hv (k p e s m args below meth c A H locs ls X P S L)
theorem qv_iadd {x y : Int32} (hd : decode d.2.1 pc = .ok (.iadd, 1)) (k : qv_J l g d (pc + 1) lo (.int (x + y) :: st) h R) : qv_J l g d pc lo (.int y :: .int x :: st) h R := by
  intro p e s m args below meth c A H locs ls X P S L
  exact lv_iadd X.1 X.2.1 hd (k p e s m args below meth c A H locs ls X P S L)
theorem qv_isub {x y : Int32} (hd : decode d.2.1 pc = .ok (.isub, 1)) (k : qv_J l g d (pc + 1) lo (.int (x - y) :: st) h R) : qv_J l g d pc lo (.int y :: .int x :: st) h R := by
  intro p e s m args below meth c A H locs ls X P S L
  exact lv_isub X.1 X.2.1 hd (k p e s m args below meth c A H locs ls X P S L)
theorem qv_imul {x y : Int32} (hd : decode d.2.1 pc = .ok (.imul, 1)) (k : qv_J l g d (pc + 1) lo (.int (x * y) :: st) h R) : qv_J l g d pc lo (.int y :: .int x :: st) h R := by
  intro p e s m args below meth c A H locs ls X P S L
  exact lv_imul X.1 X.2.1 hd (k p e s m args below meth c A H locs ls X P S L)
theorem qv_iand {x y : Int32} (hd : decode d.2.1 pc = .ok (.iand, 1)) (k : qv_J l g d (pc + 1) lo (.int (x &&& y) :: st) h R) : qv_J l g d pc lo (.int y :: .int x :: st) h R := by
  intro p e s m args below meth c A H locs ls X P S L
  exact lv_iand X.1 X.2.1 hd (k p e s m args below meth c A H locs ls X P S L)
theorem qv_ior {x y : Int32} (hd : decode d.2.1 pc = .ok (.ior, 1)) (k : qv_J l g d (pc + 1) lo (.int (x ||| y) :: st) h R) : qv_J l g d pc lo (.int y :: .int x :: st) h R := by
  intro p e s m args below meth c A H locs ls X P S L
  exact lv_ior X.1 X.2.1 hd (k p e s m args below meth c A H locs ls X P S L)
theorem qv_ixor {x y : Int32} (hd : decode d.2.1 pc = .ok (.ixor, 1)) (k : qv_J l g d (pc + 1) lo (.int (x ^^^ y) :: st) h R) : qv_J l g d pc lo (.int y :: .int x :: st) h R := by
  intro p e s m args below meth c A H locs ls X P S L
  exact lv_ixor X.1 X.2.1 hd (k p e s m args below meth c A H locs ls X P S L)
theorem qv_ishl {x y : Int32} (hd : decode d.2.1 pc = .ok (.ishl, 1)) (k : qv_J l g d (pc + 1) lo (.int (x <<< (y &&& 31)) :: st) h R) : qv_J l g d pc lo (.int y :: .int x :: st) h R := by
  intro p e s m args below meth c A H locs ls X P S L
  exact lv_ishl X.1 X.2.1 hd (k p e s m args below meth c A H locs ls X P S L)
theorem qv_ishr {x y : Int32} (hd : decode d.2.1 pc = .ok (.ishr, 1)) (k : qv_J l g d (pc + 1) lo (.int (x >>> (y &&& 31)) :: st) h R) : qv_J l g d pc lo (.int y :: .int x :: st) h R := by
  intro p e s m args below meth c A H locs ls X P S L
  exact lv_ishr X.1 X.2.1 hd (k p e s m args below meth c A H locs ls X P S L)
theorem qv_iushr {x y : Int32} (hd : decode d.2.1 pc = .ok (.iushr, 1)) (k : qv_J l g d (pc + 1) lo (.int ((x.toUInt32 >>> (y.toUInt32 &&& Int32.toUInt32 31)).toInt32) :: st) h R) : qv_J l g d pc lo (.int y :: .int x :: st) h R := by
  intro p e s m args below meth c A H locs ls X P S L
  exact lv_iushr X.1 X.2.1 hd rfl (k p e s m args below meth c A H locs ls X P S L)
theorem qv_idiv {x y : Int32} (hd : decode d.2.1 pc = .ok (.idiv, 1)) (hne : ¬ y = 0) (k : qv_J l g d (pc + 1) lo (.int (x / y) :: st) h R) : qv_J l g d pc lo (.int y :: .int x :: st) h R := by
  intro p e s m args below meth c A H locs ls X P S L
  exact lv_idiv X.1 X.2.1 hd hne (k p e s m args below meth c A H locs ls X P S L)
theorem qv_irem {x y : Int32} (hd : decode d.2.1 pc = .ok (.irem, 1)) (hne : ¬ y = 0) (k : qv_J l g d (pc + 1) lo (.int (x - x / y * y) :: st) h R) : qv_J l g d pc lo (.int y :: .int x :: st) h R := by
  intro p e s m args below meth c A H locs ls X P S L
  exact lv_irem X.1 X.2.1 hd hne (k p e s m args below meth c A H locs ls X P S L)
theorem qv_ineg {x : Int32} (hd : decode d.2.1 pc = .ok (.ineg, 1)) (k : qv_J l g d (pc + 1) lo (.int (-x) :: st) h R) : qv_J l g d pc lo (.int x :: st) h R := by
  intro p e s m args below meth c A H locs ls X P S L
  exact lv_ineg X.1 X.2.1 hd (k p e s m args below meth c A H locs ls X P S L)
theorem qv_i2c {x : Int32} (hd : decode d.2.1 pc = .ok (.i2c, 1)) (k : qv_J l g d (pc + 1) lo (.int ((x.toUInt32 % 65536).toInt32) :: st) h R) : qv_J l g d pc lo (.int x :: st) h R := by
  intro p e s m args below meth c A H locs ls X P S L
  exact lv_i2c X.1 X.2.1 hd rfl (k p e s m args below meth c A H locs ls X P S L)
theorem qv_land {x y : Int64} (hd : decode d.2.1 pc = .ok (.land, 1)) (k : qv_J l g d (pc + 1) lo (.long (x &&& y) :: st) h R) : qv_J l g d pc lo (.long y :: .long x :: st) h R := by
  intro p e s m args below meth c A H locs ls X P S L
  exact lv_land X.1 X.2.1 hd (k p e s m args below meth c A H locs ls X P S L)
theorem qv_lor {x y : Int64} (hd : decode d.2.1 pc = .ok (.lor, 1)) (k : qv_J l g d (pc + 1) lo (.long (x ||| y) :: st) h R) : qv_J l g d pc lo (.long y :: .long x :: st) h R := by
  intro p e s m args below meth c A H locs ls X P S L
  exact lv_lor X.1 X.2.1 hd (k p e s m args below meth c A H locs ls X P S L)
theorem qv_lshl {x : Int64} {y : Int32} (hd : decode d.2.1 pc = .ok (.lshl, 1)) (k : qv_J l g d (pc + 1) lo (.long (x <<< (y.toInt64 &&& 63)) :: st) h R) : qv_J l g d pc lo (.int y :: .long x :: st) h R := by
  intro p e s m args below meth c A H locs ls X P S L
  exact lv_lshl X.1 X.2.1 hd rfl (k p e s m args below meth c A H locs ls X P S L)
theorem qv_lcmp {x y : Int64} (hd : decode d.2.1 pc = .ok (.lcmp, 1)) (k : qv_J l g d (pc + 1) lo (.int (lg_cmp x y) :: st) h R) : qv_J l g d pc lo (.long y :: .long x :: st) h R := by
  intro p e s m args below meth c A H locs ls X P S L
  exact W.lcmp X.1 X.2.1 hd (k p e s m args below meth c A H locs ls X P S L)
theorem qv_cat (ad : Nat → Nat) (v : Value) : (qv_rv ad v).category = v.category := by cases v <;> rfl
theorem qv_dup {v : Value} (hd : decode d.2.1 pc = .ok (.dup, 1)) (hv : v.category = 1) (k : qv_J l g d (pc + 1) lo (v :: v :: st) h R) : qv_J l g d pc lo (v :: st) h R := by
  intro p e s m args below meth c A H locs ls X P S L
  exact lv_dup X.1 X.2.1 hd ((qv_cat _ _).trans hv) (k p e s m args below meth c A H locs ls X P S L)
theorem qv_dup2 {v u : Value} (hd : decode d.2.1 pc = .ok (.dup2, 1)) (hv : v.category = 1) (hu : u.category = 1) (k : qv_J l g d (pc + 1) lo (v :: u :: v :: u :: st) h R) : qv_J l g d pc lo (v :: u :: st) h R := by
  intro p e s m args below meth c A H locs ls X P S L
  exact lv_dup2_11 X.1 X.2.1 hd ((qv_cat _ _).trans hv) ((qv_cat _ _).trans hu) (k p e s m args below meth c A H locs ls X P S L)
theorem qv_pop {v : Value} (hd : decode d.2.1 pc = .ok (.pop, 1)) (hv : v.category = 1) (k : qv_J l g d (pc + 1) lo (st) h R) : qv_J l g d pc lo (v :: st) h R := by
  intro p e s m args below meth c A H locs ls X P S L
  exact lv_pop X.1 X.2.1 hd ((qv_cat _ _).trans hv) (k p e s m args below meth c A H locs ls X P S L)
theorem qv_iload_n {kk : Fin 4} {x : Int32} {i : Nat} (hd : decode d.2.1 pc = .ok (.iload_n kk, 1)) (hi : (kk : Nat) = i) (hl : lo[i]? = some (some (.int x))) (k : qv_J l g d (pc + 1) lo (.int x :: st) h R) : qv_J l g d pc lo st h R := by
  intro p e s m args below meth c A H locs ls X P S L
  exact lv_iload_n X.1 X.2.1 hd hi (L.2.2 _ _ hl) (k p e s m args below meth c A H locs ls X P S L)
theorem qv_iload {x : Int32} {i : Nat} (hd : decode d.2.1 pc = .ok (.iload i, 2)) (hl : lo[i]? = some (some (.int x))) (k : qv_J l g d (pc + 2) lo (.int x :: st) h R) : qv_J l g d pc lo st h R := by
  intro p e s m args below meth c A H locs ls X P S L
  exact lv_iload X.1 X.2.1 hd (L.2.2 _ _ hl) (k p e s m args below meth c A H locs ls X P S L)
theorem qv_lload_n {kk : Fin 4} {x : Int64} {i : Nat} (hd : decode d.2.1 pc = .ok (.lload_n kk, 1)) (hi : (kk : Nat) = i) (hl : lo[i]? = some (some (.long x))) (k : qv_J l g d (pc + 1) lo (.long x :: st) h R) : qv_J l g d pc lo st h R := by
  intro p e s m args below meth c A H locs ls X P S L
  exact lv_lload_n X.1 X.2.1 hd hi (L.2.2 _ _ hl) (k p e s m args below meth c A H locs ls X P S L)
theorem qv_lload {x : Int64} {i : Nat} (hd : decode d.2.1 pc = .ok (.lload i, 2)) (hl : lo[i]? = some (some (.long x))) (k : qv_J l g d (pc + 2) lo (.long x :: st) h R) : qv_J l g d pc lo st h R := by
  intro p e s m args below meth c A H locs ls X P S L
  exact lv_lload X.1 X.2.1 hd (L.2.2 _ _ hl) (k p e s m args below meth c A H locs ls X P S L)
theorem qv_aload_n {kk : Fin 4} {x : Nat} {i : Nat} (hd : decode d.2.1 pc = .ok (.aload_n kk, 1)) (hi : (kk : Nat) = i) (hl : lo[i]? = some (some (.ref x))) (k : qv_J l g d (pc + 1) lo (.ref x :: st) h R) : qv_J l g d pc lo st h R := by
  intro p e s m args below meth c A H locs ls X P S L
  exact lv_aload_n X.1 X.2.1 hd hi (L.2.2 _ _ hl) (k p e s m args below meth c A H locs ls X P S L)
theorem qv_aload {x : Nat} {i : Nat} (hd : decode d.2.1 pc = .ok (.aload i, 2)) (hl : lo[i]? = some (some (.ref x))) (k : qv_J l g d (pc + 2) lo (.ref x :: st) h R) : qv_J l g d pc lo st h R := by
  intro p e s m args below meth c A H locs ls X P S L
  exact lv_aload X.1 X.2.1 hd (L.2.2 _ _ hl) (k p e s m args below meth c A H locs ls X P S L)
/-- the locals' facts as the kit's list -/
def qv_al (ad : Nat → Nat) (lo : List (Option Value)) : List (Nat × Value) := (List.range lo.length).filterMap (fun i => match lo[i]? with
  | some (some v) => some (i, qv_rv ad v)
  | _ => none)
theorem qv_al_mem {ad : Nat → Nat} {lo : List (Option Value)} {q : Nat × Value} : q ∈ qv_al ad lo ↔ ∃ v, lo[q.1]? = some (some v) ∧ q.2 = qv_rv ad v := by
  unfold qv_al
  rw [List.mem_filterMap]
  constructor
  · rintro ⟨i, -, hi⟩
    split at hi
    · rename_i v hv
      cases hi
      exact ⟨v, hv, rfl⟩
    · cases hi
  · rintro ⟨v, hv, e⟩
    refine ⟨q.1, List.mem_range.mpr ?_, ?_⟩
    · exact (List.getElem?_eq_some_iff.mp hv).1
    · rw [hv]
      show some (q.1, qv_rv ad v) = some q
      rw [← e]
theorem qv_al_has {ls : Array Slot} {nL : Nat} {ad : Nat → Nat} {lo : List (Option Value)} (L : qv_L ls nL ad lo) : lv_has ls nL (qv_al ad lo) := by
  refine ⟨L.1, L.2.1, fun q hq => ?_⟩
  obtain ⟨v, h1, h2⟩ := qv_al_mem.mp hq
  rw [h2]
  exact L.2.2 _ _ h1
/-- no long stands just ahead of place i -/
def qv_n2 (lo : List (Option Value)) (i : Nat) : Bool := match lo[i - 1]? with
  | some (some v) => i == 0 || v.category == 1
  | _ => true
theorem qv_st1 {ls : Array Slot} {nL : Nat} {ad : Nat → Nat} {lo : List (Option Value)} {i : Nat} {v : Value} (h2 : qv_n2 lo i = true) (hi : i < lo.length) (L : lv_has ls nL ((i, qv_rv ad v) :: (qv_al ad lo).filter (fun q => !(q.1 == i) && !(q.1 + 1 == i && q.2.category == 2)))) : qv_L ls nL ad (lo.set i (some v)) := by
  refine ⟨L.1, L.2.1, fun j u hj => ?_⟩
  by_cases hji : j = i
  · subst hji
    rw [List.getElem?_set_self hi] at hj
    cases hj
    exact L.2.2 _ List.mem_cons_self
  · rw [List.getElem?_set_ne (Ne.symm hji)] at hj
    refine L.2.2 (j, qv_rv ad u) (List.mem_cons_of_mem _ (List.mem_filter.mpr ⟨qv_al_mem.mpr ⟨u, hj, rfl⟩, ?_⟩))
    have h3 : ¬ (j + 1 = i ∧ u.category = 2) := by
      rintro ⟨rfl, hc⟩
      unfold qv_n2 at h2
      simp [hj, hc] at h2
    have h4 : (qv_rv ad u).category = u.category := qv_cat ad u
    simp [hji, h4]
    omega
theorem qv_st2 {ls : Array Slot} {nL : Nat} {ad : Nat → Nat} {lo : List (Option Value)} {i : Nat} {v : Value} (h2 : qv_n2 lo i = true) (hi : i < lo.length) (L : lv_has ls nL ((i, qv_rv ad v) :: (qv_al ad lo).filter (fun q => !(q.1 == i) && (!(q.1 == i + 1) && !(q.1 + 1 == i && q.2.category == 2))))) : qv_L ls nL ad ((lo.set i (some v)).set (i + 1) none) := by
  refine ⟨L.1, L.2.1, fun j u hj => ?_⟩
  by_cases hj1 : j = i + 1
  · subst hj1
    by_cases hl : i + 1 < (lo.set i (some v)).length
    · rw [List.getElem?_set_self hl] at hj
      cases hj
    · rw [List.getElem?_eq_none (by rw [List.length_set]; omega)] at hj
      cases hj
  · rw [List.getElem?_set_ne (Ne.symm hj1)] at hj
    by_cases hji : j = i
    · subst hji
      rw [List.getElem?_set_self hi] at hj
      cases hj
      exact L.2.2 _ List.mem_cons_self
    · rw [List.getElem?_set_ne (Ne.symm hji)] at hj
      refine L.2.2 (j, qv_rv ad u) (List.mem_cons_of_mem _ (List.mem_filter.mpr ⟨qv_al_mem.mpr ⟨u, hj, rfl⟩, ?_⟩))
      have h3 : ¬ (j + 1 = i ∧ u.category = 2) := by
        rintro ⟨rfl, hc⟩
        unfold qv_n2 at h2
        simp [hj, hc] at h2
      have h4 : (qv_rv ad u).category = u.category := qv_cat ad u
      simp [hji, hj1, h4]
      omega
theorem qv_istore_n {kk : Fin 4} {x : Int32} {i : Nat} {lo2 : List (Option Value)} (hd : decode d.2.1 pc = .ok (.istore_n kk, 1)) (hi : (kk : Nat) = i) (hn : i < d.2.2.1) (h2 : qv_n2 lo i = true) (hi2 : i < lo.length) (hlo : lo.set i (some (.int x)) = lo2) (k : qv_J l g d (pc + 1) lo2 st h R) : qv_J l g d pc lo (.int x :: st) h R := by
  intro p e s m args below meth c A H locs ls X P S L
  exact lv_istore_n X.1 X.2.1 hd hi (qv_al_has L) hn rfl (fun ls' hl => k p e s m args below meth c A H locs ls' X P S (hlo ▸ qv_st1 (v := .int x) h2 hi2 hl))
theorem qv_istore {x : Int32} {i : Nat} {lo2 : List (Option Value)} (hd : decode d.2.1 pc = .ok (.istore i, 2)) (hn : i < d.2.2.1) (h2 : qv_n2 lo i = true) (hi2 : i < lo.length) (hlo : lo.set i (some (.int x)) = lo2) (k : qv_J l g d (pc + 2) lo2 st h R) : qv_J l g d pc lo (.int x :: st) h R := by
  intro p e s m args below meth c A H locs ls X P S L
  exact lv_istore X.1 X.2.1 hd (qv_al_has L) hn rfl (fun ls' hl => k p e s m args below meth c A H locs ls' X P S (hlo ▸ qv_st1 (v := .int x) h2 hi2 hl))
theorem qv_astore_n {kk : Fin 4} {x : Nat} {i : Nat} {lo2 : List (Option Value)} (hd : decode d.2.1 pc = .ok (.astore_n kk, 1)) (hi : (kk : Nat) = i) (hn : i < d.2.2.1) (h2 : qv_n2 lo i = true) (hi2 : i < lo.length) (hlo : lo.set i (some (.ref x)) = lo2) (k : qv_J l g d (pc + 1) lo2 st h R) : qv_J l g d pc lo (.ref x :: st) h R := by
  intro p e s m args below meth c A H locs ls X P S L
  exact lv_astore_n X.1 X.2.1 hd hi (qv_al_has L) hn rfl (fun ls' hl => k p e s m args below meth c A H locs ls' X P S (hlo ▸ qv_st1 (v := .ref x) h2 hi2 hl))
theorem qv_astore {x : Nat} {i : Nat} {lo2 : List (Option Value)} (hd : decode d.2.1 pc = .ok (.astore i, 2)) (hn : i < d.2.2.1) (h2 : qv_n2 lo i = true) (hi2 : i < lo.length) (hlo : lo.set i (some (.ref x)) = lo2) (k : qv_J l g d (pc + 2) lo2 st h R) : qv_J l g d pc lo (.ref x :: st) h R := by
  intro p e s m args below meth c A H locs ls X P S L
  exact lv_astore X.1 X.2.1 hd (qv_al_has L) hn rfl (fun ls' hl => k p e s m args below meth c A H locs ls' X P S (hlo ▸ qv_st1 (v := .ref x) h2 hi2 hl))
theorem qv_lstore_n {kk : Fin 4} {x : Int64} {i : Nat} {lo2 : List (Option Value)} (hd : decode d.2.1 pc = .ok (.lstore_n kk, 1)) (hi : (kk : Nat) = i) (hn : i + 1 < d.2.2.1) (h2 : qv_n2 lo i = true) (hi2 : i < lo.length) (hlo : (lo.set i (some (.long x))).set (i + 1) none = lo2) (k : qv_J l g d (pc + 1) lo2 st h R) : qv_J l g d pc lo (.long x :: st) h R := by
  intro p e s m args below meth c A H locs ls X P S L
  exact lv_lstore_n X.1 X.2.1 hd hi (qv_al_has L) hn rfl (fun ls' hl => k p e s m args below meth c A H locs ls' X P S (hlo ▸ qv_st2 (v := .long x) h2 hi2 hl))
theorem qv_lstore {x : Int64} {i : Nat} {lo2 : List (Option Value)} (hd : decode d.2.1 pc = .ok (.lstore i, 2)) (hn : i + 1 < d.2.2.1) (h2 : qv_n2 lo i = true) (hi2 : i < lo.length) (hlo : (lo.set i (some (.long x))).set (i + 1) none = lo2) (k : qv_J l g d (pc + 2) lo2 st h R) : qv_J l g d pc lo (.long x :: st) h R := by
  intro p e s m args below meth c A H locs ls X P S L
  exact lv_lstore X.1 X.2.1 hd (qv_al_has L) hn rfl (fun ls' hl => k p e s m args below meth c A H locs ls' X P S (hlo ▸ qv_st2 (v := .long x) h2 hi2 hl))
theorem qv_iinc {i : Nat} {n : Int} {x v : Int32} {lo2 : List (Option Value)} (hd : decode d.2.1 pc = .ok (.iinc i n, 3)) (hl : lo[i]? = some (some (.int x))) (hv : x + Int32.ofInt n = v) (hn : i < d.2.2.1) (h2 : qv_n2 lo i = true) (hlo : lo.set i (some (.int v)) = lo2) (k : qv_J l g d (pc + 3) lo2 st h R) : qv_J l g d pc lo st h R := by
  intro p e s m args below meth c A H locs ls X P S L
  obtain ⟨j, hj⟩ := List.getElem?_of_mem (qv_al_mem (ad := qv_ad g) (q := (i, .int x)) |>.mpr ⟨_, hl, rfl⟩)
  exact lv_iinc X.1 X.2.1 hd (qv_al_has L) hj hv hn rfl (fun ls' hl2 => k p e s m args below meth c A H locs ls' X P S (hlo ▸ qv_st1 (v := .int v) h2 (List.getElem?_eq_some_iff.mp hl).1 hl2))
theorem qv_goto {off : Int} {tgt : Nat} (hd : decode d.2.1 pc = .ok (.goto off, 3)) (ht : (pc : Int) + off = (tgt : Int)) (k : qv_J l g d tgt lo st h R) : qv_J l g d pc lo st h R := by
  intro p e s m args below meth c A H locs ls X P S L
  exact lv_goto X.1 X.2.1 hd ht (k p e s m args below meth c A H locs ls X P S L)
theorem qv_to {pc2 : Nat} {lo2 : List (Option Value)} {st2 : List Value} {h2 : qv_H} (k : qv_J l g d pc2 lo2 st2 h2 R) (e1 : pc = pc2) (e2 : lo = lo2) (e3 : st = st2) (e4 : h = h2) : qv_J l g d pc lo st h R := by
  subst e1 e2 e3 e4
  exact k
theorem qv_if_eq {x : Int32} {off : Int} {tgt : Nat} (hd : decode d.2.1 pc = .ok (.ifCond .eq off, 3)) (ht : (pc : Int) + off = (tgt : Int)) (kt : x = 0 → qv_J l g d tgt lo st h R) (kf : ¬ (x = 0) → qv_J l g d (pc + 3) lo st h R) : qv_J l g d pc lo (.int x :: st) h R := by
  intro p e s m args below meth c A H locs ls X P S L
  exact lv_if_eq X.1 X.2.1 hd ht (fun q => kt q p e s m args below meth c A H locs ls X P S L) (fun q => kf q p e s m args below meth c A H locs ls X P S L)
theorem qv_if_ne {x : Int32} {off : Int} {tgt : Nat} (hd : decode d.2.1 pc = .ok (.ifCond .ne off, 3)) (ht : (pc : Int) + off = (tgt : Int)) (kt : ¬ x = 0 → qv_J l g d tgt lo st h R) (kf : x = 0 → qv_J l g d (pc + 3) lo st h R) : qv_J l g d pc lo (.int x :: st) h R := by
  intro p e s m args below meth c A H locs ls X P S L
  exact lv_if_ne X.1 X.2.1 hd ht (fun q => kt q p e s m args below meth c A H locs ls X P S L) (fun q => kf q p e s m args below meth c A H locs ls X P S L)
theorem qv_if_lt {x : Int32} {off : Int} {tgt : Nat} (hd : decode d.2.1 pc = .ok (.ifCond .lt off, 3)) (ht : (pc : Int) + off = (tgt : Int)) (kt : x < 0 → qv_J l g d tgt lo st h R) (kf : ¬ (x < 0) → qv_J l g d (pc + 3) lo st h R) : qv_J l g d pc lo (.int x :: st) h R := by
  intro p e s m args below meth c A H locs ls X P S L
  exact lv_if_lt X.1 X.2.1 hd ht (fun q => kt q p e s m args below meth c A H locs ls X P S L) (fun q => kf q p e s m args below meth c A H locs ls X P S L)
theorem qv_if_ge {x : Int32} {off : Int} {tgt : Nat} (hd : decode d.2.1 pc = .ok (.ifCond .ge off, 3)) (ht : (pc : Int) + off = (tgt : Int)) (kt : 0 ≤ x → qv_J l g d tgt lo st h R) (kf : ¬ (0 ≤ x) → qv_J l g d (pc + 3) lo st h R) : qv_J l g d pc lo (.int x :: st) h R := by
  intro p e s m args below meth c A H locs ls X P S L
  exact lv_if_ge X.1 X.2.1 hd ht (fun q => kt q p e s m args below meth c A H locs ls X P S L) (fun q => kf q p e s m args below meth c A H locs ls X P S L)
theorem qv_if_gt {x : Int32} {off : Int} {tgt : Nat} (hd : decode d.2.1 pc = .ok (.ifCond .gt off, 3)) (ht : (pc : Int) + off = (tgt : Int)) (kt : 0 < x → qv_J l g d tgt lo st h R) (kf : ¬ (0 < x) → qv_J l g d (pc + 3) lo st h R) : qv_J l g d pc lo (.int x :: st) h R := by
  intro p e s m args below meth c A H locs ls X P S L
  exact lv_if_gt X.1 X.2.1 hd ht (fun q => kt q p e s m args below meth c A H locs ls X P S L) (fun q => kf q p e s m args below meth c A H locs ls X P S L)
theorem qv_if_le {x : Int32} {off : Int} {tgt : Nat} (hd : decode d.2.1 pc = .ok (.ifCond .le off, 3)) (ht : (pc : Int) + off = (tgt : Int)) (kt : x ≤ 0 → qv_J l g d tgt lo st h R) (kf : ¬ (x ≤ 0) → qv_J l g d (pc + 3) lo st h R) : qv_J l g d pc lo (.int x :: st) h R := by
  intro p e s m args below meth c A H locs ls X P S L
  exact lv_if_le X.1 X.2.1 hd ht (fun q => kt q p e s m args below meth c A H locs ls X P S L) (fun q => kf q p e s m args below meth c A H locs ls X P S L)
theorem qv_icmp_eq {x y : Int32} {off : Int} {tgt : Nat} (hd : decode d.2.1 pc = .ok (.if_icmp .eq off, 3)) (ht : (pc : Int) + off = (tgt : Int)) (kt : x = y → qv_J l g d tgt lo st h R) (kf : ¬ (x = y) → qv_J l g d (pc + 3) lo st h R) : qv_J l g d pc lo (.int y :: .int x :: st) h R := by
  intro p e s m args below meth c A H locs ls X P S L
  exact lv_icmp_eq X.1 X.2.1 hd ht (fun q => kt q p e s m args below meth c A H locs ls X P S L) (fun q => kf q p e s m args below meth c A H locs ls X P S L)
theorem qv_icmp_ne {x y : Int32} {off : Int} {tgt : Nat} (hd : decode d.2.1 pc = .ok (.if_icmp .ne off, 3)) (ht : (pc : Int) + off = (tgt : Int)) (kt : ¬ x = y → qv_J l g d tgt lo st h R) (kf : x = y → qv_J l g d (pc + 3) lo st h R) : qv_J l g d pc lo (.int y :: .int x :: st) h R := by
  intro p e s m args below meth c A H locs ls X P S L
  exact lv_icmp_ne X.1 X.2.1 hd ht (fun q => kt q p e s m args below meth c A H locs ls X P S L) (fun q => kf q p e s m args below meth c A H locs ls X P S L)
theorem qv_icmp_lt {x y : Int32} {off : Int} {tgt : Nat} (hd : decode d.2.1 pc = .ok (.if_icmp .lt off, 3)) (ht : (pc : Int) + off = (tgt : Int)) (kt : x < y → qv_J l g d tgt lo st h R) (kf : ¬ (x < y) → qv_J l g d (pc + 3) lo st h R) : qv_J l g d pc lo (.int y :: .int x :: st) h R := by
  intro p e s m args below meth c A H locs ls X P S L
  exact lv_icmp_lt X.1 X.2.1 hd ht (fun q => kt q p e s m args below meth c A H locs ls X P S L) (fun q => kf q p e s m args below meth c A H locs ls X P S L)
theorem qv_icmp_ge {x y : Int32} {off : Int} {tgt : Nat} (hd : decode d.2.1 pc = .ok (.if_icmp .ge off, 3)) (ht : (pc : Int) + off = (tgt : Int)) (kt : y ≤ x → qv_J l g d tgt lo st h R) (kf : ¬ (y ≤ x) → qv_J l g d (pc + 3) lo st h R) : qv_J l g d pc lo (.int y :: .int x :: st) h R := by
  intro p e s m args below meth c A H locs ls X P S L
  exact lv_icmp_ge X.1 X.2.1 hd ht (fun q => kt q p e s m args below meth c A H locs ls X P S L) (fun q => kf q p e s m args below meth c A H locs ls X P S L)
theorem qv_icmp_gt {x y : Int32} {off : Int} {tgt : Nat} (hd : decode d.2.1 pc = .ok (.if_icmp .gt off, 3)) (ht : (pc : Int) + off = (tgt : Int)) (kt : y < x → qv_J l g d tgt lo st h R) (kf : ¬ (y < x) → qv_J l g d (pc + 3) lo st h R) : qv_J l g d pc lo (.int y :: .int x :: st) h R := by
  intro p e s m args below meth c A H locs ls X P S L
  exact lv_icmp_gt X.1 X.2.1 hd ht (fun q => kt q p e s m args below meth c A H locs ls X P S L) (fun q => kf q p e s m args below meth c A H locs ls X P S L)
theorem qv_icmp_le {x y : Int32} {off : Int} {tgt : Nat} (hd : decode d.2.1 pc = .ok (.if_icmp .le off, 3)) (ht : (pc : Int) + off = (tgt : Int)) (kt : x ≤ y → qv_J l g d tgt lo st h R) (kf : ¬ (x ≤ y) → qv_J l g d (pc + 3) lo st h R) : qv_J l g d pc lo (.int y :: .int x :: st) h R := by
  intro p e s m args below meth c A H locs ls X P S L
  exact lv_icmp_le X.1 X.2.1 hd ht (fun q => kt q p e s m args below meth c A H locs ls X P S L) (fun q => kf q p e s m args below meth c A H locs ls X P S L)
theorem qv_tsIn {dflt lw hi : Int} {offs : Array Int} {len : Nat} {x : Int32} {off : Int} {tgt : Nat} (k0 : Int32) (hx : x = k0) (hd : decode d.2.1 pc = .ok (.tableswitch dflt lw hi offs, len)) (h1 : ¬ k0.toInt < lw) (h2 : ¬ hi < k0.toInt) (ho : offs[(k0.toInt - lw).toNat]? = some off) (ht : (pc : Int) + off = (tgt : Int)) (k : qv_J l g d tgt lo st h R) : qv_J l g d pc lo (.int x :: st) h R := by
  subst hx
  intro p e s m args below meth c A H locs ls X P S L
  exact lv_tableIn X.1 X.2.1 hd h1 h2 ho ht (k p e s m args below meth c A H locs ls X P S L)
theorem qv_tsOut {dflt lw hi : Int} {offs : Array Int} {len : Nat} {x : Int32} {tgt : Nat} (hd : decode d.2.1 pc = .ok (.tableswitch dflt lw hi offs, len)) (hx : x.toInt < lw ∨ hi < x.toInt) (ht : (pc : Int) + dflt = (tgt : Int)) (k : qv_J l g d tgt lo st h R) : qv_J l g d pc lo (.int x :: st) h R := by
  intro p e s m args below meth c A H locs ls X P S L
  exact lv_tableOut X.1 X.2.1 hd hx ht (k p e s m args below meth c A H locs ls X P S L)
theorem qv_ldc {index : Nat} {v : Int32} (hc : Cond.constant d.1.cls index v ∈ qv_WS) (hd : decode d.2.1 pc = .ok (.ldc index, 2)) (k : qv_J l g d (pc + 2) lo (.int v :: st) h R) : qv_J l g d pc lo st h R := by
  intro p e s m args below meth c A H locs ls X P S L
  exact lv_ldc X.1 X.2.1 X.2.2.2.1 (X.2.2.2.2.1 _ (List.mem_cons_of_mem _ hc)) hd (k p e s m args below meth c A H locs ls X P S L)
theorem qv_ldcw {index : Nat} {v : Int32} (hc : Cond.constant d.1.cls index v ∈ qv_WS) (hd : decode d.2.1 pc = .ok (.ldc_w index, 3)) (k : qv_J l g d (pc + 3) lo (.int v :: st) h R) : qv_J l g d pc lo st h R := by
  intro p e s m args below meth c A H locs ls X P S L
  exact lv_ldcw X.1 X.2.1 X.2.2.2.1 (X.2.2.2.2.1 _ (List.mem_cons_of_mem _ hc)) hd (k p e s m args below meth c A H locs ls X P S L)
/-- a text's ldc: the ref of its place -/
theorem qv_ldcs (i : Nat) (hi : i < 8) {index : Nat} (hix : qv_ix.getD i 0 = index) (ho : d.1.cls = "TrueOneWay$Text") (hd : decode d.2.1 pc = .ok (.ldc index, 2)) (k : qv_J l g d (pc + 2) lo (.ref (1000 + i) :: st) h R) : qv_J l g d pc lo st h R := by
  intro p e s m args below meth c A H locs ls X P S L
  obtain ⟨h1, h2, h3, h4⟩ := X.2.2.2.2.2.2.2.2.2
  subst hix
  have h5 := h2 i hi
  rw [← ho] at h5
  exact va_ldcS X.1 X.2.1 X.2.2.2.1 h5 hd (k p e s m args below meth c A H locs ls X P S L)
end QV
