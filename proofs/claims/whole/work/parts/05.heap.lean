/-! ===== 05: reads and writes of the picture, returns, calls ===== -/
def qv_gI (h : qv_H) (ci o k : Nat) : Option Int32 := match h o with
  | .inr (c, fs) => if c = ci then (match fs[k]? with
    | some (.int v) => some v
    | _ => none) else none
  | _ => none
def qv_gR (h : qv_H) (ci o k : Nat) : Option Nat := match h o with
  | .inr (c, fs) => if c = ci then (match fs[k]? with
    | some (.ref v) => some v
    | _ => none) else none
  | _ => none
def qv_pI (h : qv_H) (ci o k : Nat) (v : Int32) : Option qv_H := match h o with
  | .inr (c, fs) => if c = ci ∧ k < fs.length then some (qv_set h o (.inr (c, fs.set k (.int v)))) else none
  | _ => none
def qv_pZ (h : qv_H) (ci o k : Nat) (v : Int32) : Option qv_H := if v &&& 1 = v then qv_pI h ci o k v else none
def qv_ob (h : qv_H) (ci o : Nat) : Option Unit := match h o with
  | .inr (c, fs) => if c = ci ∧ ¬ fs.length = 0 then some () else none
  | _ => none
def qv_aI (h : qv_H) (z : Bool) (o : Nat) (i : Int32) : Option Int32 := match h o with
  | .inl (b, n, f) => if b = z ∧ ¬ (i < 0 ∨ n ≤ i.toNatClampNeg) then some (f i.toNatClampNeg) else none
  | _ => none
def qv_sI (h : qv_H) (z : Bool) (o : Nat) (i x : Int32) : Option qv_H := match h o with
  | .inl (b, n, f) => if b = z ∧ ¬ (i < 0 ∨ n ≤ i.toNatClampNeg) then some (qv_set h o (.inl (b, n, upd f i.toNatClampNeg (cond z (x &&& 1) x)))) else none
  | _ => none
def qv_ln (h : qv_H) (o : Nat) : Option Int32 := match h o with
  | .inl (_, n, _) => some (Int32.ofNat n)
  | _ => none
/-- what an answer of a boolean method must be -/
def qv_b1 (v : Int32) : Option Int32 := if v &&& 1 = v then some v else none
def qv_dv (x y : Int32) : Option Int32 := if y = 0 then none else some (x / y)
def qv_rem (x y : Int32) : Option Int32 := if y = 0 then none else some (x - x / y * y)
theorem qv_bind {α β : Type} {x : Option α} {f : α → Option β} {r : β} (h : x.bind f = some r) : ∃ a, x = some a ∧ f a = some r := by
  cases x with
  | none => cases h
  | some a => exact ⟨a, rfl, h⟩
theorem qv_pos {α : Type} {c : Prop} [Decidable c] {a b r : α} (hc : c) (h : (if c then a else b) = r) : a = r := by rw [if_pos hc] at h; exact h
theorem qv_neg {α : Type} {c : Prop} [Decidable c] {a b r : α} (hc : ¬ c) (h : (if c then a else b) = r) : b = r := by rw [if_neg hc] at h; exact h
theorem qv_b1_of {v r : Int32} (h : qv_b1 v = some r) : v &&& 1 = v ∧ v = r := by
  unfold qv_b1 at h
  split at h
  · cases h
    exact ⟨by assumption, rfl⟩
  · cases h
theorem qv_dv_of {x y r : Int32} (h : qv_dv x y = some r) : ¬ y = 0 ∧ x / y = r := by
  unfold qv_dv at h
  split at h
  · cases h
  · cases h
    exact ⟨by assumption, rfl⟩
theorem qv_rem_of {x y r : Int32} (h : qv_rem x y = some r) : ¬ y = 0 ∧ x - x / y * y = r := by
  unfold qv_rem at h
  split at h
  · cases h
  · cases h
    exact ⟨by assumption, rfl⟩
theorem qv_gI_of {h : qv_H} {ci o k : Nat} {v : Int32} (e : qv_gI h ci o k = some v) : ∃ fs, h o = .inr (ci, fs) ∧ fs[k]? = some (.int v) := by
  unfold qv_gI at e
  split at e
  · rename_i c fs hh
    split at e
    · rename_i hc
      subst hc
      split at e
      · rename_i w hw
        cases e
        exact ⟨fs, hh, hw⟩
      · cases e
    · cases e
  · cases e
theorem qv_gR_of {h : qv_H} {ci o k : Nat} {v : Nat} (e : qv_gR h ci o k = some v) : ∃ fs, h o = .inr (ci, fs) ∧ fs[k]? = some (.ref v) := by
  unfold qv_gR at e
  split at e
  · rename_i c fs hh
    split at e
    · rename_i hc
      subst hc
      split at e
      · rename_i w hw
        cases e
        exact ⟨fs, hh, hw⟩
      · cases e
    · cases e
  · cases e
theorem qv_pI_of {h h2 : qv_H} {ci o k : Nat} {v : Int32} (e : qv_pI h ci o k v = some h2) : ∃ fs, h o = .inr (ci, fs) ∧ k < fs.length ∧ h2 = qv_set h o (.inr (ci, fs.set k (.int v))) := by
  unfold qv_pI at e
  split at e
  · rename_i c fs hh
    split at e
    · rename_i hc
      obtain ⟨hc, hk⟩ := hc
      subst hc
      cases e
      exact ⟨fs, hh, hk, rfl⟩
    · cases e
  · cases e
theorem qv_ob_of {h : qv_H} {ci o : Nat} {u : Unit} (e : qv_ob h ci o = some u) : ∃ fs, h o = .inr (ci, fs) ∧ ¬ fs.length = 0 := by
  unfold qv_ob at e
  split at e
  · rename_i c fs hh
    split at e
    · rename_i hc
      obtain ⟨hc, hk⟩ := hc
      subst hc
      exact ⟨fs, hh, hk⟩
    · cases e
  · cases e
theorem qv_aI_of {h : qv_H} {z : Bool} {o : Nat} {i v : Int32} (e : qv_aI h z o i = some v) : ∃ n f, h o = .inl (z, n, f) ∧ vp_in i n ∧ f i.toNatClampNeg = v := by
  unfold qv_aI at e
  split at e
  · rename_i b n f hh
    split at e
    · rename_i hc
      obtain ⟨hc, hk⟩ := hc
      subst hc
      cases e
      exact ⟨n, f, hh, hk, rfl⟩
    · cases e
  · cases e
theorem qv_sI_of {h h2 : qv_H} {z : Bool} {o : Nat} {i x : Int32} (e : qv_sI h z o i x = some h2) : ∃ n f, h o = .inl (z, n, f) ∧ vp_in i n ∧ h2 = qv_set h o (.inl (z, n, upd f i.toNatClampNeg (cond z (x &&& 1) x))) := by
  unfold qv_sI at e
  split at e
  · rename_i b n f hh
    split at e
    · rename_i hc
      obtain ⟨hc, hk⟩ := hc
      subst hc
      cases e
      exact ⟨n, f, hh, hk, rfl⟩
    · cases e
  · cases e
theorem qv_ln_of {h : qv_H} {o : Nat} {v : Int32} (e : qv_ln h o = some v) : ∃ z n f, h o = .inl (z, n, f) ∧ Int32.ofNat n = v := by
  unfold qv_ln at e
  split at e
  · rename_i b n f hh
    cases e
    exact ⟨b, n, f, hh, rfl⟩
  · cases e
/-- a field as a class's code names it: place ci in vwCl, slot k, its type, whether it is final -/
def qv_F (own : String) (idx ci k : Nat) (ty : FieldType) (fin : Bool) : Prop := ∃ (C : String) (T : u_T) (N : Nat) (ty0 : Nat → FieldType), vwCl[ci]? = some (C, T, N) ∧ k < N ∧ Cond.fieldLink own idx (T k).1 (T k).2.1 (T k).2.2.1 ∈ qv_WS ∧ (∀ w ∈ u_ws C T N, w ∈ qv_WS) ∧ (∀ j, j < N → parseFieldDescriptor (T j).2.2.1 = some (ty0 j)) ∧ (∀ a, a < N → ∀ b, b < N → a ≠ b → (T a).2.1 ≠ (T b).2.1) ∧ ty0 k = ty ∧ (T k).2.2.2 = fin
section QW
variable {l : Launch} {g : qv_G} {d : qv_M} {pc : Nat} {lo : List (Option Value)} {st : List Value} {h : qv_H} {R : Option Value × qv_H}
theorem qv_obj {A : Nat → Prop} {H : Heap} {o ci : Nat} {fs : List Value} (P : qv_P g A h H) (hh : h o = .inr (ci, fs)) (hne : ¬ fs.length = 0) : o < qv_n g ∧ (qv_ws g h)[o]? = some (qv_ad g o, .inr (ci, fs.map (qv_rv (qv_ad g)))) := by
  have hn : o < qv_n g := qv_lt P (fun q => by
    rw [q] at hh
    cases hh
    exact hne rfl)
  exact ⟨hn, by rw [qv_ws_at hn, hh]; rfl⟩
theorem qv_arr {A : Nat → Prop} {H : Heap} {o n : Nat} {z : Bool} {f : Nat → Int32} (P : qv_P g A h H) (hh : h o = .inl (z, n, f)) : o < qv_n g ∧ (qv_ws g h)[o]? = some (qv_ad g o, .inl (cond z g.2.2.1 g.2.1, n, .inl f)) := by
  have hn : o < qv_n g := qv_lt P (fun q => by
    rw [q] at hh
    cases hh)
  exact ⟨hn, by rw [qv_ws_at hn, hh]; rfl⟩
theorem qv_get_v {idx ci k o : Nat} {ty : FieldType} {fin : Bool} {v : Value} {fs : List Value} (hd : decode d.2.1 pc = .ok (.getfield idx, 3)) (hf : qv_F d.1.cls idx ci k ty fin) (hh : h o = .inr (ci, fs)) (hv : fs[k]? = some v) (kk : qv_J l g d (pc + 3) lo (v :: st) h R) : qv_J l g d pc lo (.ref o :: st) h R := by
  intro p e s m args below meth c A H locs ls X P S L
  obtain ⟨C, T, N, ty0, f1, f2, f3, f4, f5, f6, f7, f8⟩ := hf
  obtain ⟨hn, hw⟩ := qv_obj P hh (fun q => by rw [List.length_eq_zero_iff] at q; subst q; cases hv)
  exact va_get X.1 X.2.1 X.2.2.2.2.1 (fun w hw => List.mem_cons_of_mem _ (f4 w hw)) X.2.2.2.1 X.2.2.2.2.2.2.2.1 P.1 o hw f1 k f2 (X.2.2.2.2.1 _ (List.mem_cons_of_mem _ f3)) (fun _ q => q) (by rw [List.getElem?_map, hv]; rfl) hd (kk p e s m args below meth c A H locs ls X P S L)
theorem qv_getI {idx ci k o : Nat} {ty : FieldType} {fin : Bool} {v : Int32} (hd : decode d.2.1 pc = .ok (.getfield idx, 3)) (hf : qv_F d.1.cls idx ci k ty fin) (e : qv_gI h ci o k = some v) (kk : qv_J l g d (pc + 3) lo (.int v :: st) h R) : qv_J l g d pc lo (.ref o :: st) h R := by
  obtain ⟨fs, h1, h2⟩ := qv_gI_of e
  exact qv_get_v hd hf h1 h2 kk
theorem qv_getR {idx ci k o : Nat} {ty : FieldType} {fin : Bool} {v : Nat} (hd : decode d.2.1 pc = .ok (.getfield idx, 3)) (hf : qv_F d.1.cls idx ci k ty fin) (e : qv_gR h ci o k = some v) (kk : qv_J l g d (pc + 3) lo (.ref v :: st) h R) : qv_J l g d pc lo (.ref o :: st) h R := by
  obtain ⟨fs, h1, h2⟩ := qv_gR_of e
  exact qv_get_v hd hf h1 h2 kk
theorem qv_put_v {idx ci k o : Nat} {ty : FieldType} {v : Int32} {fs : List Value} (hd : decode d.2.1 pc = .ok (.putfield idx, 3)) (hf : qv_F d.1.cls idx ci k ty false) (hh : h o = .inr (ci, fs)) (hk : k < fs.length) (hnar : narrow ty (.int v) = .int v) (hfit : fits ty (.int v) = true) (kk : qv_J l g d (pc + 3) lo st (qv_set h o (.inr (ci, fs.set k (.int v)))) R) : qv_J l g d pc lo (.int v :: .ref o :: st) h R := by
  intro p e s m args below meth c A H locs ls X P S L
  obtain ⟨C, T, N, ty0, f1, f2, f3, f4, f5, f6, f7, f8⟩ := hf
  obtain ⟨hn, hw⟩ := qv_obj P hh (fun q => by omega)
  refine va_put (ty := ty) (v := .int v) X.1 X.2.1 X.2.2.2.2.1 (fun w hw => List.mem_cons_of_mem _ (f4 w hw)) ty0 f5 f6 X.2.2.2.1 X.2.2.2.2.2.2.2.1 P.1 P.2.1 S o hw f1 k f2 (X.2.2.2.2.1 _ (List.mem_cons_of_mem _ f3)) (fun _ q => q) f8 (by rw [f5 k f2, f7]) hnar hfit (by rw [List.length_map]; exact hk) hd (fun H1 locs1 hP hD hS => ?_)
  have e1 : (fs.map (qv_rv (qv_ad g))).set k (.int v) = (fs.set k (.int v)).map (qv_rv (qv_ad g)) := by rw [List.map_set]; rfl
  rw [e1] at hP hD
  have e2 := qv_ws_set (h := h) (.inr (ci, fs.set k (.int v))) hn
  have hP2 : va_P g.1 vwCl (qv_ws g (qv_set h o (.inr (ci, fs.set k (.int v))))) H1 := by rw [← e2]; exact hP
  have hD2 : va_D A (qv_ws g (qv_set h o (.inr (ci, fs.set k (.int v))))) := by rw [← e2]; exact hD
  exact kk p e s m args below meth c A H1 locs1 ls X ⟨hP2, hD2, fun q hq => by unfold qv_set; rw [if_neg (by omega)]; exact P.2.2 q hq⟩ hS L
theorem qv_putI {idx ci k o : Nat} {v : Int32} {h2 : qv_H} (hd : decode d.2.1 pc = .ok (.putfield idx, 3)) (hf : qv_F d.1.cls idx ci k .int false) (e : qv_pI h ci o k v = some h2) (kk : qv_J l g d (pc + 3) lo st h2 R) : qv_J l g d pc lo (.int v :: .ref o :: st) h R := by
  obtain ⟨fs, h1, hk, rfl⟩ := qv_pI_of e
  exact qv_put_v hd hf h1 hk rfl rfl kk
theorem qv_putZ {idx ci k o : Nat} {v : Int32} {h2 : qv_H} (hd : decode d.2.1 pc = .ok (.putfield idx, 3)) (hf : qv_F d.1.cls idx ci k .boolean false) (e : qv_pZ h ci o k v = some h2) (kk : qv_J l g d (pc + 3) lo st h2 R) : qv_J l g d pc lo (.int v :: .ref o :: st) h R := by
  unfold qv_pZ at e
  split at e
  · rename_i hb
    obtain ⟨fs, h1, hk, rfl⟩ := qv_pI_of e
    have e1 : narrow .boolean (.int v) = .int v := by show Value.int (v &&& 1) = _; rw [hb]
    exact qv_put_v hd hf h1 hk e1 (by
      have : v = 0 ∨ v = 1 := by
        have h3 : v.toBitVec &&& 1#32 = v.toBitVec := congrArg Int32.toBitVec hb
        have h4 : v.toBitVec.toNat ≤ 1 := by
          have h5 := congrArg BitVec.toNat h3
          rw [BitVec.toNat_and] at h5
          rw [← h5]
          exact Nat.and_le_right
        rcases (show v.toBitVec.toNat = 0 ∨ v.toBitVec.toNat = 1 by omega) with q | q
        · left; exact Int32.toBitVec_inj.mp (BitVec.eq_of_toNat_eq (by rw [q]; rfl))
        · right; exact Int32.toBitVec_inj.mp (BitVec.eq_of_toNat_eq (by rw [q]; rfl))
      rcases this with rfl | rfl <;> decide) kk
  · cases e
theorem qv_iald {o : Nat} {i v : Int32} (hd : decode d.2.1 pc = .ok (.iaload, 1)) (e : qv_aI h false o i = some v) (kk : qv_J l g d (pc + 1) lo (.int v :: st) h R) : qv_J l g d pc lo (.int i :: .ref o :: st) h R := by
  obtain ⟨n, f, h1, h2, h3⟩ := qv_aI_of e
  subst h3
  intro p e s m args below meth c A H locs ls X P S L
  obtain ⟨hn, hw⟩ := qv_arr P h1
  exact va_iald X.1 X.2.1 X.2.2.2.2.2.2.2.1 P.1 o 0 hw rfl h2 hd (kk p e s m args below meth c A H locs ls X P S L)
theorem qv_zald {o : Nat} {i v : Int32} (hd : decode d.2.1 pc = .ok (.baload, 1)) (e : qv_aI h true o i = some v) (kk : qv_J l g d (pc + 1) lo (.int v :: st) h R) : qv_J l g d pc lo (.int i :: .ref o :: st) h R := by
  obtain ⟨n, f, h1, h2, h3⟩ := qv_aI_of e
  subst h3
  intro p e s m args below meth c A H locs ls X P S L
  obtain ⟨hn, hw⟩ := qv_arr P h1
  exact va_zald X.1 X.2.1 X.2.2.2.2.2.2.2.1 P.1 o 1 hw rfl h2 hd (kk p e s m args below meth c A H locs ls X P S L)
theorem qv_iast {o : Nat} {i x : Int32} {h2 : qv_H} (hd : decode d.2.1 pc = .ok (.iastore, 1)) (e : qv_sI h false o i x = some h2) (kk : qv_J l g d (pc + 1) lo st h2 R) : qv_J l g d pc lo (.int x :: .int i :: .ref o :: st) h R := by
  obtain ⟨n, f, h1, h3, rfl⟩ := qv_sI_of e
  intro p e s m args below meth c A H locs ls X P S L
  obtain ⟨hn, hw⟩ := qv_arr P h1
  refine va_iast X.1 X.2.1 X.2.2.2.2.2.2.2.1 P.1 P.2.1 S o 0 hw rfl h3 hd (fun H1 locs1 hP hD hS => ?_)
  have e2 := qv_ws_set (h := h) (.inl (false, n, upd f i.toNatClampNeg (cond false (x &&& 1) x))) hn
  exact kk p e s m args below meth c A H1 locs1 ls X ⟨by rw [← e2]; exact hP, by rw [← e2]; exact hD, fun q hq => by unfold qv_set; rw [if_neg (by omega)]; exact P.2.2 q hq⟩ hS L
theorem qv_zast {o : Nat} {i x : Int32} {h2 : qv_H} (hd : decode d.2.1 pc = .ok (.bastore, 1)) (e : qv_sI h true o i x = some h2) (kk : qv_J l g d (pc + 1) lo st h2 R) : qv_J l g d pc lo (.int x :: .int i :: .ref o :: st) h R := by
  obtain ⟨n, f, h1, h3, rfl⟩ := qv_sI_of e
  intro p e s m args below meth c A H locs ls X P S L
  obtain ⟨hn, hw⟩ := qv_arr P h1
  refine va_zast X.1 X.2.1 X.2.2.2.2.2.2.2.1 P.1 P.2.1 S o 1 hw rfl h3 hd (fun H1 locs1 hP hD hS => ?_)
  have e2 := qv_ws_set (h := h) (.inl (true, n, upd f i.toNatClampNeg (cond true (x &&& 1) x))) hn
  exact kk p e s m args below meth c A H1 locs1 ls X ⟨by rw [← e2]; exact hP, by rw [← e2]; exact hD, fun q hq => by unfold qv_set; rw [if_neg (by omega)]; exact P.2.2 q hq⟩ hS L
theorem qv_alen {o : Nat} {v : Int32} (hd : decode d.2.1 pc = .ok (.arraylength, 1)) (e : qv_ln h o = some v) (kk : qv_J l g d (pc + 1) lo (.int v :: st) h R) : qv_J l g d pc lo (.ref o :: st) h R := by
  obtain ⟨z, n, f, h1, h2⟩ := qv_ln_of e
  intro p e s m args below meth c A H locs ls X P S L
  obtain ⟨hn, hw⟩ := qv_arr P h1
  cases z with
  | false => exact va_alen (ty := .int) X.1 X.2.1 X.2.2.2.2.2.2.2.1 P.1 o 0 hw rfl h2 hd (kk p e s m args below meth c A H locs ls X P S L)
  | true => exact va_alen (ty := .boolean) X.1 X.2.1 X.2.2.2.2.2.2.2.1 P.1 o 1 hw rfl h2 hd (kk p e s m args below meth c A H locs ls X P S L)
theorem qv_iret {v : Int32} (hd : decode d.2.1 pc = .ok (.ireturn, 1)) (hr : d.2.2.2.1 = some .int) : qv_J l g d pc lo [.int v] h (some (.int v), h) := by
  intro p e s m args below meth c A H locs ls X P S L
  exact W.iret X.1 X.2.1 (X.2.2.2.2.2.1.trans hr) (fun t ht hW => ⟨⟨rfl, by rw [ht]; exact P⟩, S.F ht⟩) S.2.2 hd X.2.2.2.2.2.2.1
theorem qv_zret {v : Int32} (hd : decode d.2.1 pc = .ok (.ireturn, 1)) (hr : d.2.2.2.1 = some .boolean) (hv : v &&& 1 = v) : qv_J l g d pc lo [.int v] h (some (.int v), h) := by
  intro p e s m args below meth c A H locs ls X P S L
  exact W.zret X.1 X.2.1 (X.2.2.2.2.2.1.trans hr) (by show Value.int (v &&& 1) = _; rw [hv]) (fun t ht hW => ⟨⟨rfl, by rw [ht]; exact P⟩, S.F ht⟩) S.2.2 hd X.2.2.2.2.2.2.1
theorem qv_vret (hd : decode d.2.1 pc = .ok (.return_, 1)) (hr : d.2.2.2.1 = none) : qv_J l g d pc lo [] h (none, h) := by
  intro p e s m args below meth c A H locs ls X P S L
  exact W.vret X.1 X.2.1 (X.2.2.2.2.2.1.trans hr) (fun t ht hW => ⟨⟨rfl, by rw [ht]; exact P⟩, S.F ht⟩) S.2.2 hd X.2.2.2.2.2.2.1
theorem qv_aret {v : Nat} {n : String} (hd : decode d.2.1 pc = .ok (.areturn, 1)) (hr : d.2.2.2.1 = some (.object n)) : qv_J l g d pc lo [.ref v] h (some (.ref v), h) := by
  intro p e s m args below meth c A H locs ls X P S L
  exact W.aret X.1 X.2.1 (X.2.2.2.2.2.1.trans hr) (Or.inl ⟨n, rfl⟩) (Or.inr ⟨_, rfl⟩) (fun t ht hW => ⟨⟨rfl, by rw [ht]; exact P⟩, S.F ht⟩) S.2.2 hd X.2.2.2.2.2.2.1
end QW
/-- what a method begins with -/
def qv_B (g : qv_G) (h : qv_H) (sz : Nat) (U : State) : Prop := U.heap.size = sz ∧ va_P g.1 vwCl (qv_ws g h) U.heap ∧ va_K g.1 vwCl (qv_ty g) U ∧ va_D (fun _ => True) (qv_ws g h) ∧ (∀ k, qv_n g ≤ k → h k = .inr (99, [])) ∧ qv_S g (va_A (qv_ws g h) sz) U
def qv_lo0 (n : Nat) (av : List Value) : List (Option Value) := av.map some ++ List.replicate (n - av.length) none
theorem qv_sl1 {vs : List Value} (hc : ∀ v ∈ vs, v.category = 1) : (lg_sl vs).length = vs.length := by
  induction vs with
  | nil => rfl
  | cons v t ih =>
    have h1 : ¬ v.category = 2 := by rw [hc v List.mem_cons_self]; decide
    have h2 : lg_sl (v :: t) = .val v :: lg_sl t := by simp [lg_sl, h1]
    rw [h2, List.length_cons, List.length_cons, ih (fun u hu => hc u (List.mem_cons_of_mem _ hu))]
theorem qv_args {vs : List Value} (hc : ∀ v ∈ vs, v.category = 1) : ∀ (k i : Nat) (v : Value), vs[i]? = some v → (k + i, v) ∈ lv_args k vs := by
  induction vs with
  | nil => intro k i v h; simp at h
  | cons u t ih =>
    intro k i v h
    have h1 : ¬ u.category = 2 := by rw [hc u List.mem_cons_self]; decide
    show _ ∈ (k, u) :: lv_args (if u.category = 2 then k + 2 else k + 1) t
    rw [if_neg h1]
    cases i with
    | zero =>
      simp at h
      subst h
      exact List.mem_cons_self
    | succ i =>
      have h2 := ih (fun u hu => hc u (List.mem_cons_of_mem _ hu)) (k + 1) i v (by simpa using h)
      rw [show k + (i + 1) = k + 1 + i by omega]
      exact List.mem_cons_of_mem _ h2
theorem qv_L0 {ad : Nat → Nat} {av : List Value} {n : Nat} (hc : ∀ v ∈ av, v.category = 1) (hl : av.length ≤ n) : qv_L ((lg_sl (av.map (qv_rv ad)) ++ List.replicate (n - (lg_sl (av.map (qv_rv ad))).length) Slot.unset).toArray) n ad (qv_lo0 n av) := by
  have hc2 : ∀ v ∈ av.map (qv_rv ad), v.category = 1 := by
    intro v hv
    obtain ⟨u, hu, rfl⟩ := List.mem_map.mp hv
    rw [qv_cat]
    exact hc u hu
  have h1 := lv_entry (av.map (qv_rv ad)) (n := n) (by rw [qv_sl1 hc2, List.length_map]; exact hl)
  refine ⟨h1.1, h1.2.1, fun i v hi => ?_⟩
  have h2 : av[i]? = some v := by
    unfold qv_lo0 at hi
    by_cases hl2 : i < av.length
    · rw [List.getElem?_append_left (by rw [List.length_map]; exact hl2), List.getElem?_map] at hi
      cases hq : av[i]? with
      | none => rw [hq] at hi; cases hi
      | some u => rw [hq] at hi; cases hi; rfl
    · rw [List.getElem?_append_right (by rw [List.length_map]; omega), List.getElem?_replicate] at hi
      split at hi <;> cases hi
  have h3 := qv_args hc2 0 i (qv_rv ad v) (by rw [List.getElem?_map, h2]; rfl)
  rw [Nat.zero_add] at h3
  exact h1.2.2 _ h3
theorem qv_met {l : Launch} {g : qv_G} {d : qv_M} {av : List Value} {h : qv_H} {R : Option Value × qv_H} {sz : Nat} (hp : plainName d.1.cls = true) (hc : ∀ v ∈ av, v.category = 1) (hl : av.length ≤ d.2.2.1) (hJ : qv_J l g d 0 (qv_lo0 d.2.2.1 av) [] h R) : Met l d.1 (qv_wl d) (qv_rm d) (va_Pc (av.map (qv_rv (qv_ad g))) (qv_B g h sz)) (qv_Q g (va_A (qv_ws g h) sz) R) 0 0 (va_A (qv_ws g h) sz) := by
  refine Met.ofW (cc := d.2.1) (maxL := d.2.2.1) (ret := d.2.2.2.1) hp rfl ?_
  intro p e s m args below meth c s₁ B hml hv
  obtain ⟨rfl, hsz, hP, hK, hD0, hN, hSt⟩ := hv
  subst hsz
  have hts := atoms_spec (ws := qv_wl d) B.pre
  rw [lg_entry_eq]
  exact hJ p e s m _ below meth c (va_A (qv_ws g h) s.heap.size) s.heap [] _ ⟨B.exec, B.bytes, hml, findClass_of_methodNamed B.named, hts, B.returns, B.notSynchronized, hK, fun q hq => Or.inr hq, hSt⟩ ⟨hP, hD0.self, hN⟩ va_S.rf (qv_L0 hc hl)
/-- what the tables say of a method that is called -/
def qv_DV (d : qv_M) (n : Nat) : Prop := Cond.instanceMethod d.1 ∈ qv_WS ∧ Cond.selects d.1.cls d.1 d.1 ∈ qv_WS ∧ Cond.initialized d.1.cls ∈ qv_WS ∧ Cond.code d.1 d.2.1 d.2.2.1 d.2.2.2.1 ∈ qv_WS ∧ plainName d.1.cls = true ∧ (d.1.cls ≠ "java/lang/invoke/MethodHandle" ∧ d.1.cls ≠ "java/lang/invoke/VarHandle" ∧ (parseMethodDescriptor d.1.desc).map (fun q => q.parameters.length) = some n)
def qv_DS (d : qv_M) (n : Nat) : Prop := Cond.static d.1 ∈ qv_WS ∧ Cond.initialized d.1.cls ∈ qv_WS ∧ Cond.code d.1 d.2.1 d.2.2.1 d.2.2.2.1 ∈ qv_WS ∧ plainName d.1.cls = true ∧ (d.1.cls ≠ "java/lang/invoke/MethodHandle" ∧ d.1.cls ≠ "java/lang/invoke/VarHandle" ∧ (parseMethodDescriptor d.1.desc).map (fun q => q.parameters.length) = some n)
theorem qv_gd {w : Cond} {d : qv_M} (h : w ∈ qv_WS) : w ∈ qv_wl d ∧ ((w.onTables && w.keeps) = true ∨ ∃ ty, w = .arrayClass ty) := ⟨List.mem_cons_of_mem _ h, good_of_word (qv_WS_good w h)⟩
theorem qv_gdl {d d2 : qv_M} (h : Cond.code d2.1 d2.2.1 d2.2.2.1 d2.2.2.2.1 ∈ qv_WS) : GoodIn (qv_wl d) (qv_wl d2) := by
  intro w hw
  rcases List.mem_cons.mp hw with rfl | hw
  · exact qv_gd h
  · exact qv_gd hw
section QX
variable {l : Launch} {g : qv_G} {d d2 : qv_M} {pc idx n : Nat} {lo : List (Option Value)} {st : List Value} {h h2 : qv_H} {R : Option Value × qv_H} {r : Option Value} {av : List Value}
theorem qv_back {p : Program} {e : Env} {s : State} {m : MethodId} {args : Array Value} {below : List Frame} {meth : Method} {c : Code} {A : Nat → Prop} {H : Heap} {locs : List Loc} {ls : Array Slot} {st0 : List Value} {a : Array Value}
    (X : qv_X g d p s m args meth c A) (P : qv_P g A h H) (S : va_S A s.heap H locs) (L : qv_L ls d.2.2.1 (qv_ad g) lo)
    (hr : va_Run p l e (qv_rm d) s m args below meth c H locs 0 0 0 0 (F0 m pc ls st0) (st.map (qv_rv (qv_ad g))) (qv_Q g (va_A (qv_ws g h) H.size) (r, h2) a) (va_A (qv_ws g h) H.size))
    (k : qv_J l g d (pc + 3) lo (r.toList ++ st) h2 R) : W p l e (qv_rm d) s m args below meth c H locs 0 0 (MQ below (qv_Q g A R) args s 0 0 A) (F0 m pc ls st0) := by
  have hF : ∀ q, va_A (qv_ws g h) H.size q → A q := by
    intro q hq
    rcases hq with ⟨j, e, hj⟩ | hq
    · exact P.2.1.2 j _ hj
    · exact X.2.2.2.2.2.2.2.2.1 q (Nat.le_trans S.1 hq)
  intro T hT Y
  obtain ⟨v, st₀, t, T', L1, h0, X', hL, e1, e2, ⟨⟨hv, hP1⟩, hz, hk⟩, stp⟩ := hr T hT Y
  cases hv
  rw [h0] at hz hk
  have hS1 : va_S A s.heap T'.heap (locs ++ L1) := ⟨Nat.le_trans S.1 (by rw [e1]; exact hz), fun q h1 h2 => by rw [e1, hk q (Nat.lt_of_lt_of_le h1 S.1) (fun z => h2 (hF q z))]; exact S.2.1 q h1 h2, fun q hq => by
      rcases List.mem_append.mp hq with h | h
      · exact S.2.2 q h
      · exact hF _ (hL q h)⟩
  have hP2 : qv_P g A h2 T'.heap := ⟨by rw [e1]; exact hP1.1, hP1.2.1.weaken (fun _ q _ hq => hF q.1 hq), hP1.2.2⟩
  have e3 : (r.map (qv_rv (qv_ad g))).toList ++ st.map (qv_rv (qv_ad g)) = (r.toList ++ st).map (qv_rv (qv_ad g)) := by
    cases r <;> simp
  obtain ⟨t2, a1, b1⟩ := k p e s m args below meth c A T'.heap (locs ++ L1) ls X hP2 hS1 L T' rfl X'
  rw [← e3] at a1
  exact ⟨t2, stp t2 a1, b1⟩
theorem qv_pre {s : State} {A : Nat → Prop} {H : Heap} {locs : List Loc} {p : Program} {m : MethodId} {args : Array Value} {meth : Method} {c : Code} (X : qv_X g d p s m args meth c A) (P : qv_P g A h H) (S : va_S A s.heap H locs) : PreS s H (va_Pc (av.map (qv_rv (qv_ad g))) (qv_B g h H.size)) (av.map (qv_rv (qv_ad g))) := by
  have hF : ∀ q, va_A (qv_ws g h) H.size q → A q := by
    intro q hq
    rcases hq with ⟨j, e, hj⟩ | hq
    · exact P.2.1.2 j _ hj
    · exact X.2.2.2.2.2.2.2.2.1 q (Nat.le_trans S.1 hq)
  refine ⟨fun a U gg mk q => ?_, fun U hU hW => ?_⟩
  · obtain ⟨q0, q1, q2, q3, q4, q5, q6⟩ := q
    exact ⟨q0, q1, q2, va_K.moved (u := U) (U := U.calling gg mk a) (Vm.Alike.refl U.vm) q3, q4, q5, q6.call⟩
  · exact ⟨rfl, by rw [hU], by rw [hU]; exact P.1, va_K.moved hW.alike X.2.2.2.2.2.2.2.1, P.2.1.weaken (fun _ _ _ _ => trivial), P.2.2, X.2.2.2.2.2.2.2.2.2.go S hU hW hF⟩
/-- a static call -/
theorem qv_callS (hd : decode d.2.1 pc = .ok (.invokestatic idx, 3)) (hm : Cond.methodLink d.1.cls idx d2.1 ∈ qv_WS) (D : qv_DS d2 n) (hn : av.length = n) (hR : d2.2.2.2.2.1 + 1 ≤ d.2.2.2.2.1 ∧ 8 + (d2.2.2.1 + 11) + d2.2.2.2.2.2 ≤ d.2.2.2.2.2) (hc : ∀ v ∈ av, v.category = 1) (hl : av.length ≤ d2.2.2.1) (hst : (st.map fun v => v.category).sum ≤ 8)
    (hJ : qv_J l g d2 0 (qv_lo0 d2.2.2.1 av) [] h (r, h2)) {st0 : List Value} (hs0 : av.reverse ++ st = st0) (k : qv_J l g d (pc + 3) lo (r.toList ++ st) h2 R) : qv_J l g d pc lo st0 h R := by
  subst hs0
  intro p e s m args below meth c A H locs ls X P S L
  obtain ⟨D1, D2, D3, D4, D5⟩ := D
  have cw := va_cwS (R := qv_rm d) (s := s) (args := args) (own := d.1.cls) (index := idx) (y := d2.1) (bytes := d2.2.1) (maxL := d2.2.2.1) (ret := d2.2.2.2.1) (Ts := qv_wl d) (ws := qv_wl d2) (rm := qv_rm d2) (mc := 0) (ms := 0) n X.2.2.2.2.1 (by
    intro w hw
    unfold va_wsS at hw
    rcases List.mem_append.mp hw with hw | hw
    · simp only [List.mem_cons, List.not_mem_nil, or_false] at hw
      rcases hw with rfl | rfl | rfl
      · exact qv_gd hm
      · exact qv_gd D1
      · exact qv_gd D2
    · exact qv_gdl D3 w hw) rfl rfl rfl D5 hR
  have hrun := va_runS (H := H) (locs := locs) (cells := 0) (slots := 0) (below := below) (e := e) (meth := meth) (As := av.map (qv_rv (qv_ad g))) (rest := st.map (qv_rv (qv_ad g))) (g := F0 m pc ls ((av.reverse ++ st).map (qv_rv (qv_ad g)))) ⟨X.1, X.2.1, X.2.2.1, X.2.2.2.1, X.2.2.2.2.1⟩ (qv_met (sz := H.size) D4 hc hl hJ) cw (qv_pre X P S) rfl (by rw [List.length_map]; exact hn) L.1 (by simp) (by
      have e5 : ((st.map (qv_rv (qv_ad g))).map fun v => v.category) = st.map fun v => v.category := by
        rw [List.map_map]; apply List.map_congr_left; intro v _; exact qv_cat _ v
      rw [e5]
      exact lv_room hst) hd ⟨Nat.le_refl _, Nat.le_refl _⟩
  exact qv_back X P S L hrun k
/-- a call of an object's own method -/
theorem qv_callV {o ci : Nat} {u : Unit} (hd : decode d.2.1 pc = .ok (.invokevirtual idx, 3)) (hm : Cond.methodLink d.1.cls idx d2.1 ∈ qv_WS) (D : qv_DV d2 n) (ho : qv_ob h ci o = some u) (hcl : (vwCl[ci]?).map (fun q => q.1) = some d2.1.cls) (hn : av.length = n) (hR : d2.2.2.2.2.1 + 1 ≤ d.2.2.2.2.1 ∧ 8 + (d2.2.2.1 + 11) + d2.2.2.2.2.2 ≤ d.2.2.2.2.2) (hc : ∀ v ∈ av, v.category = 1) (hl : av.length + 1 ≤ d2.2.2.1) (hst : (st.map fun v => v.category).sum ≤ 8)
    (hJ : qv_J l g d2 0 (qv_lo0 d2.2.2.1 (.ref o :: av)) [] h (r, h2)) {st0 : List Value} (hs0 : av.reverse ++ .ref o :: st = st0) (k : qv_J l g d (pc + 3) lo (r.toList ++ st) h2 R) : qv_J l g d pc lo st0 h R := by
  subst hs0
  intro p e s m args below meth c A H locs ls X P S L
  obtain ⟨D1, D2, D3, D4, D5, D6⟩ := D
  have cw := cwV (R := qv_rm d) (s := s) (args := args) (own := d.1.cls) (C := d2.1.cls) (index := idx) (y := d2.1) (bytes := d2.2.1) (maxL := d2.2.2.1) (ret := d2.2.2.2.1) (Ts := qv_wl d) (ws := qv_wl d2) (rm := qv_rm d2) (mc := 0) (ms := 0) n X.2.2.2.2.1 (by
    intro w hw
    unfold wsV at hw
    rcases List.mem_append.mp hw with hw | hw
    · simp only [List.mem_cons, List.not_mem_nil, or_false] at hw
      rcases hw with rfl | rfl | rfl | rfl
      · exact qv_gd hm
      · exact qv_gd D1
      · exact qv_gd D2
      · exact qv_gd D3
    · exact qv_gdl D4 w hw) rfl rfl rfl ⟨rfl, D6⟩ hR
  obtain ⟨fs, o1, o2⟩ := qv_ob_of ho
  obtain ⟨hn0, hw0⟩ := qv_obj P o1 o2
  have hrecv : ∃ cellB : Cell, H[qv_ad g o]? = some cellB ∧ cellB.vm.isStatics = false ∧ s.vm.findClass d2.1.cls = some cellB.cls := by
    cases hq : vwCl[ci]? with
    | none => rw [hq] at hcl; cases hcl
    | some q =>
      rw [hq] at hcl
      have := va_recv X.2.2.2.2.2.2.2.1 P.1 hq hw0
      have e9 : q.1 = d2.1.cls := Option.some.inj hcl
      rw [e9] at this
      exact this
  have hpre := qv_pre (av := .ref o :: av) X P S
  have hrun := va_runV (H := H) (locs := locs) (cells := 0) (slots := 0) (below := below) (e := e) (meth := meth) (b := qv_ad g o) (As := av.map (qv_rv (qv_ad g))) (rest := st.map (qv_rv (qv_ad g))) (g := F0 m pc ls ((av.reverse ++ .ref o :: st).map (qv_rv (qv_ad g)))) ⟨X.1, X.2.1, X.2.2.1, X.2.2.2.1, X.2.2.2.2.1⟩ (qv_met (sz := H.size) D5 (av := .ref o :: av) (by
      intro v hv
      rcases List.mem_cons.mp hv with rfl | hv
      · rfl
      · exact hc v hv) hl hJ) cw ⟨hpre.1, hrecv, hpre.2⟩ rfl (by rw [List.length_map]; exact hn) L.1 (by simp [qv_rv]) (by
      have e5 : ((st.map (qv_rv (qv_ad g))).map fun v => v.category) = st.map fun v => v.category := by
        rw [List.map_map]; apply List.map_congr_left; intro v _; exact qv_cat _ v
      rw [e5]
      exact lv_room hst) hd ⟨Nat.le_refl _, Nat.le_refl _⟩
  exact qv_back X P S L hrun k
end QX
