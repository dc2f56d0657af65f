/-! ===== 06: loops, and the rows that the programs' text uses ===== -/
def qv_it {σ ρ : Type} (body : σ → Option (σ ⊕ ρ)) : Nat → σ → Option ρ
  | 0, _ => none
  | n + 1, s => (body s).bind fun x => match x with
    | .inl s' => qv_it body n s'
    | .inr r => some r
def qv_nx {σ ρ : Type} (body : σ → Option (σ ⊕ ρ)) (n : Nat) (x : σ ⊕ ρ) : Option ρ := match x with
  | .inl s' => qv_it body n s'
  | .inr r => some r
theorem qv_it_s {σ ρ : Type} {body : σ → Option (σ ⊕ ρ)} {n : Nat} {s : σ} {r : ρ} (h : qv_it body (n + 1) s = some r) : ∃ x, body s = some x ∧ qv_nx body n x = some r := qv_bind h
theorem qv_nx_l {σ ρ : Type} {body : σ → Option (σ ⊕ ρ)} {n : Nat} {s : σ} {r : ρ} (h : qv_nx body n (.inl s) = some r) : qv_it body n s = some r := h
theorem qv_nx_r {σ ρ : Type} {body : σ → Option (σ ⊕ ρ)} {n : Nat} {q r : ρ} (h : qv_nx body n (.inr q) = some r) : q = r := Option.some.inj h
theorem qv_it_mono {σ ρ : Type} {body : σ → Option (σ ⊕ ρ)} : ∀ {n m : Nat} {s : σ} {r : ρ}, n ≤ m → qv_it body n s = some r → qv_it body m s = some r := by
  intro n
  induction n with
  | zero => intro m s r _ h; cases h
  | succ n ih =>
    intro m s r hm h
    obtain ⟨x, h1, h2⟩ := qv_it_s h
    obtain ⟨m, rfl⟩ : ∃ k, m = k + 1 := ⟨m - 1, by omega⟩
    show (body s).bind _ = some r
    rw [h1]
    cases x with
    | inl s' => exact ih (by omega) (qv_nx_l h2)
    | inr q => exact h2
/-- a loop's value, whatever number of rounds it takes; none if it does not end -/
noncomputable def qv_loop {σ ρ : Type} (body : σ → Option (σ ⊕ ρ)) (s : σ) : Option ρ := @dite (Option ρ) (∃ r n, qv_it body n s = some r) (Classical.propDecidable _) (fun h => some h.choose) (fun _ => none)
theorem qv_loop_of {σ ρ : Type} {body : σ → Option (σ ⊕ ρ)} {s : σ} {r : ρ} (h : qv_loop body s = some r) : ∃ n, qv_it body n s = some r := by
  unfold qv_loop at h
  split at h
  · rename_i q
    have e := Option.some.inj h
    rw [← e]
    exact q.choose_spec
  · cases h
theorem qv_loop_to {σ ρ : Type} {body : σ → Option (σ ⊕ ρ)} {s : σ} {r : ρ} (n : Nat) (h : qv_it body n s = some r) : qv_loop body s = some r := by
  have q : ∃ r n, qv_it body n s = some r := ⟨r, n, h⟩
  unfold qv_loop
  rw [dif_pos q]
  obtain ⟨m, hm⟩ := q.choose_spec
  have h1 := qv_it_mono (Nat.le_max_left n m) h
  have h2 := qv_it_mono (Nat.le_max_right n m) hm
  rw [h1] at h2
  exact congrArg some (Option.some.inj h2).symm
theorem qv_loop_l {σ ρ : Type} {body : σ → Option (σ ⊕ ρ)} {s s' : σ} (h : body s = some (.inl s')) : qv_loop body s = qv_loop body s' := by
  cases e : qv_loop body s' with
  | some r =>
    obtain ⟨n, hn⟩ := qv_loop_of e
    refine qv_loop_to (n + 1) ?_
    show (body s).bind _ = some r
    rw [h]
    exact hn
  | none =>
    cases e2 : qv_loop body s with
    | none => rfl
    | some r =>
      obtain ⟨n, hn⟩ := qv_loop_of e2
      cases n with
      | zero => cases hn
      | succ n =>
        obtain ⟨x, h1, h2⟩ := qv_it_s hn
        rw [h] at h1
        cases h1
        rw [qv_loop_to n (qv_nx_l h2)] at e
        cases e
theorem qv_loop_r {σ ρ : Type} {body : σ → Option (σ ⊕ ρ)} {s : σ} {r : ρ} (h : body s = some (.inr r)) : qv_loop body s = some r := by
  refine qv_loop_to 1 ?_
  show (body s).bind _ = some r
  rw [h]
  rfl
/-- a loop by its states in order -/
theorem qv_loop_up {σ ρ : Type} {body : σ → Option (σ ⊕ ρ)} (f : Nat → σ) {r : ρ} : ∀ (n i : Nat), (∀ j, i ≤ j → j < i + n → body (f j) = some (.inl (f (j + 1)))) → body (f (i + n)) = some (.inr r) → qv_loop body (f i) = some r := by
  intro n
  induction n with
  | zero => intro i _ h; exact qv_loop_r h
  | succ n ih =>
    intro i hs h
    rw [qv_loop_l (hs i (Nat.le_refl _) (by omega))]
    exact ih (i + 1) (fun j h1 h2 => hs j (by omega) (by omega)) (by rw [show i + 1 + n = i + (n + 1) by omega]; exact h)
/-- fewer known locals -/
def qv_le (a b : List (Option Value)) : Prop := ∀ (i : Nat) (v : Value), a[i]? = some (some v) → b[i]? = some (some v)
theorem qv_le_0 {b : List (Option Value)} : qv_le [] b := fun i v h => by simp at h
theorem qv_le_n {o : Option Value} {a b : List (Option Value)} (h : qv_le a b) : qv_le (none :: a) (o :: b) := by
  intro i v hi
  cases i with
  | zero => simp at hi
  | succ i => simpa using h i v (by simpa using hi)
theorem qv_le_s {o : Option Value} {a b : List (Option Value)} (h : qv_le a b) : qv_le (o :: a) (o :: b) := by
  intro i v hi
  cases i with
  | zero => simpa using hi
  | succ i => simpa using h i v (by simpa using hi)
section QY
variable {l : Launch} {g : qv_G} {d d2 : qv_M} {pc idx n : Nat} {lo lo2 : List (Option Value)} {st : List Value} {h h2 : qv_H} {R : Option Value × qv_H} {r : Option Value} {av : List Value}
theorem qv_dp (hl : qv_le lo2 lo) (k : qv_J l g d pc lo2 st h R) : qv_J l g d pc lo st h R := by
  intro p e s m args below meth c A H locs ls X P S L
  exact k p e s m args below meth c A H locs ls X P S ⟨L.1, L.2.1, fun i v hi => L.2.2 i v (hl i v hi)⟩
theorem qv_allc {av : List Value} (h : (av.all fun v => v.category == 1) = true) : ∀ v ∈ av, v.category = 1 := fun v hv => by simpa using List.all_eq_true.mp h v hv
theorem qv_cS {st0 : List Value} (hd : decode d.2.1 pc = .ok (.invokestatic idx, 3)) (hm : Cond.methodLink d.1.cls idx d2.1 ∈ qv_WS) (D : qv_DS d2 n) (hn : av.length = n) (hR : d2.2.2.2.2.1 + 1 ≤ d.2.2.2.2.1 ∧ 8 + (d2.2.2.1 + 11) + d2.2.2.2.2.2 ≤ d.2.2.2.2.2) (hc : (av.all fun v => v.category == 1) = true) (hl : av.length ≤ d2.2.2.1) (hst : (st.map fun v => v.category).sum ≤ 8)
    (hJ : qv_J l g d2 0 (qv_lo0 d2.2.2.1 av) [] h (r, h2)) (hs0 : av.reverse ++ st = st0) (k : qv_J l g d (pc + 3) lo (r.toList ++ st) h2 R) : qv_J l g d pc lo st0 h R :=
  qv_callS hd hm D hn hR (qv_allc hc) hl hst hJ hs0 k
theorem qv_cV {o ci : Nat} {u : Unit} {st0 : List Value} (hd : decode d.2.1 pc = .ok (.invokevirtual idx, 3)) (hm : Cond.methodLink d.1.cls idx d2.1 ∈ qv_WS) (D : qv_DV d2 n) (ho : qv_ob h ci o = some u) (hcl : (vwCl[ci]?).map (fun q => q.1) = some d2.1.cls) (hn : av.length = n) (hR : d2.2.2.2.2.1 + 1 ≤ d.2.2.2.2.1 ∧ 8 + (d2.2.2.1 + 11) + d2.2.2.2.2.2 ≤ d.2.2.2.2.2) (hc : (av.all fun v => v.category == 1) = true) (hl : av.length + 1 ≤ d2.2.2.1) (hst : (st.map fun v => v.category).sum ≤ 8)
    (hJ : qv_J l g d2 0 (qv_lo0 d2.2.2.1 (.ref o :: av)) [] h (r, h2)) (hs0 : av.reverse ++ .ref o :: st = st0) (k : qv_J l g d (pc + 3) lo (r.toList ++ st) h2 R) : qv_J l g d pc lo st0 h R :=
  qv_callV hd hm D ho hcl hn hR (qv_allc hc) hl hst hJ hs0 k
theorem qv_tsDef {dflt lw hi : Int} {offs : Array Int} {len : Nat} {x : Int32} {tgt : Nat} (hd : decode d.2.1 pc = .ok (.tableswitch dflt lw hi offs, len)) (hx : ∀ j : Nat, lw + (j : Int) ≤ hi → x.toInt = lw + (j : Int) → offs[j]? = some dflt) (ht : (pc : Int) + dflt = (tgt : Int)) (k : qv_J l g d tgt lo st h R) : qv_J l g d pc lo (.int x :: st) h R := by
  by_cases h1 : x.toInt < lw ∨ hi < x.toInt
  · exact qv_tsOut hd h1 ht k
  · exact qv_tsIn x rfl hd (by omega) (by omega) (hx (x.toInt - lw).toNat (by omega) (by omega)) ht k
/-- System.arraycopy of ints -/
def qv_cp (h : qv_H) (src : Nat) (sp : Int32) (dst : Nat) (dp n : Int32) : Option qv_H := match h src, h dst with
  | .inl (b0, n0, f), .inl (b1, n1, f1) => if b0 = false ∧ b1 = false ∧ ¬ sp < 0 ∧ ¬ dp < 0 ∧ ¬ n < 0 ∧ sp.toNatClampNeg + n.toNatClampNeg ≤ n0 ∧ dp.toNatClampNeg + n.toNatClampNeg ≤ n1 then some (qv_set h dst (.inl (b1, n1, va_cpy f f1 sp.toNatClampNeg dp.toNatClampNeg n.toNatClampNeg))) else none
  | _, _ => none
theorem qv_ac1 : Cond.native arraycopyName ∈ qv_WS := (qv_i7 (List.mem_of_getElem? (i := 1) (by decide +kernel)))
theorem qv_ac2 : Cond.static arraycopyName ∈ qv_WS := (qv_i7 (List.mem_of_getElem? (i := 0) (by decide +kernel)))
theorem qv_ac3 : Cond.initialized "java/lang/System" ∈ qv_WS := (qv_i1 (List.mem_of_getElem? (i := 21) (by decide +kernel)))
theorem qv_acopy {src dst : Nat} {sp dp k : Int32} (hd : decode d.2.1 pc = .ok (.invokestatic idx, 3)) (hm : Cond.methodLink d.1.cls idx arraycopyName ∈ qv_WS) (hR : 1 ≤ d.2.2.2.2.1 ∧ 8 + (nativeFrameWords "java/lang/System" "arraycopy" 5 + 11) ≤ d.2.2.2.2.2) (hst : (st.map fun v => v.category).sum ≤ 8) (e : qv_cp h src sp dst dp k = some h2) (kk : qv_J l g d (pc + 3) lo st h2 R) : qv_J l g d pc lo (.int k :: .int dp :: .ref dst :: .int sp :: .ref src :: st) h R := by
  unfold qv_cp at e
  split at e
  · rename_i b0 n0 f b1 n1 f1 hsrc hdst
    split at e
    · rename_i hc
      obtain ⟨rfl, rfl, q1, q2, q3, q4, q5⟩ := hc
      cases e
      intro p e s m args below meth c A H locs ls X P S L
      obtain ⟨hn0, hw0⟩ := qv_arr P hsrc
      obtain ⟨hn1, hw1⟩ := qv_arr P hdst
      have hts : ∀ w ∈ qv_WS, w.before args s = true := fun w hw => X.2.2.2.2.1 w (List.mem_cons_of_mem _ hw)
      have e5 : ((st.map (qv_rv (qv_ad g))).map fun v => v.category) = st.map fun v => v.category := by
        rw [List.map_map]; apply List.map_congr_left; intro v _; exact qv_cat _ v
      refine va_copyi X.1 X.2.1 (X.2.2.1.trans L.1.symm) X.2.2.2.1 (hts _ hm) (hts _ qv_ac1) (hts _ qv_ac2) (hts _ qv_ac3) X.2.2.2.2.2.2.2.1 P.1 P.2.1 S src dst 0 0 hw0 hw1 rfl rfl rfl q1 q2 q3 q4 q5 (fun _ _ => rfl) hR.1 (by rw [e5]; exact Nat.le_trans (Nat.add_le_add_right hst _) hR.2) hd (fun H1 locs1 hP hD hS => ?_)
      have e2 := qv_ws_set (h := h) (.inl (false, n1, va_cpy f f1 sp.toNatClampNeg dp.toNatClampNeg k.toNatClampNeg)) hn1
      exact kk p e s m args below meth c A H1 locs1 ls X ⟨by rw [← e2]; exact hP, by rw [← e2]; exact hD, fun q hq => by unfold qv_set; rw [if_neg (by omega)]; exact P.2.2 q hq⟩ hS L
    · cases e
  · cases e
end QY
theorem qin_X1 : ∀ w ∈ u_ws RX1 TX1 1, w ∈ qv_WS := qv_fm (ps := [208]) (by decide +kernel)
theorem qin_X2 : ∀ w ∈ u_ws RX2 TX2 3, w ∈ qv_WS := qv_fm (ps := [171, 172, 173]) (by decide +kernel)
theorem qin_X3 : ∀ w ∈ u_ws RX3 TX3 14, w ∈ qv_WS := qv_fm (ps := [147, 148, 149, 150, 151, 152, 153, 154, 155, 156, 157, 158, 159, 160]) (by decide +kernel)
theorem qin_X4 : ∀ w ∈ u_ws RX4 TX4 3, w ∈ qv_WS := qv_fm (ps := [227, 228, 229]) (by decide +kernel)
theorem qin_X5 : ∀ w ∈ u_ws RX5 TX5 2, w ∈ qv_WS := qv_fm (ps := [103, 104]) (by decide +kernel)
theorem qin_X6 : ∀ w ∈ u_ws RX6 TX6 2, w ∈ qv_WS := qv_fm (ps := [216, 217]) (by decide +kernel)
theorem qin_X7 : ∀ w ∈ u_ws RX7 TX7 7, w ∈ qv_WS := qv_fm (ps := [195, 196, 197, 198, 199, 200, 201]) (by decide +kernel)
theorem qin_X8 : ∀ w ∈ u_ws RX8 TX8 12, w ∈ qv_WS := qv_fm (ps := [298, 299, 300, 301, 302, 303, 304, 305, 306, 307, 308, 309]) (by decide +kernel)
theorem qin_X9 : ∀ w ∈ u_ws RX9 TX9 40, w ∈ qv_WS := qv_fm (ps := [848, 849, 850, 851, 852, 853, 854, 855, 856, 857, 858, 859, 860, 861, 862, 863, 864, 865, 866, 867, 868, 869, 870, 871, 872, 873, 874, 875, 876, 877, 878, 879, 880, 881, 882, 883, 884, 885, 886, 887]) (by decide +kernel)
