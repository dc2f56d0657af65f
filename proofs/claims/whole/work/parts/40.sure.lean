/-! ===== 40: bits in all, in none; obligation: sure ===== -/
def bt (x : Int32) (i : Nat) : Bool := x.toBitVec.getLsbD i
theorem b_ext {x y : Int32} (h : ∀ i, i < 32 → bt x i = bt y i) : x = y := Int32.toBitVec_inj.mp (BitVec.eq_of_getLsbD_eq (fun i hi => h i hi))
theorem b_or (x y : Int32) (i : Nat) : bt (x ||| y) i = (bt x i || bt y i) := by unfold bt; rw [Int32.toBitVec_or, BitVec.getLsbD_or]
theorem b_and (x y : Int32) (i : Nat) : bt (x &&& y) i = (bt x i && bt y i) := by unfold bt; rw [Int32.toBitVec_and, BitVec.getLsbD_and]
theorem b_xor (x y : Int32) (i : Nat) : bt (x ^^^ y) i = (bt x i ^^ bt y i) := by unfold bt; rw [Int32.toBitVec_xor, BitVec.getLsbD_xor]
theorem b_m1 : ∀ i, i < 32 → bt (-1) i = true := by decide +kernel
theorem b_0 (i : Nat) : bt 0 i = false := BitVec.getLsbD_zero
theorem b_sshr (n : Nat) (hn : n < 32) (x : Int32) {i : Nat} (hi : i < 32) : bt (x >>> (nI n &&& 31)) i = if n + i < 32 then bt x (n + i) else bt x 31 := by
  unfold bt
  rw [Int32.toBitVec_shiftRight]
  show (x.toBitVec.sshiftRight ((nI n &&& 31).toBitVec.smod 32).toNat).getLsbD i = _
  rw [s_l n hn, BitVec.getLsbD_sshiftRight, BitVec.msb_eq_getLsbD_last]
  simp [hi]
theorem b_n {w i : Nat} (hi : i < 32) : bt (nI w) i = w.testBit i := by
  show (BitVec.ofNat 32 w).getLsbD i = _
  rw [BitVec.getLsbD_ofNat]
  simp [hi]
theorem b_15 : ∀ i, i < 32 → bt 15 i = decide (i < 4) := by decide +kernel
theorem b_1023 : ∀ i, i < 32 → bt 1023 i = decide (i < 10) := by decide +kernel
theorem b_not {x : Int32} {i : Nat} (hi : i < 32) : bt (x ^^^ (-1)) i = !bt x i := by
  rw [b_xor, b_m1 i hi]
  cases bt x i <;> rfl
theorem b_bit {x : Int32} {i : Nat} (hi : i < 32) : (x >>> (nI i &&& 31)) &&& 1 = b2i (bt x i) := by
  apply b_ext
  intro j hj
  have h1 : ∀ j, j < 32 → bt 1 j = decide (j = 0) := by decide +kernel
  have hb : ∀ b : Bool, ∀ j, j < 32 → bt (b2i b) j = (b && decide (j = 0)) := by
    intro b j hj
    cases b
    · show bt 0 j = _; rw [b_0]; rfl
    · show bt 1 j = _; rw [h1 j hj]; rfl
  rw [b_and, b_sshr i hi _ hj, h1 j hj, hb _ j hj]
  by_cases h0 : j = 0
  · subst h0; simp [hi]
  · simp [h0]
def aX (p : Nat → Bool) (l : List Nat) (x : Int32) : Nat → Int32
  | 0 => x
  | j + 1 => if p (l.getD j 0) then aX p l x j &&& nI (l.getD j 0) else aX p l x j
def oX (p : Nat → Bool) (l : List Nat) (x : Int32) : Nat → Int32
  | 0 => x
  | j + 1 => if p (l.getD j 0) then oX p l x j ||| nI (l.getD j 0) else oX p l x j
def nX (l : List Nat) (x : Int32) : Nat → Int32
  | 0 => x
  | j + 1 => nX l x j &&& (nI (l.getD j 0) ^^^ (-1))
/-- a bit is so in all, in none of the first j -/
def al_ (p : Nat → Bool) (l : List Nat) (i j : Nat) : Bool := decide (∀ t, t < j → p (l.getD t 0) = true → (l.getD t 0).testBit i = true)
def no_ (p : Nat → Bool) (l : List Nat) (i j : Nat) : Bool := decide (∀ t, t < j → p (l.getD t 0) = true → (l.getD t 0).testBit i = false)
theorem al_s (p : Nat → Bool) (l : List Nat) (i j : Nat) : al_ p l i (j + 1) = (al_ p l i j && (!p (l.getD j 0) || (l.getD j 0).testBit i)) := by
  unfold al_
  rw [Bool.eq_iff_iff]
  simp only [Bool.and_eq_true, decide_eq_true_iff, Bool.or_eq_true, Bool.not_eq_true']
  constructor
  · intro h
    refine ⟨fun t ht hp => h t (by omega) hp, ?_⟩
    cases hp : p (l.getD j 0) with
    | false => exact Or.inl rfl
    | true => exact Or.inr (h j (by omega) hp)
  · rintro ⟨h1, h2⟩ t ht hp
    by_cases htj : t = j
    · subst htj
      rcases h2 with h2 | h2
      · rw [h2] at hp; cases hp
      · exact h2
    · exact h1 t (by omega) hp
theorem no_s (p : Nat → Bool) (l : List Nat) (i j : Nat) : no_ p l i (j + 1) = (no_ p l i j && (!p (l.getD j 0) || !(l.getD j 0).testBit i)) := by
  unfold no_
  rw [Bool.eq_iff_iff]
  simp only [Bool.and_eq_true, decide_eq_true_iff, Bool.or_eq_true, Bool.not_eq_true']
  constructor
  · intro h
    refine ⟨fun t ht hp => h t (by omega) hp, ?_⟩
    cases hp : p (l.getD j 0) with
    | false => exact Or.inl rfl
    | true => exact Or.inr (h j (by omega) hp)
  · rintro ⟨h1, h2⟩ t ht hp
    by_cases htj : t = j
    · subst htj
      rcases h2 with h2 | h2
      · rw [h2] at hp; cases hp
      · exact h2
    · exact h1 t (by omega) hp
theorem aX_b (p : Nat → Bool) (l : List Nat) (x : Int32) {i : Nat} (hi : i < 32) : ∀ j, bt (aX p l x j) i = (bt x i && al_ p l i j)
  | 0 => by simp [aX, al_]
  | j + 1 => by
    have ih := aX_b p l x hi j
    rw [al_s]
    show bt (if p (l.getD j 0) then aX p l x j &&& nI (l.getD j 0) else aX p l x j) i = _
    cases hp : p (l.getD j 0) with
    | false => simp [ih]
    | true => simp only [if_true, b_and, ih, b_n hi]; cases bt x i <;> cases al_ p l i j <;> simp
theorem oX_b (p : Nat → Bool) (l : List Nat) {i : Nat} (hi : i < 32) : ∀ j, bt (oX p l 0 j) i = !no_ p l i j
  | 0 => by simp [oX, no_, b_0]
  | j + 1 => by
    have ih := oX_b p l hi j
    rw [no_s]
    show bt (if p (l.getD j 0) then oX p l 0 j ||| nI (l.getD j 0) else oX p l 0 j) i = _
    cases hp : p (l.getD j 0) with
    | false => simp [ih]
    | true => simp only [if_true, b_or, ih, b_n hi]; cases no_ p l i j <;> simp
theorem nX_b (l : List Nat) (x : Int32) {i : Nat} (hi : i < 32) : ∀ j, bt (nX l x j) i = (bt x i && no_ (fun _ => true) l i j)
  | 0 => by simp [nX, no_]
  | j + 1 => by
    have ih := nX_b l x hi j
    rw [no_s]
    show bt (nX l x j &&& (nI (l.getD j 0) ^^^ (-1))) i = _
    rw [b_and, ih, b_not hi, b_n hi]
    cases bt x i <;> cases no_ (fun _ => true) l i j <;> simp
def GA (σ : St) (l : List Nat) : Prop := σ.1 45 33 = nI l.length ∧ l.length ≤ 1024 ∧ ∀ i, i < l.length → σ.2.1 64 i = nI (l.getD i 0)
theorem ga_of {σ : St} {l : List Nat} (hl : l.length ≤ 1024) : GA (fS (wS σ 64 (lA l (σ.2.1 64))) 45 33 (nI l.length)) l := by
  refine ⟨rfl, hl, fun i hi => ?_⟩
  rw [fS_a, wS_a, if_pos rfl]
  exact lA_at hi
theorem m_inAll {σ : St} (hz : σ.2.2 = true) {l : List Nat} (hG : GA σ l) : fX9_inAll 45 (mk σ) = some (aX (fun _ => true) l 1023 l.length) := by
  obtain ⟨g1, g2, g3⟩ := hG
  unfold fX9_inAll
  refine lp_b (fun j => (aX (fun _ => true) l 1023 j, nI j)) l.length (r := aX (fun _ => true) l 1023 l.length) rfl ?_ ?_ rfl
  · intro j hj
    have hj4 : j < 1024 := by omega
    dsimp only
    simp only [m_I hz, m_R hz, m_A hz, hj4, g1, o_b, g3 j hj]
    rw [if_neg (nI_ge hj (by omega)), show nI j + 1 = nI (j + 1) from nI_1 j]
    rfl
  · dsimp only
    simp only [m_I hz, g1, o_b]
    rw [if_pos (nI_le (Nat.le_refl _) (by omega))]
theorem m_inNone {σ : St} (hz : σ.2.2 = true) {l : List Nat} (hG : GA σ l) : fX9_inNone 45 (mk σ) = some (nX l 1023 l.length) := by
  obtain ⟨g1, g2, g3⟩ := hG
  unfold fX9_inNone
  refine lp_b (fun j => (nX l 1023 j, nI j)) l.length (r := nX l 1023 l.length) rfl ?_ ?_ rfl
  · intro j hj
    have hj4 : j < 1024 := by omega
    dsimp only
    simp only [m_I hz, m_R hz, m_A hz, hj4, g1, o_b, g3 j hj]
    rw [if_neg (nI_ge hj (by omega)), show nI j + 1 = nI (j + 1) from nI_1 j]
    rfl
  · dsimp only
    simp only [m_I hz, g1, o_b]
    rw [if_pos (nI_le (Nat.le_refl _) (by omega))]
/-- so and not, as told -/
def alw (so nt w : Nat) : Bool := decide (w &&& so = so ∧ w &&& nt = 0)
theorem c_allow {w so nt : Nat} (hw : w < 2 ^ 31) (hs : so < 2 ^ 31) : fX0_allow (nI w) (nI so) (nI nt) = some (b2i (alw so nt w)) := by
  unfold fX0_allow alw
  simp only [n_and]
  have e1 : (nI (w &&& so) = nI so) ↔ w &&& so = so := nI_eq (Nat.lt_of_le_of_lt Nat.and_le_left hw) hs
  have e2 : (nI (w &&& nt) = 0) ↔ w &&& nt = 0 := nI_eq (b := 0) (Nat.lt_of_le_of_lt Nat.and_le_left hw) (by decide)
  by_cases q1 : w &&& so = so
  · rw [if_pos (e1.mpr q1)]
    by_cases q2 : w &&& nt = 0
    · rw [if_pos (e2.mpr q2)]; simp [q1, q2]; rfl
    · rw [if_neg (fun z => q2 (e2.mp z))]; simp [q2]; rfl
  · rw [if_neg (fun z => q1 (e1.mp z))]; simp [q1]; rfl
abbrev G0 (L : Ld) (k : Nat) (B : Nat → Nat) (S : Nat → Bool) : List Nat := gl L k B S 0 1024
theorem g_at {L : Ld} {k : Nat} {B : Nat → Nat} {S : Nat → Bool} {m t : Nat} (ht : t < (gl L k B S m 1024).length) : (gl L k B S m 1024).getD t 0 < 1024 ∧ gq L k B S m ((gl L k B S m 1024).getD t 0) = true := by
  have h : (gl L k B S m 1024).getD t 0 ∈ gl L k B S m 1024 := by
    generalize gl L k B S m 1024 = l at ht ⊢
    rw [List.getD_eq_getElem?_getD, List.getElem?_eq_getElem ht]
    exact List.getElem_mem ht
  exact gl_mem.mp h
theorem c_always {σ : St} {L : Ld} (hR : RK σ L) {k : Nat} {B : Nat → Nat} {S : Nat → Bool} (hS : SF σ L k B S) {so nt : Nat} (hso : so < 2 ^ 31) : fX7_alwaysSo 33 (nI so) (nI nt) (mk σ) = some (aX (alw so nt) (G0 L k B S) (nI (msk L)) (G0 L k B S).length) := by
  have hl : (G0 L k B S).length ≤ 1024 := gl_le L k B S 0 1024
  unfold fX7_alwaysSo
  simp only [c_I, o_b, hR.1]
  refine lp_b (fun j => (aX (alw so nt) (G0 L k B S) (nI (msk L)) j, nI j)) (G0 L k B S).length (r := aX (alw so nt) (G0 L k B S) (nI (msk L)) (G0 L k B S).length) rfl ?_ ?_ rfl
  · intro j hj
    have hj4 : j < 1024 := Nat.lt_of_lt_of_le hj hl
    have hw := (g_at hj).1
    dsimp only
    simp only [c_I, c_R, c_A, hj4, hS.1, o_b, hS.2.2.2 j hj, c_allow (show (gl L k B S 0 1024).getD j 0 < 2 ^ 31 by omega) hso]
    rw [if_neg (nI_ge hj (by omega)), show nI j + 1 = nI (j + 1) from nI_1 j, o_ite]
    show some (Sum.inl (_, _)) = some (Sum.inl ((if alw so nt ((G0 L k B S).getD j 0) then _ else _), _))
    cases alw so nt ((gl L k B S 0 1024).getD j 0) <;> rfl
  · dsimp only
    simp only [c_I, hS.1, o_b]
    rw [if_pos (nI_le (Nat.le_refl _) (Nat.lt_of_le_of_lt hl (by decide)))]
theorem c_ever {σ : St} {L : Ld} {k : Nat} {B : Nat → Nat} {S : Nat → Bool} (hS : SF σ L k B S) {so nt : Nat} (hso : so < 2 ^ 31) : fX7_everSo 33 (nI so) (nI nt) (mk σ) = some (oX (alw so nt) (G0 L k B S) 0 (G0 L k B S).length) := by
  have hl : (G0 L k B S).length ≤ 1024 := gl_le L k B S 0 1024
  unfold fX7_everSo
  refine lp_b (fun j => (oX (alw so nt) (G0 L k B S) 0 j, nI j)) (G0 L k B S).length (r := oX (alw so nt) (G0 L k B S) 0 (G0 L k B S).length) rfl ?_ ?_ rfl
  · intro j hj
    have hj4 : j < 1024 := Nat.lt_of_lt_of_le hj hl
    have hw := (g_at hj).1
    dsimp only
    simp only [c_I, c_R, c_A, hj4, hS.1, o_b, hS.2.2.2 j hj, c_allow (show (gl L k B S 0 1024).getD j 0 < 2 ^ 31 by omega) hso]
    rw [if_neg (nI_ge hj (by omega)), show nI j + 1 = nI (j + 1) from nI_1 j, o_ite]
    show some (Sum.inl (_, _)) = some (Sum.inl ((if alw so nt ((G0 L k B S).getD j 0) then _ else _), _))
    cases alw so nt ((gl L k B S 0 1024).getD j 0) <;> rfl
  · dsimp only
    simp only [c_I, hS.1, o_b]
    rw [if_pos (nI_le (Nat.le_refl _) (Nat.lt_of_le_of_lt hl (by decide)))]
theorem alw_0 (w : Nat) : alw 0 0 w = true := by simp [alw]
/-- a bit that some good world has is in the mask -/
theorem in_msk {L : Ld} {k : Nat} {B : Nat → Nat} {S : Nat → Bool} {m : Nat} {p : Nat → Bool} {i : Nat} (h : no_ p (gl L k B S m 1024) i (gl L k B S m 1024).length = false) : (msk L).testBit i = true := by
  unfold no_ at h
  have h2 := of_decide_eq_false h
  simp only [Classical.not_forall] at h2
  obtain ⟨t, ht, hp, hb⟩ := h2
  have hg := (g_at ht).2
  have hw : isW L ((gl L k B S m 1024).getD t 0) = true := by
    unfold gq at hg
    simp at hg
    exact hg.1
  have hsub := (sub_iff _ _).mp (show (gl L k B S m 1024).getD t 0 &&& msk L = (gl L k B S m 1024).getD t 0 by simpa [isW] using hw)
  exact hsub i (by simpa using hb)
theorem al_cong {p q : Nat → Bool} {l : List Nat} {i j : Nat} (h : ∀ w, p w = q w) : al_ p l i j = al_ q l i j := by
  have : p = q := funext h
  rw [this]
theorem no_cong {p q : Nat → Bool} {l : List Nat} {i j : Nat} (h : ∀ w, p w = q w) : no_ p l i j = no_ q l i j := by
  have : p = q := funext h
  rw [this]
theorem b_pm {f i : Nat} (hi : i < 32) : bt (nI (2 ^ f - 1)) i = decide (i < f) := by rw [b_n hi, Nat.testBit_two_pow_sub_one]
theorem ok12 : ql_o12 Inv := by
  rintro a1 h ⟨σ, rfl, L, k, B, S, hI⟩
  have hz := iw_z hI
  obtain ⟨h1, h2, h3, h4, h5, h6, h7, h8, h9, h10, h11, h12, h13, h14⟩ := id hI
  have hfc := h1.2.2.1
  have hsc := h1.2.2.2.1
  have eA : fX7_alwaysSo 33 0 0 (mk σ) = _ := c_always h8 h9 (so := 0) (nt := 0) (by decide)
  have eE : fX7_everSo 33 0 0 (mk σ) = _ := c_ever h9 (so := 0) (nt := 0) (by decide)
  cases hw : decide (¬ a1 < 0 ∧ ¬ nI 5 < a1) with
  | false =>
    have ne : ∀ j, j ≤ 5 → ¬ a1 = nI j := fun j hj q => absurd hw (by rw [(in_few (by decide)).mpr ⟨j, hj, q⟩]; decide)
    have n0 : ¬ a1 = 0 := ne 0 (by decide)
    have n1 : ¬ a1 = 1 := ne 1 (by decide)
    have n2 : ¬ a1 = 2 := ne 2 (by decide)
    have n3 : ¬ a1 = 3 := ne 3 (by decide)
    have n4 : ¬ a1 = 4 := ne 4 (by decide)
    have n5 : ¬ a1 = 5 := ne 5 (by decide)
    have hz1 : (aS σ 44 2 (σ.2.1 44 2 + 1)).2.2 = true := hz
    refine fin_r (f9 := fun h => fX9_sure 45 a1 h) hI 2 (x := -2) ?_ ?_
    · unfold fX8_sure
      simp only [c_R, c_O, c_I, o_b, eA, eE, n0, n1, n2, n3, n4, n5, if_false, c_ref2]
    · show fX9_sure 45 a1 _ = _
      unfold fX9_sure
      simp only [n_in, show decide (¬ a1 < 0 ∧ ¬ (5 : Int32) < a1) = false from hw, o_b, b2i_f, if_true, m_O hz1, m_no2 hz1]
      rfl
  | true =>
    obtain ⟨w, hw5, rfl⟩ := (in_few (by decide)).mp hw
    have hw' : decide (¬ nI w < 0 ∧ ¬ (5 : Int32) < nI w) = true := hw
    have hfw : fX9_findWorlds 45 0 (mk σ) = _ := m_findWorlds hz h4 h1 h7 (m := 0) (by decide)
    have hGA := ga_of (σ := σ) (gl_le L k B S 0 1024)
    generalize hT : fS (wS σ 64 (lA (gl L k B S 0 1024) (σ.2.1 64))) 45 33 (nI (gl L k B S 0 1024).length) = τ at hfw hGA
    have hzT : τ.2.2 = true := by rw [← hT]; exact hz
    have hLT : LM τ L := by rw [← hT]; exact h4
    have hIT : Iw τ L k B S := by rw [← hT]; exact iw_goods hI _ _
    have kA := m_inAll hzT hGA
    have kN := m_inNone hzT hGA
    have kF := m_allF hzT hLT h1
    have kS := m_allS hzT hLT h1
    have bM : ∀ i, i < 32 → bt (nI (msk L)) i = (decide (i < L.1 2) || (decide (4 ≤ i) && decide (i - 4 < L.1 3))) := fun i hi => by rw [b_n hi, msk_bit]
    have bA : ∀ i, i < 32 → bt (aX (alw 0 0) (G0 L k B S) (nI (msk L)) (G0 L k B S).length) i = ((decide (i < L.1 2) || (decide (4 ≤ i) && decide (i - 4 < L.1 3))) && al_ (fun _ => true) (G0 L k B S) i (G0 L k B S).length) := fun i hi => by rw [aX_b _ _ _ hi, bM i hi, al_cong alw_0]
    have bE : ∀ i, i < 32 → bt (oX (alw 0 0) (G0 L k B S) 0 (G0 L k B S).length) i = !no_ (fun _ => true) (G0 L k B S) i (G0 L k B S).length := fun i hi => by rw [oX_b _ _ hi, no_cong alw_0]
    have bIA : ∀ i, i < 32 → bt (aX (fun _ => true) (G0 L k B S) 1023 (G0 L k B S).length) i = (decide (i < 10) && al_ (fun _ => true) (G0 L k B S) i (G0 L k B S).length) := fun i hi => by rw [aX_b _ _ _ hi, b_1023 i hi]
    have bIN : ∀ i, i < 32 → bt (nX (G0 L k B S) 1023 (G0 L k B S).length) i = (decide (i < 10) && no_ (fun _ => true) (G0 L k B S) i (G0 L k B S).length) := fun i hi => by rw [nX_b _ _ hi, b_1023 i hi]
    have hmk : ∀ i, no_ (fun _ => true) (G0 L k B S) i (G0 L k B S).length = false → (i < L.1 2 ∨ (4 ≤ i ∧ i - 4 < L.1 3)) := fun i q => by
      have := in_msk q
      rw [msk_bit] at this
      simpa using this
    have go : ∀ (r : Int32), fX8_sure 0 (nI w) (mk σ) = some (r, mk σ) → fX9_sure 45 (nI w) (mk σ) = some (r, mk τ) → ∃ (r : Int32) (h1 h2 : qv_H), fX8_sure 0 (nI w) (mk σ) = some (r, h1) ∧ qv_ob h1 8 45 = some () ∧ fX9_sure 45 (nI w) h1 = some (r, h2) ∧ Inv h2 := fun r e8 e9 => ⟨r, mk σ, mk τ, e8, m_O hz, e9, τ, rfl, L, k, B, S, hIT⟩
    rcases (show w = 0 ∨ w = 1 ∨ w = 2 ∨ w = 3 ∨ w = 4 ∨ w = 5 by omega) with rfl | rfl | rfl | rfl | rfl | rfl
    · refine go (aX (alw 0 0) (G0 L k B S) (nI (msk L)) (G0 L k B S).length &&& 15) ?_ ?_
      · unfold fX8_sure
        simp only [c_R, c_O, c_I, o_b, eA, eE]; rfl
      · unfold fX9_sure
        simp only [n_in, hw', o_b, b2i_t, hne, if_false, m_O hz, hfw, m_O hzT, kA, kN, kF, kS]
        rw [if_pos (by decide), o_b, if_neg (by decide), o_b]
        refine congrArg (fun z => some (z, mk τ)) ?_
        apply b_ext
        intro i hi
        rw [b_and, b_and, bIA i hi, bA i hi, b_pm hi, b_15 i hi]
        rw [Bool.eq_iff_iff]; cases al_ (fun _ => true) (G0 L k B S) i (G0 L k B S).length <;> simp <;> omega
    · refine go ((nI (msk L) &&& (oX (alw 0 0) (G0 L k B S) 0 (G0 L k B S).length ^^^ (-1))) &&& 15) ?_ ?_
      · unfold fX8_sure
        simp only [c_R, c_O, c_I, o_b, eA, eE, h8.1]; rfl
      · unfold fX9_sure
        simp only [n_in, hw', o_b, b2i_t, hne, if_false, m_O hz, hfw, m_O hzT, kA, kN, kF, kS]
        rw [if_neg (by decide), if_pos (by decide), o_b, if_neg (by decide), o_b]
        refine congrArg (fun z => some (z, mk τ)) ?_
        apply b_ext
        intro i hi
        rw [b_and, b_and, b_and, bIN i hi, b_not hi, bE i hi, bM i hi, b_pm hi, b_15 i hi]
        rw [Bool.eq_iff_iff]; cases no_ (fun _ => true) (G0 L k B S) i (G0 L k B S).length <;> simp <;> omega
    · refine go ((oX (alw 0 0) (G0 L k B S) 0 (G0 L k B S).length &&& (aX (alw 0 0) (G0 L k B S) (nI (msk L)) (G0 L k B S).length ^^^ (-1))) &&& 15) ?_ ?_
      · unfold fX8_sure
        simp only [c_R, c_O, c_I, o_b, eA, eE]; rfl
      · unfold fX9_sure
        simp only [n_in, hw', o_b, b2i_t, hne, if_false, m_O hz, hfw, m_O hzT, kA, kN, kF, kS]
        rw [if_neg (by decide), if_neg (by decide), o_b, if_neg (by decide), o_b]
        refine congrArg (fun z => some (z, mk τ)) ?_
        apply b_ext
        intro i hi
        rw [b_and, b_and, b_and, b_and, b_not hi, b_not hi, b_not hi, bIA i hi, bIN i hi, bE i hi, bA i hi, b_pm hi, b_15 i hi]
        have := hmk i
        cases hn : no_ (fun _ => true) (G0 L k B S) i (G0 L k B S).length with
        | true => simp; omega
        | false =>
          have := this hn
          rw [Bool.eq_iff_iff]; cases al_ (fun _ => true) (G0 L k B S) i (G0 L k B S).length <;> simp <;> omega
    · refine go (aX (alw 0 0) (G0 L k B S) (nI (msk L)) (G0 L k B S).length >>> ((4 : Int32) &&& 31)) ?_ ?_
      · unfold fX8_sure
        simp only [c_R, c_O, c_I, o_b, eA, eE]; rfl
      · unfold fX9_sure
        simp only [n_in, hw', o_b, b2i_t, hne, if_false, m_O hz, hfw, m_O hzT, kA, kN, kF, kS]
        rw [if_pos (by decide), o_b, if_pos (by decide), o_b]
        refine congrArg (fun z => some (z, mk τ)) ?_
        apply b_ext
        intro i hi
        have e1 := b_sshr 4 (by decide) (aX (fun _ => true) (G0 L k B S) 1023 (G0 L k B S).length) hi
        have e2 := b_sshr 4 (by decide) (aX (alw 0 0) (G0 L k B S) (nI (msk L)) (G0 L k B S).length) hi
        rw [b_and, show bt (aX (fun _ => true) (G0 L k B S) 1023 (G0 L k B S).length >>> ((4 : Int32) &&& 31)) i = _ from e1, show bt (aX (alw 0 0) (G0 L k B S) (nI (msk L)) (G0 L k B S).length >>> ((4 : Int32) &&& 31)) i = _ from e2, b_pm hi]
        by_cases hi4 : 4 + i < 32
        · rw [if_pos hi4, if_pos hi4, bIA _ hi4, bA _ hi4]
          rw [Bool.eq_iff_iff]; cases al_ (fun _ => true) (G0 L k B S) (4 + i) (G0 L k B S).length <;> simp <;> omega
        · rw [if_neg hi4, if_neg hi4, bIA 31 (by decide), bA 31 (by decide)]
          simp; omega
    · refine go ((nI (msk L) &&& (oX (alw 0 0) (G0 L k B S) 0 (G0 L k B S).length ^^^ (-1))) >>> ((4 : Int32) &&& 31)) ?_ ?_
      · unfold fX8_sure
        simp only [c_R, c_O, c_I, o_b, eA, eE, h8.1]; rfl
      · unfold fX9_sure
        simp only [n_in, hw', o_b, b2i_t, hne, if_false, m_O hz, hfw, m_O hzT, kA, kN, kF, kS]
        rw [if_neg (by decide), if_pos (by decide), o_b, if_pos (by decide), o_b]
        refine congrArg (fun z => some (z, mk τ)) ?_
        apply b_ext
        intro i hi
        have e1 := b_sshr 4 (by decide) (nX (G0 L k B S) 1023 (G0 L k B S).length) hi
        have e2 := b_sshr 4 (by decide) (nI (msk L) &&& (oX (alw 0 0) (G0 L k B S) 0 (G0 L k B S).length ^^^ (-1))) hi
        rw [b_and, show bt (nX (G0 L k B S) 1023 (G0 L k B S).length >>> ((4 : Int32) &&& 31)) i = _ from e1, show bt ((nI (msk L) &&& (oX (alw 0 0) (G0 L k B S) 0 (G0 L k B S).length ^^^ (-1))) >>> ((4 : Int32) &&& 31)) i = _ from e2, b_pm hi]
        by_cases hi4 : 4 + i < 32
        · rw [if_pos hi4, if_pos hi4, bIN _ hi4, b_and, b_not hi4, bE _ hi4, bM _ hi4]
          rw [Bool.eq_iff_iff]; cases no_ (fun _ => true) (G0 L k B S) (4 + i) (G0 L k B S).length <;> simp <;> omega
        · rw [if_neg hi4, if_neg hi4, bIN 31 (by decide), b_and, bM 31 (by decide)]
          simp; omega
    · refine go ((oX (alw 0 0) (G0 L k B S) 0 (G0 L k B S).length &&& (aX (alw 0 0) (G0 L k B S) (nI (msk L)) (G0 L k B S).length ^^^ (-1))) >>> ((4 : Int32) &&& 31)) ?_ ?_
      · unfold fX8_sure
        simp only [c_R, c_O, c_I, o_b, eA, eE]; rfl
      · unfold fX9_sure
        simp only [n_in, hw', o_b, b2i_t, hne, if_false, m_O hz, hfw, m_O hzT, kA, kN, kF, kS]
        rw [if_neg (by decide), if_neg (by decide), o_b, if_pos (by decide), o_b]
        refine congrArg (fun z => some (z, mk τ)) ?_
        apply b_ext
        intro i hi
        have e1 := b_sshr 4 (by decide) ((aX (fun _ => true) (G0 L k B S) 1023 (G0 L k B S).length ^^^ (-1)) &&& (nX (G0 L k B S) 1023 (G0 L k B S).length ^^^ (-1))) hi
        have e2 := b_sshr 4 (by decide) (oX (alw 0 0) (G0 L k B S) 0 (G0 L k B S).length &&& (aX (alw 0 0) (G0 L k B S) (nI (msk L)) (G0 L k B S).length ^^^ (-1))) hi
        rw [b_and, show bt (((aX (fun _ => true) (G0 L k B S) 1023 (G0 L k B S).length ^^^ (-1)) &&& (nX (G0 L k B S) 1023 (G0 L k B S).length ^^^ (-1))) >>> ((4 : Int32) &&& 31)) i = _ from e1, show bt ((oX (alw 0 0) (G0 L k B S) 0 (G0 L k B S).length &&& (aX (alw 0 0) (G0 L k B S) (nI (msk L)) (G0 L k B S).length ^^^ (-1))) >>> ((4 : Int32) &&& 31)) i = _ from e2, b_pm hi]
        by_cases hi4 : 4 + i < 32
        · rw [if_pos hi4, if_pos hi4, b_and, b_and, b_not hi4, b_not hi4, b_not hi4, bIA _ hi4, bIN _ hi4, bE _ hi4, bA _ hi4]
          have := hmk (4 + i)
          cases hn : no_ (fun _ => true) (G0 L k B S) (4 + i) (G0 L k B S).length with
          | true => simp; omega
          | false =>
            have := this hn
            rw [Bool.eq_iff_iff]; cases al_ (fun _ => true) (G0 L k B S) (4 + i) (G0 L k B S).length <;> simp <;> omega
        · rw [if_neg hi4, if_neg hi4]
          have hq : no_ (fun _ => true) (G0 L k B S) 31 (G0 L k B S).length = true := by
            cases hn : no_ (fun _ => true) (G0 L k B S) 31 (G0 L k B S).length with
            | true => rfl
            | false => have := hmk 31 hn; omega
          rw [b_and, b_and, b_not (by decide), b_not (by decide), b_not (by decide), bIA 31 (by decide), bIN 31 (by decide), bE 31 (by decide), bA 31 (by decide), hq]
          simp; omega
