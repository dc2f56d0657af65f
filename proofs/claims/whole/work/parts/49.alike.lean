/-! ===== 49: obligations: together, fewest ===== -/
/-- the ways of told signs -/
def pt (q w : Nat) : Nat := (w / 16) &&& q
/-- a fact is alike where the ways of told signs are alike -/
def alk (l : List Nat) (f q : Nat) : Bool := decide (∀ t, t < l.length → ∀ u, u < l.length → pt q (l.getD t 0) = pt q (l.getD u 0) → (l.getD t 0).testBit f = (l.getD u 0).testBit f)
def q6 (x : Int64) (i : Nat) : Bool := x.toBitVec.getLsbD i
theorem q_or (x y : Int64) (i : Nat) : q6 (x ||| y) i = (q6 x i || q6 y i) := by unfold q6; rw [Int64.toBitVec_or, BitVec.getLsbD_or]
theorem q_and (x y : Int64) (i : Nat) : q6 (x &&& y) i = (q6 x i && q6 y i) := by unfold q6; rw [Int64.toBitVec_and, BitVec.getLsbD_and]
theorem q_0 (i : Nat) : q6 0 i = false := BitVec.getLsbD_zero
theorem q_ext {x y : Int64} (h : ∀ i, i < 64 → q6 x i = q6 y i) : x = y := Int64.toBitVec_inj.mp (BitVec.eq_of_getLsbD_eq (fun i hi => h i hi))
theorem q_pat : ∀ p, p < 64 → ∀ i, i < 64 → q6 ((1 : Int64) <<< ((nI p).toInt64 &&& 63)) i = decide (i = p) := by decide +kernel
def sX (l : List Nat) (f q : Nat) (b : Bool) : Nat → Int64
  | 0 => 0
  | j + 1 => if (l.getD j 0).testBit f = b then sX l f q b j ||| ((1 : Int64) <<< ((nI (pt q (l.getD j 0))).toInt64 &&& 63)) else sX l f q b j
theorem pt_lt {q w : Nat} (hq : q < 64) : pt q w < 64 := Nat.lt_of_le_of_lt Nat.and_le_right hq
theorem sX_b (l : List Nat) (f : Nat) {q : Nat} (hq : q < 64) (b : Bool) {i : Nat} (hi : i < 64) : ∀ j, q6 (sX l f q b j) i = true ↔ ∃ t, t < j ∧ (l.getD t 0).testBit f = b ∧ pt q (l.getD t 0) = i
  | 0 => by
    show q6 0 i = true ↔ _
    rw [q_0]
    constructor
    · intro h; cases h
    · rintro ⟨t, h, _⟩; omega
  | j + 1 => by
    have ih := sX_b l f hq b hi j
    show q6 (if (l.getD j 0).testBit f = b then sX l f q b j ||| ((1 : Int64) <<< ((nI (pt q (l.getD j 0))).toInt64 &&& 63)) else sX l f q b j) i = true ↔ _
    by_cases h : (l.getD j 0).testBit f = b
    · rw [if_pos h, q_or, q_pat _ (pt_lt hq) i hi, Bool.or_eq_true, ih, decide_eq_true_iff]
      constructor
      · rintro (⟨t, h1, h2⟩ | h1)
        · exact ⟨t, by omega, h2⟩
        · exact ⟨j, by omega, h, h1.symm⟩
      · rintro ⟨t, h1, h2, h3⟩
        by_cases ht : t = j
        · subst ht; exact Or.inr h3.symm
        · exact Or.inl ⟨t, by omega, h2, h3⟩
    · rw [if_neg h, ih]
      constructor
      · rintro ⟨t, h1, h2⟩
        exact ⟨t, by omega, h2⟩
      · rintro ⟨t, h1, h2, h3⟩
        by_cases ht : t = j
        · subst ht; exact absurd h2 h
        · exact ⟨t, by omega, h2, h3⟩
theorem sX_alk (l : List Nat) (f : Nat) {q : Nat} (hq : q < 64) : (sX l f q true l.length &&& sX l f q false l.length = 0) ↔ alk l f q = true := by
  unfold alk
  rw [decide_eq_true_iff]
  constructor
  · intro h
    have hno : ∀ t, t < l.length → ∀ u, u < l.length → pt q (l.getD t 0) = pt q (l.getD u 0) → ¬ ((l.getD t 0).testBit f = true ∧ (l.getD u 0).testBit f = false) := by
      rintro t ht u hu e ⟨a1, a2⟩
      have hp := pt_lt (q := q) (w := l.getD t 0) hq
      have b1 := (sX_b l f hq true hp l.length).mpr ⟨t, ht, a1, rfl⟩
      have b2 := (sX_b l f hq false hp l.length).mpr ⟨u, hu, a2, e.symm⟩
      have b3 : q6 (sX l f q true l.length &&& sX l f q false l.length) (pt q (l.getD t 0)) = true := by rw [q_and, b1, b2]; rfl
      rw [h, q_0] at b3
      cases b3
    intro t ht u hu e
    cases a1 : (l.getD t 0).testBit f with
    | true =>
      cases a2 : (l.getD u 0).testBit f with
      | true => rfl
      | false => exact absurd ⟨a1, a2⟩ (hno t ht u hu e)
    | false =>
      cases a2 : (l.getD u 0).testBit f with
      | true => exact absurd ⟨a2, a1⟩ (hno u hu t ht e.symm)
      | false => rfl
  · intro h
    apply q_ext
    intro i hi
    rw [q_and, q_0]
    cases b1 : q6 (sX l f q true l.length) i with
    | false => rfl
    | true =>
      cases b2 : q6 (sX l f q false l.length) i with
      | false => rfl
      | true =>
        obtain ⟨t, t1, t2, t3⟩ := (sX_b l f hq true hi l.length).mp b1
        obtain ⟨u, u1, u2, u3⟩ := (sX_b l f hq false hi l.length).mp b2
        have := h t t1 u u1 (by rw [t3, u3])
        rw [t2, u2] at this
        cases this
theorem c_alike {σ : St} {l : List Nat} (h : CA σ l) {f q : Nat} (hf : f < 4) (hq : q < 64) : fX7_isAlikeBy 33 (nI f) (nI q) (mk σ) = some (b2i (alk l f q)) := by
  obtain ⟨g1, g2, g3⟩ := h
  unfold fX7_isAlikeBy
  refine lp_b (fun j => (sX l f q true j, sX l f q false j, nI j)) l.length (r := (sX l f q true l.length, sX l f q false l.length)) rfl ?_ ?_ ?_
  · intro j hj
    have hj4 : j < 1024 := by omega
    obtain ⟨w1, w2⟩ := g3 j hj
    have e4 : nI (l.getD j 0) >>> ((4 : Int32) &&& 31) = nI (l.getD j 0 / 16) := n_shr (i := 4) (by omega) (by decide)
    dsimp only
    simp only [c_I, c_R, c_A, hj4, g1, o_b, w1, n_has (show l.getD j 0 < 2 ^ 31 by omega) (show f < 32 by omega), e4, n_and]
    rw [if_neg (nI_ge hj (by omega)), show nI j + 1 = nI (j + 1) from nI_1 j]
    show _ = some (Sum.inl (if (l.getD j 0).testBit f = true then sX l f q true j ||| ((1 : Int64) <<< ((nI (pt q (l.getD j 0))).toInt64 &&& 63)) else sX l f q true j, if (l.getD j 0).testBit f = false then sX l f q false j ||| ((1 : Int64) <<< ((nI (pt q (l.getD j 0))).toInt64 &&& 63)) else sX l f q false j, nI (j + 1)))
    unfold pt
    cases (l.getD j 0).testBit f
    · rfl
    · rfl
  · dsimp only
    simp only [c_I, g1, o_b]
    rw [if_pos (nI_le (Nat.le_refl _) (by omega))]
  · dsimp only
    by_cases hz : sX l f q true l.length &&& sX l f q false l.length = 0
    · rw [if_pos ((lg_cmp_eq _ _).mpr hz), (sX_alk l f hq).mp hz]
      rfl
    · have ha : alk l f q = false := by
        cases hh : alk l f q with
        | false => rfl
        | true => exact absurd ((sX_alk l f hq).mpr hh) hz
      rw [if_neg (fun z => hz ((lg_cmp_eq _ _).mp z)), ha]
      rfl
/-- the reference's way -/
def yX (l : List Nat) (q w : Nat) (x : Int32) : Nat → Int32
  | 0 => x
  | b + 1 => if pt q w = pt q (l.getD b 0) then yX l q w x b &&& (nI (w ^^^ l.getD b 0) ^^^ (-1)) else yX l q w x b
def zX (l : List Nat) (q : Nat) (x : Int32) : Nat → Int32
  | 0 => x
  | a + 1 => yX l q (l.getD a 0) (zX l q x a) a
theorem yX_b (l : List Nat) (q w : Nat) (x : Int32) {i : Nat} (hi : i < 32) : ∀ b, bt (yX l q w x b) i = true ↔ bt x i = true ∧ ∀ u, u < b → pt q w = pt q (l.getD u 0) → w.testBit i = (l.getD u 0).testBit i
  | 0 => by
    show bt x i = true ↔ _
    constructor
    · intro h; exact ⟨h, fun u hu => absurd hu (Nat.not_lt_zero u)⟩
    · intro h; exact h.1
  | b + 1 => by
    have ih := yX_b l q w x hi b
    show bt (if pt q w = pt q (l.getD b 0) then yX l q w x b &&& (nI (w ^^^ l.getD b 0) ^^^ (-1)) else yX l q w x b) i = true ↔ _
    by_cases h : pt q w = pt q (l.getD b 0)
    · rw [if_pos h, b_and, b_not hi, b_n hi, Nat.testBit_xor, Bool.and_eq_true, ih]
      have hx : ((!(w.testBit i ^^ (l.getD b 0).testBit i)) = true) ↔ w.testBit i = (l.getD b 0).testBit i := by
        cases w.testBit i <;> cases (l.getD b 0).testBit i <;> decide
      rw [hx]
      constructor
      · rintro ⟨⟨h1, h2⟩, h3⟩
        refine ⟨h1, fun u hu e => ?_⟩
        by_cases hub : u = b
        · subst hub; exact h3
        · exact h2 u (by omega) e
      · rintro ⟨h1, h2⟩
        exact ⟨⟨h1, fun u hu e => h2 u (by omega) e⟩, h2 b (by omega) h⟩
    · rw [if_neg h, ih]
      constructor
      · rintro ⟨h1, h2⟩
        refine ⟨h1, fun u hu e => ?_⟩
        by_cases hub : u = b
        · subst hub; exact absurd e h
        · exact h2 u (by omega) e
      · rintro ⟨h1, h2⟩
        exact ⟨h1, fun u hu e => h2 u (by omega) e⟩
theorem zX_b (l : List Nat) (q : Nat) (x : Int32) {i : Nat} (hi : i < 32) : ∀ a, bt (zX l q x a) i = true ↔ bt x i = true ∧ ∀ t, t < a → ∀ u, u < t → pt q (l.getD t 0) = pt q (l.getD u 0) → (l.getD t 0).testBit i = (l.getD u 0).testBit i
  | 0 => by
    show bt x i = true ↔ _
    constructor
    · intro h; exact ⟨h, fun u hu => absurd hu (Nat.not_lt_zero u)⟩
    · intro h; exact h.1
  | a + 1 => by
    have ih := zX_b l q x hi a
    show bt (yX l q (l.getD a 0) (zX l q x a) a) i = true ↔ _
    rw [yX_b l q _ _ hi, ih]
    constructor
    · rintro ⟨⟨h1, h2⟩, h3⟩
      refine ⟨h1, fun t ht u hu e => ?_⟩
      by_cases hta : t = a
      · subst hta; exact h3 u hu e
      · exact h2 t (by omega) u hu e
    · rintro ⟨h1, h2⟩
      exact ⟨⟨h1, fun t ht u hu e => h2 t (by omega) u hu e⟩, fun u hu e => h2 a (by omega) u hu e⟩
theorem zX_alk (l : List Nat) (q F : Nat) {i : Nat} (hi : i < 32) : bt (zX l q (nI (2 ^ F - 1)) l.length) i = (decide (i < F) && alk l i q) := by
  rw [Bool.eq_iff_iff, zX_b l q _ hi, b_pm hi, Bool.and_eq_true]
  refine and_congr Iff.rfl ?_
  unfold alk
  rw [decide_eq_true_iff]
  constructor
  · intro h t ht u hu e
    rcases Nat.lt_trichotomy t u with q1 | q1 | q1
    · exact (h u hu t q1 e.symm).symm
    · rw [q1]
    · exact h t ht u q1 e
  · intro h t ht u hu e
    exact h t ht u (by omega) e
theorem m_alike {τ : St} (hz : τ.2.2 = true) {L : Ld} {l : List Nat} (hL : LM τ L) (ok : LdOK L) (hG : GA τ l) (hb : ∀ i, i < l.length → l.getD i 0 < 1024) {q : Nat} (hq : q < 64) : fX9_alikeBy 45 (nI q) (mk τ) = some (zX l q (nI (2 ^ L.1 2 - 1)) l.length) := by
  obtain ⟨g1, g2, g3⟩ := id hG
  unfold fX9_alikeBy
  simp only [m_O hz, m_allF hz hL ok, o_b]
  refine lp_b (fun a => (zX l q (nI (2 ^ L.1 2 - 1)) a, nI a)) l.length (r := zX l q (nI (2 ^ L.1 2 - 1)) l.length) rfl ?_ ?_ rfl
  · intro a ha
    have ha4 : a < 1024 := by omega
    have hwa := hb a ha
    dsimp only
    simp only [m_I hz, m_R hz, m_A hz, ha4, g1, o_b, g3 a ha]
    rw [if_neg (nI_ge ha (by omega)), show nI a + 1 = nI (a + 1) from nI_1 a]
    refine lp_b (fun b => (yX l q (l.getD a 0) (zX l q (nI (2 ^ L.1 2 - 1)) a) b, nI b)) a (r := yX l q (l.getD a 0) (zX l q (nI (2 ^ L.1 2 - 1)) a) a) rfl ?_ ?_ rfl
    · intro b hb2
      have hb4 : b < 1024 := by omega
      have hwb := hb b (by omega)
      have hx : l.getD a 0 ^^^ l.getD b 0 < 2 ^ 10 := Nat.xor_lt_two_pow hwa hwb
      have e4 : nI (l.getD a 0 ^^^ l.getD b 0) >>> ((4 : Int32) &&& 31) = nI ((l.getD a 0 ^^^ l.getD b 0) / 16) := n_shr (i := 4) (by omega) (by decide)
      have e5 : ((l.getD a 0 ^^^ l.getD b 0) / 16) &&& q = pt q (l.getD a 0) ^^^ pt q (l.getD b 0) := by
        unfold pt
        rw [show (16 : Nat) = 2 ^ 4 from rfl, Nat.xor_div_two_pow, Nat.and_xor_distrib_right]
      have hp1 := pt_lt (q := q) (w := l.getD a 0) hq
      have hp2 := pt_lt (q := q) (w := l.getD b 0) hq
      have hx2 : pt q (l.getD a 0) ^^^ pt q (l.getD b 0) < 2 ^ 6 := Nat.xor_lt_two_pow hp1 hp2
      have e6 : (nI (pt q (l.getD a 0) ^^^ pt q (l.getD b 0)) = 0) ↔ pt q (l.getD a 0) = pt q (l.getD b 0) := by
        have e7 : (nI (pt q (l.getD a 0) ^^^ pt q (l.getD b 0)) = nI 0) ↔ _ := nI_eq (by omega) (by decide)
        refine e7.trans ?_
        constructor
        · intro h
          apply Nat.eq_of_testBit_eq
          intro i
          have h2 : (pt q (l.getD a 0) ^^^ pt q (l.getD b 0)).testBit i = false := by rw [h]; exact Nat.zero_testBit i
          rw [Nat.testBit_xor] at h2
          cases h3 : (pt q (l.getD a 0)).testBit i <;> cases h4 : (pt q (l.getD b 0)).testBit i <;> rw [h3, h4] at h2 <;> first | rfl | (cases h2)
        · intro h
          rw [h, Nat.xor_self]
      dsimp only
      simp only [m_A hz, hb4, o_b, g3 b (by omega), n_xor, e4, n_and, e5]
      rw [if_neg (nI_ge hb2 (by omega)), show nI b + 1 = nI (b + 1) from nI_1 b]
      show _ = some (Sum.inl (if pt q (l.getD a 0) = pt q (l.getD b 0) then yX l q (l.getD a 0) (zX l q (nI (2 ^ L.1 2 - 1)) a) b &&& (nI (l.getD a 0 ^^^ l.getD b 0) ^^^ (-1)) else yX l q (l.getD a 0) (zX l q (nI (2 ^ L.1 2 - 1)) a) b, nI (b + 1)))
      by_cases h : pt q (l.getD a 0) = pt q (l.getD b 0)
      · rw [if_pos (e6.mpr h), if_pos h]; rfl
      · rw [if_neg (fun z => h (e6.mp z)), if_neg h]; rfl
    · dsimp only
      rw [if_pos (nI_le (Nat.le_refl _) (by omega))]
  · dsimp only
    simp only [m_I hz, g1, o_b]
    rw [if_pos (nI_le (Nat.le_refl _) (by omega))]
def fs_ (l : List Nat) (q : Nat) : Nat → Nat
  | 0 => 0
  | j + 1 => if alk l j q = true then fs_ l q j ||| 2 ^ j else fs_ l q j
theorem fs_b (l : List Nat) (q : Nat) (i : Nat) : ∀ j, (fs_ l q j).testBit i = (decide (i < j) && alk l i q)
  | 0 => by
    show (0 : Nat).testBit i = _
    rw [Nat.zero_testBit]
    rfl
  | j + 1 => by
    have ih := fs_b l q i j
    show (if alk l j q = true then fs_ l q j ||| 2 ^ j else fs_ l q j).testBit i = _
    by_cases h : alk l j q = true
    · rw [if_pos h, Nat.testBit_or, ih, Nat.testBit_two_pow]
      by_cases hij : i = j
      · subst hij
        rw [h]
        simp
      · rw [decide_eq_false (show ¬ j = i from fun z => hij z.symm), Bool.or_false]
        by_cases hl : i < j
        · rw [decide_eq_true hl, decide_eq_true (show i < j + 1 by omega)]
        · rw [decide_eq_false hl, decide_eq_false (show ¬ i < j + 1 by omega)]
    · rw [if_neg h, ih]
      by_cases hij : i = j
      · subst hij
        rw [Bool.not_eq_true] at h
        rw [h]
        simp
      · by_cases hl : i < j
        · rw [decide_eq_true hl, decide_eq_true (show i < j + 1 by omega)]
        · rw [decide_eq_false hl, decide_eq_false (show ¬ i < j + 1 by omega)]
theorem pw6 {s : Nat} (h : s ≤ 6) : 2 ^ s - 1 < 64 := by
  have : 2 ^ s ≤ 2 ^ 6 := Nat.pow_le_pow_right (by decide) h
  omega
theorem c_sm {σ : St} {L : Ld} (hL : LC σ L) (ok : LdOK L) : fX3_signMask 3 (mk σ) = some (nI (2 ^ L.1 3 - 1)) := by
  have h3 : σ.1 3 3 = nI (L.1 3) := hL.2.2.2.1
  have hsc := ok.2.2.2.1
  unfold fX3_signMask
  simp only [c_I, o_b, h3, p_1 (L.1 3) (by omega)]
theorem ok19 : ql_o19 Inv := by
  rintro a1 h ⟨σ, rfl, L, k, B, S, hI⟩
  have hz := iw_z hI
  obtain ⟨h1, h2, h3, h4, h5, h6, h7, h8, h9, h10, h11, h12, h13, h14⟩ := id hI
  have hfc := h1.2.2.1
  have hsc := h1.2.2.2.1
  have hz1 : (aS σ 44 1 (σ.2.1 44 1 + 1)).2.2 = true := hz
  rcases n_cases a1 with hn | ⟨q, hq, rfl⟩
  · refine fin_r (f9 := fun h => fX9_together 45 a1 h) hI 1 (x := -1) ?_ ?_
    · unfold fX8_together
      simp only [hn, if_true, c_O, o_b, c_ref1]
    · show fX9_together 45 a1 _ = _
      unfold fX9_together
      simp only [hn, if_true, m_O hz1, o_b, m_no1 hz1]
      rfl
  · have hn0 : ¬ nI q < 0 := nI_pos hq
    have hm6 := pw6 hsc
    have hsub := n_sub (w := q) (m := 2 ^ L.1 3 - 1) hq (by omega)
    by_cases hs : q &&& (2 ^ L.1 3 - 1) = q
    · have hq6 : q < 64 := by
        have : q &&& (2 ^ L.1 3 - 1) ≤ 2 ^ L.1 3 - 1 := Nat.and_le_right
        omega
      have hfw : fX9_findWorlds 45 0 (mk σ) = _ := m_findWorlds hz h4 h1 h7 (m := 0) (by decide)
      have hGA := ga_of (σ := σ) (gl_le L k B S 0 1024)
      generalize hT : fS (wS σ 64 (lA (gl L k B S 0 1024) (σ.2.1 64))) 45 33 (nI (gl L k B S 0 1024).length) = τ at hfw hGA
      have hzT : τ.2.2 = true := by rw [← hT]; exact hz
      have hLT : LM τ L := by rw [← hT]; exact h4
      have hIT : Iw τ L k B S := by rw [← hT]; exact iw_goods hI _ _
      have hCA := ca_of h9
      have hgl := g_lt (L := L) (k := k) (B := B) (S := S) (m := 0)
      have km := m_alike hzT hLT h1 hGA hgl hq6
      have kc := fun f (hf : f < 4) => c_alike hCA hf hq6
      refine fin (f9 := fun h => fX9_together 45 (nI q) h) (σ1 := σ) (σ2 := τ) (r := nI (fs_ (G0 L k B S) q (L.1 2))) ?_ hz ?_ ⟨L, k, B, S, hIT⟩
      · have c2 : σ.1 3 2 = nI (L.1 2) := h2.2.2.1
        unfold fX8_together
        simp only [hn0, if_false, c_R, c_O, o_b, c_sm h2 h1]
        rw [if_pos (hsub.mpr hs)]
        generalize G0 L k B S = l at kc
        refine lp_b (fun j => (nI (fs_ l q j), nI j)) (L.1 2) (r := nI (fs_ l q (L.1 2))) rfl ?_ ?_ rfl
        · intro j hj
          dsimp only
          simp only [c_I, c2, o_b, kc j (by omega), n_shl1 j (by omega), n_or]
          rw [if_neg (nI_ge hj (by omega)), show nI j + 1 = nI (j + 1) from nI_1 j]
          show _ = some (Sum.inl (nI (if alk l j q = true then fs_ l q j ||| 2 ^ j else fs_ l q j), nI (j + 1)))
          cases alk l j q <;> rfl
        · dsimp only
          simp only [c_I, c2, o_b]
          rw [if_pos (nI_le (Nat.le_refl _) (by omega))]
      · show fX9_together 45 (nI q) _ = _
        unfold fX9_together
        simp only [hn0, if_false, m_O hz, o_b, m_allS hz h4 h1]
        rw [if_pos (hsub.mpr hs)]
        simp only [hfw, o_b, m_O hzT, km]
        refine congrArg (fun z => some (z, mk τ)) ?_
        apply b_ext
        intro i hi
        rw [zX_alk _ _ _ hi, b_n hi, fs_b]
    · refine fin_r (f9 := fun h => fX9_together 45 (nI q) h) hI 1 (x := -1) ?_ ?_
      · unfold fX8_together
        simp only [hn0, if_false, c_R, c_O, o_b, c_sm h2 h1]
        rw [if_neg (fun z => hs (hsub.mp z))]
        simp only [c_ref1, o_b]
      · show fX9_together 45 (nI q) _ = _
        unfold fX9_together
        simp only [hn0, if_false, m_O hz1, o_b, m_allS hz1 (show LM (aS σ 44 1 (σ.2.1 44 1 + 1)) L from h4) h1]
        rw [if_neg (fun z => hs (hsub.mp z))]
        simp only [m_no1 hz1, o_b]
        rfl
