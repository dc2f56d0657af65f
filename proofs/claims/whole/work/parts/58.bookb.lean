/-! ===== 58: obligation: book ===== -/
theorem sgn_b (L : Ld) (r i : Nat) : ∀ j, (sgn L r j).testBit i = (decide (i < j) && decide (L.2 3 i = r))
  | 0 => by
    show (0 : Nat).testBit i = _
    rw [Nat.zero_testBit]
    rfl
  | j + 1 => by
    have ih := sgn_b L r i j
    show (if L.2 3 j = r then sgn L r j ||| 2 ^ j else sgn L r j).testBit i = _
    by_cases h : L.2 3 j = r
    · rw [if_pos h, Nat.testBit_or, ih, Nat.testBit_two_pow]
      by_cases hij : i = j
      · subst hij
        rw [decide_eq_true h]
        simp
      · rw [decide_eq_false (show ¬ j = i from fun z => hij z.symm), Bool.or_false]
        by_cases hl : i < j
        · rw [decide_eq_true hl, decide_eq_true (show i < j + 1 by omega)]
        · rw [decide_eq_false hl, decide_eq_false (show ¬ i < j + 1 by omega)]
    · rw [if_neg h, ih]
      by_cases hij : i = j
      · subst hij
        rw [decide_eq_false h]
        simp
      · by_cases hl : i < j
        · rw [decide_eq_true hl, decide_eq_true (show i < j + 1 by omega)]
        · rw [decide_eq_false hl, decide_eq_false (show ¬ i < j + 1 by omega)]
theorem pc_sgn (L : Ld) (r : Nat) {s : Nat} (hs : s ≤ 6) : pc (sgn L r s) = cs L r s := by
  show ct (fun i => (sgn L r s).testBit i) 31 = _
  rw [show 31 = s + (31 - s) by omega, ct_cut (fun k hk => by rw [sgn_b, decide_eq_false (show ¬ k < s by omega)]; rfl)]
  exact ct_cong (fun k hk => by rw [sgn_b, decide_eq_true hk]; rfl)
theorem sgn_lt (L : Ld) (r : Nat) {s : Nat} (hs : s ≤ 6) : sgn L r s < 4096 := by
  have : sgn L r s < 2 ^ 6 := lt_of_bits (fun i hi => by
    rw [sgn_b, Bool.and_eq_true, decide_eq_true_iff] at hi
    omega)
  omega
def toP (L : Ld) (fw : Bool) (r : Nat) : Nat := if fw = true then L.2 1 r else L.2 0 r
def frP (L : Ld) (fw : Bool) (r : Nat) : Nat := if fw = true then L.2 0 r else L.2 1 r
/-- one road's walks more -/
def wk (L : Ld) (t : Nat) (R : Nat → Nat) (fw : Bool) (r d : Nat) (W : Nat → Int32) : Nat → Int32 := if ¬ cs L r (L.1 3) = 0 ∧ std L t R fw r d = true then upd W (6 * (d + cs L r (L.1 3)) + toP L fw r) (W (6 * (d + cs L r (L.1 3)) + toP L fw r) + W (6 * d + frP L fw r)) else W
def trR (L : Ld) (t : Nat) (R : Nat → Nat) (d : Nat) (W : Nat → Int32) : Nat → Nat → Int32
  | 0 => W
  | r + 1 => wk L t R false r d (wk L t R true r d (trR L t R d W r))
def W0 (L : Ld) : Nat → Int32 := fun i => if i < L.1 0 then 1 else 0
def tr_ (L : Ld) (t : Nat) (R : Nat → Nat) : Nat → Nat → Int32
  | 0 => W0 L
  | d + 1 => trR L t R d (tr_ L t R d) (L.1 1)
theorem cpj_u (f g : Nat → Int32) {n i : Nat} (h : i < n) (v : Int32) : upd (cpj f g n) i v = cpj (upd f i v) g n := by
  funext j
  unfold upd cpj
  by_cases h1 : j = i
  · subst h1; rw [if_pos rfl, if_pos h]; exact (if_pos rfl).symm
  · rw [if_neg h1]
    by_cases h2 : j < n
    · rw [if_pos h2, if_pos h2]; exact (if_neg h1).symm
    · rw [if_neg h2, if_neg h2]
section BK
variable {σ : St} {L : Ld} {t : Nat} {R : Nat → Nat}
theorem pl_lt (ok : LdOK L) {r : Nat} (hr : r < L.1 1) (fw : Bool) : toP L fw r < L.1 0 ∧ frP L fw r < L.1 0 := by
  obtain ⟨p1, p2, p3⟩ := ok.2.2.2.2.1 r hr
  unfold toP frP
  cases fw
  · exact ⟨p1, p2⟩
  · exact ⟨p2, p1⟩
theorem c_walk (hL : LC σ L) (ok : LdOK L) (hR : RdB (σ.1 41 0) (σ.2.1 42) t R) {r d : Nat} (hr : r < L.1 1) (hd : d < t) (fw : Bool) (W : Nat → Int32) : fX4_walk 41 3 (nI r) (b2i fw) (nI d) (mk (wS σ 43 (cpj W (σ.2.1 43) 66))) = some (mk (wS σ 43 (cpj (wk L t R fw r d W) (σ.2.1 43) 66))) := by
  have hsc := ok.2.2.2.1
  have hr8 : r < 8 := by have := ok.2.1; omega
  have ht := hR.2.1
  have hp6 := ok.1.2
  obtain ⟨q1, q2⟩ := pl_lt ok hr fw
  generalize hT : wS σ 43 (cpj W (σ.2.1 43) 66) = τ
  have tL : LC τ L := by rw [← hT]; exact hL
  have tR : RdB (τ.1 41 0) (τ.2.1 42) t R := by rw [← hT]; exact hR
  have tA : ∀ i, i < 66 → τ.2.1 43 i = W i := fun i hi => by
    rw [← hT, wS_a, if_pos rfl]
    exact cpj_at hi
  have hs4 := sgn_lt L r hsc
  have hcl := cs_le L r (L.1 3)
  unfold fX4_walk
  simp only [c_O, o_b, c_signsOn tL ok hr8, pc_c hs4, pc_sgn L r hsc]
  unfold wk
  by_cases hn : cs L r (L.1 3) = 0
  · rw [if_pos (show nI (cs L r (L.1 3)) = 0 by rw [hn]; rfl), if_neg (fun z => z.1 hn), hT]
  · rw [if_neg (show ¬ nI (cs L r (L.1 3)) = 0 from nI_ne0 (by omega) (by omega))]
    simp only [c_read tL ok tR hr8 hd (by omega) fw, o_b]
    cases hstd : std L t R fw r d with
    | false => rw [if_pos b2i_f, if_neg (fun z => by cases z.2), hT]
    | true =>
      have hdn : d + cs L r (L.1 3) ≤ t := by
        unfold std at hstd
        rw [decide_eq_true_iff] at hstd
        exact hstd.1
      have hi1 : 6 * (d + cs L r (L.1 3)) + toP L fw r < 66 := by omega
      have hi2 : 6 * d + frP L fw r < 66 := by omega
      have ef : (if b2i fw = 0 then (qv_gR (mk τ) 2 3 5).bind fun v6 => (qv_aI (mk τ) false v6 (nI r)).bind fun v7 => some v7 else (qv_gR (mk τ) 2 3 4).bind fun v8 => (qv_aI (mk τ) false v8 (nI r)).bind fun v9 => some v9) = some (nI (frP L fw r)) := by
        simp only [c_R, c_A, hr8, o_b, tL.2.2.2.2.1 r hr8, tL.2.2.2.2.2.1 r hr8]
        cases fw <;> rfl
      have et : (if b2i fw = 0 then (qv_gR (mk τ) 2 3 4).bind fun v6 => (qv_aI (mk τ) false v6 (nI r)).bind fun v7 => some v7 else (qv_gR (mk τ) 2 3 5).bind fun v8 => (qv_aI (mk τ) false v8 (nI r)).bind fun v9 => some v9) = some (nI (toP L fw r)) := by
        simp only [c_R, c_A, hr8, o_b, tL.2.2.2.2.1 r hr8, tL.2.2.2.2.2.1 r hr8]
        cases fw <;> rfl
      have e6 : ∀ x, nI x * (6 : Int32) = nI (6 * x) := fun x => by rw [Nat.mul_comm]; exact pk_mul x 6
      rw [if_neg (show ¬ b2i true = 0 from hne), ef, et, o_b, o_b, if_pos ⟨hn, rfl⟩]
      simp only [nI_add, e6, c_R, c_A, hi1, hi2, o_b, tA, c_S]
      rw [← hT, aS_wS, cpj_u _ _ hi1]
theorem m_walk (hz : σ.2.2 = true) (hL : LM σ L) (ok : LdOK L) (hR : RdB (σ.1 45 39) (σ.2.1 68) t R) {r d : Nat} (hr : r < L.1 1) (hd : d < t) (fw : Bool) (W : Nat → Int32) : fX9_walksBy 45 (nI d) (nI r) (b2i fw) (mk (wS σ 69 (cpj W (σ.2.1 69) 66))) = some (mk (wS σ 69 (cpj (wk L t R fw r d W) (σ.2.1 69) 66))) := by
  have hsc := ok.2.2.2.1
  have hr8 : r < 8 := by have := ok.2.1; omega
  have ht := hR.2.1
  have hp6 := ok.1.2
  obtain ⟨q1, q2⟩ := pl_lt ok hr fw
  generalize hT : wS σ 69 (cpj W (σ.2.1 69) 66) = τ
  have tz : τ.2.2 = true := by rw [← hT]; exact hz
  have tL : LM τ L := by rw [← hT]; exact hL
  have tR : RdB (τ.1 45 39) (τ.2.1 68) t R := by rw [← hT]; exact hR
  have tA : ∀ i, i < 66 → τ.2.1 69 i = W i := fun i hi => by
    rw [← hT, wS_a, if_pos rfl]
    exact cpj_at hi
  have hcl := cs_le L r (L.1 3)
  unfold fX9_walksBy
  simp only [m_O tz, o_b, m_signsOn tz tL ok hr8]
  unfold wk
  by_cases hn : cs L r (L.1 3) = 0
  · rw [if_pos (show nI (cs L r (L.1 3)) = 0 by rw [hn]; rfl), if_neg (fun z => z.1 hn), hT]
  · rw [if_neg (show ¬ nI (cs L r (L.1 3)) = 0 from nI_ne0 (by omega) (by omega))]
    simp only [m_stand tz tL ok tR hr8 hd fw, o_b]
    cases hstd : std L t R fw r d with
    | false => rw [if_pos b2i_f, if_neg (fun z => by cases z.2), hT]
    | true =>
      have hdn : d + cs L r (L.1 3) ≤ t := by
        unfold std at hstd
        rw [decide_eq_true_iff] at hstd
        exact hstd.1
      have hi1 : 6 * (d + cs L r (L.1 3)) + toP L fw r < 66 := by omega
      have hi2 : 6 * d + frP L fw r < 66 := by omega
      have ef : (if b2i fw = 0 then (qv_gR (mk τ) 8 45 2).bind fun v6 => (qv_aI (mk τ) false v6 (nI r)).bind fun v7 => some v7 else (qv_gR (mk τ) 8 45 1).bind fun v8 => (qv_aI (mk τ) false v8 (nI r)).bind fun v9 => some v9) = some (nI (frP L fw r)) := by
        simp only [m_R tz, m_A tz, hr8, o_b, tL.2.2.2.2.1 r hr8, tL.2.2.2.2.2.1 r hr8]
        cases fw <;> rfl
      have et : (if b2i fw = 0 then (qv_gR (mk τ) 8 45 1).bind fun v6 => (qv_aI (mk τ) false v6 (nI r)).bind fun v7 => some v7 else (qv_gR (mk τ) 8 45 2).bind fun v8 => (qv_aI (mk τ) false v8 (nI r)).bind fun v9 => some v9) = some (nI (toP L fw r)) := by
        simp only [m_R tz, m_A tz, hr8, o_b, tL.2.2.2.2.1 r hr8, tL.2.2.2.2.2.1 r hr8]
        cases fw <;> rfl
      have e6 : ∀ x, (6 : Int32) * nI x = nI (6 * x) := fun x => pk_mul 6 x
      rw [if_neg (show ¬ b2i true = 0 from hne), ef, et, o_b, o_b, if_pos ⟨hn, rfl⟩]
      simp only [nI_add, e6, m_R tz, m_A tz, hi1, hi2, o_b, tA, m_S tz]
      rw [← hT, aS_wS, cpj_u _ _ hi1]
theorem c_trace (hL : LC σ L) (ok : LdOK L) (hR : RdB (σ.1 41 0) (σ.2.1 42) t R) : fX4_trace 41 3 (mk σ) = some (mk (wS σ 43 (cpj (tr_ L t R t) (σ.2.1 43) 66))) := by
  have ht := hR.2.1
  have hp6 := ok.1.2
  have hrc := ok.2.1
  unfold fX4_trace
  refine lp_b (fun j => (nI j, mk (wS σ 43 (cpj (W0 L) (σ.2.1 43) j)))) 66 (r := mk (wS σ 43 (cpj (W0 L) (σ.2.1 43) 66))) ?_ ?_ ?_ ?_
  · rw [cpj_0, wS_self]; rfl
  · intro j hj
    dsimp only
    generalize hT : wS σ 43 (cpj (W0 L) (σ.2.1 43) j) = τ
    have t0 : τ.1 3 0 = nI (L.1 0) := by rw [← hT]; exact hL.1
    have e7 : (if nI (L.1 0) ≤ nI j then some (0 : Int32) else some 1) = some (W0 L j) := by
      unfold W0
      by_cases h : j < L.1 0
      · rw [if_neg (nI_ge h (by omega)), if_pos h]
      · rw [if_pos (nI_le (by omega) (by omega)), if_neg h]
    simp only [c_R, c_L, o_b, c_I, t0, e7, c_S, hj]
    rw [if_neg (nI_ge hj (by omega)), show nI j + 1 = nI (j + 1) from nI_1 j, ← hT, aS_wS, cpj_s]
  · dsimp only
    simp only [c_R, c_L, o_b]
    rw [if_pos (nI_le (Nat.le_refl _) (by omega))]
  · refine lp_b (fun d => (nI d, mk (wS σ 43 (cpj (tr_ L t R d) (σ.2.1 43) 66)))) t (r := mk (wS σ 43 (cpj (tr_ L t R t) (σ.2.1 43) 66))) rfl ?_ ?_ rfl
    · intro d hd
      have t0 : (wS σ 43 (cpj (tr_ L t R d) (σ.2.1 43) 66)).1 41 0 = nI t := hR.1
      dsimp only
      simp only [c_I, o_b, t0]
      rw [if_neg (nI_ge hd (by omega)), show nI d + 1 = nI (d + 1) from nI_1 d]
      refine lp_b (fun r => (nI r, mk (wS σ 43 (cpj (trR L t R d (tr_ L t R d) r) (σ.2.1 43) 66)))) (L.1 1) (r := mk (wS σ 43 (cpj (tr_ L t R (d + 1)) (σ.2.1 43) 66))) rfl ?_ ?_ rfl
      · intro r hr
        have t1 : (wS σ 43 (cpj (trR L t R d (tr_ L t R d) r) (σ.2.1 43) 66)).1 3 1 = nI (L.1 1) := hL.2.1
        have w1 : fX4_walk 41 3 (nI r) 1 (nI d) (mk (wS σ 43 (cpj (trR L t R d (tr_ L t R d) r) (σ.2.1 43) 66))) = _ := c_walk hL ok hR hr hd true _
        have w2 : fX4_walk 41 3 (nI r) 0 (nI d) (mk (wS σ 43 (cpj (wk L t R true r d (trR L t R d (tr_ L t R d) r)) (σ.2.1 43) 66))) = _ := c_walk hL ok hR hr hd false _
        dsimp only
        simp only [c_I, o_b, t1, c_O, w1, w2]
        rw [if_neg (nI_ge hr (by omega)), show nI r + 1 = nI (r + 1) from nI_1 r]
        rfl
      · have t1 : (wS σ 43 (cpj (trR L t R d (tr_ L t R d) (L.1 1)) (σ.2.1 43) 66)).1 3 1 = nI (L.1 1) := hL.2.1
        dsimp only
        simp only [c_I, o_b, t1]
        rw [if_pos (nI_le (Nat.le_refl _) (by omega))]
        rfl
    · have t0 : (wS σ 43 (cpj (tr_ L t R t) (σ.2.1 43) 66)).1 41 0 = nI t := hR.1
      dsimp only
      simp only [c_I, o_b, t0]
      rw [if_pos (nI_le (Nat.le_refl _) (by omega))]
def smW (W : Nat → Int32) (t : Nat) : Nat → Int32
  | 0 => 0
  | p + 1 => smW W t p + W (6 * t + p)
def enW (W : Nat → Int32) (t : Nat) : Nat → Int32
  | 0 => 0
  | p + 1 => enW W t p ||| (if W (6 * t + p) ≤ 0 then 0 else nI (2 ^ p))
theorem or_0 (x : Int32) : x ||| 0 = x := b_ext (fun i _ => by rw [b_or, b_0, Bool.or_false])
theorem add_0 (x : Int32) : x + 0 = x := by
  have e := n_self x
  rw [e]
  show nI _ + nI 0 = _
  rw [nI_add]
  rfl
/-- no walk is at a place that is not there -/
def WOk (L : Ld) (W : Nat → Int32) : Prop := ∀ d p, p < 6 → L.1 0 ≤ p → W (6 * d + p) = 0
theorem wk_ok (ok : LdOK L) {W : Nat → Int32} (h : WOk L W) {r d : Nat} (hr : r < L.1 1) (fw : Bool) : WOk L (wk L t R fw r d W) := by
  have hp6 := ok.1.2
  obtain ⟨q1, q2⟩ := pl_lt ok hr fw
  intro e p hp hp2
  unfold wk
  split
  · unfold upd
    rw [if_neg (by omega)]
    exact h e p hp hp2
  · exact h e p hp hp2
theorem trR_ok (ok : LdOK L) {W : Nat → Int32} (h : WOk L W) {d : Nat} : ∀ r, r ≤ L.1 1 → WOk L (trR L t R d W r)
  | 0, _ => h
  | r + 1, hr => wk_ok ok (wk_ok ok (trR_ok ok h r (by omega)) (by omega) true) (by omega) false
theorem tr_ok (ok : LdOK L) : ∀ d, WOk L (tr_ L t R d)
  | 0 => fun d p hp hp2 => by
    show (if 6 * d + p < L.1 0 then (1 : Int32) else 0) = 0
    rw [if_neg (by omega)]
  | d + 1 => trR_ok ok (tr_ok ok d) (L.1 1) (Nat.le_refl _)
theorem sm_cut {W : Nat → Int32} (h : WOk L W) (u : Nat) : ∀ e, L.1 0 + e ≤ 6 → smW W u (L.1 0 + e) = smW W u (L.1 0) ∧ enW W u (L.1 0 + e) = enW W u (L.1 0)
  | 0, _ => ⟨rfl, rfl⟩
  | e + 1, he => by
    obtain ⟨i1, i2⟩ := sm_cut h u e (by omega)
    have hw := h u (L.1 0 + e) (by omega) (by omega)
    constructor
    · show smW W u (L.1 0 + e) + W (6 * u + (L.1 0 + e)) = _
      rw [hw, i1, add_0]
    · show enW W u (L.1 0 + e) ||| (if W (6 * u + (L.1 0 + e)) ≤ 0 then 0 else nI (2 ^ (L.1 0 + e))) = _
      rw [hw, if_pos (by decide), i2, or_0]
theorem sm_6 (ok : LdOK L) {W : Nat → Int32} (h : WOk L W) (u : Nat) : smW W u 6 = smW W u (L.1 0) ∧ enW W u 6 = enW W u (L.1 0) := by
  have hp6 := ok.1.2
  have := sm_cut h u (6 - L.1 0) (by omega)
  rw [show L.1 0 + (6 - L.1 0) = 6 by omega] at this
  exact this
theorem c_cnt (h0 : σ.1 41 0 = nI t) (ht : t ≤ 10) {W : Nat → Int32} (hW : ∀ i, i < 66 → σ.2.1 43 i = W i) : fX4_walkCount 41 (mk σ) = some (smW W t 6) := by
  unfold fX4_walkCount
  refine lp_b (fun p => (smW W t p, nI p)) 6 (r := smW W t 6) rfl ?_ ?_ rfl
  · intro p hp
    have hi : 6 * t + p < 66 := by omega
    have e6 : nI t * (6 : Int32) = nI (6 * t) := by rw [Nat.mul_comm]; exact pk_mul t 6
    dsimp only
    simp only [c_R, c_I, o_b, h0, e6, nI_add, c_A, hi, hW]
    rw [if_neg (show ¬ (6 : Int32) ≤ nI p from nI_ge (b := 6) hp (by decide)), show nI p + 1 = nI (p + 1) from nI_1 p]
    rfl
  · dsimp only
    rw [if_pos (show (6 : Int32) ≤ nI 6 by decide)]
theorem c_end (h0 : σ.1 41 0 = nI t) (ht : t ≤ 10) {W : Nat → Int32} (hW : ∀ i, i < 66 → σ.2.1 43 i = W i) : fX4_endPlaces 41 (mk σ) = some (enW W t 6) := by
  unfold fX4_endPlaces
  refine lp_b (fun p => (enW W t p, nI p)) 6 (r := enW W t 6) rfl ?_ ?_ rfl
  · intro p hp
    have hi : 6 * t + p < 66 := by omega
    have e6 : nI t * (6 : Int32) = nI (6 * t) := by rw [Nat.mul_comm]; exact pk_mul t 6
    dsimp only
    simp only [c_R, c_I, o_b, h0, e6, nI_add, c_A, hi, hW, n_shl1 p (show p < 31 by omega)]
    rw [if_neg (show ¬ (6 : Int32) ≤ nI p from nI_ge (b := 6) hp (by decide)), show nI p + 1 = nI (p + 1) from nI_1 p]
    show _ = some (Sum.inl (enW W t p ||| (if W (6 * t + p) ≤ 0 then 0 else nI (2 ^ p)), nI (p + 1)))
    by_cases h : W (6 * t + p) ≤ 0
    · rw [if_pos h, if_pos h, or_0]; rfl
    · rw [if_neg h, if_neg h]; rfl
  · dsimp only
    rw [if_pos (show (6 : Int32) ≤ nI 6 by decide)]
theorem m_book (hz : σ.2.2 = true) (hL : LM σ L) (ok : LdOK L) (hR : RdB (σ.1 45 39) (σ.2.1 68) t R) (ht0 : 0 < t) (b : Bool) : fX9_book 45 (b2i b) (mk σ) = some (cond b (enW (tr_ L t R t) t (L.1 0)) (smW (tr_ L t R t) t (L.1 0)), mk (fS (wS σ 69 (cpj (tr_ L t R t) (σ.2.1 69) 66)) 45 39 0)) := by
  have ht := hR.2.1
  have hp6 := ok.1.2
  have hrc := ok.2.1
  have hin : fX9_isIn (b2i b) 0 1 = some 1 := by cases b <;> rfl
  have r39 := hR.1
  unfold fX9_book
  simp only [hin, o_b, hne, if_false, m_I hz, r39]
  rw [if_neg (show ¬ nI t = 0 from nI_ne0 ht0 (by omega))]
  refine lp_b (fun j => (nI j, mk (wS σ 69 (cpj (W0 L) (σ.2.1 69) j)))) 66 (r := mk (wS σ 69 (cpj (W0 L) (σ.2.1 69) 66))) ?_ ?_ ?_ ?_
  · rw [cpj_0, wS_self]; rfl
  · intro j hj
    dsimp only
    generalize hT : wS σ 69 (cpj (W0 L) (σ.2.1 69) j) = τ
    have tz : τ.2.2 = true := by rw [← hT]; exact hz
    have t0 : τ.1 45 8 = nI (L.1 0) := by rw [← hT]; exact hL.1
    have e7 : (if nI (L.1 0) ≤ nI j then some (0 : Int32) else some 1) = some (W0 L j) := by
      unfold W0
      by_cases h : j < L.1 0
      · rw [if_neg (nI_ge h (by omega)), if_pos h]
      · rw [if_pos (nI_le (by omega) (by omega)), if_neg h]
    simp only [m_R tz, o_b, m_I tz, t0, e7, m_S tz, hj]
    rw [if_neg (show ¬ (66 : Int32) ≤ nI j from nI_ge (b := 66) hj (by decide)), show nI j + 1 = nI (j + 1) from nI_1 j, ← hT, aS_wS, cpj_s]
  · dsimp only
    rw [if_pos (show (66 : Int32) ≤ nI 66 by decide)]
  · refine lp_b (fun d => (nI d, mk (wS σ 69 (cpj (tr_ L t R d) (σ.2.1 69) 66)))) t (r := mk (wS σ 69 (cpj (tr_ L t R t) (σ.2.1 69) 66))) rfl ?_ ?_ ?_
    · intro d hd
      have z0 : (wS σ 69 (cpj (tr_ L t R d) (σ.2.1 69) 66)).2.2 = true := hz
      have t0 : (wS σ 69 (cpj (tr_ L t R d) (σ.2.1 69) 66)).1 45 39 = nI t := hR.1
      dsimp only
      simp only [m_I z0, o_b, t0]
      rw [if_neg (nI_ge hd (by omega)), show nI d + 1 = nI (d + 1) from nI_1 d]
      refine lp_b (fun r => (nI r, mk (wS σ 69 (cpj (trR L t R d (tr_ L t R d) r) (σ.2.1 69) 66)))) (L.1 1) (r := mk (wS σ 69 (cpj (tr_ L t R (d + 1)) (σ.2.1 69) 66))) rfl ?_ ?_ rfl
      · intro r hr
        have z1 : ∀ W, (wS σ 69 (cpj W (σ.2.1 69) 66)).2.2 = true := fun _ => hz
        have t1 : (wS σ 69 (cpj (trR L t R d (tr_ L t R d) r) (σ.2.1 69) 66)).1 45 9 = nI (L.1 1) := hL.2.1
        have w1 : fX9_walksBy 45 (nI d) (nI r) 1 (mk (wS σ 69 (cpj (trR L t R d (tr_ L t R d) r) (σ.2.1 69) 66))) = _ := m_walk hz hL ok hR hr hd true _
        have w2 : fX9_walksBy 45 (nI d) (nI r) 0 (mk (wS σ 69 (cpj (wk L t R true r d (trR L t R d (tr_ L t R d) r)) (σ.2.1 69) 66))) = _ := m_walk hz hL ok hR hr hd false _
        dsimp only
        simp only [m_I (z1 _), o_b, t1, m_O (z1 _), w1, w2]
        rw [if_neg (nI_ge hr (by omega)), show nI r + 1 = nI (r + 1) from nI_1 r]
        rfl
      · have z1 : (wS σ 69 (cpj (trR L t R d (tr_ L t R d) (L.1 1)) (σ.2.1 69) 66)).2.2 = true := hz
        have t1 : (wS σ 69 (cpj (trR L t R d (tr_ L t R d) (L.1 1)) (σ.2.1 69) 66)).1 45 9 = nI (L.1 1) := hL.2.1
        dsimp only
        simp only [m_I z1, o_b, t1]
        rw [if_pos (nI_le (Nat.le_refl _) (by omega))]
        rfl
    · have z0 : (wS σ 69 (cpj (tr_ L t R t) (σ.2.1 69) 66)).2.2 = true := hz
      have t0 : (wS σ 69 (cpj (tr_ L t R t) (σ.2.1 69) 66)).1 45 39 = nI t := hR.1
      dsimp only
      simp only [m_I z0, o_b, t0]
      rw [if_pos (nI_le (Nat.le_refl _) (by omega))]
    · have tA : ∀ i, i < 66 → (wS σ 69 (cpj (tr_ L t R t) (σ.2.1 69) 66)).2.1 69 i = tr_ L t R t i := fun i hi => by
        rw [wS_a, if_pos rfl]
        exact cpj_at hi
      have z0 : (wS σ 69 (cpj (tr_ L t R t) (σ.2.1 69) 66)).2.2 = true := hz
      have t39 : (wS σ 69 (cpj (tr_ L t R t) (σ.2.1 69) 66)).1 45 39 = nI t := hR.1
      have t8 : (wS σ 69 (cpj (tr_ L t R t) (σ.2.1 69) 66)).1 45 8 = nI (L.1 0) := hL.1
      generalize wS σ 69 (cpj (tr_ L t R t) (σ.2.1 69) 66) = τ at tA z0 t39 t8
      generalize tr_ L t R t = W at tA
      refine lp_b (fun p => (smW W t p, enW W t p, nI p)) (L.1 0) (r := (smW W t (L.1 0), enW W t (L.1 0))) rfl ?_ ?_ ?_
      · intro p hp
        have hi : 6 * t + p < 66 := by omega
        have e6 : (6 : Int32) * nI t = nI (6 * t) := pk_mul 6 t
        dsimp only
        simp only [m_R z0, m_I z0, o_b, t8, t39, e6, nI_add, m_A z0, hi, tA, n_shl1 p (show p < 31 by omega)]
        rw [if_neg (nI_ge hp (by omega)), show nI p + 1 = nI (p + 1) from nI_1 p]
        show _ = some (Sum.inl (smW W t p + W (6 * t + p), enW W t p ||| (if W (6 * t + p) ≤ 0 then 0 else nI (2 ^ p)), nI (p + 1)))
        by_cases h : W (6 * t + p) ≤ 0
        · rw [if_pos h, if_pos h]; rfl
        · rw [if_neg h, if_neg h]; rfl
      · dsimp only
        simp only [m_I z0, o_b, t8]
        rw [if_pos (nI_le (Nat.le_refl _) (by omega))]
      · dsimp only
        simp only [m_P z0, o_b]
        cases b <;> rfl
end BK
theorem ok22 : ql_o22 Inv := by
  rintro a1 h ⟨σ, rfl, L, k, B, S, hI⟩
  have hz := iw_z hI
  obtain ⟨h1, h2, h3, h4, h5, h6, h7, h8, h9, h10, h11, h12, h13, h14⟩ := id hI
  obtain ⟨t, t1, t2, t3, t4⟩ := h11
  have e01 : (∃ b : Bool, a1 = b2i b) ∨ (¬ a1 = 0 ∧ ¬ a1 = 1) := by
    by_cases q0 : a1 = 0
    · exact Or.inl ⟨false, q0⟩
    · by_cases q1 : a1 = 1
      · exact Or.inl ⟨true, q1⟩
      · exact Or.inr ⟨q0, q1⟩
  rcases e01 with ⟨b, rfl⟩ | ⟨n0, n1⟩
  · by_cases ht : t = 0
    · subst ht
      have hz1 : (aS σ 44 3 (σ.2.1 44 3 + 1)).2.2 = true := hz
      have hin : fX9_isIn (b2i b) 0 1 = some 1 := by cases b <;> rfl
      refine fin_r (f9 := fun h => fX9_book 45 (b2i b) h) hI 3 (x := -3) ?_ ?_
      · unfold fX8_book
        simp only [c_R, c_I, t2, o_b, show nI 0 = (0 : Int32) from rfl, if_true, c_O, c_ref3]
        cases b <;> rfl
      · show fX9_book 45 (b2i b) _ = _
        unfold fX9_book
        simp only [hin, o_b, hne, if_false, m_I hz1, aS_f, t3, show nI 0 = (0 : Int32) from rfl, if_true, m_O hz1, m_no3 hz1]
        rfl
    · have hex : ∃ R : Nat → Nat, ∀ i, i < t → R i < 6 ∧ σ.2.1 42 i = nI (R i) ∧ σ.2.1 68 i = nI (R i) := by
        refine ⟨fun i => if hi : i < t then Classical.choose (t4 i hi) else 0, fun i hi => ?_⟩
        simp only [hi, dif_pos]
        exact Classical.choose_spec (t4 i hi)
      obtain ⟨R, hR⟩ := hex
      have rC : RdB (σ.1 41 0) (σ.2.1 42) t R := ⟨t2, t1, fun i hi => ⟨(hR i hi).2.1, (hR i hi).1⟩⟩
      have rM : RdB (σ.1 45 39) (σ.2.1 68) t R := ⟨t3, t1, fun i hi => ⟨(hR i hi).2.2, (hR i hi).1⟩⟩
      have et := c_trace h2 h1 rC
      have hok := tr_ok (L := L) (t := t) (R := R) h1 t
      obtain ⟨s1, s2⟩ := sm_6 h1 hok t
      have tA : ∀ i, i < 66 → (wS σ 43 (cpj (tr_ L t R t) (σ.2.1 43) 66)).2.1 43 i = tr_ L t R t i := fun i hi => by
        rw [wS_a, if_pos rfl]
        exact cpj_at hi
      have k1 : (wS σ 43 (cpj (tr_ L t R t) (σ.2.1 43) 66)).1 41 0 = nI t := t2
      have u1 := c_cnt k1 t1 tA
      have u2 := c_end k1 t1 tA
      have ecl : fX4_clear 41 (mk (wS σ 43 (cpj (tr_ L t R t) (σ.2.1 43) 66))) = some (mk (fS (wS σ 43 (cpj (tr_ L t R t) (σ.2.1 43) 66)) 41 0 0)) := by
        unfold fX4_clear
        simp only [c_P, o_b]
      have e8 : fX8_book 0 (b2i b) (mk σ) = some (cond b (enW (tr_ L t R t) t (L.1 0)) (smW (tr_ L t R t) t (L.1 0)), mk (fS (wS σ 43 (cpj (tr_ L t R t) (σ.2.1 43) 66)) 41 0 0)) := by
        rw [← s1, ← s2]
        unfold fX8_book
        simp only [c_R, c_I, t2, o_b, c_O, et, u1, u2, ecl]
        rw [if_neg (show ¬ nI t = 0 from nI_ne0 (by omega) (by omega))]
        cases b <;> rfl
      have g4 : LM (fS (wS σ 43 (cpj (tr_ L t R t) (σ.2.1 43) 66)) 41 0 0) L := h4
      have gR : RdB ((fS (wS σ 43 (cpj (tr_ L t R t) (σ.2.1 43) 66)) 41 0 0).1 45 39) ((fS (wS σ 43 (cpj (tr_ L t R t) (σ.2.1 43) 66)) 41 0 0).2.1 68) t R := rM
      have e9 := m_book (σ := fS (wS σ 43 (cpj (tr_ L t R t) (σ.2.1 43) 66)) 41 0 0) hz g4 h1 gR (by omega) b
      exact fin (f9 := fun h => fX9_book 45 (b2i b) h) e8 hz e9 ⟨L, k, B, S, h1, h2, h3, h4, h5, h6, h7, h8, h9, h10, ⟨0, by decide, rfl, rfl, fun i hi => absurd hi (Nat.not_lt_zero i)⟩, h12, h13, h14⟩
  · have hz1 : (aS σ 44 2 (σ.2.1 44 2 + 1)).2.2 = true := hz
    have hin : fX9_isIn a1 0 1 = some 0 := by
      rw [n_in]
      have : decide (¬ a1 < 0 ∧ ¬ (1 : Int32) < a1) = false := by
        cases hd : decide (¬ a1 < 0 ∧ ¬ (1 : Int32) < a1) with
        | false => rfl
        | true =>
          obtain ⟨j, hj, rfl⟩ := (in_few (n := 1) (by decide)).mp hd
          rcases (show j = 0 ∨ j = 1 by omega) with rfl | rfl
          · exact absurd rfl n0
          · exact absurd rfl n1
      rw [this]; rfl
    refine fin_r (f9 := fun h => fX9_book 45 a1 h) hI 2 (x := -2) ?_ ?_
    · unfold fX8_book
      simp only [n0, n1, if_false, c_O, o_b, c_ref2]
    · show fX9_book 45 a1 _ = _
      unfold fX9_book
      simp only [hin, o_b, if_true, m_O hz1, m_no2 hz1]
      rfl
