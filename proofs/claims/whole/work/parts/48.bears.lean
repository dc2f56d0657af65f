/-! ===== 48: obligation: bears ===== -/
theorem mx_n {a b : Nat} (ha : a < 2 ^ 31) (hb : b < 2 ^ 31) : qv_mx (nI a) (nI b) = nI (max a b) := by
  unfold qv_mx
  rcases Nat.lt_or_ge a b with h | h
  · rw [if_pos (nI_lt h hb), Nat.max_eq_right (Nat.le_of_lt h)]
  · rw [if_neg (nI_nlt h ha), Nat.max_eq_left h]
theorem mn_n {a b : Nat} (ha : a < 2 ^ 31) (hb : b < 2 ^ 31) : qv_mn (nI a) (nI b) = nI (min a b) := by
  unfold qv_mn
  rcases Nat.lt_or_ge b a with h | h
  · rw [if_pos (nI_lt h ha), Nat.min_eq_right (Nat.le_of_lt h)]
  · rw [if_neg (nI_nlt h hb), Nat.min_eq_left h]
/-- a loop that may end early, and what is behind it -/
theorem lp_fb {σ ρ β : Type} {body : σ → Option (σ ⊕ ρ)} {s : σ} {k : ρ → Option β} {x : Option β} (f : Nat → σ) (n : Nat) (p : Nat → Bool) (R : Nat → ρ) (re : ρ) (h0 : s = f 0) (h1 : ∀ j, j < n → p j = false → body (f j) = some (.inl (f (j + 1)))) (h2 : ∀ j, j < n → p j = true → body (f j) = some (.inr (R j))) (he : body (f n) = some (.inr re)) (hk : k (if fi p n < n then R (fi p n) else re) = x) : Option.bind (qv_loop body s) k = x := by
  rw [lp_f f n p R re h0 h1 h2 he]
  exact hk
theorem fi_cong {p q : Nat → Bool} : ∀ {n : Nat}, (∀ k, k < n → p k = q k) → fi p n = fi q n
  | 0, _ => rfl
  | n + 1, h => by
    have ih := fi_cong (p := p) (q := q) (n := n) (fun k hk => h k (by omega))
    show (if fi p n < n then fi p n else if p n then n else n + 1) = (if fi q n < n then fi q n else if q n then n else n + 1)
    rw [ih, h n (by omega)]
/-- the least number of signs that do not fit, where a fact is as told -/
def lm (L : Ld) (k : Nat) (B : Nat → Nat) (S : Nat → Bool) (f : Nat) (q : Bool) : Nat → Nat
  | 0 => 7
  | j + 1 => if ((j.testBit f == q) && fok k B S j) = true then min (lm L k B S f q j) (if isW L j then wr L j else 7) else lm L k B S f q j
section BE
variable {L : Ld} {k : Nat} {B : Nat → Nat} {S : Nat → Bool} {f : Nat} {q : Bool}
theorem lm_le : ∀ j, lm L k B S f q j ≤ 7
  | 0 => Nat.le_refl 7
  | j + 1 => by
    have ih := lm_le j
    show (if ((j.testBit f == q) && fok k B S j) = true then min (lm L k B S f q j) (if isW L j then wr L j else 7) else lm L k B S f q j) ≤ 7
    split
    · exact Nat.le_trans (Nat.min_le_left _ _) ih
    · exact ih
theorem lm_iff {m : Nat} (hm : m < 7) : ∀ n, lm L k B S f q n ≤ m ↔ ∃ w, w < n ∧ gq L k B S m w = true ∧ w.testBit f = q
  | 0 => by
    constructor
    · intro h
      have h2 : 7 ≤ m := h
      omega
    · rintro ⟨w, h, _⟩
      omega
  | n + 1 => by
    have ih := lm_iff hm n
    show (if ((n.testBit f == q) && fok k B S n) = true then min (lm L k B S f q n) (if isW L n then wr L n else 7) else lm L k B S f q n) ≤ m ↔ _
    have e : gq L k B S m n = (isW L n && (decide (wr L n ≤ m) && fok k B S n)) := rfl
    have key : (∃ w, w < n + 1 ∧ gq L k B S m w = true ∧ w.testBit f = q) ↔ (∃ w, w < n ∧ gq L k B S m w = true ∧ w.testBit f = q) ∨ (gq L k B S m n = true ∧ n.testBit f = q) := by
      constructor
      · rintro ⟨w, h1, h2, h3⟩
        by_cases h : w = n
        · subst h
          exact Or.inr ⟨h2, h3⟩
        · exact Or.inl ⟨w, by omega, h2, h3⟩
      · rintro (⟨w, h1, h2, h3⟩ | ⟨h2, h3⟩)
        · exact ⟨w, by omega, h2, h3⟩
        · exact ⟨n, by omega, h2, h3⟩
    rw [key, ← ih, e]
    by_cases h3 : n.testBit f = q
    · rw [h3]
      cases h1 : fok k B S n with
      | false => simp
      | true =>
        cases h2 : isW L n with
        | false =>
          rw [if_pos (by simp), if_neg (by simp)]
          simp only [Bool.false_and, Bool.false_eq_true, false_and, or_false]
          omega
        | true =>
          rw [if_pos (by simp), if_pos rfl]
          simp only [Bool.and_true, Bool.true_and, decide_eq_true_iff, and_true]
          omega
    · rw [if_neg (by simp [h3])]
      simp [h3]
theorem c_lm {σ : St} (ok : LdOK L) (hR : RK σ L) (hB : ∀ i, i < k → B i < 10) (hS : SF σ L k B S) (hf : f < 4) : fX7_leastMisfits 33 (nI f) (b2i q) (mk σ) = some (nI (lm L k B S f q (msk L + 1))) := by
  have hml := msk_lt ok
  unfold fX7_leastMisfits
  refine lp_b (fun j => (nI (lm L k B S f q j), nI j)) (msk L + 1) (r := nI (lm L k B S f q (msk L + 1))) rfl ?_ ?_ rfl
  · intro j hj
    have hj4 : j < 1024 := by omega
    have hl := lm_le (L := L) (k := k) (B := B) (S := S) (f := f) (q := q) j
    have hwl := wr_le L j
    have hsc := ok.2.2.2.1
    have e0 : σ.2.1 35 j = nI (if isW L j then wr L j else 7) := by
      rw [hR.2.2 j (by omega)]
      cases isW L j <;> rfl
    have e1 : (if isW L j then wr L j else 7) < 2 ^ 31 := by split <;> omega
    dsimp only
    simp only [c_I, c_R, c_O, c_A, hj4, o_b, hR.1, e0, n_has (show j < 2 ^ 31 by omega) (show f < 32 by omega), c_asFound hB hS.2.1 hS.2.2.1 (show j < 2 ^ 31 by omega)]
    rw [if_neg (show ¬ nI (msk L) < nI j from nI_nlt (by omega) (by omega)), show nI j + 1 = nI (j + 1) from nI_1 j]
    show _ = some (Sum.inl (nI (if ((j.testBit f == q) && fok k B S j) = true then min (lm L k B S f q j) (if isW L j then wr L j else 7) else lm L k B S f q j), nI (j + 1)))
    by_cases h3 : j.testBit f = q
    · rw [if_pos (show b2i (j.testBit f) = b2i q by rw [h3])]
      cases h4 : fok k B S j with
      | false => rw [if_pos b2i_f, if_neg (by simp)]; rfl
      | true => rw [if_neg (show ¬ b2i true = 0 from hne), o_b, mn_n (by omega) e1, if_pos (show (j.testBit f == q && true) = true by simp [h3])]
    · rw [if_neg (fun z => h3 (b2i_inj.mp z)), if_neg (by simp [h3])]; rfl
  · dsimp only
    simp only [c_I, o_b, hR.1]
    rw [if_pos (show nI (msk L) < nI (msk L + 1) from nI_lt (by omega) (by omega))]
end BE
def xx (j : Nat) : Int32 := if j < 7 then nI (6 - j) else -1
def sd (L : Ld) (k : Nat) (B : Nat → Nat) (S : Nat → Bool) (σ : St) : Nat → St
  | 0 => σ
  | j + 1 => fS (wS (sd L k B S σ j) 64 (lA (gl L k B S (6 - j) 1024) ((sd L k B S σ j).2.1 64))) 45 33 (nI (gl L k B S (6 - j) 1024).length)
theorem sd_iw {L : Ld} {k : Nat} {B : Nat → Nat} {S : Nat → Bool} {σ : St} (h : Iw σ L k B S) : ∀ j, Iw (sd L k B S σ j) L k B S
  | 0 => h
  | j + 1 => iw_goods (sd_iw h j) _ _
theorem no_gl {L : Ld} (ok : LdOK L) {k : Nat} {B : Nat → Nat} {S : Nat → Bool} {m i : Nat} : no_ (fun _ => true) (gl L k B S m 1024) i (gl L k B S m 1024).length = decide (∀ w, w < msk L + 1 → gq L k B S m w = true → w.testBit i = false) := by
  have hml := msk_lt ok
  rw [no_mem, Bool.eq_iff_iff, decide_eq_true_iff, decide_eq_true_iff]
  constructor
  · intro h w hw hg
    exact h w (gl_mem.mpr ⟨by omega, hg⟩) rfl
  · intro h w hw _
    obtain ⟨q1, q2⟩ := gl_mem.mp hw
    have : isW L w = true := by unfold gq at q2; simp at q2; exact q2.1
    exact h w (by have := isW_lt this; omega) q2
theorem be_p {L : Ld} (ok : LdOK L) {k : Nat} {B : Nat → Nat} {S : Nat → Bool} {m f : Nat} (hm : m < 7) (hf : f < 4) : bt (aX (fun _ => true) (gl L k B S m 1024) 1023 (gl L k B S m 1024).length ||| nX (gl L k B S m 1024) 1023 (gl L k B S m 1024).length) f = decide (m < max (lm L k B S f true (msk L + 1)) (lm L k B S f false (msk L + 1))) := by
  rw [b_or, aX_b _ _ _ (by omega), nX_b _ _ (by omega), b_1023 f (by omega), al_gl ok, no_gl ok, decide_eq_true (show f < 10 by omega), Bool.true_and, Bool.true_and, Bool.eq_iff_iff, Bool.or_eq_true, decide_eq_true_iff, decide_eq_true_iff, decide_eq_true_iff]
  have e1 := lm_iff (L := L) (k := k) (B := B) (S := S) (f := f) (q := true) hm (msk L + 1)
  have e2 := lm_iff (L := L) (k := k) (B := B) (S := S) (f := f) (q := false) hm (msk L + 1)
  have d1 : (∀ w, w < msk L + 1 → gq L k B S m w = true → w.testBit f = true) ↔ ¬ lm L k B S f false (msk L + 1) ≤ m := by
    rw [e2]
    constructor
    · rintro h ⟨w, h1, h2, h3⟩
      rw [h w h1 h2] at h3
      cases h3
    · intro h w h1 h2
      cases h3 : w.testBit f with
      | true => rfl
      | false => exact absurd ⟨w, h1, h2, h3⟩ h
  have d2 : (∀ w, w < msk L + 1 → gq L k B S m w = true → w.testBit f = false) ↔ ¬ lm L k B S f true (msk L + 1) ≤ m := by
    rw [e1]
    constructor
    · rintro h ⟨w, h1, h2, h3⟩
      rw [h w h1 h2] at h3
      cases h3
    · intro h w h1 h2
      cases h3 : w.testBit f with
      | false => rfl
      | true => exact absurd ⟨w, h1, h2, h3⟩ h
  rw [d1, d2]
  omega
theorem be_num : ∀ M, M ≤ 7 → (if fi (fun d => decide (6 - d < M)) 7 < 7 then xx (fi (fun d => decide (6 - d < M)) 7) else -9) = (if nI M = 0 then (-9 : Int32) else qv_mn (nI M - 1) 6) := by decide +kernel
theorem xx_s : ∀ j, j < 7 → xx j + (-1 : Int32) = xx (j + 1) ∧ ¬ xx j < 0 ∧ xx j = nI (6 - j) := by decide +kernel
theorem ok17 : ql_o17 Inv := by
  rintro a1 h ⟨σ, rfl, L, k, B, S, hI⟩
  have hz := iw_z hI
  obtain ⟨h1, h2, h3, h4, h5, h6, h7, h8, h9, h10, h11, h12, h13, h14⟩ := id hI
  have c3 : σ.1 3 2 = nI (L.1 2) := h2.2.2.1
  have m3 : σ.1 45 10 = nI (L.1 2) := h4.2.2.1
  have hfc := h1.2.2.1
  have hB : ∀ i, i < k → B i < 10 := fun i hi => (h6.2.2 i hi).2.2
  cases hs : inr_ a1 (nI (L.1 2)) with
  | false =>
    have hz1 : (aS σ 44 1 (σ.2.1 44 1 + 1)).2.2 = true := hz
    refine fin_r (f9 := fun h => fX9_bears 45 a1 h) hI 1 (x := -1) ?_ ?_
    · unfold fX8_bears
      simp only [c_R, c_O, o_b, c_fact, c3, hs, b2i_f, if_true, c_ref1]
    · show fX9_bears 45 a1 _ = _
      unfold fX9_bears
      simp only [m_O hz1, o_b, m_fact hz1, aS_f, m3, hs, b2i_f, if_true, m_no1 hz1]
      rfl
  | true =>
    obtain ⟨f, hf, rfl⟩ := inr_of (by omega) hs
    have hf4 : f < 4 := by omega
    have kT : fX7_leastMisfits 33 (nI f) 1 (mk σ) = _ := c_lm (f := f) (q := true) h1 h8 hB h9 hf4
    have kF : fX7_leastMisfits 33 (nI f) 0 (mk σ) = _ := c_lm (f := f) (q := false) h1 h8 hB h9 hf4
    have lT := lm_le (L := L) (k := k) (B := B) (S := S) (f := f) (q := true) (msk L + 1)
    have lF := lm_le (L := L) (k := k) (B := B) (S := S) (f := f) (q := false) (msk L + 1)
    have bp : ∀ d, d < 7 → bt (aX (fun _ => true) (gl L k B S (6 - d) 1024) 1023 (gl L k B S (6 - d) 1024).length ||| nX (gl L k B S (6 - d) 1024) 1023 (gl L k B S (6 - d) 1024).length) f = decide (6 - d < max (lm L k B S f true (msk L + 1)) (lm L k B S f false (msk L + 1))) := fun d hd => be_p h1 (by omega) hf4
    generalize hM : max (lm L k B S f true (msk L + 1)) (lm L k B S f false (msk L + 1)) = M at bp
    have hM7 : M ≤ 7 := by omega
    have e8 : fX8_bears 0 (nI f) (mk σ) = some (if nI M = 0 then (-9 : Int32) else qv_mn (nI M - 1) 6, mk σ) := by
      unfold fX8_bears
      simp only [c_R, c_O, o_b, c_fact, c3, hs, b2i_t, hne, if_false, kT, kF]
      rw [mx_n (by omega) (by omega), hM]
      split <;> rfl
    have hq : ∀ j, (sd L k B S σ j).2.2 = true := fun j => iw_z (sd_iw hI j)
    have step : ∀ j, j < 7 → fX9_findWorlds 45 (xx j) (mk (sd L k B S σ j)) = some (mk (sd L k B S σ (j + 1))) := by
      intro j hj
      have hJ := sd_iw hI j
      obtain ⟨g1, g2, g3, g4, g5, g6, g7, g8⟩ := id hJ
      rw [(xx_s j hj).2.2]
      exact m_findWorlds (hq j) g4 h1 g7 (m := 6 - j) (by omega)
    have ga : ∀ j, GA (sd L k B S σ (j + 1)) (gl L k B S (6 - j) 1024) := fun j => ga_of (gl_le L k B S (6 - j) 1024)
    have e9 : ∃ j, fX9_bears 45 (nI f) (mk σ) = some (if nI M = 0 then (-9 : Int32) else qv_mn (nI M - 1) 6, mk (sd L k B S σ j)) := by
      unfold fX9_bears
      simp only [m_O hz, o_b, m_fact hz, m3, hs, b2i_t, hne, if_false]
      rw [← be_num M hM7]
      refine ⟨if fi (fun d => decide (6 - d < M)) 7 < 7 then fi (fun d => decide (6 - d < M)) 7 + 1 else 7, ?_⟩
      refine lp_fb (fun j => (xx j, mk (sd L k B S σ j))) 7 (fun d => decide (6 - d < M)) (fun d => .inr (xx d, mk (sd L k B S σ (d + 1)))) (.inl (mk (sd L k B S σ 7))) rfl ?_ ?_ ?_ ?_
      · intro j hj hp
        dsimp only
        rw [if_neg (xx_s j hj).2.1]
        simp only [m_O (hq j), o_b, step j hj, m_O (hq (j + 1)), m_inAll (hq (j + 1)) (ga j), m_inNone (hq (j + 1)) (ga j)]
        rw [b_bit (by omega), bp j hj, hp, if_neg (by decide), (xx_s j hj).1]
      · intro j hj hp
        dsimp only
        rw [if_neg (xx_s j hj).2.1]
        simp only [m_O (hq j), o_b, step j hj, m_O (hq (j + 1)), m_inAll (hq (j + 1)) (ga j), m_inNone (hq (j + 1)) (ga j)]
        rw [b_bit (by omega), bp j hj, hp, if_pos (by decide)]
      · dsimp only
        rw [if_pos (show xx 7 < 0 by decide)]
      · by_cases hh : fi (fun d => decide (6 - d < M)) 7 < 7
        · simp only [hh, if_true]
        · simp only [hh, if_false]
    obtain ⟨j, e9⟩ := e9
    exact fin (f9 := fun h => fX9_bears 45 (nI f) h) e8 hz e9 ⟨L, k, B, S, sd_iw hI j⟩
/-! ===== 49: obligation: tells ===== -/
def opv (L : Ld) (p : Nat → Bool) (l : List Nat) : Int32 := (oX p l 0 l.length &&& (aX p l (nI (msk L)) l.length ^^^ (-1 : Int32))) &&& (15 : Int32)
def opm (L : Ld) (l : List Nat) : Int32 := (nI (2 ^ L.1 2 - 1) &&& (aX (fun _ => true) l 1023 l.length ^^^ (-1 : Int32))) &&& (nX l 1023 l.length ^^^ (-1 : Int32))
theorem c_open {σ : St} {L : Ld} (hR : RK σ L) {k : Nat} {B : Nat → Nat} {S : Nat → Bool} (hS : SF σ L k B S) {so nt : Nat} (hso : so < 2 ^ 31) : fX7_openFacts 33 (nI so) (nI nt) (mk σ) = some (opv L (alw so nt) (G0 L k B S)) := by
  unfold fX7_openFacts
  simp only [c_O, o_b, c_ever hS hso, c_always hR hS hso]
  rfl
theorem m_open {τ : St} (hz : τ.2.2 = true) {L : Ld} (hL : LM τ L) (ok : LdOK L) {l : List Nat} (hG : GA τ l) : fX9_openFacts 45 (mk τ) = some (opm L l) := by
  unfold fX9_openFacts
  simp only [m_O hz, o_b, m_allF hz hL ok, m_inAll hz hG, m_inNone hz hG]
  rfl
theorem al_flt (p : Nat → Bool) (l : List Nat) (i : Nat) : al_ (fun _ => true) (l.filter p) i (l.filter p).length = al_ p l i l.length := by
  rw [al_mem, al_mem, Bool.eq_iff_iff, decide_eq_true_iff, decide_eq_true_iff]
  constructor
  · intro h w hw hp
    exact h w (List.mem_filter.mpr ⟨hw, hp⟩) rfl
  · intro h w hw _
    exact h w (List.mem_filter.mp hw).1 (List.mem_filter.mp hw).2
theorem no_flt (p : Nat → Bool) (l : List Nat) (i : Nat) : no_ (fun _ => true) (l.filter p) i (l.filter p).length = no_ p l i l.length := by
  rw [no_mem, no_mem, Bool.eq_iff_iff, decide_eq_true_iff, decide_eq_true_iff]
  constructor
  · intro h w hw hp
    exact h w (List.mem_filter.mpr ⟨hw, hp⟩) rfl
  · intro h w hw _
    exact h w (List.mem_filter.mp hw).1 (List.mem_filter.mp hw).2
theorem opm_b {L : Ld} (ok : LdOK L) (p : Nat → Bool) (l : List Nat) {i : Nat} (hi : i < 32) : bt (opm L (l.filter p)) i = (decide (i < L.1 2) && (!al_ p l i l.length && !no_ p l i l.length)) := by
  have hfc := ok.2.2.1
  unfold opm
  rw [b_and, b_and, b_not hi, b_not hi, b_pm hi, aX_b _ _ _ hi, nX_b _ _ hi, b_1023 i hi, al_flt, no_flt]
  generalize al_ p l i l.length = ab
  generalize no_ p l i l.length = nb
  by_cases h : i < L.1 2
  · rw [decide_eq_true h, decide_eq_true (show i < 10 by omega)]
    cases ab <;> cases nb <;> rfl
  · rw [decide_eq_false h]
    rfl
theorem op_eq {L : Ld} (ok : LdOK L) (k : Nat) (B : Nat → Nat) (S : Nat → Bool) (p : Nat → Bool) : opv L p (G0 L k B S) = opm L ((G0 L k B S).filter p) := by
  have hfc := ok.2.2.1
  apply b_ext
  intro i hi
  rw [opm_b ok p _ hi]
  have hmk : no_ p (G0 L k B S) i (G0 L k B S).length = false → (msk L).testBit i = true := fun h => in_msk h
  unfold opv
  rw [b_and, b_and, b_not hi, oX_b _ _ hi, aX_b _ _ _ hi, b_n hi, b_15 i hi]
  rw [msk_bit] at hmk
  rw [msk_bit]
  generalize al_ p (G0 L k B S) i (G0 L k B S).length = ab
  generalize no_ p (G0 L k B S) i (G0 L k B S).length = nb at hmk
  cases nb with
  | true => simp
  | false =>
    have h2 := hmk rfl
    rw [h2]
    by_cases h : i < L.1 2
    · rw [decide_eq_true h, decide_eq_true (show i < 4 by omega)]
      cases ab <;> rfl
    · rw [decide_eq_false h] at h2 ⊢
      have h4 : ¬ i < 4 := by simp at h2; omega
      rw [decide_eq_false h4]
      simp
theorem alw_so (t w : Nat) : alw (2 ^ t) 0 w = w.testBit t := by
  unfold alw
  rw [Bool.eq_iff_iff, decide_eq_true_iff, Nat.and_comm w (2 ^ t), sub_iff]
  constructor
  · rintro ⟨h, _⟩
    exact h t (by rw [Nat.testBit_two_pow]; simp)
  · intro h
    refine ⟨fun i hi => ?_, Nat.and_zero w⟩
    rw [Nat.testBit_two_pow] at hi
    have e : t = i := by simpa using hi
    rw [← e]
    exact h
theorem alw_nt (t w : Nat) : alw 0 (2 ^ t) w = !w.testBit t := by
  unfold alw
  rw [Bool.eq_iff_iff, decide_eq_true_iff, Bool.not_eq_true']
  constructor
  · rintro ⟨_, h⟩
    have h1 : (w &&& 2 ^ t).testBit t = false := by rw [h]; exact Nat.zero_testBit t
    rw [Nat.testBit_and, Nat.testBit_two_pow] at h1
    simpa using h1
  · intro h
    refine ⟨Nat.and_zero w, ?_⟩
    apply Nat.eq_of_testBit_eq
    intro i
    rw [Nat.testBit_and, Nat.testBit_two_pow, Nat.zero_testBit]
    by_cases hi : t = i
    · subst hi; rw [h]; rfl
    · simp [hi]
theorem lA_out {l : List Nat} {a : Nat → Int32} {i : Nat} (h : l.length ≤ i) : lA l a i = a i := by
  unfold lA
  rw [List.getElem?_eq_none h]
def fl (p : Nat → Bool) (l : List Nat) (j : Nat) : List Nat := (l.take j).filter p
theorem fl_le (p : Nat → Bool) (l : List Nat) (j : Nat) : (fl p l j).length ≤ j := by
  unfold fl
  exact Nat.le_trans (List.length_filter_le _ _) (by rw [List.length_take]; omega)
theorem fl_s (p : Nat → Bool) (l : List Nat) {j : Nat} (hj : j < l.length) : fl p l (j + 1) = fl p l j ++ (if p (l.getD j 0) then [l.getD j 0] else []) := by
  unfold fl
  rw [List.take_add_one, List.getElem?_eq_getElem hj, List.filter_append, List.getD_eq_getElem?_getD, List.getElem?_eq_getElem hj]
  refine congrArg (fun z => (l.take j).filter p ++ z) ?_
  show List.filter p [l[j]] = if p l[j] then [l[j]] else []
  by_cases h : p l[j] = true <;> simp [h]
theorem fl_all (p : Nat → Bool) (l : List Nat) : fl p l l.length = l.filter p := by
  unfold fl
  rw [List.take_length]
theorem m_tells {σ τ : St} (hz : τ.2.2 = true) {L : Ld} (hL : LM τ L) (ok : LdOK L) {l : List Nat} (hG : GA τ l) (hb : ∀ i, i < l.length → l.getD i 0 < 1024) {s : Nat} (hs : s < L.1 3) (hzs : σ.2.2 = true) (hLs : LM σ L) (hfw : fX9_findWorlds 45 0 (mk σ) = some (mk τ)) (b : Bool) : fX9_tells 45 (nI s) (b2i b) (mk σ) = some (opm L l &&& (opm L (l.filter (fun w => w.testBit (4 + s) == b)) ^^^ (-1 : Int32)), mk (fS (wS τ 64 (lA (l.filter (fun w => w.testBit (4 + s) == b)) (τ.2.1 64))) 45 33 (nI (l.filter (fun w => w.testBit (4 + s) == b)).length))) := by
  have hsc := ok.2.2.2.1
  have m3 : σ.1 45 11 = nI (L.1 3) := hLs.2.2.2.1
  have e1 : inr_ (nI s) (nI (L.1 3)) = true := by rw [inr_n (by omega) (by omega)]; simpa using hs
  have e2 : (4 : Int32) + nI s = nI (4 + s) := nI_add 4 _
  have hin : fX9_isIn (b2i b) 0 1 = some 1 := by cases b <;> rfl
  rw [← fl_all]
  generalize hp : (fun w : Nat => w.testBit (4 + s) == b) = p
  have hpw : ∀ w, p w = (w.testBit (4 + s) == b) := fun w => by rw [← hp]
  unfold fX9_tells
  simp only [m_O hzs, o_b, m_sign hzs, m3, e1, b2i_t, hne, if_false, hin, hfw, m_O hz, m_open hz hL ok hG, e2]
  refine lp_b (fun j => (nI (fl p l j).length, nI j, mk (wS τ 64 (lA (fl p l j) (τ.2.1 64))))) l.length (r := (nI (fl p l l.length).length, mk (wS τ 64 (lA (fl p l l.length) (τ.2.1 64))))) ?_ ?_ ?_ ?_
  · show _ = (nI 0, nI 0, mk (wS τ 64 (lA [] (τ.2.1 64))))
    rw [lA_nil, wS_self]
    rfl
  · intro j hj
    have hj4 : j < 1024 := Nat.lt_of_lt_of_le hj hG.2.1
    have hw := hb j hj
    have hle := fl_le p l j
    have hG1 := hG.2.1
    have hl4 : (fl p l j).length < 1024 := by omega
    dsimp only
    rw [fl_s p l hj, hpw]
    generalize hT : wS τ 64 (lA (fl p l j) (τ.2.1 64)) = υ
    have uz : υ.2.2 = true := by rw [← hT]; exact hz
    have u33 : υ.1 45 33 = nI l.length := by rw [← hT]; exact hG.1
    have uA : υ.2.1 64 j = nI (l.getD j 0) := by
      rw [← hT, wS_a, if_pos rfl, lA_out hle]
      exact hG.2.2 j hj
    simp only [m_I uz, m_R uz, m_A uz, hj4, u33, o_b, uA, n_bit (show l.getD j 0 < 2 ^ 31 by omega) (show 4 + s < 32 by omega)]
    rw [if_neg (nI_ge hj (by omega)), show nI j + 1 = nI (j + 1) from nI_1 j]
    by_cases q : (l.getD j 0).testBit (4 + s) = b
    · rw [if_pos (by rw [q]), if_pos (beq_iff_eq.mpr q)]
      simp only [m_S uz, hl4, o_b]
      rw [← hT, aS_wS, lA_push, nI_1]
      simp
    · rw [if_neg (fun z => q (b2i_inj.mp z)), if_neg (fun z => q (beq_iff_eq.mp z))]
      simp [hT]
  · dsimp only
    have uz : (wS τ 64 (lA (fl p l l.length) (τ.2.1 64))).2.2 = true := hz
    have u33 : (wS τ 64 (lA (fl p l l.length) (τ.2.1 64))).1 45 33 = nI l.length := hG.1
    simp only [m_I uz, u33, o_b]
    rw [if_pos (nI_le (Nat.le_refl _) (by have := hG.2.1; omega))]
  · have uz : (wS τ 64 (lA (fl p l l.length) (τ.2.1 64))).2.2 = true := hz
    have hG2 := ga_of (σ := τ) (l := fl p l l.length) (Nat.le_trans (fl_le p l l.length) hG.2.1)
    have uz2 : (fS (wS τ 64 (lA (fl p l l.length) (τ.2.1 64))) 45 33 (nI (fl p l l.length).length)).2.2 = true := hz
    dsimp only
    simp only [m_P uz, o_b, m_O uz2]
    rw [m_open uz2 (show LM _ L from hL) ok hG2]
    rfl
theorem g_lt {L : Ld} {k : Nat} {B : Nat → Nat} {S : Nat → Bool} {m : Nat} : ∀ i, i < (gl L k B S m 1024).length → (gl L k B S m 1024).getD i 0 < 1024 := fun _ hi => (g_at hi).1
theorem ok14 : ql_o14 Inv := by
  rintro a1 a2 h ⟨σ, rfl, L, k, B, S, hI⟩
  have hz := iw_z hI
  obtain ⟨h1, h2, h3, h4, h5, h6, h7, h8, h9, h10, h11, h12, h13, h14⟩ := id hI
  have c3 : σ.1 3 3 = nI (L.1 3) := h2.2.2.2.1
  have m3 : σ.1 45 11 = nI (L.1 3) := h4.2.2.2.1
  have hsc := h1.2.2.2.1
  cases hs : inr_ a1 (nI (L.1 3)) with
  | false =>
    have hz1 : (aS σ 44 1 (σ.2.1 44 1 + 1)).2.2 = true := hz
    refine fin_r (f9 := fun h => fX9_tells 45 a1 a2 h) hI 1 (x := -1) ?_ ?_
    · unfold fX8_tells
      simp only [c_R, c_O, o_b, c_sign, c3, hs, b2i_f, if_true, c_ref1]
    · show fX9_tells 45 a1 a2 _ = _
      unfold fX9_tells
      simp only [m_O hz1, o_b, m_sign hz1, aS_f, m3, hs, b2i_f, if_true, m_no1 hz1]
      rfl
  | true =>
    obtain ⟨s, hs2, rfl⟩ := inr_of (by omega) hs
    have e01 : (∃ b : Bool, a2 = b2i b) ∨ (¬ a2 = 0 ∧ ¬ a2 = 1) := by
      by_cases q0 : a2 = 0
      · exact Or.inl ⟨false, q0⟩
      · by_cases q1 : a2 = 1
        · exact Or.inl ⟨true, q1⟩
        · exact Or.inr ⟨q0, q1⟩
    rcases e01 with ⟨b, rfl⟩ | ⟨n0, n1⟩
    · have e2 : (4 : Int32) + nI s = nI (4 + s) := nI_add 4 _
      have hlt : 2 ^ (4 + s) < 2 ^ 31 := Nat.pow_lt_pow_right (by decide) (by omega)
      have k0 : fX7_openFacts 33 0 0 (mk σ) = _ := c_open h8 h9 (so := 0) (nt := 0) (by decide)
      have kT : fX7_openFacts 33 (nI (2 ^ (4 + s))) 0 (mk σ) = _ := c_open h8 h9 (so := 2 ^ (4 + s)) (nt := 0) hlt
      have kF : fX7_openFacts 33 0 (nI (2 ^ (4 + s))) (mk σ) = _ := c_open h8 h9 (so := 0) (nt := 2 ^ (4 + s)) (by decide)
      rw [op_eq h1] at k0 kT kF
      have hfw : fX9_findWorlds 45 0 (mk σ) = _ := m_findWorlds hz h4 h1 h7 (m := 0) (by decide)
      have hGA := ga_of (σ := σ) (gl_le L k B S 0 1024)
      generalize hT : fS (wS σ 64 (lA (gl L k B S 0 1024) (σ.2.1 64))) 45 33 (nI (gl L k B S 0 1024).length) = τ at hfw hGA
      have hzT : τ.2.2 = true := by rw [← hT]; exact hz
      have hLT : LM τ L := by rw [← hT]; exact h4
      have hIT : Iw τ L k B S := by rw [← hT]; exact iw_goods hI _ _
      have e9 := m_tells hzT hLT h1 hGA g_lt hs2 hz h4 hfw b
      have f0 : (G0 L k B S).filter (alw 0 0) = G0 L k B S := List.filter_eq_self.mpr (fun a _ => alw_0 a)
      rw [f0] at k0
      refine fin (f9 := fun h => fX9_tells 45 (nI s) (b2i b) h) (σ1 := σ) ?_ hz e9 ⟨L, k, B, S, iw_goods hIT _ _⟩
      have fb : alw (cond b (2 ^ (4 + s)) 0) (cond b 0 (2 ^ (4 + s))) = fun w => w.testBit (4 + s) == b := by
        funext w
        cases b
        · show alw 0 (2 ^ (4 + s)) w = _
          rw [alw_nt]
          cases w.testBit (4 + s) <;> rfl
        · show alw (2 ^ (4 + s)) 0 w = _
          rw [alw_so]
          cases w.testBit (4 + s) <;> rfl
      unfold fX8_tells
      rw [← fb]
      cases b
      · simp only [c_R, c_O, o_b, c_sign, c3, hs, b2i_t, hne, if_false, show b2i false = 0 from rfl, if_true, show ¬ ((0 : Int32) = 1) by decide, e2, n_shl1 (4 + s) (show 4 + s < 31 by omega), k0, kF]
        rfl
      · simp only [c_R, c_O, o_b, c_sign, c3, hs, b2i_t, hne, if_false, if_true, e2, n_shl1 (4 + s) (show 4 + s < 31 by omega), k0, kT]
        rfl
    · have hz1 : (aS σ 44 2 (σ.2.1 44 2 + 1)).2.2 = true := hz
      have hin : fX9_isIn a2 0 1 = some 0 := by
        rw [n_in]
        have : decide (¬ a2 < 0 ∧ ¬ (1 : Int32) < a2) = false := by
          cases hd : decide (¬ a2 < 0 ∧ ¬ (1 : Int32) < a2) with
          | false => rfl
          | true =>
            obtain ⟨j, hj, rfl⟩ := (in_few (n := 1) (by decide)).mp hd
            rcases (show j = 0 ∨ j = 1 by omega) with rfl | rfl
            · exact absurd rfl n0
            · exact absurd rfl n1
        rw [this]; rfl
      refine fin_r (f9 := fun h => fX9_tells 45 (nI s) a2 h) hI 2 (x := -2) ?_ ?_
      · unfold fX8_tells
        simp only [c_R, c_O, o_b, c_sign, c3, hs, b2i_t, hne, if_false, n0, n1, c_ref2]
      · show fX9_tells 45 (nI s) a2 _ = _
        unfold fX9_tells
        simp only [m_O hz1, o_b, m_sign hz1, aS_f, m3, hs, b2i_t, hne, if_false, hin, if_true, m_no2 hz1]
        rfl
/-! ===== 50: obligation: next ===== -/
theorem ct_lt {p : Nat → Bool} : ∀ {n k : Nat}, k < n → p k = false → ct p n < n
  | 0, k, h, _ => absurd h (Nat.not_lt_zero k)
  | n + 1, k, h, hp => by
    have hl := ct_le p n
    show ct p n + (p n).toNat < n + 1
    by_cases hk : k = n
    · subst hk
      rw [hp]
      show ct p k + 0 < k + 1
      omega
    · have ih := ct_lt (p := p) (n := n) (k := k) (by omega) hp
      have h2 : (p n).toNat ≤ 1 := by cases p n <;> decide
      omega
theorem ct_pos {p : Nat → Bool} {n k : Nat} (hk : k < n) (hp : p k = true) : 0 < ct p n := by
  rcases Nat.eq_zero_or_pos (ct p n) with h | h
  · have h2 := ct_0.mp h k hk
    rw [hp] at h2
    cases h2
  · exact h
def CA (σ : St) (l : List Nat) : Prop := σ.1 33 2 = nI l.length ∧ l.length ≤ 1024 ∧ ∀ i, i < l.length → σ.2.1 34 i = nI (l.getD i 0) ∧ l.getD i 0 < 1024
theorem ca_of {σ : St} {L : Ld} {k : Nat} {B : Nat → Nat} {S : Nat → Bool} (hS : SF σ L k B S) : CA σ (G0 L k B S) := ⟨hS.1, gl_le L k B S 0 1024, fun i hi => ⟨hS.2.2.2 i hi, (g_at hi).1⟩⟩
def so_ (l : List Nat) (f j : Nat) : Nat := ct (fun t => (l.getD t 0).testBit f) j
theorem so_le (l : List Nat) (f j : Nat) : so_ l f j ≤ j := ct_le _ j
def prt (l : List Nat) (f : Nat) : Nat := max (so_ l f l.length) (l.length - so_ l f l.length)
def lgp (l : List Nat) (q : Nat) : Nat → Nat
  | 0 => l.length
  | f + 1 => if q.testBit f = true then min (lgp l q f) (prt l f) else lgp l q f
theorem lgp_le (l : List Nat) (q : Nat) : ∀ f, lgp l q f ≤ l.length
  | 0 => Nat.le_refl _
  | f + 1 => by
    have ih := lgp_le l q f
    show (if q.testBit f = true then min (lgp l q f) (prt l f) else lgp l q f) ≤ l.length
    split
    · exact Nat.le_trans (Nat.min_le_left _ _) ih
    · exact ih
theorem c_goodWith {σ : St} {l : List Nat} (h : CA σ l) {f : Nat} (hf : f < 4) : fX7_goodWith 33 (nI f) (mk σ) = some (nI (so_ l f l.length)) := by
  obtain ⟨g1, g2, g3⟩ := h
  unfold fX7_goodWith
  refine lp_b (fun j => (nI (so_ l f j), nI j)) l.length (r := nI (so_ l f l.length)) rfl ?_ ?_ rfl
  · intro j hj
    have hj4 : j < 1024 := by omega
    obtain ⟨w1, w2⟩ := g3 j hj
    dsimp only
    simp only [c_I, c_R, c_A, hj4, g1, o_b, w1, n_has (show l.getD j 0 < 2 ^ 31 by omega) (show f < 32 by omega)]
    rw [if_neg (nI_ge hj (by omega)), show nI j + 1 = nI (j + 1) from nI_1 j]
    show _ = some (Sum.inl (nI (so_ l f j + ((l.getD j 0).testBit f).toNat), nI (j + 1)))
    cases (l.getD j 0).testBit f
    · rfl
    · rw [if_neg (show ¬ b2i true = 0 from hne), o_b, nI_1]
      rfl
  · dsimp only
    simp only [c_I, g1, o_b]
    rw [if_pos (nI_le (Nat.le_refl _) (by omega))]
theorem c_lgp {σ : St} {L : Ld} {l : List Nat} (hL : LC σ L) (ok : LdOK L) (h : CA σ l) {q : Nat} (hq : q < 16) : fX8_leastGreaterPart 0 (nI q) (mk σ) = some (nI (lgp l q (L.1 2))) := by
  have hc := fun f (hf : f < 4) => c_goodWith h (f := f) hf
  obtain ⟨g1, g2, g3⟩ := id h
  have hfc := ok.2.2.1
  have c2 : σ.1 3 2 = nI (L.1 2) := hL.2.2.1
  unfold fX8_leastGreaterPart
  simp only [c_R, c_I, o_b, g1]
  refine lp_b (fun j => (nI (lgp l q j), nI j)) (L.1 2) (r := nI (lgp l q (L.1 2))) rfl ?_ ?_ rfl
  · intro j hj
    have hll := lgp_le l q j
    have hso := so_le l j l.length
    dsimp only
    simp only [c_O, o_b, c2, n_has (show q < 2 ^ 31 by omega) (show j < 32 by omega), hc j (by omega)]
    rw [if_neg (nI_ge hj (by omega)), show nI j + 1 = nI (j + 1) from nI_1 j]
    show _ = some (Sum.inl (nI (if q.testBit j = true then min (lgp l q j) (max (so_ l j l.length) (l.length - so_ l j l.length)) else lgp l q j), nI (j + 1)))
    cases q.testBit j
    · rfl
    · rw [if_neg (show ¬ b2i true = 0 from hne), o_b, pk_sub hso, mx_n (by omega) (by omega), mn_n (by omega) (by omega)]
      rfl
  · dsimp only
    simp only [c2]
    rw [if_pos (nI_le (Nat.le_refl _) (by omega))]
def rp : Option Nat → Int32
  | none => -9
  | some b => nI b
def m2 : Option Nat → Nat → Int32
  | none, _ => 0
  | some _, l => nI l
def stp (s : Option Nat × Nat) (p v : Nat) : Option Nat × Nat := if v < s.2 then (some p, v) else s
def nxs (l : List Nat) (Q : Nat → Nat) (F : Nat) : Nat → Option Nat × Nat
  | 0 => (none, l.length)
  | p + 1 => stp (nxs l Q F p) p (lgp l (Q p) F)
def okS (n : Nat) (s : Option Nat × Nat) : Prop := s.2 ≤ n ∧ (s.1 = none → s.2 = n) ∧ ∀ b, s.1 = some b → b < 6
theorem stp_ok {n : Nat} {s : Option Nat × Nat} (h : okS n s) {p v : Nat} (hp : p < 6) : okS n (stp s p v) := by
  unfold stp
  split
  · rename_i q
    refine ⟨Nat.le_trans (Nat.le_of_lt q) h.1, fun z => (by cases z), fun b z => ?_⟩
    have : p = b := Option.some.inj z
    omega
  · exact h
theorem nxs_ok (l : List Nat) (Q : Nat → Nat) (F : Nat) : ∀ p, p ≤ 6 → okS l.length (nxs l Q F p)
  | 0, _ => ⟨Nat.le_refl _, fun _ => rfl, fun b z => (by cases z)⟩
  | p + 1, h => stp_ok (nxs_ok l Q F p (by omega)) (by omega)
def nin (l : List Nat) (q p : Nat) (s : Option Nat × Nat) (f : Nat) : Option Nat × Nat := stp s p (lgp l q f)
theorem nin_0 {l : List Nat} {q p : Nat} {s : Option Nat × Nat} (h : okS l.length s) : nin l q p s 0 = s := by
  show (if l.length < s.2 then _ else s) = s
  rw [if_neg (by have := h.1; omega)]
theorem nin_s {l : List Nat} {q p : Nat} {s : Option Nat × Nat} {f : Nat} : nin l q p s (f + 1) = if q.testBit f = true then stp (nin l q p s f) p (prt l f) else nin l q p s f := by
  have e : lgp l q (f + 1) = if q.testBit f = true then min (lgp l q f) (prt l f) else lgp l q f := rfl
  show stp s p (lgp l q (f + 1)) = _
  rw [e]
  by_cases h : q.testBit f = true
  · rw [if_pos h, if_pos h]
    show stp s p _ = stp (stp s p (lgp l q f)) p (prt l f)
    generalize lgp l q f = a
    generalize prt l f = b
    unfold stp
    by_cases h1 : a < s.2
    · rw [if_pos h1, if_pos (show min a b < s.2 by omega)]
      dsimp only
      by_cases h2 : b < a
      · rw [if_pos h2, Nat.min_eq_right (by omega)]
      · rw [if_neg h2, Nat.min_eq_left (by omega)]
    · rw [if_neg h1]
      by_cases h2 : b < s.2
      · rw [if_pos h2, if_pos (show min a b < s.2 by omega), Nat.min_eq_right (by omega)]
      · rw [if_neg h2, if_neg (show ¬ min a b < s.2 by omega)]
  · rw [if_neg h, if_neg h]
    rfl
theorem c_next {σ : St} {L : Ld} {l : List Nat} (hL : LC σ L) (ok : LdOK L) (h : CA σ l) {o : Nat} (ho : o < 16) (hop : fX7_openFacts 33 0 0 (mk σ) = some (nI o)) : fX8_next 0 (mk σ) = some (rp (nxs l (fun p => L.2 6 p &&& o) (L.1 2) (L.1 0)).1) := by
  have hq : ∀ p, L.2 6 p &&& o < 16 := fun p => Nat.lt_of_le_of_lt Nat.and_le_right ho
  have hc := fun p => c_lgp hL ok h (hq p)
  obtain ⟨g1, g2, g3⟩ := id h
  have hpc := ok.1.2
  have c0 : σ.1 3 0 = nI (L.1 0) := hL.1
  have c10 := hL.2.2.2.2.2.2.2.2.2.2
  unfold fX8_next
  simp only [c_R, c_O, c_I, o_b, hop, g1]
  refine lp_b (fun p => (rp (nxs l (fun p => L.2 6 p &&& o) (L.1 2) p).1, nI (nxs l (fun p => L.2 6 p &&& o) (L.1 2) p).2, nI p)) (L.1 0) (r := rp (nxs l (fun p => L.2 6 p &&& o) (L.1 2) (L.1 0)).1) rfl ?_ ?_ rfl
  · intro p hp
    have hp6 : p < 6 := by omega
    have hok := nxs_ok l (fun p => L.2 6 p &&& o) (L.1 2) p (by omega)
    have hgl := lgp_le l (L.2 6 p &&& o) (L.1 2)
    have e : nxs l (fun p => L.2 6 p &&& o) (L.1 2) (p + 1) = stp (nxs l (fun p => L.2 6 p &&& o) (L.1 2) p) p (lgp l (L.2 6 p &&& o) (L.1 2)) := rfl
    dsimp only
    rw [e]
    generalize nxs l (fun p => L.2 6 p &&& o) (L.1 2) p = s at hok
    have s2 := hok.1
    simp only [c_A, hp6, o_b, c0, c10 p hp6, n_and, hc p]
    rw [if_neg (nI_ge hp (by omega)), show nI p + 1 = nI (p + 1) from nI_1 p]
    unfold stp
    by_cases q : s.2 ≤ lgp l (L.2 6 p &&& o) (L.1 2)
    · rw [if_pos (nI_le q (by omega)), if_neg (by omega)]
      rfl
    · rw [if_neg (nI_ge (by omega) (by omega)), if_pos (by omega)]
      rfl
  · dsimp only
    simp only [c0]
    rw [if_pos (nI_le (Nat.le_refl _) (by omega))]
theorem m_next {σ τ : St} (hzs : σ.2.2 = true) (hz : τ.2.2 = true) {L : Ld} {l : List Nat} (hL : LM τ L) (ok : LdOK L) (hG : GA τ l) (hb : ∀ i, i < l.length → l.getD i 0 < 1024) (hfw : fX9_findWorlds 45 0 (mk σ) = some (mk τ)) {o : Nat} (ho : o < 16) (hop : fX9_openFacts 45 (mk τ) = some (nI o)) (hprt : ∀ f, o.testBit f = true → prt l f < l.length) : fX9_next 45 (mk σ) = some (rp (nxs l (fun p => L.2 6 p &&& o) (L.1 2) (L.1 0)).1, mk τ) := by
  obtain ⟨g1, g2, g3⟩ := id hG
  have hpc := ok.1.2
  have hfc := ok.2.2.1
  have m0 : τ.1 45 8 = nI (L.1 0) := hL.1
  have mF : τ.1 45 10 = nI (L.1 2) := hL.2.2.1
  have m10 := hL.2.2.2.2.2.2.2.2.2.2
  unfold fX9_next
  simp only [m_O hzs, hfw, m_O hz, o_b, hop]
  refine lp_b (fun p => (rp (nxs l (fun p => L.2 6 p &&& o) (L.1 2) p).1, m2 (nxs l (fun p => L.2 6 p &&& o) (L.1 2) p).1 (nxs l (fun p => L.2 6 p &&& o) (L.1 2) p).2, nI p)) (L.1 0) (r := rp (nxs l (fun p => L.2 6 p &&& o) (L.1 2) (L.1 0)).1) rfl ?_ ?_ rfl
  · intro p hp
    have hp6 : p < 6 := by omega
    have hok := nxs_ok l (fun p => L.2 6 p &&& o) (L.1 2) p (by omega)
    have e : nxs l (fun p => L.2 6 p &&& o) (L.1 2) (p + 1) = nin l (L.2 6 p &&& o) p (nxs l (fun p => L.2 6 p &&& o) (L.1 2) p) (L.1 2) := rfl
    dsimp only
    rw [e]
    generalize nxs l (fun p => L.2 6 p &&& o) (L.1 2) p = s at hok
    have hqo : ∀ f, (L.2 6 p &&& o).testBit f = true → prt l f < l.length := fun f hf => hprt f (by rw [Nat.testBit_and] at hf; simp at hf; exact hf.2)
    have hq16 : L.2 6 p &&& o < 16 := Nat.lt_of_le_of_lt Nat.and_le_right ho
    simp only [m_I hz, m_R hz, m_A hz, hp6, m0, mF, o_b, m10 p hp6, n_and]
    generalize L.2 6 p &&& o = q at hqo hq16
    rw [if_neg (nI_ge hp (by omega)), show nI p + 1 = nI (p + 1) from nI_1 p]
    refine lp_b (fun f => (rp (nin l q p s f).1, m2 (nin l q p s f).1 (nin l q p s f).2, nI f)) (L.1 2) (r := (rp (nin l q p s (L.1 2)).1, m2 (nin l q p s (L.1 2)).1 (nin l q p s (L.1 2)).2)) ?_ ?_ ?_ rfl
    · rw [nin_0 hok]
      rfl
    · intro f hf
      have hok2 : okS l.length (nin l q p s f) := stp_ok hok hp6
      dsimp only
      rw [nin_s, if_neg (nI_ge hf (by omega)), show nI f + 1 = nI (f + 1) from nI_1 f]
      generalize nin l q p s f = s' at hok2
      rw [n_bit (show q < 2 ^ 31 by omega) (show f < 32 by omega)]
      cases hqf : q.testBit f with
      | false => rw [if_pos b2i_f, if_neg (by decide)]; rfl
      | true =>
        have hlt := hqo f hqf
        have hso := so_le l f l.length
        rw [if_neg (show ¬ b2i true = 0 from hne), if_pos rfl, Option.bind_assoc]
        refine lp_b (fun t => (nI (so_ l f t), nI t)) l.length (r := nI (so_ l f l.length)) rfl ?_ ?_ ?_
        · intro t ht
          have ht4 : t < 1024 := by omega
          have hw := hb t ht
          dsimp only
          simp only [g1, m_A hz, ht4, o_b, g3 t ht, n_bit (show l.getD t 0 < 2 ^ 31 by omega) (show f < 32 by omega)]
          rw [if_neg (nI_ge ht (by omega)), show nI t + 1 = nI (t + 1) from nI_1 t, b2i_nI, nI_add]
          rfl
        · dsimp only
          simp only [g1]
          rw [if_pos (nI_le (Nat.le_refl _) (by omega))]
        · have ev : (if (2 : Int32) * nI (so_ l f l.length) ≤ nI l.length then some (nI l.length - nI (so_ l f l.length)) else some (nI (so_ l f l.length))) = some (nI (prt l f)) := by
            have e2 : (2 : Int32) * nI (so_ l f l.length) = nI (2 * so_ l f l.length) := pk_mul 2 _
            unfold prt
            rw [e2]
            by_cases h2 : 2 * so_ l f l.length ≤ l.length
            · rw [if_pos (nI_le h2 (by omega)), pk_sub hso, Nat.max_eq_right (by omega)]
            · rw [if_neg (nI_ge (by omega) (by omega)), Nat.max_eq_left (by omega)]
          simp only [g1, o_b, ev]
          obtain ⟨b, v⟩ := s'
          obtain ⟨k1, k2, k3⟩ := hok2
          dsimp only at k1 k2 k3
          cases b with
          | none =>
            have k4 := k2 rfl
            unfold stp
            rw [if_pos (show prt l f < v by omega), if_pos (show rp none < 0 by decide)]
            rfl
          | some b =>
            have k4 := k3 b rfl
            rw [if_neg (show ¬ rp (some b) < 0 from nI_pos (by omega))]
            unfold stp
            dsimp only
            by_cases q2 : prt l f < v
            · rw [if_pos q2, if_pos (show nI (prt l f) < m2 (some b) v from nI_lt q2 (by omega))]
              rfl
            · rw [if_neg q2, if_neg (show ¬ nI (prt l f) < m2 (some b) v from nI_nlt (by omega) (by omega))]
              rfl
    · dsimp only
      rw [if_pos (nI_le (Nat.le_refl _) (by omega))]
  · dsimp only
    simp only [m_I hz, m0, o_b]
    rw [if_pos (nI_le (Nat.le_refl _) (by omega))]
theorem nx_o {L : Ld} (ok : LdOK L) (l : List Nat) : ∃ o, o < 16 ∧ opm L l = nI o ∧ ∀ f, o.testBit f = true → prt l f < l.length := by
  have hfc := ok.2.2.1
  have hbit : ∀ i, i < 32 → bt (opm L l) i = (decide (i < L.1 2) && (!al_ (fun _ => true) l i l.length && !no_ (fun _ => true) l i l.length)) := fun i hi => by
    have h := opm_b ok (fun _ => true) l hi
    rw [show l.filter (fun _ => true) = l from List.filter_eq_self.mpr (fun _ _ => rfl)] at h
    exact h
  have key : ∀ i, (opm L l).toBitVec.toNat.testBit i = true → i < L.1 2 ∧ al_ (fun _ => true) l i l.length = false ∧ no_ (fun _ => true) l i l.length = false := by
    intro i hi
    have hi32 : i < 32 := bit_lt (n := 32) (opm L l).toBitVec.isLt hi
    have e := hbit i hi32
    have e2 : bt (opm L l) i = (opm L l).toBitVec.toNat.testBit i := rfl
    rw [e2, hi] at e
    have e3 := e.symm
    simp only [Bool.and_eq_true, decide_eq_true_iff, Bool.not_eq_true'] at e3
    exact ⟨e3.1, e3.2.1, e3.2.2⟩
  refine ⟨(opm L l).toBitVec.toNat, ?_, n_self _, ?_⟩
  · exact lt_of_bits (n := 4) (fun i hi => by have := (key i hi).1; omega)
  · intro f hf
    obtain ⟨k1, k2, k3⟩ := key f hf
    unfold al_ at k2
    unfold no_ at k3
    have k2 := of_decide_eq_false k2
    have k3 := of_decide_eq_false k3
    simp only [Classical.not_forall] at k2 k3
    obtain ⟨t, ht, _, hb⟩ := k2
    obtain ⟨u, hu, _, hc⟩ := k3
    have a1 : so_ l f l.length < l.length := ct_lt (k := t) ht (by simpa using hb)
    have a2 : 0 < so_ l f l.length := ct_pos (k := u) hu (by simpa using hc)
    unfold prt
    omega
theorem ok23 : ql_o23 Inv := by
  rintro h ⟨σ, rfl, L, k, B, S, hI⟩
  have hz := iw_z hI
  obtain ⟨h1, h2, h3, h4, h5, h6, h7, h8, h9, h10, h11, h12, h13, h14⟩ := id hI
  have k0 : fX7_openFacts 33 0 0 (mk σ) = _ := c_open h8 h9 (so := 0) (nt := 0) (by decide)
  rw [op_eq h1, show (G0 L k B S).filter (alw 0 0) = G0 L k B S from List.filter_eq_self.mpr (fun a _ => alw_0 a)] at k0
  have hfw : fX9_findWorlds 45 0 (mk σ) = _ := m_findWorlds hz h4 h1 h7 (m := 0) (by decide)
  have hGA := ga_of (σ := σ) (gl_le L k B S 0 1024)
  generalize hT : fS (wS σ 64 (lA (gl L k B S 0 1024) (σ.2.1 64))) 45 33 (nI (gl L k B S 0 1024).length) = τ at hfw hGA
  have hzT : τ.2.2 = true := by rw [← hT]; exact hz
  have hLT : LM τ L := by rw [← hT]; exact h4
  have hIT : Iw τ L k B S := by rw [← hT]; exact iw_goods hI _ _
  have km := m_open hzT hLT h1 hGA
  obtain ⟨o, ho, eo, hp⟩ := nx_o h1 (G0 L k B S)
  have km2 : fX9_openFacts 45 (mk τ) = some (nI o) := km.trans (congrArg some eo)
  have k02 : fX7_openFacts 33 0 0 (mk σ) = some (nI o) := k0.trans (congrArg some eo)
  exact ⟨_, mk τ, c_next h2 h1 (ca_of h9) ho k02, m_O hz, m_next hz hzT hLT h1 hGA g_lt hfw ho km2 hp, τ, rfl, L, k, B, S, hIT⟩
