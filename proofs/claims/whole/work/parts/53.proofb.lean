/-! ===== 53: obligation: proof ===== -/
def fz (P : Nat → Bool) (lo hi b : Nat) : Prop := P b = true ∧ lo ≤ b ∧ b < hi ∧ ∀ q, lo ≤ q → q < hi → P q = true → pc b < pc q ∨ (pc b = pc q ∧ b ≤ q)
theorem fz_un {P : Nat → Bool} {lo hi a b : Nat} (h : fz P lo hi a) (h' : fz P lo hi b) : a = b := by
  have h1 := h.2.2.2 b h'.2.1 h'.2.2.1 h'.1
  have h2 := h'.2.2.2 a h.2.1 h.2.2.1 h.1
  omega
def cB (P : Nat → Bool) : Nat → Nat × Nat
  | 0 => (0, 13)
  | j + 1 => if P j = true ∧ pc j < (cB P j).2 then (j, pc j) else cB P j
theorem cB_fz (P : Nat → Bool) : ∀ n, n ≤ 4096 → ((∀ q, q < n → P q = false) ∧ cB P n = (0, 13)) ∨ ((cB P n).2 = pc (cB P n).1 ∧ fz P 0 n (cB P n).1)
  | 0, _ => Or.inl ⟨fun q hq => absurd hq (Nat.not_lt_zero q), rfl⟩
  | j + 1, hn => by
    have ih := cB_fz P j (by omega)
    have hpj := pc_12 (q := j) (by omega)
    have e : cB P (j + 1) = if P j = true ∧ pc j < (cB P j).2 then (j, pc j) else cB P j := rfl
    rw [e]
    rcases ih with ⟨h1, h2⟩ | ⟨h1, h2⟩
    · rw [h2]
      cases hP : P j with
      | false =>
        left
        rw [if_neg (fun z => by cases z.1)]
        refine ⟨fun q hq => ?_, rfl⟩
        by_cases hqj : q = j
        · subst hqj; exact hP
        · exact h1 q (by omega)
      | true =>
        right
        rw [if_pos ⟨rfl, by dsimp only; omega⟩]
        refine ⟨rfl, hP, Nat.zero_le _, by dsimp only; omega, fun q _ hq hPq => ?_⟩
        by_cases hqj : q = j
        · subst hqj; right; exact ⟨rfl, Nat.le_refl _⟩
        · have := h1 q (by omega)
          rw [this] at hPq
          cases hPq
    · right
      obtain ⟨f1, f2, f3, f4⟩ := h2
      by_cases hc : P j = true ∧ pc j < (cB P j).2
      · rw [if_pos hc]
        refine ⟨rfl, hc.1, Nat.zero_le _, by dsimp only; omega, fun q _ hq hPq => ?_⟩
        by_cases hqj : q = j
        · subst hqj; right; exact ⟨rfl, Nat.le_refl _⟩
        · have := f4 q (Nat.zero_le _) (by omega) hPq
          have h3 := hc.2
          dsimp only
          omega
      · rw [if_neg hc]
        refine ⟨h1, f1, f2, by omega, fun q _ hq hPq => ?_⟩
        by_cases hqj : q = j
        · subst hqj
          have : ¬ pc q < (cB P q).2 := fun z => hc ⟨hPq, z⟩
          omega
        · exact f4 q (Nat.zero_le _) (by omega) hPq
def mB (P : Nat → Bool) (full : Nat) : Nat → Nat
  | 0 => full
  | t + 1 => if ¬ pc (mB P full t) < pc (full - t) ∧ P (full - t) = true then full - t else mB P full t
theorem mB_le (P : Nat → Bool) (full : Nat) : ∀ t, mB P full t ≤ full
  | 0 => Nat.le_refl _
  | t + 1 => by
    have ih := mB_le P full t
    show (if ¬ pc (mB P full t) < pc (full - t) ∧ P (full - t) = true then full - t else mB P full t) ≤ full
    split <;> omega
theorem mB_fz {P : Nat → Bool} {full : Nat} (hP : P full = true) : ∀ t, t ≤ full → fz P (full - t) (full + 1) (mB P full (t + 1))
  | 0, _ => by
    have e : mB P full 1 = full := by
      show (if ¬ pc full < pc (full - 0) ∧ P (full - 0) = true then full - 0 else full) = full
      split <;> omega
    rw [e]
    refine ⟨hP, by omega, by omega, fun q h1 h2 _ => ?_⟩
    have : q = full := by omega
    subst this
    right
    exact ⟨rfl, Nat.le_refl _⟩
  | t + 1, ht => by
    have ih := mB_fz hP t (by omega)
    obtain ⟨f1, f2, f3, f4⟩ := ih
    have e : mB P full (t + 1 + 1) = if ¬ pc (mB P full (t + 1)) < pc (full - (t + 1)) ∧ P (full - (t + 1)) = true then full - (t + 1) else mB P full (t + 1) := rfl
    rw [e]
    generalize mB P full (t + 1) = b at f1 f2 f3 f4
    by_cases hc : ¬ pc b < pc (full - (t + 1)) ∧ P (full - (t + 1)) = true
    · rw [if_pos hc]
      refine ⟨hc.2, Nat.le_refl _, by omega, fun q h1 h2 hq => ?_⟩
      by_cases hqj : q = full - (t + 1)
      · rw [hqj]; right; exact ⟨rfl, Nat.le_refl _⟩
      · have := f4 q (by omega) h2 hq
        have h3 := hc.1
        omega
    · rw [if_neg hc]
      refine ⟨f1, by omega, f3, fun q h1 h2 hq => ?_⟩
      by_cases hqj : q = full - (t + 1)
      · subst hqj
        have : ¬ ¬ pc b < pc (full - (t + 1)) := fun z => hc ⟨z, hq⟩
        omega
      · exact f4 q (by omega) h2 hq
theorem cB_mB {P : Nat → Bool} {full : Nat} (hf : full < 4096) (hP : P full = true) : (cB P (full + 1)).1 = mB P full (full + 1) := by
  have h2 := mB_fz hP full (Nat.le_refl _)
  rw [Nat.sub_self] at h2
  rcases cB_fz P (full + 1) (by omega) with h | h
  · have := h.1 full (by omega)
    rw [hP] at this
    cases this
  · exact fz_un h.2 h2
/-- what can be, as the document says -/
def cbS (L : Ld) (k : Nat) (B : Nat → Nat) (S : Nat → Bool) (s : Nat) : Bool := decide (fi (fun w => fq L w && fokS k B S s w) 1024 < 1024)
theorem cbS_iff {L : Ld} {k : Nat} {B : Nat → Nat} {S : Nat → Bool} {s : Nat} : cbS L k B S s = true ↔ ∃ w, w < 1024 ∧ fq L w = true ∧ fokS k B S s w = true := by
  unfold cbS
  rw [decide_eq_true_iff, fi_all]
  constructor
  · rintro ⟨w, h1, h2⟩
    rw [Bool.and_eq_true] at h2
    exact ⟨w, h1, h2⟩
  · rintro ⟨w, h1, h2, h3⟩
    exact ⟨w, h1, by rw [h2, h3]; rfl⟩
theorem cC_cb {L : Ld} (ok : LdOK L) {k : Nat} {B : Nat → Nat} {S : Nat → Bool} {s : Nat} (hs : s < 2 ^ k) : cC L k B S k s = cbS L k B S s := by
  have hml := msk_lt ok
  rw [Bool.eq_iff_iff, cC_iff k (Nat.le_refl k) s hs, cbS_iff]
  constructor
  · rintro ⟨w, h1, h2, h3⟩
    refine ⟨w, by omega, h2, ?_⟩
    unfold fokS
    rw [decide_eq_true_iff]
    intro i hi hb
    have := (h3 i hi).1 hi hb
    rw [kp_b, Bool.and_eq_true] at this
    exact beq_iff_eq.mp this.2
  · rintro ⟨w, h1, h2, h3⟩
    have hw : isW L w = true := by
      unfold fq at h2
      rw [Bool.and_eq_true] at h2
      exact h2.1
    refine ⟨w, by have := isW_lt hw; omega, h2, fun t ht => ⟨fun _ hb => ?_, fun h => absurd h (by omega)⟩⟩
    unfold fokS at h3
    rw [decide_eq_true_iff] at h3
    rw [kp_b, decide_eq_true ht, Bool.true_and]
    exact beq_iff_eq.mpr (h3 t ht hb)
theorem m_canBe {σ : St} (hz : σ.2.2 = true) {L : Ld} (hL : LM σ L) (ok : LdOK L) {k : Nat} {B : Nat → Nat} {S : Nat → Bool} (hF : FM σ k B S) {s : Nat} (hs : s < 2 ^ 31) : fX9_canBe 45 (nI s) (mk σ) = some (b2i (cbS L k B S s)) := by
  unfold fX9_canBe
  refine lp_fb (fun w => nI w) 1024 (fun w => fq L w && fokS k B S s w) (fun _ => .inr 1) (.inl ()) rfl ?_ ?_ ?_ ?_
  · intro w hw hp
    have hwl := wr_le L w
    have hsc := ok.2.2.2.1
    simp only [m_O hz, o_b, m_isW hz hL ok, isWx_n (show w < 2 ^ 31 by omega), m_wr hz hL ok (show w < 2 ^ 31 by omega), m_areFound hz hF hs (show w < 2 ^ 31 by omega)]
    rw [if_neg (show ¬ (1024 : Int32) ≤ nI w from nI_ge (b := 1024) hw (by decide)), show nI w + 1 = nI (w + 1) from nI_1 w]
    have e3 : fq L w = (isW L w && decide (wr L w = 0)) := rfl
    rw [e3] at hp
    cases h1 : isW L w with
    | false => rw [if_pos b2i_f]
    | true =>
      rw [if_neg (show ¬ b2i true = 0 from hne)]
      by_cases h2 : wr L w = 0
      · rw [h1, decide_eq_true h2] at hp
        rw [if_pos (show nI (wr L w) = 0 by rw [h2]; rfl), show fokS k B S s w = false from hp, if_pos b2i_f]
      · rw [if_neg (show ¬ nI (wr L w) = 0 from nI_ne0 (by omega) (by omega))]
  · intro w hw hp
    have hwl := wr_le L w
    have hsc := ok.2.2.2.1
    simp only [m_O hz, o_b, m_isW hz hL ok, isWx_n (show w < 2 ^ 31 by omega), m_wr hz hL ok (show w < 2 ^ 31 by omega), m_areFound hz hF hs (show w < 2 ^ 31 by omega)]
    rw [if_neg (show ¬ (1024 : Int32) ≤ nI w from nI_ge (b := 1024) hw (by decide))]
    have e3 : fq L w = (isW L w && decide (wr L w = 0)) := rfl
    rw [e3, Bool.and_eq_true, Bool.and_eq_true, decide_eq_true_iff] at hp
    rw [hp.1.1, if_neg (show ¬ b2i true = 0 from hne), if_pos (show nI (wr L w) = 0 by rw [hp.1.2]; rfl), hp.2, if_neg (show ¬ b2i true = 0 from hne)]
  · rw [if_pos (show (1024 : Int32) ≤ nI 1024 by decide)]
  · unfold cbS
    by_cases h : fi (fun w => fq L w && fokS k B S s w) 1024 < 1024
    · rw [if_pos h, decide_eq_true h]
      rfl
    · rw [if_neg h, decide_eq_false h]
      rfl
theorem c_clash {σ : St} {L : Ld} (ok : LdOK L) (hR : RK σ L) {k : Nat} {B : Nat → Nat} {S : Nat → Bool} (hF : FC σ k B S) : fX1_fewestClashing 36 33 27 (mk σ) = some (nI (cB (fun s => !cbS L k B S s) (2 ^ k)).1, mk (wS σ 37 (cA (cC L k B S k) (2 ^ k) (σ.2.1 37)))) := by
  have hk12 := hF.2.1
  have hpw : 2 ^ k ≤ 4096 := Nat.pow_le_pow_right (n := 2) (by decide) hk12
  have hp0 : 0 < 2 ^ k := Nat.two_pow_pos k
  have hmk := c_mark ok hR hF
  have hcc : ∀ s, s < 2 ^ k → cC L k B S k s = cbS L k B S s := fun s hs => cC_cb ok hs
  generalize hT : wS σ 37 (cA (cC L k B S k) (2 ^ k) (σ.2.1 37)) = τ at hmk
  have tA : ∀ s, s < 2 ^ k → τ.2.1 37 s = b2i (cbS L k B S s) := by
    intro s hs
    rw [← hT, wS_a, if_pos rfl]
    unfold cA
    rw [if_pos hs, hcc s hs]
  have q1 := hF.1
  unfold fX1_fewestClashing
  simp only [c_I, q1, o_b, c_O, p_1 k (by omega), hmk]
  generalize hP : (fun s => !cbS L k B S s) = P
  have hPs : ∀ s, P s = !cbS L k B S s := fun s => by rw [← hP]
  refine lp_b (fun j => (nI (cB P j).1, nI (cB P j).2, nI j)) (2 ^ k) (r := nI (cB P (2 ^ k)).1) rfl ?_ ?_ rfl
  · intro j hj
    have hj4 : j < 4096 := by omega
    have hpj := pc_12 hj4
    have h2 : (cB P j).2 ≤ 13 := by
      rcases cB_fz P j (by omega) with h | h
      · rw [h.2]; exact Nat.le_refl _
      · rw [h.1]
        have := h.2.2.2.1
        have := pc_12 (q := (cB P j).1) (by omega)
        omega
    dsimp only
    simp only [c_R, c_A, hj4, o_b, tA j hj, pc_c hj4]
    rw [if_neg (nI_nlt (by omega) (by omega)), show nI j + 1 = nI (j + 1) from nI_1 j]
    have e : cB P (j + 1) = if P j = true ∧ pc j < (cB P j).2 then (j, pc j) else cB P j := rfl
    rw [e, hPs]
    cases cbS L k B S j with
    | true =>
      rw [if_neg (show ¬ b2i true = 0 from hne), if_neg (fun z => by cases z.1)]
      rfl
    | false =>
      rw [if_pos b2i_f]
      by_cases hc : pc j < (cB P j).2
      · rw [if_neg (nI_ge hc (by omega)), if_pos ⟨rfl, hc⟩]
        rfl
      · rw [if_pos (nI_le (by omega) (by omega)), if_neg (fun z => hc z.2)]
        rfl
  · dsimp only
    rw [if_pos (nI_lt (by omega) (by omega))]
def dn (full t : Nat) : Int32 := if t ≤ full then nI (full - t) else -1
theorem dn_s {full t : Nat} (h : t ≤ full) : dn full t + (-1 : Int32) = dn full (t + 1) := by
  unfold dn
  rw [if_pos h]
  by_cases h2 : t + 1 ≤ full
  · rw [if_pos h2, show full - t = full - (t + 1) + 1 by omega, pk_m1]
  · rw [if_neg h2, show full - t = 0 by omega]
    rfl
theorem m_proof {σ τ : St} (hzs : σ.2.2 = true) (hz : τ.2.2 = true) {L : Ld} (hL : LM τ L) (ok : LdOK L) {k : Nat} {B : Nat → Nat} {S : Nat → Bool} (hF : FM τ k B S) (hfw : fX9_findWorlds 45 0 (mk σ) = some (mk τ)) {n : Nat} (hn : n ≤ 1024) (h33 : τ.1 45 33 = nI n) : fX9_proof 45 (mk σ) = some (if n = 0 then nI (mB (fun s => !cbS L k B S s) (2 ^ k - 1) (2 ^ k)) else 0, mk τ) := by
  have hk12 := hF.2.1
  have hpw : 2 ^ k ≤ 4096 := Nat.pow_le_pow_right (n := 2) (by decide) hk12
  have hp0 : 0 < 2 ^ k := Nat.two_pow_pos k
  have hcb := fun s (hs : s < 2 ^ 31) => m_canBe hz hL ok hF hs
  have hmf := m_allFound hz hF
  unfold fX9_proof
  simp only [m_O hzs, hfw, o_b, m_I hz, h33, m_O hz, hmf]
  by_cases h0 : n = 0
  · rw [if_pos (show nI n ≤ 0 by rw [h0]; decide), if_pos h0]
    generalize hP : (fun s => !cbS L k B S s) = P
    have hPs : ∀ s, P s = !cbS L k B S s := fun s => by rw [← hP]
    have hfe : 2 ^ k = 2 ^ k - 1 + 1 := by omega
    generalize hfu : 2 ^ k - 1 = full at hfe
    rw [hfe]
    have hf4 : full < 4096 := by omega
    refine lp_b (fun t => (nI (mB P full t), dn full t)) (full + 1) (r := nI (mB P full (full + 1))) ?_ ?_ ?_ rfl
    · rfl
    · intro t ht
      have hml := mB_le P full t
      have hpb := pc_le (mB P full t)
      have hpf := pc_le (full - t)
      have e0 : dn full t = nI (full - t) := by unfold dn; rw [if_pos (by omega)]
      dsimp only
      rw [← dn_s (by omega : t ≤ full), e0]
      simp only [m_bits (show full - t < 2 ^ 31 by omega), m_bits (show mB P full t < 2 ^ 31 by omega), o_b, hcb (full - t) (by omega)]
      rw [if_neg (nI_pos (by omega))]
      have e : mB P full (t + 1) = if ¬ pc (mB P full t) < pc (full - t) ∧ P (full - t) = true then full - t else mB P full t := rfl
      rw [e, hPs]
      by_cases hc : pc (mB P full t) < pc (full - t)
      · rw [if_pos (nI_lt hc (by omega)), if_neg (fun z => z.1 hc)]
        rfl
      · rw [if_neg (nI_nlt (by omega) (by omega))]
        cases cbS L k B S (full - t) with
        | true => rw [if_neg (show ¬ b2i true = 0 from hne), if_neg (fun z => by cases z.2)]; rfl
        | false => rw [if_pos b2i_f, if_pos ⟨hc, rfl⟩]; rfl
    · have e0 : dn full (full + 1) = -1 := by unfold dn; rw [if_neg (by omega)]
      dsimp only
      rw [e0, if_pos (show (-1 : Int32) < 0 by decide)]
  · rw [if_neg (show ¬ nI n ≤ 0 from nI_nle (by omega) (by omega)), if_neg h0]
theorem ok13 : ql_o13 Inv := by
  rintro h ⟨σ, rfl, L, k, B, S, hI⟩
  have hz := iw_z hI
  obtain ⟨h1, h2, h3, h4, h5, h6, h7, h8, h9, h10, h11, h12, h13, h14⟩ := id hI
  have hgl := gl_le L k B S 0 1024
  have hk12 := h6.2.1
  have hpw : 2 ^ k ≤ 4096 := Nat.pow_le_pow_right (n := 2) (by decide) hk12
  have hp0 : 0 < 2 ^ k := Nat.two_pow_pos k
  have c2 := h9.1
  have hcl := c_clash h1 h8 h6
  have hmem : (gl L k B S 0 1024).length = 0 → cbS L k B S (2 ^ k - 1) = false := by
    intro h0
    cases hq : cbS L k B S (2 ^ k - 1) with
    | false => rfl
    | true =>
      obtain ⟨w, w1, w2, w3⟩ := cbS_iff.mp hq
      rw [fokS_all] at w3
      unfold fq at w2
      rw [Bool.and_eq_true] at w2
      have : w ∈ gl L k B S 0 1024 := gl_mem.mpr ⟨w1, by rw [gq0, w2.1, w2.2, w3]; rfl⟩
      have h5 := List.length_pos_of_mem this
      omega
  by_cases h0 : (gl L k B S 0 1024).length = 0
  · generalize hT : wS σ 37 (cA (cC L k B S k) (2 ^ k) (σ.2.1 37)) = υ at hcl
    have hIU : Iw υ L k B S := by rw [← hT]; exact hI
    obtain ⟨u1, u2, u3, u4, u5, u6, u7, u8, u9, u10, u11, u12, u13, u14⟩ := id hIU
    have hfw : fX9_findWorlds 45 0 (mk υ) = _ := m_findWorlds u14 u4 u1 u7 (m := 0) (by decide)
    have hU33 : (fS (wS υ 64 (lA (gl L k B S 0 1024) (υ.2.1 64))) 45 33 (nI (gl L k B S 0 1024).length)).1 45 33 = nI (gl L k B S 0 1024).length := rfl
    have hIT : Iw (fS (wS υ 64 (lA (gl L k B S 0 1024) (υ.2.1 64))) 45 33 (nI (gl L k B S 0 1024).length)) L k B S := iw_goods hIU _ _
    generalize fS (wS υ 64 (lA (gl L k B S 0 1024) (υ.2.1 64))) 45 33 (nI (gl L k B S 0 1024).length) = τ at hfw hU33 hIT
    obtain ⟨t1, t2, t3, t4, t5, t6, t7, t8, t9, t10, t11, t12, t13, t14⟩ := id hIT
    have hm := m_proof u14 t14 t4 t1 t7 hfw hgl hU33
    rw [if_pos h0] at hm
    have hf0 := hmem h0
    generalize hP : (fun s => !cbS L k B S s) = P at hm hcl
    have hPf : P (2 ^ k - 1) = true := by rw [← hP]; show (!cbS L k B S (2 ^ k - 1)) = true; rw [hf0]; rfl
    have hcm := cB_mB (P := P) (full := 2 ^ k - 1) (by omega) hPf
    rw [show 2 ^ k - 1 + 1 = 2 ^ k by omega] at hcm
    rw [← hcm] at hm
    refine fin (f9 := fun h => fX9_proof 45 h) (σ1 := υ) (σ2 := τ) ?_ u14 hm ⟨L, k, B, S, hIT⟩
    unfold fX8_proof
    rw [h0] at c2
    simp only [c_R, c_I, c2, o_b, c_O, hcl]
    rw [if_pos (show nI 0 ≤ 0 by decide)]
    rfl
  · have hfw : fX9_findWorlds 45 0 (mk σ) = _ := m_findWorlds hz h4 h1 h7 (m := 0) (by decide)
    have hU33 : (fS (wS σ 64 (lA (gl L k B S 0 1024) (σ.2.1 64))) 45 33 (nI (gl L k B S 0 1024).length)).1 45 33 = nI (gl L k B S 0 1024).length := rfl
    have hIT : Iw (fS (wS σ 64 (lA (gl L k B S 0 1024) (σ.2.1 64))) 45 33 (nI (gl L k B S 0 1024).length)) L k B S := iw_goods hI _ _
    generalize fS (wS σ 64 (lA (gl L k B S 0 1024) (σ.2.1 64))) 45 33 (nI (gl L k B S 0 1024).length) = τ at hfw hU33 hIT
    obtain ⟨t1, t2, t3, t4, t5, t6, t7, t8, t9, t10, t11, t12, t13, t14⟩ := id hIT
    have hm := m_proof hz t14 t4 t1 t7 hfw hgl hU33
    rw [if_neg h0] at hm
    refine fin (f9 := fun h => fX9_proof 45 h) (σ1 := σ) (σ2 := τ) ?_ hz hm ⟨L, k, B, S, hIT⟩
    unfold fX8_proof
    simp only [c_R, c_I, c2, o_b]
    rw [if_neg (show ¬ nI (gl L k B S 0 1024).length ≤ 0 from nI_nle (by omega) (by omega))]
    rfl
