/-! ===== 68: go, pure: the fewest roads ===== -/
def wmx (C : Nat → Bool) (kn so : Nat) (v : Nat → Nat) : Nat → Nat
  | 0 => 0
  | f + 1 => if (C f && decide (f &&& kn = so)) = true then max (wmx C kn so v f) (v f) else wmx C kn so v f
section WM
variable {C : Nat → Bool} {kn so : Nat} {v v' : Nat → Nat}
theorem wc_iff {f : Nat} : (C f && decide (f &&& kn = so)) = true ↔ C f = true ∧ f &&& kn = so := by rw [Bool.and_eq_true, decide_eq_true_iff]
theorem wmx_le {b : Nat} : ∀ {n : Nat}, (∀ f, f < n → C f = true → f &&& kn = so → v f ≤ b) → wmx C kn so v n ≤ b
  | 0, _ => Nat.zero_le _
  | n + 1, h => by
    have ih := wmx_le (n := n) (fun f hf => h f (by omega))
    show (if (C n && decide (n &&& kn = so)) = true then max (wmx C kn so v n) (v n) else wmx C kn so v n) ≤ b
    by_cases hc : (C n && decide (n &&& kn = so)) = true
    · rw [if_pos hc]
      have h2 := h n (by omega) (wc_iff.mp hc).1 (wc_iff.mp hc).2
      omega
    · rw [if_neg hc]
      exact ih
theorem wmx_ge : ∀ {n f : Nat}, f < n → C f = true → f &&& kn = so → v f ≤ wmx C kn so v n
  | 0, f, h, _, _ => absurd h (Nat.not_lt_zero f)
  | n + 1, f, h, h1, h2 => by
    show v f ≤ (if (C n && decide (n &&& kn = so)) = true then max (wmx C kn so v n) (v n) else wmx C kn so v n)
    by_cases hf : f = n
    · subst hf
      rw [if_pos (wc_iff.mpr ⟨h1, h2⟩)]
      omega
    · have ih := wmx_ge (n := n) (f := f) (by omega) h1 h2
      split
      · omega
      · exact ih
theorem wmx_cong : ∀ {n : Nat}, (∀ f, f < n → C f = true → f &&& kn = so → v f = v' f) → wmx C kn so v n = wmx C kn so v' n
  | 0, _ => rfl
  | n + 1, h => by
    have ih := wmx_cong (n := n) (fun f hf => h f (by omega))
    show (if (C n && decide (n &&& kn = so)) = true then max (wmx C kn so v n) (v n) else wmx C kn so v n) = (if (C n && decide (n &&& kn = so)) = true then max (wmx C kn so v' n) (v' n) else wmx C kn so v' n)
    rw [ih]
    by_cases hc : (C n && decide (n &&& kn = so)) = true
    · rw [if_pos hc, if_pos hc, h n (by omega) (wc_iff.mp hc).1 (wc_iff.mp hc).2]
    · rw [if_neg hc, if_neg hc]
def cap (m x : Nat) : Nat := if x ≤ m then x else 1000
theorem cap_mx {m a b : Nat} (hm : m ≤ 1000) : max (cap m a) (cap m b) = cap m (max a b) := by
  unfold cap
  by_cases h1 : a ≤ m
  · by_cases h2 : b ≤ m
    · rw [if_pos h1, if_pos h2, if_pos (by omega)]
    · rw [if_pos h1, if_neg h2, if_neg (by omega)]
      omega
  · rw [if_neg h1, if_neg (show ¬ max a b ≤ m by omega)]
    split <;> omega
theorem wmx_cap {m : Nat} (hm : m ≤ 1000) : ∀ n, wmx C kn so (fun f => cap m (v f)) n = cap m (wmx C kn so v n)
  | 0 => (if_pos (Nat.zero_le m)).symm
  | n + 1 => by
    have ih := wmx_cap hm n
    show (if (C n && decide (n &&& kn = so)) = true then max (wmx C kn so (fun f => cap m (v f)) n) (cap m (v n)) else wmx C kn so (fun f => cap m (v f)) n) = cap m (if (C n && decide (n &&& kn = so)) = true then max (wmx C kn so v n) (v n) else wmx C kn so v n)
    rw [ih]
    by_cases hc : (C n && decide (n &&& kn = so)) = true
    · rw [if_pos hc, if_pos hc, cap_mx hm]
    · rw [if_neg hc, if_neg hc]
end WM
def sho (ok : Nat → Bool) (x y : Nat) (e : Nat → Nat) : Nat → Nat := if ok x = true then (fun p => if p = x then min (e x) (e y + 1) else e p) else e
def rdr (ok : Nat → Bool) (a b : Nat → Nat) : Nat → (Nat → Nat) → Nat → Nat
  | 0, e => e
  | r + 1, e => sho ok (b r) (a r) (sho ok (a r) (b r) (rdr ok a b r e))
def itr (ok : Nat → Bool) (a b : Nat → Nat) (R : Nat) (e : Nat → Nat) : Nat → Nat → Nat
  | 0 => e
  | k + 1 => rdr ok a b R (itr ok a b R e k)
def adj (a b : Nat → Nat) (R p q : Nat) : Prop := ∃ r, r < R ∧ ((a r = p ∧ b r = q) ∨ (a r = q ∧ b r = p))
def sumP (e : Nat → Nat) : Nat → Nat
  | 0 => 0
  | n + 1 => sumP e n + e n
section BF
variable {ok : Nat → Bool} {a b : Nat → Nat} {P R : Nat} {e e0 : Nat → Nat}
theorem adj_c {p q : Nat} (h : adj a b R p q) : adj a b R q p := by
  obtain ⟨r, h1, h2⟩ := h
  exact ⟨r, h1, h2.symm⟩
theorem sho_le (x y p : Nat) : sho ok x y e p ≤ e p := by
  unfold sho
  split
  · show (if p = x then min (e x) (e y + 1) else e p) ≤ e p
    by_cases h : p = x
    · rw [if_pos h, h]; omega
    · rw [if_neg h]; omega
  · omega
theorem sho_n {x y p : Nat} (h : p ≠ x) : sho ok x y e p = e p := by
  unfold sho
  split
  · exact if_neg h
  · rfl
theorem sho_x {x y : Nat} (h : ok x = true) : sho ok x y e x = min (e x) (e y + 1) := by
  unfold sho
  rw [if_pos h]
  exact if_pos rfl
theorem rdr_s (r p : Nat) : rdr ok a b (r + 1) e p ≤ rdr ok a b r e p := by
  show sho ok (b r) (a r) (sho ok (a r) (b r) (rdr ok a b r e)) p ≤ _
  exact Nat.le_trans (sho_le _ _ _) (sho_le _ _ _)
theorem rdr_m {r p : Nat} : ∀ d, rdr ok a b (r + d) e p ≤ rdr ok a b r e p
  | 0 => Nat.le_refl _
  | d + 1 => Nat.le_trans (rdr_s (r + d) p) (rdr_m d)
theorem rdr_le (r p : Nat) : rdr ok a b r e p ≤ e p := by
  have h : rdr ok a b (0 + r) e p ≤ rdr ok a b 0 e p := rdr_m r
  rw [Nat.zero_add] at h
  exact h
theorem rdr_dec {p q : Nat} (h : adj a b R p q) (hab : ∀ r, r < R → a r ≠ b r) (hp : ok p = true) : rdr ok a b R e p ≤ e q + 1 := by
  obtain ⟨r, hr, h2⟩ := h
  have hm : rdr ok a b (r + 1 + (R - (r + 1))) e p ≤ rdr ok a b (r + 1) e p := rdr_m _
  rw [show r + 1 + (R - (r + 1)) = R by omega] at hm
  refine Nat.le_trans hm ?_
  show sho ok (b r) (a r) (sho ok (a r) (b r) (rdr ok a b r e)) p ≤ e q + 1
  have hab := hab r hr
  rcases h2 with ⟨h3, h4⟩ | ⟨h3, h4⟩
  · rw [h3, h4]
    refine Nat.le_trans (sho_le _ _ _) ?_
    rw [sho_x hp]
    have := rdr_le (ok := ok) (a := a) (b := b) (e := e) r q
    omega
  · rw [h3, h4, sho_x hp]
    have h5 := sho_le (ok := ok) (e := rdr ok a b r e) q p q
    have := rdr_le (ok := ok) (a := a) (b := b) (e := e) r q
    omega
theorem rdr_out {p : Nat} (hP : ∀ r, r < R → a r < P ∧ b r < P) (hp : P ≤ p) : ∀ n, n ≤ R → rdr ok a b n e p = e p
  | 0, _ => rfl
  | n + 1, h => by
    have ih := rdr_out hP hp n (by omega)
    have := hP n (by omega)
    show sho ok (b n) (a n) (sho ok (a n) (b n) (rdr ok a b n e)) p = e p
    rw [sho_n (by omega), sho_n (by omega), ih]
def JJ (ok : Nat → Bool) (a b : Nat → Nat) (R : Nat) (e0 e : Nat → Nat) : Prop := ∀ p, e p = e0 p ∨ (ok p = true ∧ ∃ q, adj a b R p q ∧ e q + 1 ≤ e p)
theorem J_sho {x y : Nat} (h : JJ ok a b R e0 e) (hxy : adj a b R x y) (hne : x ≠ y) : JJ ok a b R e0 (sho ok x y e) := by
  intro p
  by_cases hx : ok x = true
  · by_cases hlt : e y + 1 < e x
    · by_cases hp : p = x
      · subst hp
        refine Or.inr ⟨hx, y, hxy, ?_⟩
        rw [sho_x hx, sho_n (fun z => hne z.symm)]
        omega
      · rcases h p with h1 | ⟨h1, q, h2, h3⟩
        · exact Or.inl (by rw [sho_n hp]; exact h1)
        · refine Or.inr ⟨h1, q, h2, ?_⟩
          rw [sho_n hp]
          have := sho_le (ok := ok) (e := e) x y q
          omega
    · have es : sho ok x y e = e := by
        funext p
        by_cases hp : p = x
        · subst hp
          rw [sho_x hx]
          omega
        · exact sho_n hp
      rw [es]
      exact h p
  · have es : sho ok x y e = e := by
      unfold sho
      rw [if_neg hx]
    rw [es]
    exact h p
theorem J_rdr (h : JJ ok a b R e0 e) (hab : ∀ r, r < R → a r ≠ b r) : ∀ n, n ≤ R → JJ ok a b R e0 (rdr ok a b n e)
  | 0, _ => h
  | n + 1, hn => J_sho (J_sho (J_rdr h hab n (by omega)) ⟨n, by omega, Or.inl ⟨rfl, rfl⟩⟩ (hab n (by omega))) ⟨n, by omega, Or.inr ⟨rfl, rfl⟩⟩ (fun z => hab n (by omega) z.symm)
theorem J_itr (hab : ∀ r, r < R → a r ≠ b r) : ∀ k, JJ ok a b R e0 (itr ok a b R e0 k)
  | 0 => fun _ => Or.inl rfl
  | k + 1 => J_rdr (J_itr hab k) hab R (Nat.le_refl R)
theorem itr_s : ∀ k (e : Nat → Nat), itr ok a b R e (k + 1) = itr ok a b R (rdr ok a b R e) k
  | 0, _ => rfl
  | k + 1, e => by
    have ih := itr_s k e
    show rdr ok a b R (itr ok a b R e (k + 1)) = rdr ok a b R (itr ok a b R (rdr ok a b R e) k)
    rw [ih]
theorem itr_m {k p : Nat} : ∀ d, itr ok a b R e (k + d) p ≤ itr ok a b R e k p
  | 0 => Nat.le_refl _
  | d + 1 => Nat.le_trans (rdr_le R p) (itr_m d)
theorem sum_le {f g : Nat → Nat} (h : ∀ p, f p ≤ g p) : ∀ n, sumP f n ≤ sumP g n
  | 0 => Nat.le_refl _
  | n + 1 => by
    have h1 := sum_le h n
    have h2 := h n
    show sumP f n + f n ≤ sumP g n + g n
    omega
theorem sum_lt {f g : Nat → Nat} (h : ∀ p, f p ≤ g p) {p : Nat} (hp : f p < g p) : ∀ n, p < n → sumP f n < sumP g n
  | 0, hn => absurd hn (Nat.not_lt_zero p)
  | n + 1, hn => by
    have h2 := h n
    show sumP f n + f n < sumP g n + g n
    by_cases hpn : p = n
    · subst hpn
      have := sum_le h p
      omega
    · have := sum_lt h hp n (by omega)
      omega
theorem ex_stab (hP : ∀ r, r < R → a r < P ∧ b r < P) : ∀ N (e : Nat → Nat), sumP e P ≤ N → ∃ K, rdr ok a b R (itr ok a b R e K) = itr ok a b R e K := by
  intro N
  induction N with
  | zero =>
    intro e hs
    refine ⟨0, ?_⟩
    funext p
    show rdr ok a b R e p = e p
    have hle : ∀ p, rdr ok a b R e p ≤ e p := fun p => rdr_le R p
    by_cases hp : p < P
    · by_cases hlt : rdr ok a b R e p < e p
      · have := sum_lt hle hlt P hp
        omega
      · have := hle p
        omega
    · exact rdr_out hP (by omega) R (Nat.le_refl R)
  | succ N ih =>
    intro e hs
    by_cases hst : rdr ok a b R e = e
    · exact ⟨0, hst⟩
    · have hle : ∀ p, rdr ok a b R e p ≤ e p := fun p => rdr_le R p
      have hex : ∃ p, ¬ rdr ok a b R e p = e p := Classical.byContradiction (fun z => hst (funext (fun p => Classical.byContradiction (fun y => z ⟨p, y⟩))))
      obtain ⟨p, hp⟩ := hex
      have hpP : p < P := by
        rcases Nat.lt_or_ge p P with q | q
        · exact q
        · exact absurd (rdr_out hP q R (Nat.le_refl R)) hp
      have h1 := hle p
      have := sum_lt hle (show rdr ok a b R e p < e p by omega) P hpP
      obtain ⟨K, hK⟩ := ih (rdr ok a b R e) (by omega)
      refine ⟨K + 1, ?_⟩
      rw [itr_s]
      exact hK
theorem ct_lt2 {p q : Nat → Bool} (h : ∀ k, p k = true → q k = true) {k : Nat} (hp : p k = false) (hq : q k = true) : ∀ n, k < n → ct p n < ct q n
  | 0, hn => absurd hn (Nat.not_lt_zero k)
  | n + 1, hn => by
    show ct p n + (p n).toNat < ct q n + (q n).toNat
    have hle : ∀ n, ct p n ≤ ct q n := fun n => by
      induction n with
      | zero => exact Nat.le_refl _
      | succ n ih =>
        show ct p n + (p n).toNat ≤ ct q n + (q n).toNat
        have : (p n).toNat ≤ (q n).toNat := by
          cases h1 : p n with
          | false => exact Nat.zero_le _
          | true => rw [h n h1]; exact Nat.le_refl _
        omega
    by_cases hkn : k = n
    · subst hkn
      rw [hp, hq]
      have := hle k
      show ct p k + 0 < ct q k + 1
      omega
    · have ih := ct_lt2 h hp hq n (by omega)
      have : (p n).toNat ≤ (q n).toNat := by
        cases h1 : p n with
        | false => exact Nat.zero_le _
        | true => rw [h n h1]; exact Nat.le_refl _
      omega
theorem ct_full {p : Nat → Bool} : ∀ {n : Nat}, n ≤ ct p n → ∀ k, k < n → p k = true
  | n, h, k, hk => by
    cases hp : p k with
    | true => rfl
    | false =>
      have := ct_lt (p := p) hk hp
      omega
theorem min_ex {Q : Nat → Prop} (v : Nat → Nat) : (∃ p, Q p) → ∃ p, Q p ∧ ∀ q, Q q → v p ≤ v q := by
  intro h
  obtain ⟨k, ⟨p, hp, hk⟩, hmin⟩ := pk_least (fun k => ∃ p, Q p ∧ v p = k) (by
    obtain ⟨p, hp⟩ := h
    exact ⟨v p, p, hp, rfl⟩)
  refine ⟨p, hp, fun q hq => ?_⟩
  rcases Nat.lt_or_ge (v q) (v p) with z | z
  · exact absurd ⟨q, hq, rfl⟩ (hmin (v q) (by omega))
  · exact z
/-- after as many rounds as there are places but one nothing is shorter -/
theorem bf (hP : ∀ r, r < R → a r < P ∧ b r < P ∧ a r ≠ b r) (e0 : Nat → Nat) : (∀ p q, adj a b R p q → ok p = true → itr ok a b R e0 (P - 1) p ≤ itr ok a b R e0 (P - 1) q + 1) ∧ ∀ p, p < P → itr ok a b R e0 (P - 1) p = e0 p ∨ (ok p = true ∧ ∃ q, adj a b R p q ∧ itr ok a b R e0 (P - 1) p = itr ok a b R e0 (P - 1) q + 1) := by
  have hP2 : ∀ r, r < R → a r < P ∧ b r < P := fun r hr => ⟨(hP r hr).1, (hP r hr).2.1⟩
  have hab : ∀ r, r < R → a r ≠ b r := fun r hr => (hP r hr).2.2
  have hadj : ∀ p q, adj a b R p q → p < P ∧ q < P := by
    rintro p q ⟨r, hr, h⟩
    have := hP2 r hr
    omega
  obtain ⟨K, hK⟩ := ex_stab (ok := ok) hP2 (sumP e0 P) e0 (Nat.le_refl _)
  have hJ := J_itr (ok := ok) (e0 := e0) hab K
  have hge : ∀ k p, itr ok a b R e0 K p ≤ itr ok a b R e0 k p := by
    intro k p
    have hst : ∀ d, itr ok a b R e0 (K + d) = itr ok a b R e0 K := fun d => by
      induction d with
      | zero => rfl
      | succ d ih =>
        show rdr ok a b R (itr ok a b R e0 (K + d)) = _
        rw [ih]
        exact hK
    by_cases hk : k ≤ K
    · have := itr_m (ok := ok) (a := a) (b := b) (R := R) (e := e0) (k := k) (p := p) (K - k)
      rw [show k + (K - k) = K by omega] at this
      exact this
    · have := hst (k - K)
      rw [show K + (k - K) = k by omega] at this
      rw [this]
      exact Nat.le_refl _
  have hst2 : ∀ p q, adj a b R p q → ok p = true → itr ok a b R e0 K p ≤ itr ok a b R e0 K q + 1 := fun p q h hp => by
    have := rdr_dec (e := itr ok a b R e0 K) h hab hp
    rw [hK] at this
    exact this
  generalize itr ok a b R e0 K = s at hJ hge hst2
  have hcnt : ∀ k, min P (k + 1) ≤ ct (fun p => decide (itr ok a b R e0 k p = s p)) P := by
    intro k
    induction k with
    | zero =>
      rcases Nat.eq_zero_or_pos P with h0 | h0
      · omega
      · obtain ⟨p, hp, hmin⟩ := min_ex (Q := fun p => p < P) s ⟨0, h0⟩
        have he : e0 p = s p := by
          rcases hJ p with h | ⟨_, q, h2, h3⟩
          · exact h.symm
          · have := hmin q (hadj p q h2).2
            omega
        have := ct_pos (p := fun p => decide (itr ok a b R e0 0 p = s p)) hp (decide_eq_true he)
        omega
    | succ k ih =>
      by_cases hall : ∀ p, p < P → itr ok a b R e0 k p = s p
      · have hall2 : ∀ p, p < P → (decide (itr ok a b R e0 (k + 1) p = s p)) = true := fun p hp => by
          have h1 := hge (k + 1) p
          have h2 : itr ok a b R e0 (k + 1) p ≤ itr ok a b R e0 k p := rdr_le R p
          have h3 := hall p hp
          exact decide_eq_true (by omega)
        have : ct (fun p => decide (itr ok a b R e0 (k + 1) p = s p)) P = P := by
          have h := ct_cong (p := fun p => decide (itr ok a b R e0 (k + 1) p = s p)) (q := fun _ => true) (n := P) (fun p hp => hall2 p hp)
          rw [h]
          have : ∀ n, ct (fun _ => true) n = n := fun n => by
            induction n with
            | zero => rfl
            | succ n ih => show ct (fun _ => true) n + 1 = n + 1; rw [ih]
          exact this P
        omega
      · simp only [Classical.not_forall] at hall
        obtain ⟨p0, hp0, hn0⟩ := hall
        obtain ⟨p, ⟨hp, hn⟩, hmin⟩ := min_ex (Q := fun p => p < P ∧ ¬ itr ok a b R e0 k p = s p) s ⟨p0, hp0, hn0⟩
        have h1 := hge k p
        have h2 : itr ok a b R e0 (0 + k) p ≤ itr ok a b R e0 0 p := itr_m k
        rw [Nat.zero_add] at h2
        have h2' : itr ok a b R e0 k p ≤ e0 p := h2
        rcases hJ p with h | ⟨hokp, q, h3, h4⟩
        · omega
        · have hq := (hadj p q h3).2
          have hqS : itr ok a b R e0 k q = s q := Classical.byContradiction (fun z => by
            have := hmin q ⟨hq, z⟩
            omega)
          have h5 : itr ok a b R e0 (k + 1) p ≤ itr ok a b R e0 k q + 1 := rdr_dec h3 hab hokp
          have h6 := hge (k + 1) p
          have hsub : ∀ p, decide (itr ok a b R e0 k p = s p) = true → decide (itr ok a b R e0 (k + 1) p = s p) = true := fun p hp => by
            have h7 := of_decide_eq_true hp
            have h8 := hge (k + 1) p
            have h9 : itr ok a b R e0 (k + 1) p ≤ itr ok a b R e0 k p := rdr_le R p
            exact decide_eq_true (by omega)
          have := ct_lt2 (p := fun p => decide (itr ok a b R e0 k p = s p)) (q := fun p => decide (itr ok a b R e0 (k + 1) p = s p)) hsub (k := p) (decide_eq_false hn) (decide_eq_true (by omega)) P hp
          omega
  have hfin : ∀ p, p < P → itr ok a b R e0 (P - 1) p = s p := fun p hp => by
    have h := hcnt (P - 1)
    exact of_decide_eq_true (ct_full (p := fun p => decide (itr ok a b R e0 (P - 1) p = s p)) (n := P) (by omega) p hp)
  constructor
  · intro p q h hp
    rw [hfin p (hadj p q h).1, hfin q (hadj p q h).2]
    exact hst2 p q h hp
  · intro p hp
    rw [hfin p hp]
    rcases hJ p with h | ⟨h1, q, h2, h3⟩
    · exact Or.inl h
    · refine Or.inr ⟨h1, q, h2, ?_⟩
      rw [hfin q (hadj p q h2).2]
      have := hst2 p q h2 h1
      omega
end BF
