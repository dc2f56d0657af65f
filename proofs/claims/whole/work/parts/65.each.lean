/-! ===== 65: land: statement by statement ===== -/
def tkk (c : Nat → Nat) (L : Ld) (a : Nat) : Option Ld := tk L (c a) (c (a + 1) - 48) (c (a + 2) - 48) (c (a + 3) - 48) (c (a + 4) - 48) (kdx (c (a + 2)))
/-- all statements, from one on: the land, or where the first is that can not be -/
def rn (c : Nat → Nat) : Nat → Nat → Ld → Ld ⊕ Nat
  | 0, _, L => .inl L
  | d + 1, k, L => match tkk c L (ss c k) with
    | none => .inr (ss c k)
    | some L' => rn c d (k + 1) L'
section SB
variable {τ : St} {c : Nat → Nat} {t : Nat} {L : Ld} {k a : Nat}
theorem gdj (hg : gd c t a = true) {y j : Nat} (hx : c a = y) (hj : j < lnn y) : sut ((frm y).getD j 0) (c (a + j)) = true := by
  have h := (gd_tok hg).2 j (by rw [hx]; exact hj)
  unfold tok at h
  rw [Bool.and_eq_true, hx] at h
  exact h.2
theorem tkc_b {o : Option Ld} {r : Option (Int32 × qv_H)} (h : TKc τ o r) : TKc τ o (r.bind fun x => (qv_b1 x.1).bind fun _ => some (x.1, x.2)) := by
  obtain ⟨τ', e, h2⟩ := h
  refine ⟨τ', ?_, h2⟩
  rw [e, o_b]
  show Option.bind (qv_b1 (b2i o.isSome)) _ = _
  rw [b2i_b1]
  rfl
theorem d9 {x : Nat} (h : sut 100 x = true) : x - 48 ≤ 9 := by
  have := sut_r h
  omega
theorem k6 {x : Nat} (h : sut 107 x = true) : kdx x ≤ 6 := by
  have h2 : kdx x < 7 := of_decide_eq_true h
  omega
theorem dgv_t {i : Nat} (h : sut 100 (c i) = true) : dgv c i = nI (c i - 48) := if_pos h
theorem tk_102 (x1 x2 x3 x4 kd : Nat) : tk L 102 x1 x2 x3 x4 kd = (if L.1 2 < 4 then some (uF L 2 (L.1 2 + 1)) else none) := by
  unfold tk
  rw [if_pos rfl]
theorem tk_105 (x1 x2 x3 x4 kd : Nat) : tk L 105 x1 x2 x3 x4 kd = (if x1 < L.1 0 ∧ x2 < L.1 0 ∧ x1 ≠ x2 ∧ x3 < L.1 2 then some (uF (uF (uF (uF L 4 1) 5 x1) 6 x2) 7 x3) else none) := by
  unfold tk
  rw [if_neg (show ¬ (105 = 102) by decide), if_pos rfl]
theorem tk_108 (x1 x2 x3 x4 kd : Nat) : tk L 108 x1 x2 x3 x4 kd = (if x1 < L.1 0 ∧ x2 < L.1 2 then some (uL L 6 x1 (L.2 6 x1 ||| 2 ^ x2)) else none) := by
  unfold tk
  rw [if_neg (show ¬ (108 = 102) by decide), if_neg (show ¬ (108 = 105) by decide), if_pos rfl]
theorem tk_110 (x1 x2 x3 x4 kd : Nat) : tk L 110 x1 x2 x3 x4 kd = (if 2 ≤ x1 ∧ x1 ≤ 6 ∧ tp L ≤ x1 then some (uF L 0 x1) else none) := by
  unfold tk
  rw [if_neg (show ¬ (110 = 102) by decide), if_neg (show ¬ (110 = 105) by decide), if_neg (show ¬ (110 = 108) by decide), if_pos rfl]
theorem tk_114 (x1 x2 x3 x4 kd : Nat) : tk L 114 x1 x2 x3 x4 kd = (if x1 < L.1 0 ∧ x2 < L.1 0 ∧ x1 ≠ x2 ∧ L.1 1 < 8 then some (uF (uL (uL L 0 (L.1 1) x1) 1 (L.1 1) x2) 1 (L.1 1 + 1)) else none) := by
  unfold tk
  rw [if_neg (show ¬ (114 = 102) by decide), if_neg (show ¬ (114 = 105) by decide), if_neg (show ¬ (114 = 108) by decide), if_neg (show ¬ (114 = 110) by decide), if_pos rfl]
theorem tk_115 (x1 x2 x3 x4 kd : Nat) : tk L 115 x1 x2 x3 x4 kd = (if x1 < L.1 1 ∧ L.1 3 < 6 ∧ may L kd x3 x4 = true then some (uF (uL (uL (uL (uL L 2 (L.1 3) kd) 3 (L.1 3) x1) 4 (L.1 3) x3) 5 (L.1 3) x4) 3 (L.1 3 + 1)) else none) := by
  unfold tk
  rw [if_neg (show ¬ (115 = 102) by decide), if_neg (show ¬ (115 = 105) by decide), if_neg (show ¬ (115 = 108) by decide), if_neg (show ¬ (115 = 110) by decide), if_neg (show ¬ (115 = 114) by decide)]
theorem ct_102 (hT : TxB (τ.1 1 0) (τ.2.1 2) c t) (hL : LT τ L) (hN : InnC (τ.1 11 11) (τ.1 11 12) (τ.1 11 13) L) (ok : LdOK L) (hg : gd c t a = true) (ha : a ≤ 80) (hx : c a = 102) : TKc τ (tkk c L a) (fX3_take 11 1 (nI a) (mk τ)) := by
  have a2 : nI a + (2 : Int32) = nI (a + 2) := nI_add a 2
  have a3 : nI a + (3 : Int32) = nI (a + 3) := nI_add a 3
  have a4 : nI a + (4 : Int32) = nI (a + 4) := nI_add a 4
  unfold fX3_take tkk
  simp only [c_O, o_b, nI_1, a2, a3, c_dig hT (show a + 1 ≤ 1000 by omega), c_dig hT (show a + 2 ≤ 1000 by omega), c_dig hT (show a + 3 ≤ 1000 by omega), c_at hT (show a ≤ 1000 by omega), hx, tk_102]
  rw [if_pos (show nI 102 = (102 : Int32) from rfl)]
  exact tkc_b (t_fact hL hN ok )
theorem ct_105 (hT : TxB (τ.1 1 0) (τ.2.1 2) c t) (hL : LT τ L) (hN : InnC (τ.1 11 11) (τ.1 11 12) (τ.1 11 13) L) (ok : LdOK L) (hg : gd c t a = true) (ha : a ≤ 80) (hx : c a = 105) : TKc τ (tkk c L a) (fX3_take 11 1 (nI a) (mk τ)) := by
  have d1 : sut 100 (c (a + 1)) = true := gdj hg hx (j := 1) (by decide)
  have d2 : sut 100 (c (a + 2)) = true := gdj hg hx (j := 2) (by decide)
  have d3 : sut 100 (c (a + 3)) = true := gdj hg hx (j := 3) (by decide)
  have a2 : nI a + (2 : Int32) = nI (a + 2) := nI_add a 2
  have a3 : nI a + (3 : Int32) = nI (a + 3) := nI_add a 3
  have a4 : nI a + (4 : Int32) = nI (a + 4) := nI_add a 4
  unfold fX3_take tkk
  simp only [c_O, o_b, nI_1, a2, a3, c_dig hT (show a + 1 ≤ 1000 by omega), c_dig hT (show a + 2 ≤ 1000 by omega), c_dig hT (show a + 3 ≤ 1000 by omega), c_at hT (show a ≤ 1000 by omega), hx, tk_105, dgv_t d1, dgv_t d2, dgv_t d3]
  rw [if_neg (show ¬ (nI 105 = (102 : Int32)) by decide), if_pos (show nI 105 = (105 : Int32) from rfl)]
  exact tkc_b (t_inn hL hN ok (d9 d1) (d9 d2) (d9 d3))
theorem ct_108 (hT : TxB (τ.1 1 0) (τ.2.1 2) c t) (hL : LT τ L) (hN : InnC (τ.1 11 11) (τ.1 11 12) (τ.1 11 13) L) (ok : LdOK L) (hg : gd c t a = true) (ha : a ≤ 80) (hx : c a = 108) : TKc τ (tkk c L a) (fX3_take 11 1 (nI a) (mk τ)) := by
  have d1 : sut 100 (c (a + 1)) = true := gdj hg hx (j := 1) (by decide)
  have d2 : sut 100 (c (a + 2)) = true := gdj hg hx (j := 2) (by decide)
  have a2 : nI a + (2 : Int32) = nI (a + 2) := nI_add a 2
  have a3 : nI a + (3 : Int32) = nI (a + 3) := nI_add a 3
  have a4 : nI a + (4 : Int32) = nI (a + 4) := nI_add a 4
  unfold fX3_take tkk
  simp only [c_O, o_b, nI_1, a2, a3, c_dig hT (show a + 1 ≤ 1000 by omega), c_dig hT (show a + 2 ≤ 1000 by omega), c_dig hT (show a + 3 ≤ 1000 by omega), c_at hT (show a ≤ 1000 by omega), hx, tk_108, dgv_t d1, dgv_t d2]
  rw [if_neg (show ¬ (nI 108 = (102 : Int32)) by decide), if_neg (show ¬ (nI 108 = (105 : Int32)) by decide), if_pos (show nI 108 = (108 : Int32) from rfl)]
  exact tkc_b (t_shown hL hN ok (d9 d1) (d9 d2))
theorem ct_110 (hT : TxB (τ.1 1 0) (τ.2.1 2) c t) (hL : LT τ L) (hN : InnC (τ.1 11 11) (τ.1 11 12) (τ.1 11 13) L) (ok : LdOK L) (hg : gd c t a = true) (ha : a ≤ 80) (hx : c a = 110) : TKc τ (tkk c L a) (fX3_take 11 1 (nI a) (mk τ)) := by
  have d1 : sut 100 (c (a + 1)) = true := gdj hg hx (j := 1) (by decide)
  have a2 : nI a + (2 : Int32) = nI (a + 2) := nI_add a 2
  have a3 : nI a + (3 : Int32) = nI (a + 3) := nI_add a 3
  have a4 : nI a + (4 : Int32) = nI (a + 4) := nI_add a 4
  unfold fX3_take tkk
  simp only [c_O, o_b, nI_1, a2, a3, c_dig hT (show a + 1 ≤ 1000 by omega), c_dig hT (show a + 2 ≤ 1000 by omega), c_dig hT (show a + 3 ≤ 1000 by omega), c_at hT (show a ≤ 1000 by omega), hx, tk_110, dgv_t d1]
  rw [if_neg (show ¬ (nI 110 = (102 : Int32)) by decide), if_neg (show ¬ (nI 110 = (105 : Int32)) by decide), if_neg (show ¬ (nI 110 = (108 : Int32)) by decide), if_pos (show nI 110 = (110 : Int32) from rfl)]
  exact tkc_b (t_places hL hN ok (d9 d1))
theorem ct_114 (hT : TxB (τ.1 1 0) (τ.2.1 2) c t) (hL : LT τ L) (hN : InnC (τ.1 11 11) (τ.1 11 12) (τ.1 11 13) L) (ok : LdOK L) (hg : gd c t a = true) (ha : a ≤ 80) (hx : c a = 114) : TKc τ (tkk c L a) (fX3_take 11 1 (nI a) (mk τ)) := by
  have d1 : sut 100 (c (a + 1)) = true := gdj hg hx (j := 1) (by decide)
  have d2 : sut 100 (c (a + 2)) = true := gdj hg hx (j := 2) (by decide)
  have a2 : nI a + (2 : Int32) = nI (a + 2) := nI_add a 2
  have a3 : nI a + (3 : Int32) = nI (a + 3) := nI_add a 3
  have a4 : nI a + (4 : Int32) = nI (a + 4) := nI_add a 4
  unfold fX3_take tkk
  simp only [c_O, o_b, nI_1, a2, a3, c_dig hT (show a + 1 ≤ 1000 by omega), c_dig hT (show a + 2 ≤ 1000 by omega), c_dig hT (show a + 3 ≤ 1000 by omega), c_at hT (show a ≤ 1000 by omega), hx, tk_114, dgv_t d1, dgv_t d2]
  rw [if_neg (show ¬ (nI 114 = (102 : Int32)) by decide), if_neg (show ¬ (nI 114 = (105 : Int32)) by decide), if_neg (show ¬ (nI 114 = (108 : Int32)) by decide), if_neg (show ¬ (nI 114 = (110 : Int32)) by decide), if_pos (show nI 114 = (114 : Int32) from rfl)]
  exact tkc_b (t_road hL hN ok (d9 d1) (d9 d2))
theorem ct_115 (hT : TxB (τ.1 1 0) (τ.2.1 2) c t) (hL : LT τ L) (hN : InnC (τ.1 11 11) (τ.1 11 12) (τ.1 11 13) L) (ok : LdOK L) (hg : gd c t a = true) (ha : a ≤ 80) (hx : c a = 115) : TKc τ (tkk c L a) (fX3_take 11 1 (nI a) (mk τ)) := by
  have d1 : sut 100 (c (a + 1)) = true := gdj hg hx (j := 1) (by decide)
  have d2 : sut 107 (c (a + 2)) = true := gdj hg hx (j := 2) (by decide)
  have d3 : sut 100 (c (a + 3)) = true := gdj hg hx (j := 3) (by decide)
  have d4 : sut 100 (c (a + 4)) = true := gdj hg hx (j := 4) (by decide)
  have a2 : nI a + (2 : Int32) = nI (a + 2) := nI_add a 2
  have a3 : nI a + (3 : Int32) = nI (a + 3) := nI_add a 3
  have a4 : nI a + (4 : Int32) = nI (a + 4) := nI_add a 4
  unfold fX3_take tkk
  simp only [c_O, o_b, nI_1, a2, a3, c_dig hT (show a + 1 ≤ 1000 by omega), c_dig hT (show a + 2 ≤ 1000 by omega), c_dig hT (show a + 3 ≤ 1000 by omega), c_at hT (show a ≤ 1000 by omega), hx, tk_115, c_kindAt hT (show a + 2 ≤ 1000 by omega) d2, c_dig hT (show a + 4 ≤ 1000 by omega), a4, dgv_t d1, dgv_t d3, dgv_t d4]
  rw [if_neg (show ¬ (nI 115 = (102 : Int32)) by decide), if_neg (show ¬ (nI 115 = (105 : Int32)) by decide), if_neg (show ¬ (nI 115 = (108 : Int32)) by decide), if_neg (show ¬ (nI 115 = (110 : Int32)) by decide), if_neg (show ¬ (nI 115 = (114 : Int32)) by decide), if_pos (show nI 115 = (115 : Int32) from rfl)]
  exact tkc_b (t_sign hL hN ok (d9 d1) (d9 d3) (d9 d4) (k6 d2))
theorem mt_c102 (hz : τ.2.2 = true) (hL : LM τ L) (hN : InnM (τ.1 45 12) (τ.1 45 13) (τ.1 45 14) L) (ok : LdOK L) (hg : gd c t a = true) (hk : k < 41) (he : ent c τ.2.1 k a) (hx : c a = 102) : TKm τ (tkk c L a) (fX9_comes 45 (nI k) (mk τ)) := by
  obtain ⟨e57, e58, e59, e60, e60s, e61, e62⟩ := he
  rw [hx] at e57 e59 e60 e60s e61 e62
  unfold tkk
  rw [hx, tk_102]
  exact q_102 hz hL hN ok hk e57
theorem mt_c105 (hz : τ.2.2 = true) (hL : LM τ L) (hN : InnM (τ.1 45 12) (τ.1 45 13) (τ.1 45 14) L) (ok : LdOK L) (hg : gd c t a = true) (hk : k < 41) (he : ent c τ.2.1 k a) (hx : c a = 105) : TKm τ (tkk c L a) (fX9_comes 45 (nI k) (mk τ)) := by
  have d1 : sut 100 (c (a + 1)) = true := gdj hg hx (j := 1) (by decide)
  have d2 : sut 100 (c (a + 2)) = true := gdj hg hx (j := 2) (by decide)
  have d3 : sut 100 (c (a + 3)) = true := gdj hg hx (j := 3) (by decide)
  obtain ⟨e57, e58, e59, e60, e60s, e61, e62⟩ := he
  rw [hx] at e57 e59 e60 e60s e61 e62
  unfold tkk
  rw [hx, tk_105]
  exact q_105 hz hL hN ok hk (d9 d1) (d9 d2) (d9 d3) e57 (e59 (by decide)) (e60 (by decide)) (e61 (by decide))
theorem mt_c108 (hz : τ.2.2 = true) (hL : LM τ L) (hN : InnM (τ.1 45 12) (τ.1 45 13) (τ.1 45 14) L) (ok : LdOK L) (hg : gd c t a = true) (hk : k < 41) (he : ent c τ.2.1 k a) (hx : c a = 108) : TKm τ (tkk c L a) (fX9_comes 45 (nI k) (mk τ)) := by
  have d1 : sut 100 (c (a + 1)) = true := gdj hg hx (j := 1) (by decide)
  have d2 : sut 100 (c (a + 2)) = true := gdj hg hx (j := 2) (by decide)
  obtain ⟨e57, e58, e59, e60, e60s, e61, e62⟩ := he
  rw [hx] at e57 e59 e60 e60s e61 e62
  unfold tkk
  rw [hx, tk_108]
  exact q_108 hz hL hN ok hk (d9 d1) (d9 d2) e57 (e59 (by decide)) (e60 (by decide))
theorem mt_c110 (hz : τ.2.2 = true) (hL : LM τ L) (hN : InnM (τ.1 45 12) (τ.1 45 13) (τ.1 45 14) L) (ok : LdOK L) (hg : gd c t a = true) (hk : k < 41) (he : ent c τ.2.1 k a) (hx : c a = 110) : TKm τ (tkk c L a) (fX9_comes 45 (nI k) (mk τ)) := by
  have d1 : sut 100 (c (a + 1)) = true := gdj hg hx (j := 1) (by decide)
  obtain ⟨e57, e58, e59, e60, e60s, e61, e62⟩ := he
  rw [hx] at e57 e59 e60 e60s e61 e62
  unfold tkk
  rw [hx, tk_110]
  exact q_110 hz hL hN ok hk (d9 d1) e57 (e59 (by decide))
theorem mt_c114 (hz : τ.2.2 = true) (hL : LM τ L) (hN : InnM (τ.1 45 12) (τ.1 45 13) (τ.1 45 14) L) (ok : LdOK L) (hg : gd c t a = true) (hk : k < 41) (he : ent c τ.2.1 k a) (hx : c a = 114) : TKm τ (tkk c L a) (fX9_comes 45 (nI k) (mk τ)) := by
  have d1 : sut 100 (c (a + 1)) = true := gdj hg hx (j := 1) (by decide)
  have d2 : sut 100 (c (a + 2)) = true := gdj hg hx (j := 2) (by decide)
  obtain ⟨e57, e58, e59, e60, e60s, e61, e62⟩ := he
  rw [hx] at e57 e59 e60 e60s e61 e62
  unfold tkk
  rw [hx, tk_114]
  exact q_114 hz hL hN ok hk (d9 d1) (d9 d2) e57 (e59 (by decide)) (e60 (by decide))
theorem mt_c115 (hz : τ.2.2 = true) (hL : LM τ L) (hN : InnM (τ.1 45 12) (τ.1 45 13) (τ.1 45 14) L) (ok : LdOK L) (hg : gd c t a = true) (hk : k < 41) (he : ent c τ.2.1 k a) (hx : c a = 115) : TKm τ (tkk c L a) (fX9_comes 45 (nI k) (mk τ)) := by
  have d1 : sut 100 (c (a + 1)) = true := gdj hg hx (j := 1) (by decide)
  have d2 : sut 107 (c (a + 2)) = true := gdj hg hx (j := 2) (by decide)
  have d3 : sut 100 (c (a + 3)) = true := gdj hg hx (j := 3) (by decide)
  have d4 : sut 100 (c (a + 4)) = true := gdj hg hx (j := 4) (by decide)
  obtain ⟨e57, e58, e59, e60, e60s, e61, e62⟩ := he
  rw [hx] at e57 e59 e60 e60s e61 e62
  unfold tkk
  rw [hx, tk_115]
  exact q_115 hz hL hN ok hk (d9 d1) (d9 d3) (d9 d4) (k6 d2) e57 (e59 (by decide)) (e60s rfl) (e61 (by decide)) (e62 rfl)
theorem c_take (hT : TxB (τ.1 1 0) (τ.2.1 2) c t) (hL : LT τ L) (hN : InnC (τ.1 11 11) (τ.1 11 12) (τ.1 11 13) L) (ok : LdOK L) (hg : gd c t a = true) (ha : a ≤ 80) : TKc τ (tkk c L a) (fX3_take 11 1 (nI a) (mk τ)) := by
  rcases l_kinds (c a) (hT.2.2.2.1 a) with hx | hx | hx | hx | hx | hx | hx
  · have := (gd_tok hg).1
    omega
  · exact ct_102 hT hL hN ok hg ha hx
  · exact ct_105 hT hL hN ok hg ha hx
  · exact ct_108 hT hL hN ok hg ha hx
  · exact ct_110 hT hL hN ok hg ha hx
  · exact ct_114 hT hL hN ok hg ha hx
  · exact ct_115 hT hL hN ok hg ha hx
theorem m_come (hc : ∀ i, c i < 256) (hz : τ.2.2 = true) (hL : LM τ L) (hN : InnM (τ.1 45 12) (τ.1 45 13) (τ.1 45 14) L) (ok : LdOK L) (hg : gd c t a = true) (hk : k < 41) (he : ent c τ.2.1 k a) : TKm τ (tkk c L a) (fX9_comes 45 (nI k) (mk τ)) := by
  rcases l_kinds (c a) (hc a) with hx | hx | hx | hx | hx | hx | hx
  · have := (gd_tok hg).1
    omega
  · exact mt_c102 hz hL hN ok hg hk he hx
  · exact mt_c105 hz hL hN ok hg hk he hx
  · exact mt_c108 hz hL hN ok hg hk he hx
  · exact mt_c110 hz hL hN ok hg hk he hx
  · exact mt_c114 hz hL hN ok hg hk he hx
  · exact mt_c115 hz hL hN ok hg hk he hx
theorem ok_tkk (hc : ∀ i, c i < 256) (ok : LdOK L) (hg : gd c t a = true) {L' : Ld} (h : tkk c L a = some L') : LdOK L' := by
  rcases l_kinds (c a) (hc a) with hx | hx | hx | hx | hx | hx | hx
  · have := (gd_tok hg).1
    omega
  · unfold tkk at h
    rw [hx, tk_102] at h
    split at h
    · cases h; exact ok_fact ok ‹_›
    · cases h
  · unfold tkk at h
    rw [hx, tk_105] at h
    have d1 : sut 100 (c (a + 1)) = true := gdj hg hx (j := 1) (by decide)
    have d2 : sut 100 (c (a + 2)) = true := gdj hg hx (j := 2) (by decide)
    have d3 : sut 100 (c (a + 3)) = true := gdj hg hx (j := 3) (by decide)
    split at h
    · cases h; exact ok_inn ok ‹_›
    · cases h
  · unfold tkk at h
    rw [hx, tk_108] at h
    have d1 : sut 100 (c (a + 1)) = true := gdj hg hx (j := 1) (by decide)
    have d2 : sut 100 (c (a + 2)) = true := gdj hg hx (j := 2) (by decide)
    split at h
    · cases h; exact ok_shown ok ‹_›
    · cases h
  · unfold tkk at h
    rw [hx, tk_110] at h
    have d1 : sut 100 (c (a + 1)) = true := gdj hg hx (j := 1) (by decide)
    split at h
    · cases h; exact ok_places ok ‹_›
    · cases h
  · unfold tkk at h
    rw [hx, tk_114] at h
    have d1 : sut 100 (c (a + 1)) = true := gdj hg hx (j := 1) (by decide)
    have d2 : sut 100 (c (a + 2)) = true := gdj hg hx (j := 2) (by decide)
    split at h
    · cases h; exact ok_road ok ‹_›
    · cases h
  · unfold tkk at h
    rw [hx, tk_115] at h
    have d1 : sut 100 (c (a + 1)) = true := gdj hg hx (j := 1) (by decide)
    have d2 : sut 107 (c (a + 2)) = true := gdj hg hx (j := 2) (by decide)
    have d3 : sut 100 (c (a + 3)) = true := gdj hg hx (j := 3) (by decide)
    have d4 : sut 100 (c (a + 4)) = true := gdj hg hx (j := 4) (by decide)
    split at h
    · cases h; exact ok_sign ok ‹_› (d9 d3) (d9 d4) (k6 d2)
    · cases h
end SB
