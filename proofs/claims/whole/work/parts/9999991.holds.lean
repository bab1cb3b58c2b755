/-! a sentence of a region: both sides; said -/
section SB
variable {S S' T T' : m_M} {x m r k h : Nat} {s : sT} {Z : zT} {P : pP} {M : qM} {at_ : Nat → Bool} {i : Int32}
theorem e_oif0 {α : Type} {b : Bool} {p q : α} : (if nI (z_o b) = (0 : Int32) then p else q) = if b = true then q else p := by
  cases b <;> rfl
theorem j_at0 {F : Nat → m_M → Int32 → Int32 → Option (Int32 × m_M)} {b v1 v2 : Int32} (hk : k < 40) (h0 : m_ri T (m + 2) (2407 + 4 * k) = b) (h1 : m_ri T (m + 2) (2407 + 4 * k + 1) = v1) (h2 : m_ri T (m + 2) (2407 + 4 * k + 2) = v2) : g_X12_holds F m T (nI k) (nI r) =
    (if b = (1 : Int32) then (m_call (F m T v1 (nI r)) fun v7 S6 => if v7 = 0 then (b_X12_holds_123 F m S6 (1 : Int32)) else (b_X12_holds_123 F m S6 (0 : Int32))) else (
    if b = (2 : Int32) then (m_call (F m T v1 (nI r)) fun v11 S10 => if v11 = 0 then (b_X12_holds_148 F m S10) else (m_call (F m S10 v2 (nI r)) fun v14 S13 => if v14 = 0 then (b_X12_holds_148 F m S13) else (b_X12_holds_149 F m S13 (1 : Int32)))) else (
    if b = (3 : Int32) then (m_call (F m T v1 (nI r)) fun v18 S17 => if v18 = 0 then (m_call (F m S17 v2 (nI r)) fun v21 S20 => if v21 = 0 then (b_X12_holds_175 F m S20 (0 : Int32)) else (b_X12_holds_170 F m S20)) else (b_X12_holds_170 F m S17)) else (
    if b = (64 : Int32) then (m_call (f_X12_isFinite m T (nI r)) fun v25 S24 => if v25 = 0 ∨ v25 = 1 then some (v25, S24) else none) else (
    if b = (65 : Int32) then (m_call (f_X12_isOuter m T (nI r)) fun v28 S27 => if v28 = 0 ∨ v28 = 1 then some (v28, S27) else none) else (
    if b = (66 : Int32) then (m_call (f_X12_roomsOf m T (nI r)) fun v31 S30 => if v31 ≤ 0 then (b_X12_holds_201 F m S30 (0 : Int32)) else (b_X12_holds_201 F m S30 (1 : Int32))) else (
    if b = (67 : Int32) then ((m_ldi T (m + 19) 5 v1).bind fun v34 => m_call (f_X12_has T v34 (nI r)) fun v36 S35 => if v36 = 0 ∨ v36 = 1 then some (v36, S35) else none) else (
    if b = (68 : Int32) then ((m_ldi T (m + 22) 24 (nI r)).bind fun v38 => m_call (f_X12_has T v38 v1) fun v40 S39 => if v40 = 0 ∨ v40 = 1 then some (v40, S39) else none) else (
    if b - (50 : Int32) = (19 : Int32) then (m_call (f_X12_cellsOf m T (nI r)) fun v48 S47 => b_X12_holds_268 F m S47 (nI (2407 + 4 * k)) v2 v48) else (
    if b - (50 : Int32) = (20 : Int32) then (m_call (f_X12_roomsOf m T (nI r)) fun v46 S45 => b_X12_holds_268 F m S45 (nI (2407 + 4 * k)) v2 v46) else (b_X12_holds_268 F m T (nI (2407 + 4 * k)) v2 (nI r)))))))))))) := by
  have e1 : nI (2407 + 4 * k) + (1 : Int32) = nI (2407 + 4 * k + 1) := by rw [show (1 : Int32) = nI 1 from rfl, nI_add]
  have e2 : nI (2407 + 4 * k) + (2 : Int32) = nI (2407 + 4 * k + 2) := by rw [show (2 : Int32) = nI 2 from rfl, nI_add]
  have e0 : (2407 : Int32) + ((4 : Int32) * nI k) = nI (2407 + 4 * k) := by rw [show (4 : Int32) = nI 4 from rfl, show (2407 : Int32) = nI 2407 from rfl, pk_mul, nI_add]
  rw [g_X12_holds, e0, e_let, e1, e_ldi (by omega) (by omega), e_bind, h1, e2, e_ldi (by omega) (by omega), e_bind, h2, e_ldi (by omega) (by omega), e_bind, h0]
  rfl
theorem j_holds (hV : s_V s) (hR : s_R T m s) (ht : z_t (w_z (s_w s)) = 1) (hr : r < d_z (w_p (s_w s))) : ∀ d k, k < d → k < z_n (w_z (s_w s)) → f_X12_holds d m T (nI k) (nI r) = some (nI (z_o (z_v (w_z (s_w s)) (z_a (w_p (s_w s)) (w_m (s_w s)) (w_z (s_w s)) r) d k)), T) := by
  have hW := hV.2.2.2.1.1
  have hB := hV.2.2.2.1.2.1.b
  have hM : r_R (m_ri T (m + 2)) (w_m (s_w s)) := hR.2.2.1.1.2.1
  have hP : r_P (m_ri T (m + 2)) (w_p (s_w s)) := hR.2.2.1.1.1
  have hD : d_TX T m (w_p (s_w s)) := hR.2.2.1.2.1
  obtain ⟨_, hzn⟩ := hR.2.2.1.1.2.2.2 ht
  obtain ⟨hn1, hn40, hzx, _⟩ := hV.2.2.2.1.2.2.2 ht
  have h5 := hW.1
  have hz := d_z_le hW
  generalize w_z (s_w s) = Z at *
  generalize w_m (s_w s) = M at *
  generalize w_p (s_w s) = P at *
  have hfu1 : 1 ≤ p_fu P := by
    rcases Nat.eq_zero_or_pos (p_fu P) with h | h
    · have := d_z_0 h; omega
    · exact h
  have g1 := j_roomsOf (r := r) hM hB (by omega)
  have g2 := j_cellsOf (r := r) hM hB (by omega)
  have l1 : fb_ct (q_ro M r) (q_F M).length < 1000 := by have := fb_ct_le (q_ro M r) (q_F M).length; have := hB.2.1; omega
  have l2 : fb_ct (q_co M r) 200 < 1000 := by have := fb_ct_le (q_co M r) 200; omega
  intro d
  induction d with
  | zero => intro k hk; omega
  | succ d ih =>
    intro k hk hc
    show g_X12_holds (f_X12_holds d) m T (nI k) (nI r) = _
    obtain ⟨x1, x2, _, _, _, _, x7, x8⟩ := hzx k hc
    obtain ⟨q1, q2⟩ := hzx.lt hc
    obtain ⟨y1, y2, y3, y4, y5, y6⟩ := hzn k hc
    rw [z_v_e]
    have e : z_w Z k = 13 ∨ z_w Z k = 12 ∨ z_w Z k = 11 ∨ z_w Z k = 14 ∨ z_w Z k = 15 ∨ z_w Z k = 16 ∨ z_w Z k = 17 ∨ z_w Z k = 18 ∨ z_w Z k = 19 ∨ z_w Z k = 20 ∨ z_w Z k = 21 := by omega
    rcases e with e | e | e | e | e | e | e | e | e | e | e
    · obtain ⟨a0, a1⟩ := y1 e
      have := q1 e
      rw [if_pos e, j_at0 (by omega) a0 a1 rfl, if_pos (show nI 1 = (1 : Int32) from rfl), ih (k - 1) (by omega) (by omega), e_call, e_oif0]
      cases z_v Z (z_a P M Z r) d (k - 1) <;> rfl
    · obtain ⟨a0, a1, a2⟩ := y2 e
      obtain ⟨p1, p2, p3, p4⟩ := q2 (Or.inr e)
      rw [if_neg (show ¬ z_w Z k = 13 by omega), if_pos e, j_at0 (by omega) a0 a1 a2, if_neg (by decide), if_pos (show nI 2 = (2 : Int32) from rfl), ih (z_l Z k) (by omega) (by omega), e_call, e_oif0, ih (k - 1) (by omega) (by omega), e_call, e_oif0]
      cases z_v Z (z_a P M Z r) d (k - 1) <;> cases z_v Z (z_a P M Z r) d (z_l Z k) <;> rfl
    · obtain ⟨a0, a1, a2⟩ := y3 e
      obtain ⟨p1, p2, p3, p4⟩ := q2 (Or.inl e)
      rw [if_neg (show ¬ z_w Z k = 13 by omega), if_neg (show ¬ z_w Z k = 12 by omega), if_pos e, j_at0 (by omega) a0 a1 a2, if_neg (by decide), if_neg (by decide), if_pos (show nI 3 = (3 : Int32) from rfl), ih (z_l Z k) (by omega) (by omega), e_call, e_oif0, ih (k - 1) (by omega) (by omega), e_call, e_oif0]
      cases z_v Z (z_a P M Z r) d (k - 1) <;> cases z_v Z (z_a P M Z r) d (z_l Z k) <;> rfl
    all_goals rw [if_neg (show ¬ z_w Z k = 13 by omega), if_neg (show ¬ z_w Z k = 12 by omega), if_neg (show ¬ z_w Z k = 11 by omega)]
    · have hza : z_a P M Z r k = d_dec (d_fin P r) := by rw [z_a, if_pos e]
      have a0 := y4 (by omega)
      rw [e] at a0
      rw [hza, j_at0 (by omega) a0 rfl rfl, if_neg (by decide), if_neg (by decide), if_neg (by decide), if_pos (show nI (50 + 14) = (64 : Int32) from rfl), j_isFinite hW hP hD hr, e_call]
      exact e_o01 (S := T) (d_dec (d_fin P r))
    · have hza : z_a P M Z r k = d_ou (d_of P) (p_fu P - 1) r := by rw [z_a, if_neg (by omega), if_pos e]
      have a0 := y4 (by omega)
      rw [e] at a0
      rw [hza, j_at0 (by omega) a0 rfl rfl, if_neg (by decide), if_neg (by decide), if_neg (by decide), if_neg (by decide), if_pos (show nI (50 + 15) = (65 : Int32) from rfl), j_isOuter (hD.C hW hP) hfu1 (show r < 32 by omega), e_call]
      exact e_o01 (S := T) (d_ou (d_of P) (p_fu P - 1) r)
    · have hza : z_a P M Z r k = decide (0 < fb_ct (q_ro M r) (q_F M).length) := by rw [z_a, if_neg (by omega), if_neg (by omega), if_pos e]
      have a0 := y4 (by omega)
      rw [e] at a0
      rw [hza, j_at0 (by omega) a0 rfl rfl, if_neg (by decide), if_neg (by decide), if_neg (by decide), if_neg (by decide), if_neg (by decide), if_pos (show nI (50 + 16) = (66 : Int32) from rfl), g1, e_call]
      by_cases q : 0 < fb_ct (q_ro M r) (q_F M).length
      · rw [if_neg (show ¬ nI _ ≤ (0 : Int32) by rw [show (0 : Int32) = nI 0 from rfl, e_le (by omega) (by omega)]; omega), decide_eq_true q]; rfl
      · rw [if_pos (show nI _ ≤ (0 : Int32) by rw [show (0 : Int32) = nI 0 from rfl, e_le (by omega) (by omega)]; omega), decide_eq_false q]; rfl
    · have hza : z_a P M Z r k = d_ow (d_of P) (z_m Z k) r := by rw [z_a, if_neg (by omega), if_neg (by omega), if_neg (by omega), if_pos e]
      have a0 := y4 (by omega)
      rw [e] at a0
      have a1 := y5 (Or.inl e)
      have hm := x7 (Or.inl e)
      have ho := (hD.2.2.1 (z_m Z k) hm).2.1 r (by omega)
      have hh := e_has (T := T) (x := m_ri T (m + 19) (z_m Z k)) (r := r) (by omega)
      rw [ho] at hh
      rw [hza, j_at0 (by omega) a0 a1 rfl, if_neg (by decide), if_neg (by decide), if_neg (by decide), if_neg (by decide), if_neg (by decide), if_neg (by decide), if_pos (show nI (50 + 17) = (67 : Int32) from rfl), e_ldi (by omega) (by omega), e_bind, hh, e_call]
      exact e_o01 (S := T) (d_ow (d_of P) (z_m Z k) r)
    · have hza : z_a P M Z r k = d_flb P (p_fu P) r (z_m Z k) := by rw [z_a, if_neg (by omega), if_neg (by omega), if_neg (by omega), if_neg (by omega), if_pos e]
      have a0 := y4 (by omega)
      rw [e] at a0
      have a1 := y5 (Or.inr e)
      have hm := x7 (Or.inr e)
      have ho := hD.2.2.2 r hr (z_m Z k) (by omega)
      have hh := e_has (T := T) (x := m_ri T (m + 22) r) (r := z_m Z k) (by omega)
      rw [ho] at hh
      rw [hza, j_at0 (by omega) a0 a1 rfl, if_neg (by decide), if_neg (by decide), if_neg (by decide), if_neg (by decide), if_neg (by decide), if_neg (by decide), if_neg (by decide), if_pos (show nI (50 + 18) = (68 : Int32) from rfl), e_ldi (by omega) (by omega), e_bind, hh, e_call]
      exact e_o01 (S := T) (d_flb P (p_fu P) r (z_m Z k))
    · have hza : z_a P M Z r k = z_f (z_s Z k) (fb_ct (q_co M r) 200) (z_m Z k) := by rw [z_a, if_neg (by omega), if_neg (by omega), if_neg (by omega), if_neg (by omega), if_neg (by omega), if_pos e]
      have a0 := y4 (by omega)
      rw [e] at a0
      obtain ⟨a2, a3⟩ := y6 (by omega)
      obtain ⟨b1, b2⟩ := x8 (by omega)
      rw [hza, j_at0 (by omega) a0 rfl a2, if_neg (by decide), if_neg (by decide), if_neg (by decide), if_neg (by decide), if_neg (by decide), if_neg (by decide), if_neg (by decide), if_neg (by decide), if_pos (by decide), g2, e_call]
      exact j_zfits a3 (by omega) b2 l2 b1
    · have hza : z_a P M Z r k = z_f (z_s Z k) (fb_ct (q_ro M r) (q_F M).length) (z_m Z k) := by rw [z_a, if_neg (by omega), if_neg (by omega), if_neg (by omega), if_neg (by omega), if_neg (by omega), if_neg (by omega), if_pos e]
      have a0 := y4 (by omega)
      rw [e] at a0
      obtain ⟨a2, a3⟩ := y6 (by omega)
      obtain ⟨b1, b2⟩ := x8 (by omega)
      rw [hza, j_at0 (by omega) a0 rfl a2, if_neg (by decide), if_neg (by decide), if_neg (by decide), if_neg (by decide), if_neg (by decide), if_neg (by decide), if_neg (by decide), if_neg (by decide), if_neg (by decide), if_pos (by decide), g1, e_call]
      exact j_zfits a3 (by omega) b2 l1 b1
    · have hza : z_a P M Z r k = z_f (z_s Z k) r (z_m Z k) := by rw [z_a, if_neg (by omega), if_neg (by omega), if_neg (by omega), if_neg (by omega), if_neg (by omega), if_neg (by omega), if_neg (by omega)]
      have a0 := y4 (by omega)
      rw [e] at a0
      obtain ⟨a2, a3⟩ := y6 (by omega)
      obtain ⟨b1, b2⟩ := x8 (by omega)
      rw [hza, j_at0 (by omega) a0 rfl a2, if_neg (by decide), if_neg (by decide), if_neg (by decide), if_neg (by decide), if_neg (by decide), if_neg (by decide), if_neg (by decide), if_neg (by decide), if_neg (by decide), if_neg (by decide)]
      exact j_zfits a3 (by omega) b2 (by omega) b1
/-- one word of the one side's code -/
theorem e_nzo (b : Bool) : vp_nar .boolean (nI (z_o b)) = nI (z_o b) := by cases b <;> decide +kernel
theorem k_w13 {a p q fu : Nat} {b : Bool} (h2 : m_ri S a 2 = nI h) (hh : h ≤ 40) (hk : k < h) (hw : m_ri S (a + 1) k = nI 13) {t : Nat} (ht : t < 39) (hb : m_ri S (a + 4) t = nI (z_o b)) : b_X7_holds_6 a p q (fu + 1) S (nI r) (nI (t + 1)) (nI k) = b_X7_holds_6 a p q fu (m_si S (a + 4) t (nI (z_o (!b)))) (nI r) (nI (t + 1)) (nI (k + 1)) := by
  cases b
  · rw [e_o0] at hb
    simp (disch := omega) only [e_let, e_call, e_cal0, e_bind, e_lit, e_ofN, e_neg, nI_add, pk_mul, e_sub, e_ldi, e_sti, e_ldj, e_stj, e_le_t, e_le_f, e_lt_t, e_lt_f, e_eq_t, e_eq_f, e_no_eq, e_no_eq', e_no_rfl, e_no_lt, e_no_le, e_le_no, e_lt_no, if_true, if_false, ↓reduceIte, e_rs, e_rq, e_rn, e_ji, e_ki, e_ij, e_kj, e_js, e_jq, e_jn, e_cs, e_cq, e_jc, e_kc, e_js', e_jcq, e_icj, e_kcj, or_true, true_or, or_false, false_or, and_true, true_and, not_true_eq_false, not_false_eq_true, b_X7_holds_6, b_X7_holds_44, b_X7_holds_149, b_X7_holds_192, b_X7_holds_215, h2, hw, hb, e_nz1, Bool.not_false, e_o1, Nat.add_sub_cancel]
  · rw [e_o1] at hb
    simp (disch := omega) only [e_let, e_call, e_cal0, e_bind, e_lit, e_ofN, e_neg, nI_add, pk_mul, e_sub, e_ldi, e_sti, e_ldj, e_stj, e_le_t, e_le_f, e_lt_t, e_lt_f, e_eq_t, e_eq_f, e_no_eq, e_no_eq', e_no_rfl, e_no_lt, e_no_le, e_le_no, e_lt_no, if_true, if_false, ↓reduceIte, e_rs, e_rq, e_rn, e_ji, e_ki, e_ij, e_kj, e_js, e_jq, e_jn, e_cs, e_cq, e_jc, e_kc, e_js', e_jcq, e_icj, e_kcj, or_true, true_or, or_false, false_or, and_true, true_and, not_true_eq_false, not_false_eq_true, b_X7_holds_6, b_X7_holds_44, b_X7_holds_149, b_X7_holds_192, b_X7_holds_215, h2, hw, hb, e_nz0, Bool.not_true, e_o0, Nat.add_sub_cancel]
end SB
