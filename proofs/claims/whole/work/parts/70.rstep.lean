/-! the other side: a line is done, a step is made -/
section RT
variable {T : m_M} {m z : Nat} {P : pP} {D : pD} {M : qM} {f i : Nat}
theorem j_give {x : Nat} {y : Int32} (C : r_C T m P D z) (hM : r_R (m_ri T (m + 2)) M) (h0 : q_sc M 0 ≠ 2) (h1 : 1 ≤ q_sc M 2) (h2 : q_sc M 2 ≤ 12) (hk : q_oks P D 12 (q_gi M x y)) : ∃ T', f_X12_gives m T (nI x) y = some T' ∧ r_R (m_ri T' (m + 2)) (q_set P D 12 (q_gi M x y)) ∧ r_O m T T' := by
  have hfu := m_fu_ge
  obtain ⟨T', g1, g2, g3⟩ := j_gives 12 m_fu T (q_gi M x y) (by omega) C (hM.gi h0) h0 h1 h2 hk
  exact ⟨T', by rw [f_X12_gives]; exact g1, g2, g3⟩
theorem j_giveAt {k : Nat} (C : r_C T m P D z) (hM : r_R (m_ri T (m + 2)) M) (H : q_top P M f i) (h0 : q_sc M 0 ≠ 2) (hk5 : k < 5) (hu : p_us P (p_fi P f + i) k) (hk : q_oks P D 12 (q_gi M (q_K P M (p_fi P f + i) k) (q_V P M (p_fi P f + i) k))) : ∃ T', f_X12_givesAt m T (nI (q_sc M 2 - 1)) (nI k) = some T' ∧ r_R (m_ri T' (m + 2)) (q_set P D 12 (q_gi M (q_K P M (p_fi P f + i) k) (q_V P M (p_fi P f + i) k))) ∧ r_O m T T' := by
  obtain ⟨T', g1, g2, g3⟩ := j_give C hM h0 H.1 H.2.1 hk
  exact ⟨T', by simp (disch := omega) only [e_let, e_call, e_cal0, e_bind, e_lit, e_ofN, e_neg, nI_add, pk_mul, e_sub, e_ldi, e_sti, e_ldj, e_stj, e_le_t, e_le_f, e_lt_t, e_lt_f, e_eq_t, e_eq_f, e_no_eq, e_no_eq', e_no_rfl, e_no_lt, e_no_le, e_le_no, e_lt_no, if_true, if_false, ↓reduceIte, e_rs, e_rq, e_rn, e_ji, e_ki, e_ij, e_kj, e_js, e_jq, e_jn, e_cs, e_cq, e_jc, e_kc, e_js', e_jcq, e_icj, e_kcj, or_true, true_or, or_false, false_or, and_true, true_and, not_true_eq_false, not_false_eq_true, f_X12_givesAt, j_kindAt C hM H hk5 hu, j_valueAt C hM H hk5 hu, g1], g2, g3⟩
theorem j_work (C : r_C T m P D z) (hM : r_R (m_ri T (m + 2)) M) (hB : q_B P M) (H : q_top P M f i) (h0 : q_sc M 0 ≠ 2) (hc : q_cl P M (p_fi P f + i) = false) (hw : q_wk P D M f i) (hk : q_oks P D 12 (q_work P D M f i)) : ∃ T', f_X12_does m T (nI (q_sc M 2 - 1)) = some T' ∧ r_R (m_ri T' (m + 2)) (q_set P D 12 (q_work P D M f i)) ∧ r_O m T T' := by
  have hline := j_lineOf C hM H
  have hcalls := j_calls C hM H
  rw [if_neg (by rw [hc]; decide)] at hcalls
  have H' := H
  obtain ⟨t1, t2, t3, t4, t5, t6, t7⟩ := H
  have hl := C.1.line t5 t6
  have h9 := (C.1.2.2.2.2 f i t5 t6).1
  have h18 := (C.2.1.2.2.2 f i t5 t6).1
  have h8 := q_cl_no hc
  have hop : p_op P (p_fi P f + i) = 0 ∨ p_op P (p_fi P f + i) = 1 ∨ p_op P (p_fi P f + i) = 2 ∨ p_op P (p_fi P f + i) = 3 ∨ p_op P (p_fi P f + i) = 4 ∨ p_op P (p_fi P f + i) = 5 ∨ p_op P (p_fi P f + i) = 6 ∨ p_op P (p_fi P f + i) = 7 ∨ p_op P (p_fi P f + i) = 9 := by omega
  rcases hop with o | o | o | o | o | o | o | o | o
  · have hn := (C.2.1.2.2.2 f i t5 t6).2.2.1 o
    rw [o] at h18
    simp only [q_work, o] at hk ⊢
    obtain ⟨T', g1, g2, g3⟩ := j_give C hM h0 t1 t2 hk
    refine ⟨T', ?_, g2, g3⟩
    rw [f_X12_does, hline, e_call, e_lit, nI_add, e_ldi (by omega) (by omega), e_bind, h18]
    simp (disch := omega) only [e_let, e_call, e_cal0, e_bind, e_lit, e_ofN, e_neg, nI_add, pk_mul, e_sub, e_ldi, e_sti, e_ldj, e_stj, e_le_t, e_le_f, e_lt_t, e_lt_f, e_eq_t, e_eq_f, e_no_eq, e_no_eq', e_no_rfl, e_no_lt, e_no_le, e_le_no, e_lt_no, if_true, if_false, ↓reduceIte, e_rs, e_rq, e_rn, e_ji, e_ki, e_ij, e_kj, e_js, e_jq, e_jn, e_cs, e_cq, e_jc, e_kc, e_js', e_jcq, e_icj, e_kcj, or_true, true_or, or_false, false_or, and_true, true_and, not_true_eq_false, not_false_eq_true, hn, g1]
  · rw [o] at h18
    simp only [q_work, o] at hk ⊢
    obtain ⟨T', g1, g2, g3⟩ := j_giveAt (k := 0) C hM H' h0 (by omega) (p_us_0 (by omega)) hk
    refine ⟨T', ?_, g2, g3⟩
    rw [f_X12_does, hline, e_call, e_lit, nI_add, e_ldi (by omega) (by omega), e_bind, h18]
    simp (disch := omega) only [e_let, e_call, e_cal0, e_bind, e_lit, e_ofN, e_neg, nI_add, pk_mul, e_sub, e_ldi, e_sti, e_ldj, e_stj, e_le_t, e_le_f, e_lt_t, e_lt_f, e_eq_t, e_eq_f, e_no_eq, e_no_eq', e_no_rfl, e_no_lt, e_no_le, e_le_no, e_lt_no, if_true, if_false, ↓reduceIte, e_rs, e_rq, e_rn, e_ji, e_ki, e_ij, e_kj, e_js, e_jq, e_jn, e_cs, e_cq, e_jc, e_kc, e_js', e_jcq, e_icj, e_kcj, or_true, true_or, or_false, false_or, and_true, true_and, not_true_eq_false, not_false_eq_true, g1]
  · rw [o] at h18
    obtain ⟨r, hr, hx, hmx, h200⟩ := hw.1 o
    simp only [q_work, o, hr, Nat.add_sub_cancel] at hk ⊢
    obtain ⟨T1, g1, g2, g3⟩ := j_layCell C hM hB H' o hr hx hmx h200
    obtain ⟨T', f1, f2, f3⟩ := j_give (C.kept g3) g2 h0 t1 t2 hk
    refine ⟨T', ?_, f2, g3.tr f3⟩
    rw [f_X12_does, hline, e_call, e_lit, nI_add, e_ldi (by omega) (by omega), e_bind, h18]
    simp (disch := omega) only [e_let, e_call, e_cal0, e_bind, e_lit, e_ofN, e_neg, nI_add, pk_mul, e_sub, e_ldi, e_sti, e_ldj, e_stj, e_le_t, e_le_f, e_lt_t, e_lt_f, e_eq_t, e_eq_f, e_no_eq, e_no_eq', e_no_rfl, e_no_lt, e_no_le, e_le_no, e_lt_no, if_true, if_false, ↓reduceIte, e_rs, e_rq, e_rn, e_ji, e_ki, e_ij, e_kj, e_js, e_jq, e_jn, e_cs, e_cq, e_jc, e_kc, e_js', e_jcq, e_icj, e_kcj, or_true, true_or, or_false, false_or, and_true, true_and, not_true_eq_false, not_false_eq_true, g1, f1]
  · rw [o] at h18
    obtain ⟨c, hc200, hv, hce⟩ := hw.2 (Or.inl o)
    have hv0 := j_valueAt (k := 0) C hM H' (by omega) (p_us_0 (by omega))
    rw [hv] at hv0
    simp only [q_work, o, hv] at hk ⊢
    rw [nI_clamp (by omega)] at hk ⊢
    obtain ⟨T', f1, f2, f3⟩ := j_give C hM h0 t1 t2 hk
    have r10 := hM.2.2.2.2.2.2.2.2.2.2.2.2.2.2.2.2.2.2.1 c 0 hc200 (by omega) hce
    have r11 := hM.2.2.2.2.2.2.2.2.2.2.2.2.2.2.2.2.2.2.2 c 0 hc200 (by omega) hce
    refine ⟨T', ?_, f2, f3⟩
    have e3 : 2 * c + 3 - 3 = 2 * c + 0 := by omega
    rw [f_X12_does, hline, e_call, e_lit, nI_add, e_ldi (by omega) (by omega), e_bind, h18]
    simp (disch := omega) only [e_let, e_call, e_cal0, e_bind, e_lit, e_ofN, e_neg, nI_add, pk_mul, e_sub, e_ldi, e_sti, e_ldj, e_stj, e_le_t, e_le_f, e_lt_t, e_lt_f, e_eq_t, e_eq_f, e_no_eq, e_no_eq', e_no_rfl, e_no_lt, e_no_le, e_le_no, e_lt_no, if_true, if_false, ↓reduceIte, e_rs, e_rq, e_rn, e_ji, e_ki, e_ij, e_kj, e_js, e_jq, e_jn, e_cs, e_cq, e_jc, e_kc, e_js', e_jcq, e_icj, e_kcj, or_true, true_or, or_false, false_or, and_true, true_and, not_true_eq_false, not_false_eq_true, b_X12_does_94, hv0, h18, e3, r10, r11, f1]
  · rw [o] at h18
    obtain ⟨c, hc200, hv, hce⟩ := hw.2 (Or.inr o)
    have hv0 := j_valueAt (k := 0) C hM H' (by omega) (p_us_0 (by omega))
    rw [hv] at hv0
    simp only [q_work, o, hv] at hk ⊢
    rw [nI_clamp (by omega)] at hk ⊢
    obtain ⟨T', f1, f2, f3⟩ := j_give C hM h0 t1 t2 hk
    have r10 := hM.2.2.2.2.2.2.2.2.2.2.2.2.2.2.2.2.2.2.1 c 1 hc200 (by omega) hce
    have r11 := hM.2.2.2.2.2.2.2.2.2.2.2.2.2.2.2.2.2.2.2 c 1 hc200 (by omega) hce
    refine ⟨T', ?_, f2, f3⟩
    have e3 : 2 * c + 4 - 3 = 2 * c + 1 := by omega
    rw [f_X12_does, hline, e_call, e_lit, nI_add, e_ldi (by omega) (by omega), e_bind, h18]
    simp (disch := omega) only [e_let, e_call, e_cal0, e_bind, e_lit, e_ofN, e_neg, nI_add, pk_mul, e_sub, e_ldi, e_sti, e_ldj, e_stj, e_le_t, e_le_f, e_lt_t, e_lt_f, e_eq_t, e_eq_f, e_no_eq, e_no_eq', e_no_rfl, e_no_lt, e_no_le, e_le_no, e_lt_no, if_true, if_false, ↓reduceIte, e_rs, e_rq, e_rn, e_ji, e_ki, e_ij, e_kj, e_js, e_jq, e_jn, e_cs, e_cq, e_jc, e_kc, e_js', e_jcq, e_icj, e_kcj, or_true, true_or, or_false, false_or, and_true, true_and, not_true_eq_false, not_false_eq_true, b_X12_does_94, hv0, h18, e3, r10, r11, f1]
  · rw [o] at h18
    have hv0 := j_valueAt (k := 0) C hM H' (by omega) (p_us_0 (by omega))
    have hv1 := j_valueAt (k := 1) C hM H' (by omega) (p_us_1 (by omega))
    simp only [q_work, o] at hk ⊢
    obtain ⟨T', f1, f2, f3⟩ := j_give C hM h0 t1 t2 hk
    refine ⟨T', ?_, f2, f3⟩
    rw [f_X12_does, hline, e_call, e_lit, nI_add, e_ldi (by omega) (by omega), e_bind, h18]
    simp (disch := omega) only [e_let, e_call, e_cal0, e_bind, e_lit, e_ofN, e_neg, nI_add, pk_mul, e_sub, e_ldi, e_sti, e_ldj, e_stj, e_le_t, e_le_f, e_lt_t, e_lt_f, e_eq_t, e_eq_f, e_no_eq, e_no_eq', e_no_rfl, e_no_lt, e_no_le, e_le_no, e_lt_no, if_true, if_false, ↓reduceIte, e_rs, e_rq, e_rn, e_ji, e_ki, e_ij, e_kj, e_js, e_jq, e_jn, e_cs, e_cq, e_jc, e_kc, e_js', e_jcq, e_icj, e_kcj, or_true, true_or, or_false, false_or, and_true, true_and, not_true_eq_false, not_false_eq_true, hv0, hv1, f1]
  · rw [o] at h18
    have hv0 := j_valueAt (k := 0) C hM H' (by omega) (p_us_0 (by omega))
    have hv1 := j_valueAt (k := 1) C hM H' (by omega) (p_us_1 (by omega))
    simp only [q_work, o] at hk ⊢
    obtain ⟨T', f1, f2, f3⟩ := j_give C hM h0 t1 t2 hk
    refine ⟨T', ?_, f2, f3⟩
    by_cases hle : q_V P M (p_fi P f + i) 1 ≤ q_V P M (p_fi P f + i) 0
    · rw [if_pos hle] at f1
      rw [f_X12_does, hline, e_call, e_lit, nI_add, e_ldi (by omega) (by omega), e_bind, h18]
      simp (disch := omega) only [e_let, e_call, e_cal0, e_bind, e_lit, e_ofN, e_neg, nI_add, pk_mul, e_sub, e_ldi, e_sti, e_ldj, e_stj, e_le_t, e_le_f, e_lt_t, e_lt_f, e_eq_t, e_eq_f, e_no_eq, e_no_eq', e_no_rfl, e_no_lt, e_no_le, e_le_no, e_lt_no, if_true, if_false, ↓reduceIte, e_rs, e_rq, e_rn, e_ji, e_ki, e_ij, e_kj, e_js, e_jq, e_jn, e_cs, e_cq, e_jc, e_kc, e_js', e_jcq, e_icj, e_kcj, or_true, true_or, or_false, false_or, and_true, true_and, not_true_eq_false, not_false_eq_true, hv0, hv1, hle, b_X12_does_181, f1]
    · rw [if_neg hle] at f1
      rw [f_X12_does, hline, e_call, e_lit, nI_add, e_ldi (by omega) (by omega), e_bind, h18]
      simp (disch := omega) only [e_let, e_call, e_cal0, e_bind, e_lit, e_ofN, e_neg, nI_add, pk_mul, e_sub, e_ldi, e_sti, e_ldj, e_stj, e_le_t, e_le_f, e_lt_t, e_lt_f, e_eq_t, e_eq_f, e_no_eq, e_no_eq', e_no_rfl, e_no_lt, e_no_le, e_le_no, e_lt_no, if_true, if_false, ↓reduceIte, e_rs, e_rq, e_rn, e_ji, e_ki, e_ij, e_kj, e_js, e_jq, e_jn, e_cs, e_cq, e_jc, e_kc, e_js', e_jcq, e_icj, e_kcj, or_true, true_or, or_false, false_or, and_true, true_and, not_true_eq_false, not_false_eq_true, hv0, hv1, hle, b_X12_does_181, f1]
  · rw [o] at h18
    have hv0 := j_valueAt (k := 0) C hM H' (by omega) (p_us_0 (by omega))
    simp only [q_work, o] at hk ⊢
    by_cases hz : q_V P M (p_fi P f + i) 0 = nI 0
    · rw [if_pos hz] at hk ⊢
      obtain ⟨T', g1, g2, g3⟩ := j_giveAt (k := 2) C hM H' h0 (by omega) (p_us_2 (by omega)) hk
      refine ⟨T', ?_, g2, g3⟩
      rw [f_X12_does, hline, e_call, e_lit, nI_add, e_ldi (by omega) (by omega), e_bind, h18]
      simp (disch := omega) only [e_let, e_call, e_cal0, e_bind, e_lit, e_ofN, e_neg, nI_add, pk_mul, e_sub, e_ldi, e_sti, e_ldj, e_stj, e_le_t, e_le_f, e_lt_t, e_lt_f, e_eq_t, e_eq_f, e_no_eq, e_no_eq', e_no_rfl, e_no_lt, e_no_le, e_le_no, e_lt_no, if_true, if_false, ↓reduceIte, e_rs, e_rq, e_rn, e_ji, e_ki, e_ij, e_kj, e_js, e_jq, e_jn, e_cs, e_cq, e_jc, e_kc, e_js', e_jcq, e_icj, e_kcj, or_true, true_or, or_false, false_or, and_true, true_and, not_true_eq_false, not_false_eq_true, hv0, hz, b_X12_does_201, g1]
    · rw [if_neg hz] at hk ⊢
      obtain ⟨T', g1, g2, g3⟩ := j_giveAt (k := 1) C hM H' h0 (by omega) (p_us_1 (by omega)) hk
      refine ⟨T', ?_, g2, g3⟩
      rw [f_X12_does, hline, e_call, e_lit, nI_add, e_ldi (by omega) (by omega), e_bind, h18]
      simp (disch := omega) only [e_let, e_call, e_cal0, e_bind, e_lit, e_ofN, e_neg, nI_add, pk_mul, e_sub, e_ldi, e_sti, e_ldj, e_stj, e_le_t, e_le_f, e_lt_t, e_lt_f, e_eq_t, e_eq_f, e_no_eq, e_no_eq', e_no_rfl, e_no_lt, e_no_le, e_le_no, e_lt_no, if_true, if_false, ↓reduceIte, e_rs, e_rq, e_rn, e_ji, e_ki, e_ij, e_kj, e_js, e_jq, e_jn, e_cs, e_cq, e_jc, e_kc, e_js', e_jcq, e_icj, e_kcj, or_true, true_or, or_false, false_or, and_true, true_and, not_true_eq_false, not_false_eq_true, hv0, hz, b_X12_does_201, g1]
  · rw [o] at h18
    simp only [q_work, o] at hk ⊢
    obtain ⟨T', g1, g2, g3⟩ := j_giveAt (k := 4) C hM H' h0 (by omega) (p_us_e o) hk
    refine ⟨T', ?_, g2, g3⟩
    rw [f_X12_does, hline, e_call, e_lit, nI_add, e_ldi (by omega) (by omega), e_bind, h18]
    simp (disch := omega) only [e_let, e_call, e_cal0, e_bind, e_lit, e_ofN, e_neg, nI_add, pk_mul, e_sub, e_ldi, e_sti, e_ldj, e_stj, e_le_t, e_le_f, e_lt_t, e_lt_f, e_eq_t, e_eq_f, e_no_eq, e_no_eq', e_no_rfl, e_no_lt, e_no_le, e_le_no, e_lt_no, if_true, if_false, ↓reduceIte, e_rs, e_rq, e_rn, e_ji, e_ki, e_ij, e_kj, e_js, e_jq, e_jn, e_cs, e_cq, e_jc, e_kc, e_js', e_jcq, e_icj, e_kcj, or_true, true_or, or_false, false_or, and_true, true_and, not_true_eq_false, not_false_eq_true, hcalls, g1, b_X12_does_227]
theorem j_doesCall (C : r_C T m P D z) (hM : r_R (m_ri T (m + 2)) M) (H : q_top P M f i) (hc : q_cl P M (p_fi P f + i) = true) (hlim : q_lv P D f i = false → q_sc M 2 < 12) (h8 : q_sc M 8 ≤ 5001) : ∃ T', f_X12_does m T (nI (q_sc M 2 - 1)) = some T' ∧ r_R (m_ri T' (m + 2)) (q_call P D M f i) ∧ r_O m T T' := by
  have hline := j_lineOf C hM H
  have hcalls := j_calls C hM H
  rw [if_pos hc] at hcalls
  have ho := q_cl_op hc
  have hl := C.1.line H.2.2.2.2.1 H.2.2.2.2.2.1
  have h18 := (C.2.1.2.2.2 f i H.2.2.2.2.1 H.2.2.2.2.2.1).1
  obtain ⟨T', g1, g2, g3⟩ := j_callsFun C hM H ho hlim h8
  refine ⟨T', ?_, g2, g3⟩
  rw [f_X12_does, hline, e_call, e_lit, nI_add, e_ldi (by omega) (by omega), e_bind, h18]
  rcases ho with h | h
  · rw [h]; simp (disch := omega) only [e_let, e_call, e_cal0, e_bind, e_lit, e_ofN, e_neg, nI_add, pk_mul, e_sub, e_ldi, e_sti, e_ldj, e_stj, e_le_t, e_le_f, e_lt_t, e_lt_f, e_eq_t, e_eq_f, e_no_eq, e_no_eq', e_no_rfl, e_no_lt, e_no_le, e_le_no, e_lt_no, if_true, if_false, ↓reduceIte, e_rs, e_rq, e_rn, e_ji, e_ki, e_ij, e_kj, e_js, e_jq, e_jn, e_cs, e_cq, e_jc, e_kc, e_js', e_jcq, e_icj, e_kcj, or_true, true_or, or_false, false_or, and_true, true_and, not_true_eq_false, not_false_eq_true, hcalls, g1, b_X12_does_227]
  · rw [h]; simp (disch := omega) only [e_let, e_call, e_cal0, e_bind, e_lit, e_ofN, e_neg, nI_add, pk_mul, e_sub, e_ldi, e_sti, e_ldj, e_stj, e_le_t, e_le_f, e_lt_t, e_lt_f, e_eq_t, e_eq_f, e_no_eq, e_no_eq', e_no_rfl, e_no_lt, e_no_le, e_le_no, e_lt_no, if_true, if_false, ↓reduceIte, e_rs, e_rq, e_rn, e_ji, e_ki, e_ij, e_kj, e_js, e_jq, e_jn, e_cs, e_cq, e_jc, e_kc, e_js', e_jcq, e_icj, e_kcj, or_true, true_or, or_false, false_or, and_true, true_and, not_true_eq_false, not_false_eq_true, hcalls, g1, b_X12_does_227]
theorem q_rs_z {b : Nat → Bool} {lev : Nat} (hb : ∀ r, z ≤ r → b r = false) : ∀ (d k : Nat), k + d = z → ∀ d', q_rs b lev k (d + d') = q_rs b lev k d := by
  intro d
  induction d with
  | zero => intro k hk d'; rw [q_rs_0 (fun r h1 h2 => hb r (by omega)), q_rs_0 (fun r h1 h2 => hb r (by omega))]
  | succ d ih =>
    intro k hk d'
    rw [show d + 1 + d' = (d + d') + 1 by omega]
    by_cases hc : b k = true
    · rw [q_rs_t hc, q_rs_t hc, ih (k + 1) (by omega)]
    · rw [q_rs_f (Bool.eq_false_iff.mpr hc), q_rs_f (Bool.eq_false_iff.mpr hc), ih (k + 1) (by omega)]
theorem j_mkl (hf : f < p_fu P) (hi : i < p_ct P f) {n : Nat} : ∀ (d k fu : Nat) (T : m_M) (M : qM), k + d = z → d < fu → r_C T m P D z → r_R (m_ri T (m + 2)) M → 1 ≤ q_sc M 2 → q_sc M 2 ≤ 12 → q_fl M (q_sc M 2 - 1) = i → (∀ c x, c < 200 → q_ce M c = some x → x ∈ q_F M) → (q_F M ++ q_rs (d_bg D f i) n k d).length ≤ 312 →
    ∃ T', b_X12_oneStep_19 m fu T (nI (q_sc M 2 - 1)) (nI f) (nI k) = b_X12_oneStep_19 m (fu - d) T' (nI (q_sc M 2 - 1)) (nI f) (nI z) ∧ r_R (m_ri T' (m + 2)) (q_setF M (q_F M ++ q_rs (d_bg D f i) n k d)) ∧ r_O m T T' := by
  intro d
  induction d with
  | zero =>
    intro k fu T M hk hfu C hM h1 h2 h3 hm hl
    have hk : k = z := hk
    subst hk
    refine ⟨T, rfl, ?_, r_O.rf⟩
    rw [show q_rs (d_bg D f i) n k 0 = [] from rfl, List.append_nil]; exact hM
  | succ d ih =>
    intro k fu T M hk hfu C hM h1 h2 h3 hm hl
    obtain ⟨fu, rfl⟩ : ∃ f, fu = f + 1 := ⟨fu - 1, by omega⟩
    rw [show fu + 1 - (d + 1) = fu - d by omega]
    have hz := C.2.2.1.1
    have hz2 := C.2.2.1.2.1
    have hf5 := C.1.1
    have hll := C.1.line hf hi
    obtain ⟨o, o1, o2, o3⟩ := C.2.2.1.2.2.2.2.1 f k hf (by omega)
    have o3 := o3 i hi
    have hline := hM.2.2.2.2.2.2.2.2.2.2.2.2.1 (q_sc M 2 - 1) (by omega) (by omega)
    rw [h3] at hline
    by_cases hq : o = i + 1
    · have he' := o3.mp hq
      rw [hq, nO_s] at o2
      rw [q_rs_t he'] at hl ⊢
      have hl2 : (q_F M).length + 1 ≤ 312 := by rw [List.length_append, List.length_cons] at hl; omega
      obtain ⟨T1, f1, f2, f3⟩ := j_makeRoom (lev := n) (r := k) hM (by omega) hm
      obtain ⟨T', g1, g2, g3⟩ := ih (k + 1) fu T1 _ (by omega) (by omega) (C.kept f3) f2 h1 h2 h3 (fun c x hc' hx => List.mem_append_left _ (hm c x hc' hx)) (by
        show ((q_F M ++ [(n, k)]) ++ _).length ≤ 312
        rw [List.append_assoc]; exact hl)
      refine ⟨T', ?_, ?_, f3.tr g3⟩
      · have g1 : b_X12_oneStep_19 m fu T1 (nI (q_sc M 2 - 1)) (nI f) (nI (k + 1)) = _ := g1
        rw [show q_sc (q_setF M (q_F M ++ [(n, k)])) 2 = q_sc M 2 from rfl] at g1
        rw [← g1]
        rw [b_X12_oneStep_19]
        rw [e_lit, e_ldi (by omega) (by omega), e_bind, hz2, if_neg (by rw [e_le_f (by omega) (by omega)]; exact fun h => h)]
        simp (disch := omega) only [e_let, e_call, e_cal0, e_bind, e_lit, e_ofN, e_neg, nI_add, pk_mul, e_sub, e_ldi, e_sti, e_ldj, e_stj, e_le_t, e_le_f, e_lt_t, e_lt_f, e_eq_t, e_eq_f, e_no_eq, e_no_eq', e_no_rfl, e_no_lt, e_no_le, e_le_no, e_lt_no, if_true, if_false, ↓reduceIte, e_rs, e_rq, e_rn, e_ji, e_ki, e_ij, e_kj, e_js, e_jq, e_jn, e_cs, e_cq, e_jc, e_kc, e_js', e_jcq, e_icj, e_kcj, or_true, true_or, or_false, false_or, and_true, true_and, not_true_eq_false, not_false_eq_true, o2, hline, f1, b_X12_oneStep_58]
      · rw [show q_F M ++ (n, k) :: q_rs (d_bg D f i) n (k + 1) d = (q_F M ++ [(n, k)]) ++ q_rs (d_bg D f i) n (k + 1) d by rw [List.append_assoc]; rfl]
        exact g2
    · have he' : d_bg D f i k = false := Bool.eq_false_iff.mpr (fun h => hq (o3.mpr h))
      have hne : ¬ m_ri T (m + 20) (24 * f + k) = nI i := by
        rw [o2]
        intro h
        rw [← nO_s] at h
        exact hq (nO_inj (by omega) (by omega) h)
      rw [q_rs_f he'] at hl ⊢
      obtain ⟨T', g1, g2, g3⟩ := ih (k + 1) fu T _ (by omega) (by omega) C hM h1 h2 h3 hm hl
      refine ⟨T', ?_, g2, g3⟩
      rw [← g1]
      rw [b_X12_oneStep_19]
      rw [e_lit, e_ldi (by omega) (by omega), e_bind, hz2, if_neg (by rw [e_le_f (by omega) (by omega)]; exact fun h => h)]
      simp (disch := omega) only [e_let, e_call, e_cal0, e_bind, e_lit, e_ofN, e_neg, nI_add, pk_mul, e_sub, e_ldi, e_sti, e_ldj, e_stj, e_le_t, e_le_f, e_lt_t, e_lt_f, e_eq_t, e_eq_f, e_no_eq, e_no_eq', e_no_rfl, e_no_lt, e_no_le, e_le_no, e_lt_no, if_true, if_false, ↓reduceIte, e_rs, e_rq, e_rn, e_ji, e_ki, e_ij, e_kj, e_js, e_jq, e_jn, e_cs, e_cq, e_jc, e_kc, e_js', e_jcq, e_icj, e_kcj, or_true, true_or, or_false, false_or, and_true, true_and, not_true_eq_false, not_false_eq_true, hline, hne, b_X12_oneStep_58]
/-- what the other side's step stands on besides -/
def q_sp2 (P : pP) (M : qM) : Prop := p_op P (p_fi P (q_ff M (q_sc M 2 - 1)) + q_fl M (q_sc M 2 - 1)) = 3 ∨ p_op P (p_fi P (q_ff M (q_sc M 2 - 1)) + q_fl M (q_sc M 2 - 1)) = 4 → q_K P M (p_fi P (q_ff M (q_sc M 2 - 1)) + q_fl M (q_sc M 2 - 1)) 0 ≠ 0
theorem j_step (C : r_C T m P D z) (hM : r_R (m_ri T (m + 2)) M) (hs : q_sp P D M) (hs2 : q_sp2 P M) : ∃ T', f_X12_oneStep m T = some T' ∧ r_R (m_ri T' (m + 2)) (q_step P D M) ∧ r_O m T T' := by
  have hfu := m_fu_ge
  obtain ⟨h0, hn, h6, hB, hB1, hgo⟩ := hs
  have H := hB.top hn
  have hfun := j_funOf hM H
  simp only [q_sp2] at hs2
  generalize hf : q_ff M (q_sc M 2 - 1) = f at *
  generalize hi : q_fl M (q_sc M 2 - 1) = i at *
  have H0 := H
  obtain ⟨t1, t2, t3, t4, t5, t6, t7⟩ := H
  have hl := C.1.line t5 t6
  have hz := C.2.2.1.1
  have s2 := hM.2.2.1
  have e1 : q_m1 D M = q_mk (q_s M 11 0) (d_bg D f i) (q_sc M 2) := by simp only [q_m1, hf, hi]
  have erz : q_rs (d_bg D f i) (q_sc M 2) 0 24 = q_rs (d_bg D f i) (q_sc M 2) 0 z := by
    have := q_rs_z (z := z) (b := d_bg D f i) (lev := q_sc M 2) (fun r hr => (C.2.2.1.2.2.2.2.2.2.2 f i r hr).1) z 0 (by omega) (24 - z)
    rw [show z + (24 - z) = 24 by omega] at this; exact this
  have hlen : (q_F M ++ q_rs (d_bg D f i) (q_sc M 2) 0 z).length ≤ 312 := by
    have := hB1.2.1; rw [e1] at this; rw [← erz]; exact this
  obtain ⟨T1, g1, g2, g3⟩ := j_mkl (n := q_sc M 2) t5 t6 z 0 m_fu T (q_s M 11 0) (by omega) (by omega) C hM.lost (by rw [q_sc_ne (by omega)]; exact t1) (by rw [q_sc_ne (by omega)]; exact t2) (by rw [q_sc_ne (by omega)]; exact t4) hB.2.2.2.2.2.1 hlen
  rw [q_sc_ne (by omega)] at g1
  have g2 : r_R (m_ri T1 (m + 2)) (q_m1 D M) := by rw [e1, q_mk, erz]; exact g2
  obtain ⟨u, hu⟩ : ∃ u, m_fu - z = u + 1 := ⟨m_fu - z - 1, by omega⟩
  rw [hu] at g1
  have C1 := C.kept g3
  have hz2 := C1.2.2.1.2.1
  have H1 : q_top P (q_m1 D M) f i := by
    have : q_sc (q_m1 D M) 2 = q_sc M 2 := q_m1_sc (by omega)
    simp only [q_top, this]
    exact ⟨t1, t2, t3, t4, t5, t6, t7⟩
  have hcell : q_sc (q_m1 D M) 4 ≤ 200 := by rw [hB1.2.2.2.2.2.2.1]; exact fb_ct_le _ _
  have e6 : q_sc (q_m1 D M) 6 = q_sc M 6 := q_m1_sc (by omega)
  have eK : q_K P (q_m1 D M) (p_fi P f + i) 0 = q_K P M (p_fi P f + i) 0 := by simp only [q_K]; rw [q_m1_sc (by omega)]; rfl
  have hst := j_stop C1 g2 H1 hcell (by omega) (by rw [eK]; exact hs2)
  rw [show q_sc (q_m1 D M) 2 = q_sc M 2 from q_m1_sc (by omega)] at hst
  have s6 := g2.2.2.2.2.2.2.1
  rw [e6] at s6
  have hR2 : r_R (m_ri (m_si T1 (m + 2) 216 (nI (q_sc M 6 + 1))) (m + 2)) (q_m2 D M) := by rw [e_row]; exact g2.stp
  have hO2 : r_O m T (m_si T1 (m + 2) 216 (nI (q_sc M 6 + 1))) := g3.now (by omega) (by omega)
  have C2 := C.kept hO2
  have hB2 : q_B P (q_m2 D M) := hB1.s (by omega) (by omega) (by omega) (by omega) (by omega) (by omega) (by omega) (by omega)
  have e22 : q_sc (q_m2 D M) 2 = q_sc M 2 := q_m2_sc (by omega) (by omega)
  have H2 : q_top P (q_m2 D M) f i := by
    simp only [q_top, e22]
    exact ⟨t1, t2, t3, t4, t5, t6, t7⟩
  have h0' : q_sc (q_m2 D M) 0 ≠ 2 := by rw [q_m2_sc (by omega) (by omega)]; omega
  have hstl := q_stop_lt (P := P) (D := D) (M := q_m1 D M) (f := f) (i := i)
  have hgo1 : f_X12_oneStep m T = b_X12_oneStep_19 m (u + 1) T1 (nI (q_sc M 2 - 1)) (nI f) (nI z) := by
    rw [← g1]
    simp (disch := omega) only [e_let, e_call, e_cal0, e_bind, e_lit, e_ofN, e_neg, nI_add, pk_mul, e_sub, e_ldi, e_sti, e_ldj, e_stj, e_le_t, e_le_f, e_lt_t, e_lt_f, e_eq_t, e_eq_f, e_no_eq, e_no_eq', e_no_rfl, e_no_lt, e_no_le, e_le_no, e_lt_no, if_true, if_false, ↓reduceIte, e_rs, e_rq, e_rn, e_ji, e_ki, e_ij, e_kj, e_js, e_jq, e_jn, e_cs, e_cq, e_jc, e_kc, e_js', e_jcq, e_icj, e_kcj, or_true, true_or, or_false, false_or, and_true, true_and, not_true_eq_false, not_false_eq_true, f_X12_oneStep, s2, hfun]
  by_cases hzz : q_stop P D (q_m1 D M) f i = 0
  · rw [hzz] at hst
    by_cases hc : q_cl P (q_m2 D M) (p_fi P f + i) = true
    · have hlim : q_lv P D f i = false → q_sc (q_m2 D M) 2 < 12 := fun hl => by
        rw [q_m2_sc (by omega) (by omega), ← q_m1_sc (D := D) (M := M) (j := 2) (by omega)]
        exact q_stop_lim hzz (q_m12 ▸ hc) hl
      obtain ⟨T', f1, f2, f3⟩ := j_doesCall C2 hR2 H2 hc hlim hB2.2.2.2.2.2.2.2.2.2.2.1
      rw [e22] at f1
      refine ⟨T', ?_, ?_, hO2.tr f3⟩
      · rw [hgo1]
        simp (disch := omega) only [e_let, e_call, e_cal0, e_bind, e_lit, e_ofN, e_neg, nI_add, pk_mul, e_sub, e_ldi, e_sti, e_ldj, e_stj, e_le_t, e_le_f, e_lt_t, e_lt_f, e_eq_t, e_eq_f, e_no_eq, e_no_eq', e_no_rfl, e_no_lt, e_no_le, e_le_no, e_lt_no, if_true, if_false, ↓reduceIte, e_rs, e_rq, e_rn, e_ji, e_ki, e_ij, e_kj, e_js, e_jq, e_jn, e_cs, e_cq, e_jc, e_kc, e_js', e_jcq, e_icj, e_kcj, or_true, true_or, or_false, false_or, and_true, true_and, not_true_eq_false, not_false_eq_true, b_X12_oneStep_19, hz2, hst, s6, f1, b_X12_oneStep_112]
      · rw [q_step, hf, hi, if_neg (by rw [hzz]; exact fun h => h rfl), if_pos hc]; exact f2
    · have hc' : q_cl P (q_m2 D M) (p_fi P f + i) = false := Bool.eq_false_iff.mpr hc
      obtain ⟨hw, hk⟩ := hgo hzz hc'
      obtain ⟨T', f1, f2, f3⟩ := j_work C2 hR2 hB2 H2 h0' hc' hw hk
      rw [e22] at f1
      refine ⟨T', ?_, ?_, hO2.tr f3⟩
      · rw [hgo1]
        simp (disch := omega) only [e_let, e_call, e_cal0, e_bind, e_lit, e_ofN, e_neg, nI_add, pk_mul, e_sub, e_ldi, e_sti, e_ldj, e_stj, e_le_t, e_le_f, e_lt_t, e_lt_f, e_eq_t, e_eq_f, e_no_eq, e_no_eq', e_no_rfl, e_no_lt, e_no_le, e_le_no, e_lt_no, if_true, if_false, ↓reduceIte, e_rs, e_rq, e_rn, e_ji, e_ki, e_ij, e_kj, e_js, e_jq, e_jn, e_cs, e_cq, e_jc, e_kc, e_js', e_jcq, e_icj, e_kcj, or_true, true_or, or_false, false_or, and_true, true_and, not_true_eq_false, not_false_eq_true, b_X12_oneStep_19, hz2, hst, s6, f1, b_X12_oneStep_112]
      · rw [q_step, hf, hi, if_neg (by rw [hzz]; exact fun h => h rfl), if_neg hc]; exact f2
  · refine ⟨m_si (m_si (m_si T1 (m + 2) 216 (nI (q_sc M 6 + 1))) (m + 2) 210 (nI 3)) (m + 2) 211 (nI (q_stop P D (q_m1 D M) f i)), ?_, ?_, (hO2.now (by omega) (by omega)).now (by omega) (by omega)⟩
    · rw [hgo1]
      simp (disch := omega) only [e_let, e_call, e_cal0, e_bind, e_lit, e_ofN, e_neg, nI_add, pk_mul, e_sub, e_ldi, e_sti, e_ldj, e_stj, e_le_t, e_le_f, e_lt_t, e_lt_f, e_eq_t, e_eq_f, e_no_eq, e_no_eq', e_no_rfl, e_no_lt, e_no_le, e_le_no, e_lt_no, if_true, if_false, ↓reduceIte, e_rs, e_rq, e_rn, e_ji, e_ki, e_ij, e_kj, e_js, e_jq, e_jn, e_cs, e_cq, e_jc, e_kc, e_js', e_jcq, e_icj, e_kcj, or_true, true_or, or_false, false_or, and_true, true_and, not_true_eq_false, not_false_eq_true, b_X12_oneStep_19, hz2, hst, s6, b_X12_oneStep_112]
    · rw [q_step, hf, hi, if_pos hzz, e_row, e_row]; exact hR2.stop h0'
end RT
