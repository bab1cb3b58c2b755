/-! the other side: why a line stops all; rooms -/
section RL
variable {T : m_M} {m z : Nat} {P : pP} {D : pD} {M : qM} {f i : Nat}
theorem j_stop_124 {x : Nat} (hM : r_R (m_ri T (m + 2)) M) (hc : q_sc M 4 ≤ 200) (hs : q_sc M 6 ≤ 5000) (hx : x < 100) : b_X12_whyStop_124 m T (nI x) = some (nI (if x = 2 ∧ 200 ≤ q_sc M 4 then 4 else if 5000 ≤ q_sc M 6 then 5 else 0), T) := by
  have h4 := hM.2.2.2.1
  have h6 := hM.2.2.2.2.2.2.1
  have h91 : b_X12_whyStop_145 m T = some (nI (if 5000 ≤ q_sc M 6 then 5 else 0), T) := by
    by_cases hq : 5000 ≤ q_sc M 6
    · rw [if_pos hq]; simp (disch := omega) only [e_let, e_call, e_cal0, e_bind, e_lit, e_ofN, e_neg, nI_add, pk_mul, e_sub, e_ldi, e_sti, e_ldj, e_stj, e_le_t, e_le_f, e_lt_t, e_lt_f, e_eq_t, e_eq_f, e_no_eq, e_no_eq', e_no_rfl, e_no_lt, e_no_le, e_le_no, e_lt_no, if_true, if_false, ↓reduceIte, e_rs, e_rq, e_rn, e_ji, e_ki, e_ij, e_kj, e_js, e_jq, e_jn, e_cs, e_cq, e_jc, e_kc, e_js', e_jcq, e_icj, e_kcj, or_true, true_or, or_false, false_or, and_true, true_and, not_true_eq_false, not_false_eq_true, b_X12_whyStop_145, h6, b_X12_whyStop_164]
    · rw [if_neg hq]; simp (disch := omega) only [e_let, e_call, e_cal0, e_bind, e_lit, e_ofN, e_neg, nI_add, pk_mul, e_sub, e_ldi, e_sti, e_ldj, e_stj, e_le_t, e_le_f, e_lt_t, e_lt_f, e_eq_t, e_eq_f, e_no_eq, e_no_eq', e_no_rfl, e_no_lt, e_no_le, e_le_no, e_lt_no, if_true, if_false, ↓reduceIte, e_rs, e_rq, e_rn, e_ji, e_ki, e_ij, e_kj, e_js, e_jq, e_jn, e_cs, e_cq, e_jc, e_kc, e_js', e_jcq, e_icj, e_kcj, or_true, true_or, or_false, false_or, and_true, true_and, not_true_eq_false, not_false_eq_true, b_X12_whyStop_145, h6, b_X12_whyStop_164]
  by_cases hq : x = 2
  · by_cases hq2 : 200 ≤ q_sc M 4
    · rw [if_pos ⟨hq, hq2⟩]; simp (disch := omega) only [e_let, e_call, e_cal0, e_bind, e_lit, e_ofN, e_neg, nI_add, pk_mul, e_sub, e_ldi, e_sti, e_ldj, e_stj, e_le_t, e_le_f, e_lt_t, e_lt_f, e_eq_t, e_eq_f, e_no_eq, e_no_eq', e_no_rfl, e_no_lt, e_no_le, e_le_no, e_lt_no, if_true, if_false, ↓reduceIte, e_rs, e_rq, e_rn, e_ji, e_ki, e_ij, e_kj, e_js, e_jq, e_jn, e_cs, e_cq, e_jc, e_kc, e_js', e_jcq, e_icj, e_kcj, or_true, true_or, or_false, false_or, and_true, true_and, not_true_eq_false, not_false_eq_true, b_X12_whyStop_124, h4]
    · rw [if_neg (by omega)]; simp (disch := omega) only [e_let, e_call, e_cal0, e_bind, e_lit, e_ofN, e_neg, nI_add, pk_mul, e_sub, e_ldi, e_sti, e_ldj, e_stj, e_le_t, e_le_f, e_lt_t, e_lt_f, e_eq_t, e_eq_f, e_no_eq, e_no_eq', e_no_rfl, e_no_lt, e_no_le, e_le_no, e_lt_no, if_true, if_false, ↓reduceIte, e_rs, e_rq, e_rn, e_ji, e_ki, e_ij, e_kj, e_js, e_jq, e_jn, e_cs, e_cq, e_jc, e_kc, e_js', e_jcq, e_icj, e_kcj, or_true, true_or, or_false, false_or, and_true, true_and, not_true_eq_false, not_false_eq_true, b_X12_whyStop_124, h4, h91]
  · rw [if_neg (by omega)]; simp (disch := omega) only [e_let, e_call, e_cal0, e_bind, e_lit, e_ofN, e_neg, nI_add, pk_mul, e_sub, e_ldi, e_sti, e_ldj, e_stj, e_le_t, e_le_f, e_lt_t, e_lt_f, e_eq_t, e_eq_f, e_no_eq, e_no_eq', e_no_rfl, e_no_lt, e_no_le, e_le_no, e_lt_no, if_true, if_false, ↓reduceIte, e_rs, e_rq, e_rn, e_ji, e_ki, e_ij, e_kj, e_js, e_jq, e_jn, e_cs, e_cq, e_jc, e_kc, e_js', e_jcq, e_icj, e_kcj, or_true, true_or, or_false, false_or, and_true, true_and, not_true_eq_false, not_false_eq_true, b_X12_whyStop_124, h91]
theorem j_stop_93 (C : r_C T m P D z) (hM : r_R (m_ri T (m + 2)) M) (H : q_top P M f i) (hc : q_sc M 4 ≤ 200) (hs : q_sc M 6 ≤ 5000) : b_X12_whyStop_93 m T (nI (q_sc M 2 - 1)) (nI (p_op P (p_fi P f + i))) = some (nI (if q_cl P M (p_fi P f + i) = true ∧ 12 ≤ q_sc M 2 ∧ q_lv P D f i = false then 3
  else if p_op P (p_fi P f + i) = 2 ∧ 200 ≤ q_sc M 4 then 4
  else if 5000 ≤ q_sc M 6 then 5 else 0), T) := by
  have hop := (C.1.2.2.2.2 f i H.2.2.2.2.1 H.2.2.2.2.2.1).1
  have h73 := j_stop_124 (m := m) hM hc hs (x := p_op P (p_fi P f + i)) (by omega)
  have hcn := j_calls C hM H
  have hn := hM.2.2.1
  have h12' := H.2.1
  by_cases hcl : q_cl P M (p_fi P f + i) = true
  · rw [if_pos hcl] at hcn
    have ho := q_cl_op hcl
    have hlv := j_goesAhead C hM H (by omega)
    by_cases h12 : 12 ≤ q_sc M 2
    · by_cases hl : q_lv P D f i = true
      · rw [if_pos hl] at hlv
        rw [if_neg (by rw [hl]; rintro ⟨-, -, h⟩; cases h)]
        simp (disch := omega) only [e_let, e_call, e_cal0, e_bind, e_lit, e_ofN, e_neg, nI_add, pk_mul, e_sub, e_ldi, e_sti, e_ldj, e_stj, e_le_t, e_le_f, e_lt_t, e_lt_f, e_eq_t, e_eq_f, e_no_eq, e_no_eq', e_no_rfl, e_no_lt, e_no_le, e_le_no, e_lt_no, if_true, if_false, ↓reduceIte, e_rs, e_rq, e_rn, e_ji, e_ki, e_ij, e_kj, e_js, e_jq, e_jn, e_cs, e_cq, e_jc, e_kc, e_js', e_jcq, e_icj, e_kcj, or_true, true_or, or_false, false_or, and_true, true_and, not_true_eq_false, not_false_eq_true, b_X12_whyStop_93, hcn, hn, hlv, h73]
      · rw [if_neg hl] at hlv
        rw [if_pos ⟨hcl, h12, Bool.eq_false_iff.mpr hl⟩]
        simp (disch := omega) only [e_let, e_call, e_cal0, e_bind, e_lit, e_ofN, e_neg, nI_add, pk_mul, e_sub, e_ldi, e_sti, e_ldj, e_stj, e_le_t, e_le_f, e_lt_t, e_lt_f, e_eq_t, e_eq_f, e_no_eq, e_no_eq', e_no_rfl, e_no_lt, e_no_le, e_le_no, e_lt_no, if_true, if_false, ↓reduceIte, e_rs, e_rq, e_rn, e_ji, e_ki, e_ij, e_kj, e_js, e_jq, e_jn, e_cs, e_cq, e_jc, e_kc, e_js', e_jcq, e_icj, e_kcj, or_true, true_or, or_false, false_or, and_true, true_and, not_true_eq_false, not_false_eq_true, b_X12_whyStop_93, hcn, hn, hlv]
    · rw [if_neg (by rintro ⟨-, h, -⟩; exact h12 h)]
      simp (disch := omega) only [e_let, e_call, e_cal0, e_bind, e_lit, e_ofN, e_neg, nI_add, pk_mul, e_sub, e_ldi, e_sti, e_ldj, e_stj, e_le_t, e_le_f, e_lt_t, e_lt_f, e_eq_t, e_eq_f, e_no_eq, e_no_eq', e_no_rfl, e_no_lt, e_no_le, e_le_no, e_lt_no, if_true, if_false, ↓reduceIte, e_rs, e_rq, e_rn, e_ji, e_ki, e_ij, e_kj, e_js, e_jq, e_jn, e_cs, e_cq, e_jc, e_kc, e_js', e_jcq, e_icj, e_kcj, or_true, true_or, or_false, false_or, and_true, true_and, not_true_eq_false, not_false_eq_true, b_X12_whyStop_93, hcn, hn, h73]
  · rw [if_neg hcl] at hcn
    rw [if_neg (by rintro ⟨h, -, -⟩; exact hcl h)]
    simp (disch := omega) only [e_let, e_call, e_cal0, e_bind, e_lit, e_ofN, e_neg, nI_add, pk_mul, e_sub, e_ldi, e_sti, e_ldj, e_stj, e_le_t, e_le_f, e_lt_t, e_lt_f, e_eq_t, e_eq_f, e_no_eq, e_no_eq', e_no_rfl, e_no_lt, e_no_le, e_le_no, e_lt_no, if_true, if_false, ↓reduceIte, e_rs, e_rq, e_rn, e_ji, e_ki, e_ij, e_kj, e_js, e_jq, e_jn, e_cs, e_cq, e_jc, e_kc, e_js', e_jcq, e_icj, e_kcj, or_true, true_or, or_false, false_or, and_true, true_and, not_true_eq_false, not_false_eq_true, b_X12_whyStop_93, hcn, h73]
theorem j_stop_69 (C : r_C T m P D z) (hM : r_R (m_ri T (m + 2)) M) (H : q_top P M f i) (hc : q_sc M 4 ≤ 200) (hs : q_sc M 6 ≤ 5000) : b_X12_whyStop_69 m T (nI (q_sc M 2 - 1)) (nI (p_op P (p_fi P f + i))) = some (nI (if (p_op P (p_fi P f + i) = 7 ∨ p_op P (p_fi P f + i) = 9) ∧ q_K P M (p_fi P f + i) 0 = 2 then 2 else if q_cl P M (p_fi P f + i) = true ∧ 12 ≤ q_sc M 2 ∧ q_lv P D f i = false then 3
  else if p_op P (p_fi P f + i) = 2 ∧ 200 ≤ q_sc M 4 then 4
  else if 5000 ≤ q_sc M 6 then 5 else 0), T) := by
  have hop := (C.1.2.2.2.2 f i H.2.2.2.2.1 H.2.2.2.2.2.1).1
  have h93 := j_stop_93 C hM H hc hs
  have hk0 : q_K P M (p_fi P f + i) 0 ≤ 2 := H.2.2.2.2.2.2 _
  by_cases h79 : p_op P (p_fi P f + i) = 7 ∨ p_op P (p_fi P f + i) = 9
  · have hk := j_kindAt (k := 0) C hM H (by omega) (by rcases h79 with h | h; exact p_us_0 (by omega); exact p_us_c h)
    have hg : b_X12_whyStop_69 m T (nI (q_sc M 2 - 1)) (nI (p_op P (p_fi P f + i))) = b_X12_whyStop_81 m T (nI (q_sc M 2 - 1)) (nI (p_op P (p_fi P f + i))) := by
      rcases h79 with h | h
      · rw [h]; simp (disch := omega) only [e_let, e_call, e_cal0, e_bind, e_lit, e_ofN, e_neg, nI_add, pk_mul, e_sub, e_ldi, e_sti, e_ldj, e_stj, e_le_t, e_le_f, e_lt_t, e_lt_f, e_eq_t, e_eq_f, e_no_eq, e_no_eq', e_no_rfl, e_no_lt, e_no_le, e_le_no, e_lt_no, if_true, if_false, ↓reduceIte, e_rs, e_rq, e_rn, e_ji, e_ki, e_ij, e_kj, e_js, e_jq, e_jn, e_cs, e_cq, e_jc, e_kc, e_js', e_jcq, e_icj, e_kcj, or_true, true_or, or_false, false_or, and_true, true_and, not_true_eq_false, not_false_eq_true, b_X12_whyStop_69]
      · rw [h]; simp (disch := omega) only [e_let, e_call, e_cal0, e_bind, e_lit, e_ofN, e_neg, nI_add, pk_mul, e_sub, e_ldi, e_sti, e_ldj, e_stj, e_le_t, e_le_f, e_lt_t, e_lt_f, e_eq_t, e_eq_f, e_no_eq, e_no_eq', e_no_rfl, e_no_lt, e_no_le, e_le_no, e_lt_no, if_true, if_false, ↓reduceIte, e_rs, e_rq, e_rn, e_ji, e_ki, e_ij, e_kj, e_js, e_jq, e_jn, e_cs, e_cq, e_jc, e_kc, e_js', e_jcq, e_icj, e_kcj, or_true, true_or, or_false, false_or, and_true, true_and, not_true_eq_false, not_false_eq_true, b_X12_whyStop_69]
    rw [hg]
    by_cases hv : q_K P M (p_fi P f + i) 0 = 2
    · rw [if_pos ⟨h79, hv⟩]
      simp (disch := omega) only [e_let, e_call, e_cal0, e_bind, e_lit, e_ofN, e_neg, nI_add, pk_mul, e_sub, e_ldi, e_sti, e_ldj, e_stj, e_le_t, e_le_f, e_lt_t, e_lt_f, e_eq_t, e_eq_f, e_no_eq, e_no_eq', e_no_rfl, e_no_lt, e_no_le, e_le_no, e_lt_no, if_true, if_false, ↓reduceIte, e_rs, e_rq, e_rn, e_ji, e_ki, e_ij, e_kj, e_js, e_jq, e_jn, e_cs, e_cq, e_jc, e_kc, e_js', e_jcq, e_icj, e_kcj, or_true, true_or, or_false, false_or, and_true, true_and, not_true_eq_false, not_false_eq_true, b_X12_whyStop_81, hk]
    · rw [if_neg (by omega)]
      simp (disch := omega) only [e_let, e_call, e_cal0, e_bind, e_lit, e_ofN, e_neg, nI_add, pk_mul, e_sub, e_ldi, e_sti, e_ldj, e_stj, e_le_t, e_le_f, e_lt_t, e_lt_f, e_eq_t, e_eq_f, e_no_eq, e_no_eq', e_no_rfl, e_no_lt, e_no_le, e_le_no, e_lt_no, if_true, if_false, ↓reduceIte, e_rs, e_rq, e_rn, e_ji, e_ki, e_ij, e_kj, e_js, e_jq, e_jn, e_cs, e_cq, e_jc, e_kc, e_js', e_jcq, e_icj, e_kcj, or_true, true_or, or_false, false_or, and_true, true_and, not_true_eq_false, not_false_eq_true, b_X12_whyStop_81, hk, h93]
  · rw [if_neg (by omega)]
    simp (disch := omega) only [e_let, e_call, e_cal0, e_bind, e_lit, e_ofN, e_neg, nI_add, pk_mul, e_sub, e_ldi, e_sti, e_ldj, e_stj, e_le_t, e_le_f, e_lt_t, e_lt_f, e_eq_t, e_eq_f, e_no_eq, e_no_eq', e_no_rfl, e_no_lt, e_no_le, e_le_no, e_lt_no, if_true, if_false, ↓reduceIte, e_rs, e_rq, e_rn, e_ji, e_ki, e_ij, e_kj, e_js, e_jq, e_jn, e_cs, e_cq, e_jc, e_kc, e_js', e_jcq, e_icj, e_kcj, or_true, true_or, or_false, false_or, and_true, true_and, not_true_eq_false, not_false_eq_true, b_X12_whyStop_69, h93]
theorem j_stop_36 (C : r_C T m P D z) (hM : r_R (m_ri T (m + 2)) M) (H : q_top P M f i) (hc : q_sc M 4 ≤ 200) (hs : q_sc M 6 ≤ 5000) : b_X12_whyStop_36 m T (nI (q_sc M 2 - 1)) (nI (p_op P (p_fi P f + i))) = some (nI (if ((p_op P (p_fi P f + i) = 5 ∨ p_op P (p_fi P f + i) = 6) ∧ (q_K P M (p_fi P f + i) 0 = 2 ∨ q_K P M (p_fi P f + i) 1 = 2)) ∨ ((p_op P (p_fi P f + i) = 7 ∨ p_op P (p_fi P f + i) = 9) ∧ q_K P M (p_fi P f + i) 0 = 2) then 2 else if q_cl P M (p_fi P f + i) = true ∧ 12 ≤ q_sc M 2 ∧ q_lv P D f i = false then 3
  else if p_op P (p_fi P f + i) = 2 ∧ 200 ≤ q_sc M 4 then 4
  else if 5000 ≤ q_sc M 6 then 5 else 0), T) := by
  have hop := (C.1.2.2.2.2 f i H.2.2.2.2.1 H.2.2.2.2.2.1).1
  have h69 := j_stop_69 C hM H hc hs
  have hk0 : q_K P M (p_fi P f + i) 0 ≤ 2 := H.2.2.2.2.2.2 _
  have hk1 : q_K P M (p_fi P f + i) 1 ≤ 2 := H.2.2.2.2.2.2 _
  by_cases h56 : p_op P (p_fi P f + i) = 5 ∨ p_op P (p_fi P f + i) = 6
  · have hk := j_kindAt (k := 0) C hM H (by omega) (p_us_0 (by omega))
    have hkk := j_kindAt (k := 1) C hM H (by omega) (p_us_1 (by omega))
    have hg : b_X12_whyStop_36 m T (nI (q_sc M 2 - 1)) (nI (p_op P (p_fi P f + i))) = b_X12_whyStop_47 m T (nI (q_sc M 2 - 1)) (nI (p_op P (p_fi P f + i))) := by
      rcases h56 with h | h
      · rw [h]; simp (disch := omega) only [e_let, e_call, e_cal0, e_bind, e_lit, e_ofN, e_neg, nI_add, pk_mul, e_sub, e_ldi, e_sti, e_ldj, e_stj, e_le_t, e_le_f, e_lt_t, e_lt_f, e_eq_t, e_eq_f, e_no_eq, e_no_eq', e_no_rfl, e_no_lt, e_no_le, e_le_no, e_lt_no, if_true, if_false, ↓reduceIte, e_rs, e_rq, e_rn, e_ji, e_ki, e_ij, e_kj, e_js, e_jq, e_jn, e_cs, e_cq, e_jc, e_kc, e_js', e_jcq, e_icj, e_kcj, or_true, true_or, or_false, false_or, and_true, true_and, not_true_eq_false, not_false_eq_true, b_X12_whyStop_36]
      · rw [h]; simp (disch := omega) only [e_let, e_call, e_cal0, e_bind, e_lit, e_ofN, e_neg, nI_add, pk_mul, e_sub, e_ldi, e_sti, e_ldj, e_stj, e_le_t, e_le_f, e_lt_t, e_lt_f, e_eq_t, e_eq_f, e_no_eq, e_no_eq', e_no_rfl, e_no_lt, e_no_le, e_le_no, e_lt_no, if_true, if_false, ↓reduceIte, e_rs, e_rq, e_rn, e_ji, e_ki, e_ij, e_kj, e_js, e_jq, e_jn, e_cs, e_cq, e_jc, e_kc, e_js', e_jcq, e_icj, e_kcj, or_true, true_or, or_false, false_or, and_true, true_and, not_true_eq_false, not_false_eq_true, b_X12_whyStop_36]
    rw [hg]
    by_cases hv : q_K P M (p_fi P f + i) 0 = 2
    · rw [if_pos (Or.inl ⟨h56, Or.inl hv⟩)]
      simp (disch := omega) only [e_let, e_call, e_cal0, e_bind, e_lit, e_ofN, e_neg, nI_add, pk_mul, e_sub, e_ldi, e_sti, e_ldj, e_stj, e_le_t, e_le_f, e_lt_t, e_lt_f, e_eq_t, e_eq_f, e_no_eq, e_no_eq', e_no_rfl, e_no_lt, e_no_le, e_le_no, e_lt_no, if_true, if_false, ↓reduceIte, e_rs, e_rq, e_rn, e_ji, e_ki, e_ij, e_kj, e_js, e_jq, e_jn, e_cs, e_cq, e_jc, e_kc, e_js', e_jcq, e_icj, e_kcj, or_true, true_or, or_false, false_or, and_true, true_and, not_true_eq_false, not_false_eq_true, b_X12_whyStop_47, hk, b_X12_whyStop_67]
    · by_cases hv1 : q_K P M (p_fi P f + i) 1 = 2
      · rw [if_pos (Or.inl ⟨h56, Or.inr hv1⟩)]
        simp (disch := omega) only [e_let, e_call, e_cal0, e_bind, e_lit, e_ofN, e_neg, nI_add, pk_mul, e_sub, e_ldi, e_sti, e_ldj, e_stj, e_le_t, e_le_f, e_lt_t, e_lt_f, e_eq_t, e_eq_f, e_no_eq, e_no_eq', e_no_rfl, e_no_lt, e_no_le, e_le_no, e_lt_no, if_true, if_false, ↓reduceIte, e_rs, e_rq, e_rn, e_ji, e_ki, e_ij, e_kj, e_js, e_jq, e_jn, e_cs, e_cq, e_jc, e_kc, e_js', e_jcq, e_icj, e_kcj, or_true, true_or, or_false, false_or, and_true, true_and, not_true_eq_false, not_false_eq_true, b_X12_whyStop_47, hk, hkk, b_X12_whyStop_67]
      · rw [if_neg (by omega)]
        rw [if_neg (by omega)] at h69
        simp (disch := omega) only [e_let, e_call, e_cal0, e_bind, e_lit, e_ofN, e_neg, nI_add, pk_mul, e_sub, e_ldi, e_sti, e_ldj, e_stj, e_le_t, e_le_f, e_lt_t, e_lt_f, e_eq_t, e_eq_f, e_no_eq, e_no_eq', e_no_rfl, e_no_lt, e_no_le, e_le_no, e_lt_no, if_true, if_false, ↓reduceIte, e_rs, e_rq, e_rn, e_ji, e_ki, e_ij, e_kj, e_js, e_jq, e_jn, e_cs, e_cq, e_jc, e_kc, e_js', e_jcq, e_icj, e_kcj, or_true, true_or, or_false, false_or, and_true, true_and, not_true_eq_false, not_false_eq_true, b_X12_whyStop_47, hk, hkk, h69]
  · have e1 : (((p_op P (p_fi P f + i) = 5 ∨ p_op P (p_fi P f + i) = 6) ∧ (q_K P M (p_fi P f + i) 0 = 2 ∨ q_K P M (p_fi P f + i) 1 = 2)) ∨ ((p_op P (p_fi P f + i) = 7 ∨ p_op P (p_fi P f + i) = 9) ∧ q_K P M (p_fi P f + i) 0 = 2)) ↔ ((p_op P (p_fi P f + i) = 7 ∨ p_op P (p_fi P f + i) = 9) ∧ q_K P M (p_fi P f + i) 0 = 2) := by omega
    simp only [e1]
    simp (disch := omega) only [e_let, e_call, e_cal0, e_bind, e_lit, e_ofN, e_neg, nI_add, pk_mul, e_sub, e_ldi, e_sti, e_ldj, e_stj, e_le_t, e_le_f, e_lt_t, e_lt_f, e_eq_t, e_eq_f, e_no_eq, e_no_eq', e_no_rfl, e_no_lt, e_no_le, e_le_no, e_lt_no, if_true, if_false, ↓reduceIte, e_rs, e_rq, e_rn, e_ji, e_ki, e_ij, e_kj, e_js, e_jq, e_jn, e_cs, e_cq, e_jc, e_kc, e_js', e_jcq, e_icj, e_kcj, or_true, true_or, or_false, false_or, and_true, true_and, not_true_eq_false, not_false_eq_true, b_X12_whyStop_36, h69]
theorem j_stop (C : r_C T m P D z) (hM : r_R (m_ri T (m + 2)) M) (H : q_top P M f i) (hc : q_sc M 4 ≤ 200) (hs : q_sc M 6 ≤ 5000) (hk0 : p_op P (p_fi P f + i) = 3 ∨ p_op P (p_fi P f + i) = 4 → q_K P M (p_fi P f + i) 0 ≠ 0) : f_X12_whyStop m T (nI (q_sc M 2 - 1)) = some (nI (q_stop P D M f i), T) := by
  have hl := j_lineOf C hM H
  have hb := C.1.line H.2.2.2.2.1 H.2.2.2.2.2.1
  have hop := (C.1.2.2.2.2 f i H.2.2.2.2.1 H.2.2.2.2.2.1).1
  have h3 := (C.2.1.2.2.2 f i H.2.2.2.2.1 H.2.2.2.2.2.1).1
  have h36 := j_stop_36 C hM H hc hs
  have hk2 : q_K P M (p_fi P f + i) 0 ≤ 2 := H.2.2.2.2.2.2 _
  by_cases h34 : p_op P (p_fi P f + i) = 3 ∨ p_op P (p_fi P f + i) = 4
  · have hk := j_kindAt (k := 0) C hM H (by omega) (p_us_0 (by omega))
    have hk0 := hk0 h34
    have hg : f_X12_whyStop m T (nI (q_sc M 2 - 1)) = b_X12_whyStop_24 m T (nI (q_sc M 2 - 1)) (nI (p_op P (p_fi P f + i))) := by
      rcases h34 with h | h
      · rw [h] at h3 ⊢; simp (disch := omega) only [e_let, e_call, e_cal0, e_bind, e_lit, e_ofN, e_neg, nI_add, pk_mul, e_sub, e_ldi, e_sti, e_ldj, e_stj, e_le_t, e_le_f, e_lt_t, e_lt_f, e_eq_t, e_eq_f, e_no_eq, e_no_eq', e_no_rfl, e_no_lt, e_no_le, e_le_no, e_lt_no, if_true, if_false, ↓reduceIte, e_rs, e_rq, e_rn, e_ji, e_ki, e_ij, e_kj, e_js, e_jq, e_jn, e_cs, e_cq, e_jc, e_kc, e_js', e_jcq, e_icj, e_kcj, or_true, true_or, or_false, false_or, and_true, true_and, not_true_eq_false, not_false_eq_true, f_X12_whyStop, hl, h3]
      · rw [h] at h3 ⊢; simp (disch := omega) only [e_let, e_call, e_cal0, e_bind, e_lit, e_ofN, e_neg, nI_add, pk_mul, e_sub, e_ldi, e_sti, e_ldj, e_stj, e_le_t, e_le_f, e_lt_t, e_lt_f, e_eq_t, e_eq_f, e_no_eq, e_no_eq', e_no_rfl, e_no_lt, e_no_le, e_le_no, e_lt_no, if_true, if_false, ↓reduceIte, e_rs, e_rq, e_rn, e_ji, e_ki, e_ij, e_kj, e_js, e_jq, e_jn, e_cs, e_cq, e_jc, e_kc, e_js', e_jcq, e_icj, e_kcj, or_true, true_or, or_false, false_or, and_true, true_and, not_true_eq_false, not_false_eq_true, f_X12_whyStop, hl, h3]
    rw [hg]
    by_cases hv : q_K P M (p_fi P f + i) 0 = 2
    · rw [q_stop, if_neg (by rintro ⟨-, h⟩; exact h hv)]
      simp (disch := omega) only [e_let, e_call, e_cal0, e_bind, e_lit, e_ofN, e_neg, nI_add, pk_mul, e_sub, e_ldi, e_sti, e_ldj, e_stj, e_le_t, e_le_f, e_lt_t, e_lt_f, e_eq_t, e_eq_f, e_no_eq, e_no_eq', e_no_rfl, e_no_lt, e_no_le, e_le_no, e_lt_no, if_true, if_false, ↓reduceIte, e_rs, e_rq, e_rn, e_ji, e_ki, e_ij, e_kj, e_js, e_jq, e_jn, e_cs, e_cq, e_jc, e_kc, e_js', e_jcq, e_icj, e_kcj, or_true, true_or, or_false, false_or, and_true, true_and, not_true_eq_false, not_false_eq_true, b_X12_whyStop_24, hk, h36]
    · rw [q_stop, if_pos ⟨h34, hv⟩]
      simp (disch := omega) only [e_let, e_call, e_cal0, e_bind, e_lit, e_ofN, e_neg, nI_add, pk_mul, e_sub, e_ldi, e_sti, e_ldj, e_stj, e_le_t, e_le_f, e_lt_t, e_lt_f, e_eq_t, e_eq_f, e_no_eq, e_no_eq', e_no_rfl, e_no_lt, e_no_le, e_le_no, e_lt_no, if_true, if_false, ↓reduceIte, e_rs, e_rq, e_rn, e_ji, e_ki, e_ij, e_kj, e_js, e_jq, e_jn, e_cs, e_cq, e_jc, e_kc, e_js', e_jcq, e_icj, e_kcj, or_true, true_or, or_false, false_or, and_true, true_and, not_true_eq_false, not_false_eq_true, b_X12_whyStop_24, hk]
  · rw [q_stop, if_neg (by rintro ⟨h, -⟩; exact h34 h)]
    simp (disch := omega) only [e_let, e_call, e_cal0, e_bind, e_lit, e_ofN, e_neg, nI_add, pk_mul, e_sub, e_ldi, e_sti, e_ldj, e_stj, e_le_t, e_le_f, e_lt_t, e_lt_f, e_eq_t, e_eq_f, e_no_eq, e_no_eq', e_no_rfl, e_no_lt, e_no_le, e_le_no, e_lt_no, if_true, if_false, ↓reduceIte, e_rs, e_rq, e_rn, e_ji, e_ki, e_ij, e_kj, e_js, e_jq, e_jn, e_cs, e_cq, e_jc, e_kc, e_js', e_jcq, e_icj, e_kcj, or_true, true_or, or_false, false_or, and_true, true_and, not_true_eq_false, not_false_eq_true, f_X12_whyStop, hl, h3, h36]
theorem j_makeRoom {lev r : Nat} (hM : r_R (m_ri T (m + 2)) M) (hlen : (q_F M).length < 312) (hm : ∀ c x, c < 200 → q_ce M c = some x → x ∈ q_F M) : ∃ T', f_X12_makeRoom m T (nI r) = some T' ∧ r_R (m_ri T' (m + 2)) (q_setF M (q_F M ++ [(lev, r)])) ∧ r_O m T T' := by
  have h := hM.2.2.2.2.1
  refine ⟨m_si (m_si T (m + 2) (2093 + (q_F M).length) (nI r)) (m + 2) 214 (nI ((q_F M).length + 1)), ?_, ?_, (r_O.rf.now (by omega) (by omega)).now (by omega) (by omega)⟩
  · simp (disch := omega) only [e_let, e_call, e_cal0, e_bind, e_lit, e_ofN, e_neg, nI_add, pk_mul, e_sub, e_ldi, e_sti, e_ldj, e_stj, e_le_t, e_le_f, e_lt_t, e_lt_f, e_eq_t, e_eq_f, e_no_eq, e_no_eq', e_no_rfl, e_no_lt, e_no_le, e_le_no, e_lt_no, if_true, if_false, ↓reduceIte, e_rs, e_rq, e_rn, e_ji, e_ki, e_ij, e_kj, e_js, e_jq, e_jn, e_cs, e_cq, e_jc, e_kc, e_js', e_jcq, e_icj, e_kcj, or_true, true_or, or_false, false_or, and_true, true_and, not_true_eq_false, not_false_eq_true, f_X12_makeRoom, h]
  · rw [e_row, e_row]; exact hM.room hlen hm
theorem j_latl {r t : Nat} {y : Nat × Nat} (hM : r_R (m_ri T (m + 2)) M) (hl : (q_F M).length ≤ 312) (hr : ∀ x, x ∈ q_F M → x.2 < 24) (hr2 : r < 24) (ht : (q_F M)[t]? = some y) (hy : y.2 = r) (ha : ∀ j z, t < j → (q_F M)[j]? = some z → z.2 ≠ r) : ∀ (d k fu : Nat), t + d = k → k < (q_F M).length → d < fu → b_X12_latestRoom_11 m fu T (nI r) (nI k) = some (nI t, T) := by
  intro d
  induction d with
  | zero =>
    intro k fu hk hkl hf
    obtain ⟨fu, rfl⟩ : ∃ f, fu = f + 1 := ⟨fu - 1, by omega⟩
    have hk : t = k := hk
    subst hk
    have h8 := hM.2.2.2.2.2.2.2.2.2.2.2.2.2.2.2.1 t y (by omega) ht
    simp (disch := omega) only [e_let, e_call, e_cal0, e_bind, e_lit, e_ofN, e_neg, nI_add, pk_mul, e_sub, e_ldi, e_sti, e_ldj, e_stj, e_le_t, e_le_f, e_lt_t, e_lt_f, e_eq_t, e_eq_f, e_no_eq, e_no_eq', e_no_rfl, e_no_lt, e_no_le, e_le_no, e_lt_no, if_true, if_false, ↓reduceIte, e_rs, e_rq, e_rn, e_ji, e_ki, e_ij, e_kj, e_js, e_jq, e_jn, e_cs, e_cq, e_jc, e_kc, e_js', e_jcq, e_icj, e_kcj, or_true, true_or, or_false, false_or, and_true, true_and, not_true_eq_false, not_false_eq_true, b_X12_latestRoom_11, h8, hy]
  | succ d ih =>
    intro k fu hk hkl hf
    obtain ⟨fu, rfl⟩ : ∃ f, fu = f + 1 := ⟨fu - 1, by omega⟩
    have hz : (q_F M)[k]? = some (q_F M)[k] := List.getElem?_eq_getElem hkl
    have h8 := hM.2.2.2.2.2.2.2.2.2.2.2.2.2.2.2.1 k _ (by omega) hz
    have h9 := ha k _ (by omega) hz
    have h10 := hr _ (List.getElem_mem hkl)
    simp (disch := omega) only [e_let, e_call, e_cal0, e_bind, e_lit, e_ofN, e_neg, nI_add, pk_mul, e_sub, e_ldi, e_sti, e_ldj, e_stj, e_le_t, e_le_f, e_lt_t, e_lt_f, e_eq_t, e_eq_f, e_no_eq, e_no_eq', e_no_rfl, e_no_lt, e_no_le, e_le_no, e_lt_no, if_true, if_false, ↓reduceIte, e_rs, e_rq, e_rn, e_ji, e_ki, e_ij, e_kj, e_js, e_jq, e_jn, e_cs, e_cq, e_jc, e_kc, e_js', e_jcq, e_icj, e_kcj, or_true, true_or, or_false, false_or, and_true, true_and, not_true_eq_false, not_false_eq_true, b_X12_latestRoom_11, h8, e_dec]
    exact ih (k - 1) fu (by omega) (by omega) (by omega)
theorem j_latest {x : Nat × Nat} (hM : r_R (m_ri T (m + 2)) M) (hB : q_B P M) (hx : x ∈ q_F M) (hm : ∀ y, y ∈ q_F M → y.2 = x.2 → y.1 ≤ x.1) : f_X12_latestRoom m T (nI x.2) = some (nI ((q_F M).idxOf x), T) := by
  have hf := m_fu_ge
  have hs := hB.2.2.2.2.2.2.2.2.2.2.2.2.2.2.2.2
  obtain ⟨q1, q2⟩ := q_last hs hB.2.2.1 hx hm
  have h1 : (q_F M).idxOf x < (q_F M).length := List.idxOf_lt_length_of_mem hx
  have hl := hB.2.1
  have r3 := hM.2.2.2.2.1
  simp (disch := omega) only [e_let, e_call, e_cal0, e_bind, e_lit, e_ofN, e_neg, nI_add, pk_mul, e_sub, e_ldi, e_sti, e_ldj, e_stj, e_le_t, e_le_f, e_lt_t, e_lt_f, e_eq_t, e_eq_f, e_no_eq, e_no_eq', e_no_rfl, e_no_lt, e_no_le, e_le_no, e_lt_no, if_true, if_false, ↓reduceIte, e_rs, e_rq, e_rn, e_ji, e_ki, e_ij, e_kj, e_js, e_jq, e_jn, e_cs, e_cq, e_jc, e_kc, e_js', e_jcq, e_icj, e_kcj, or_true, true_or, or_false, false_or, and_true, true_and, not_true_eq_false, not_false_eq_true, f_X12_latestRoom, r3]
  exact j_latl hM hl hB.2.2.2.1 (hB.2.2.2.1 x hx) q1 rfl q2 _ _ m_fu (show (q_F M).idxOf x + ((q_F M).length - 1 - (q_F M).idxOf x) = (q_F M).length - 1 by omega) (by omega) (by omega)
/-! a room is freed -/
def r_fI (N : Nat → Int32) (M : qM) (x : Nat × Nat) (F' : List (Nat × Nat)) (k : Nat) (N' : Nat → Int32) : Prop :=
  (∀ t, t ≠ 213 → t < 893 ∨ 1293 ≤ t → N' t = N t) ∧ N' 213 = nI (fb_ct (q_mid M x k) 200) ∧
  (∀ c, c < 200 → c < k → N' (893 + c) = q_rg (q_nw M x c) ∧ ∀ y, q_nw M x c = some y → N' (1093 + c) = nI (F'.idxOf y)) ∧
  (∀ c, c < 200 → k ≤ c → N' (893 + c) = q_rg (q_ce M c) ∧ ∀ y, q_ce M c = some y → N' (1093 + c) = nI ((q_F M).idxOf y))
theorem j_frl {x : Nat × Nat} {A B : List (Nat × Nat)} (hl : (q_F M).length ≤ 312) (hr : ∀ x, x ∈ q_F M → x.2 < 24) (hx : x ∈ q_F M) (hm : ∀ c y, c < 200 → q_ce M c = some y → y ∈ q_F M)
    (hix : ∀ y, y ∈ q_F M → y ≠ x → ((q_F M).idxOf y < (q_F M).idxOf x ∧ (A ++ B).idxOf y = (q_F M).idxOf y) ∨ ((q_F M).idxOf x < (q_F M).idxOf y ∧ (A ++ B).idxOf y = (q_F M).idxOf y - 1)) :
    ∀ (d k fu : Nat) (T' : m_M), k + d = 200 → d < fu → r_fI (m_ri T (m + 2)) M x (A ++ B) k (m_ri T' (m + 2)) → r_O m T T' →
    ∃ T'', r_fI (m_ri T (m + 2)) M x (A ++ B) 200 (m_ri T'' (m + 2)) ∧ r_O m T T'' ∧ b_X12_freeRoom_2 m fu T' (nI ((q_F M).idxOf x)) (nI k) = b_X12_freeRoom_2 m (fu - d) T'' (nI ((q_F M).idxOf x)) (nI 200) := by
  have ht := List.idxOf_lt_length_of_mem hx
  intro d
  induction d with
  | zero =>
    intro k fu T' hk hf hI hO
    have hk : k = 200 := hk
    subst hk
    exact ⟨T', hI, hO, rfl⟩
  | succ d ih =>
    intro k fu T' hk hf hI hO
    obtain ⟨fu, rfl⟩ : ∃ f, fu = f + 1 := ⟨fu - 1, by omega⟩
    obtain ⟨i1, i2, i3, i4⟩ := hI
    have hk2 : k < 200 := by omega
    obtain ⟨hv, hw⟩ := i4 k hk2 (Nat.le_refl _)
    have hs := q_mid_s (M := M) (x := x) hk2
    have hc2 : fb_ct (q_mid M x k) 200 ≤ 200 := fb_ct_le _ _
    rw [show fu + 1 - (d + 1) = fu - d by omega]
    cases hce : q_ce M k with
    | none =>
      have hnw : q_nw M x k = none := by simp only [q_nw, hce]; rw [if_neg (by intro h; cases h)]
      rw [hce] at hv
      rw [hce, hnw] at hs
      have hv : m_ri T' (m + 2) (893 + k) = m_no := hv
      simp only [Option.isSome_none, Bool.false_eq_true, if_false] at hs
      obtain ⟨T'', g1, g0, g2⟩ := ih (k + 1) fu T' (by omega) (by omega) ⟨i1, by rw [i2]; exact congrArg nI (by omega), fun c hc hck => by
        by_cases hck' : c = k
        · subst hck'; rw [hnw]; exact ⟨hv, fun y hy => by cases hy⟩
        · exact i3 c hc (by omega), fun c hc hck => i4 c hc (by omega)⟩ hO
      refine ⟨T'', g1, g0, ?_⟩
      rw [← g2]
      simp (disch := omega) only [e_let, e_call, e_cal0, e_bind, e_lit, e_ofN, e_neg, nI_add, pk_mul, e_sub, e_ldi, e_sti, e_ldj, e_stj, e_le_t, e_le_f, e_lt_t, e_lt_f, e_eq_t, e_eq_f, e_no_eq, e_no_eq', e_no_rfl, e_no_lt, e_no_le, e_le_no, e_lt_no, if_true, if_false, ↓reduceIte, e_rs, e_rq, e_rn, e_ji, e_ki, e_ij, e_kj, e_js, e_jq, e_jn, e_cs, e_cq, e_jc, e_kc, e_js', e_jcq, e_icj, e_kcj, or_true, true_or, or_false, false_or, and_true, true_and, not_true_eq_false, not_false_eq_true, b_X12_freeRoom_2, hv, b_X12_freeRoom_105]
    | some y =>
      rw [hce] at hv
      have hv : m_ri T' (m + 2) (893 + k) = nI y.2 := hv
      have hw := hw y hce
      have hy := hm k y hk2 hce
      have hy24 := hr y hy
      have hyl := List.idxOf_lt_length_of_mem hy
      by_cases hyx : y = x
      · subst hyx
        have hnw : q_nw M y k = none := by simp only [q_nw, hce, if_true]
        rw [hce, hnw] at hs
        simp only [Option.isSome_none, Option.isSome_some, Bool.false_eq_true, if_false, if_true] at hs
        obtain ⟨T'', g1, g0, g2⟩ := ih (k + 1) fu (m_si (m_si (m_si T' (m + 2) (893 + k) m_no) (m + 2) (1093 + k) (nI 0)) (m + 2) 213 (nI (fb_ct (q_mid M y k) 200 - 1))) (by omega) (by omega) (by
          rw [e_row, e_row, e_row]
          refine ⟨fun t h1 h2 => by rw [e_un h1, e_un (by omega), e_un (by omega)]; exact i1 t h1 h2, by rw [e_up]; exact congrArg nI (by omega), fun c hc hck => ?_, fun c hc hck => ?_⟩
          · by_cases hck' : c = k
            · subst hck'; rw [hnw, e_un (by omega), e_un (by omega), e_up]; exact ⟨rfl, fun y hy => by cases hy⟩
            · rw [e_un (by omega), e_un (by omega), e_un (by omega), e_un (by omega), e_un (by omega), e_un (by omega)]; exact i3 c hc (by omega)
          · rw [e_un (by omega), e_un (by omega), e_un (by omega), e_un (by omega), e_un (by omega), e_un (by omega)]; exact i4 c hc (by omega)) (((hO.now (by omega) (by omega)).now (by omega) (by omega)).now (by omega) (by omega))
        refine ⟨T'', g1, g0, ?_⟩
        rw [← g2]
        simp (disch := omega) only [e_let, e_call, e_cal0, e_bind, e_lit, e_ofN, e_neg, nI_add, pk_mul, e_sub, e_ldi, e_sti, e_ldj, e_stj, e_le_t, e_le_f, e_lt_t, e_lt_f, e_eq_t, e_eq_f, e_no_eq, e_no_eq', e_no_rfl, e_no_lt, e_no_le, e_le_no, e_lt_no, if_true, if_false, ↓reduceIte, e_rs, e_rq, e_rn, e_ji, e_ki, e_ij, e_kj, e_js, e_jq, e_jn, e_cs, e_cq, e_jc, e_kc, e_js', e_jcq, e_icj, e_kcj, or_true, true_or, or_false, false_or, and_true, true_and, not_true_eq_false, not_false_eq_true, b_X12_freeRoom_2, hv, hw, b_X12_freeRoom_105, i2]
      · have hnw : q_nw M x k = some y := by simp only [q_nw, hce]; rw [if_neg (by intro h; exact hyx (Option.some.inj h))]
        rw [hce, hnw] at hs
        simp only [Option.isSome_some, if_true] at hs
        rcases hix y hy hyx with ⟨h1, h2⟩ | ⟨h1, h2⟩
        · obtain ⟨T'', g1, g0, g2⟩ := ih (k + 1) fu T' (by omega) (by omega) ⟨i1, by rw [i2]; exact congrArg nI (by omega), fun c hc hck => by
            by_cases hck' : c = k
            · subst hck'; rw [hnw]; exact ⟨hv, fun y' hy' => by cases hy'; rw [hw]; exact congrArg nI h2.symm⟩
            · exact i3 c hc (by omega), fun c hc hck => i4 c hc (by omega)⟩ hO
          refine ⟨T'', g1, g0, ?_⟩
          rw [← g2]
          simp (disch := omega) only [e_let, e_call, e_cal0, e_bind, e_lit, e_ofN, e_neg, nI_add, pk_mul, e_sub, e_ldi, e_sti, e_ldj, e_stj, e_le_t, e_le_f, e_lt_t, e_lt_f, e_eq_t, e_eq_f, e_no_eq, e_no_eq', e_no_rfl, e_no_lt, e_no_le, e_le_no, e_lt_no, if_true, if_false, ↓reduceIte, e_rs, e_rq, e_rn, e_ji, e_ki, e_ij, e_kj, e_js, e_jq, e_jn, e_cs, e_cq, e_jc, e_kc, e_js', e_jcq, e_icj, e_kcj, or_true, true_or, or_false, false_or, and_true, true_and, not_true_eq_false, not_false_eq_true, b_X12_freeRoom_2, hv, hw, b_X12_freeRoom_105]
        · obtain ⟨T'', g1, g0, g2⟩ := ih (k + 1) fu (m_si T' (m + 2) (1093 + k) (nI ((q_F M).idxOf y - 1))) (by omega) (by omega) (by
            rw [e_row]
            refine ⟨fun t h1 h2 => by rw [e_un (by omega)]; exact i1 t h1 h2, by rw [e_un (by omega), i2]; exact congrArg nI (by omega), fun c hc hck => ?_, fun c hc hck => ?_⟩
            · by_cases hck' : c = k
              · subst hck'; rw [hnw, e_un (by omega), e_up]; exact ⟨hv, fun y' hy' => by cases hy'; exact congrArg nI h2.symm⟩
              · rw [e_un (by omega), e_un (by omega)]; exact i3 c hc (by omega)
            · rw [e_un (by omega), e_un (by omega)]; exact i4 c hc (by omega)) (hO.now (by omega) (by omega))
          refine ⟨T'', g1, g0, ?_⟩
          rw [← g2]
          simp (disch := omega) only [e_let, e_call, e_cal0, e_bind, e_lit, e_ofN, e_neg, nI_add, pk_mul, e_sub, e_ldi, e_sti, e_ldj, e_stj, e_le_t, e_le_f, e_lt_t, e_lt_f, e_eq_t, e_eq_f, e_no_eq, e_no_eq', e_no_rfl, e_no_lt, e_no_le, e_le_no, e_lt_no, if_true, if_false, ↓reduceIte, e_rs, e_rq, e_rn, e_ji, e_ki, e_ij, e_kj, e_js, e_jq, e_jn, e_cs, e_cq, e_jc, e_kc, e_js', e_jcq, e_icj, e_kcj, or_true, true_or, or_false, false_or, and_true, true_and, not_true_eq_false, not_false_eq_true, b_X12_freeRoom_2, hv, hw, b_X12_freeRoom_105]
/-- rooms come one place ahead -/
theorem j_shift {n t : Nat} (hn : n < 312) : ∀ (d j fu : Nat) (T' : m_M), j + d = n → d < fu → t ≤ j → m_ri T' (m + 2) 214 = nI n → (∀ s, s < 2093 + t ∨ 2093 + 312 ≤ s → m_ri T' (m + 2) s = m_ri T (m + 2) s) → (∀ s, t ≤ s → s < j → m_ri T' (m + 2) (2093 + s) = m_ri T (m + 2) (2093 + s + 1)) → (∀ s, j ≤ s → s < 312 → m_ri T' (m + 2) (2093 + s) = m_ri T (m + 2) (2093 + s)) → r_O m T T' →
    ∃ T'', b_X12_freeRoom_125 m fu T' (nI j) = some T'' ∧ r_O m T T'' ∧ (∀ s, s < 2093 + t ∨ 2093 + 312 ≤ s → m_ri T'' (m + 2) s = m_ri T (m + 2) s) ∧ (∀ s, t ≤ s → s < n → m_ri T'' (m + 2) (2093 + s) = m_ri T (m + 2) (2093 + s + 1)) := by
  intro d
  induction d with
  | zero =>
    intro j fu T' hj hf htj h214 h1 h2 h3 hO
    have hj : j = n := hj
    subst hj
    obtain ⟨fu, rfl⟩ : ∃ f, fu = f + 1 := ⟨fu - 1, by omega⟩
    refine ⟨T', ?_, hO, h1, h2⟩
    simp (disch := omega) only [e_let, e_call, e_cal0, e_bind, e_lit, e_ofN, e_neg, nI_add, pk_mul, e_sub, e_ldi, e_sti, e_ldj, e_stj, e_le_t, e_le_f, e_lt_t, e_lt_f, e_eq_t, e_eq_f, e_no_eq, e_no_eq', e_no_rfl, e_no_lt, e_no_le, e_le_no, e_lt_no, if_true, if_false, ↓reduceIte, e_rs, e_rq, e_rn, e_ji, e_ki, e_ij, e_kj, e_js, e_jq, e_jn, e_cs, e_cq, e_jc, e_kc, e_js', e_jcq, e_icj, e_kcj, or_true, true_or, or_false, false_or, and_true, true_and, not_true_eq_false, not_false_eq_true, b_X12_freeRoom_125, h214]
  | succ d ih =>
    intro j fu T' hj hf htj h214 h1 h2 h3 hO
    obtain ⟨fu, rfl⟩ : ∃ f, fu = f + 1 := ⟨fu - 1, by omega⟩
    have h3' := h3 (j + 1) (by omega) (by omega)
    obtain ⟨T'', g1, g2, g3, g4⟩ := ih (j + 1) fu (m_si T' (m + 2) (2093 + j) (m_ri T' (m + 2) (2093 + j + 1))) (by omega) (by omega) (by omega) (by rw [e_rn (by omega)]; exact h214) (fun s hs => by rw [e_rn (by omega)]; exact h1 s hs) (fun s hs1 hs2 => by
      by_cases hsj : s = j
      · subst hsj; rw [e_rs]; exact h3'
      · rw [e_rn (by omega)]; exact h2 s hs1 (by omega)) (fun s hs1 hs2 => by rw [e_rn (by omega)]; exact h3 s (by omega) hs2) (hO.now (by omega) (by omega))
    refine ⟨T'', ?_, g2, g3, g4⟩
    rw [← g1]
    simp (disch := omega) only [e_let, e_call, e_cal0, e_bind, e_lit, e_ofN, e_neg, nI_add, pk_mul, e_sub, e_ldi, e_sti, e_ldj, e_stj, e_le_t, e_le_f, e_lt_t, e_lt_f, e_eq_t, e_eq_f, e_no_eq, e_no_eq', e_no_rfl, e_no_lt, e_no_le, e_le_no, e_lt_no, if_true, if_false, ↓reduceIte, e_rs, e_rq, e_rn, e_ji, e_ki, e_ij, e_kj, e_js, e_jq, e_jn, e_cs, e_cq, e_jc, e_kc, e_js', e_jcq, e_icj, e_kcj, or_true, true_or, or_false, false_or, and_true, true_and, not_true_eq_false, not_false_eq_true, b_X12_freeRoom_125, h214]
theorem j_free1 {x : Nat × Nat} (hM : r_R (m_ri T (m + 2)) M) (hB : q_B P M) (hx : x ∈ q_F M) : ∃ T', f_X12_freeRoom m T (nI ((q_F M).idxOf x)) = some T' ∧ r_R (m_ri T' (m + 2)) (q_fr1 M x) ∧ r_O m T T' := by
  have hf := m_fu_ge
  have hl := hB.2.1
  have hm := hB.2.2.2.2.2.1
  obtain ⟨A, B, hF, hA, hfl, hix⟩ := q_split hB.2.2.1 hx
  have ht := List.idxOf_lt_length_of_mem hx
  obtain ⟨r_s0, r_s1, r_s2, r_s4, r_sF, r_s5, r_s6, r_s7, r_s8, r_g, r_gv, r_ff, r_fl, r_kd, r_vl, r_rm, r_cr, r_cx, r_sk, r_sv⟩ := hM
  obtain ⟨T2, g1, g0, g2⟩ := j_frl (T := T) (m := m) hl hB.2.2.2.1 hx hm hix 200 0 m_fu T (by omega) (by omega) ⟨fun _ _ _ => rfl, by
    rw [r_s4, hB.2.2.2.2.2.2.1]; exact congrArg nI (fb_ct_cong (fun k _ => by simp only [q_mid]; rw [if_neg (by omega)])), fun c hc h => by omega, fun c hc _ => ⟨r_cr c hc, fun y hy => r_cx c y hc hy⟩⟩ r_O.rf
  obtain ⟨i1, i2, i3, -⟩ := g1
  obtain ⟨u, hu⟩ : ∃ u, m_fu - 200 = u + 1 := ⟨m_fu - 201, by omega⟩
  rw [hu] at g2
  have r3' : m_ri T2 (m + 2) 214 = nI (q_F M).length := by rw [i1 214 (by omega) (by omega)]; exact r_sF
  have hlen : (q_F M).length = A.length + B.length + 1 := by rw [hF]; simp; omega
  obtain ⟨T3, s1, s2, s3, s4⟩ := j_shift (T := m_si T2 (m + 2) 214 (nI ((q_F M).length - 1))) (m := m) (n := (q_F M).length - 1) (t := (q_F M).idxOf x) (by omega) ((q_F M).length - 1 - (q_F M).idxOf x) ((q_F M).idxOf x) m_fu _ (by omega) (by omega) (by omega) (by rw [e_rs]) (fun _ _ => rfl) (fun s h1 h2 => by omega) (fun _ _ _ => rfl) r_O.rf
  have hlow : ∀ t, t ≠ 213 → t ≠ 214 → (t < 893 ∨ 1293 ≤ t) → (t < 2093 + (q_F M).idxOf x ∨ 2405 ≤ t) → m_ri T3 (m + 2) t = m_ri T (m + 2) t := fun t h1 h2 h3 h4 => by
    rw [s3 t (by omega), e_rn h2]; exact i1 t h1 h3
  refine ⟨T3, ?_, ?_, (g0.now (by omega) (by omega)).tr s2⟩
  · simp (disch := omega) only [e_let, e_call, e_cal0, e_bind, e_lit, e_ofN, e_neg, nI_add, pk_mul, e_sub, e_ldi, e_sti, e_ldj, e_stj, e_le_t, e_le_f, e_lt_t, e_lt_f, e_eq_t, e_eq_f, e_no_eq, e_no_eq', e_no_rfl, e_no_lt, e_no_le, e_le_no, e_lt_no, if_true, if_false, ↓reduceIte, e_rs, e_rq, e_rn, e_ji, e_ki, e_ij, e_kj, e_js, e_jq, e_jn, e_cs, e_cq, e_jc, e_kc, e_js', e_jcq, e_icj, e_kcj, or_true, true_or, or_false, false_or, and_true, true_and, not_true_eq_false, not_false_eq_true, f_X12_freeRoom]
    rw [g2]
    simp (disch := omega) only [e_let, e_call, e_cal0, e_bind, e_lit, e_ofN, e_neg, nI_add, pk_mul, e_sub, e_ldi, e_sti, e_ldj, e_stj, e_le_t, e_le_f, e_lt_t, e_lt_f, e_eq_t, e_eq_f, e_no_eq, e_no_eq', e_no_rfl, e_no_lt, e_no_le, e_le_no, e_lt_no, if_true, if_false, ↓reduceIte, e_rs, e_rq, e_rn, e_ji, e_ki, e_ij, e_kj, e_js, e_jq, e_jn, e_cs, e_cq, e_jc, e_kc, e_js', e_jcq, e_icj, e_kcj, or_true, true_or, or_false, false_or, and_true, true_and, not_true_eq_false, not_false_eq_true, b_X12_freeRoom_2, r3']
    exact s1
  · have hsc : ∀ j, j ≠ 4 → q_sc (q_fr1 M x) j = q_sc M j := fun j hj => va_up_ne (q_sc M) _ hj
    refine ⟨?_, ?_, ?_, ?_, ?_, ?_, ?_, ?_, ?_, ?_, fun h0 => ?_, fun k hk h12 => ?_, fun k hk h12 => ?_, fun k v hk h12 hv => ?_, fun k v hk h12 hv => ?_, fun i y hi hy => ?_, fun c hc => ?_, fun c y hc hy => ?_, fun c s hc hs hl => ?_, fun c s hc hs hl => ?_⟩
    · rw [hsc 0 (by omega), hlow _ (by omega) (by omega) (by omega) (by omega)]; exact r_s0
    · rw [hsc 1 (by omega), hlow _ (by omega) (by omega) (by omega) (by omega)]; exact r_s1
    · rw [hsc 2 (by omega), hlow _ (by omega) (by omega) (by omega) (by omega)]; exact r_s2
    · rw [s3 213 (by omega), e_rn (by omega), i2]
      show _ = nI (va_up (q_sc M) 4 _ 4)
      rw [va_up_self]
      exact congrArg nI (fb_ct_cong (fun c hc => by simp only [q_mid, q_nw]; rw [if_pos hc]))
    · rw [s3 214 (by omega), e_rs]
      show _ = nI ((q_F M).filter (fun y => decide (y ≠ x))).length
      rw [hfl, List.length_append]; exact congrArg nI (by omega)
    · rw [hsc 5 (by omega), hlow _ (by omega) (by omega) (by omega) (by omega)]; exact r_s5
    · rw [hsc 6 (by omega), hlow _ (by omega) (by omega) (by omega) (by omega)]; exact r_s6
    · rw [hsc 7 (by omega), hlow _ (by omega) (by omega) (by omega) (by omega)]; exact r_s7
    · rw [hsc 8 (by omega), hlow _ (by omega) (by omega) (by omega) (by omega)]; exact r_s8
    · rw [hsc 0 (by omega), hsc 9 (by omega), hlow _ (by omega) (by omega) (by omega) (by omega)]; exact r_g
    · rw [hsc 0 (by omega)] at h0; rw [hlow _ (by omega) (by omega) (by omega) (by omega)]; exact r_gv h0
    · rw [hsc 2 (by omega)] at hk; rw [hlow _ (by omega) (by omega) (by omega) (by omega)]; exact r_ff k hk h12
    · rw [hsc 2 (by omega)] at hk; rw [hlow _ (by omega) (by omega) (by omega) (by omega)]; exact r_fl k hk h12
    · rw [hsc 2 (by omega)] at hk; rw [hlow _ (by omega) (by omega) (by omega) (by omega)]; exact r_kd k v hk h12 hv
    · rw [hsc 2 (by omega)] at hk; rw [hlow _ (by omega) (by omega) (by omega) (by omega)]; exact r_vl k v hk h12 hv
    · have hy : ((q_F M).filter (fun y => decide (y ≠ x)))[i]? = some y := hy
      rw [hfl] at hy
      by_cases hi' : i < A.length
      · rw [hlow _ (by omega) (by omega) (by omega) (by omega)]
        refine r_rm i y hi ?_
        rw [hF, List.getElem?_append_left hi']
        rw [List.getElem?_append_left hi'] at hy; exact hy
      · have hil : i < (A ++ B).length := (List.getElem?_eq_some_iff.mp hy).1
        rw [List.length_append] at hil
        rw [s4 i (by omega) (by omega), e_rn (by omega), i1 _ (by omega) (by omega)]
        refine r_rm (i + 1) y (by omega) ?_
        rw [hF, List.getElem?_append_right (by omega)]
        rw [List.getElem?_append_right (by omega)] at hy
        rw [show i + 1 - A.length = (i - A.length) + 1 by omega, List.getElem?_cons_succ]; exact hy
    · rw [s3 _ (by omega), e_rn (by omega)]; exact (i3 c hc hc).1
    · rw [s3 _ (by omega), e_rn (by omega)]
      have := (i3 c hc hc).2 y hy
      rw [this]
      show _ = nI (((q_F M).filter (fun y => decide (y ≠ x))).idxOf y)
      rw [hfl]
    · have hl : q_nw M x c ≠ none := hl
      rw [hlow _ (by omega) (by omega) (by omega) (by omega)]; exact r_sk c s hc hs (fun q => hl (by simp only [q_nw, q]; rfl))
    · have hl : q_nw M x c ≠ none := hl
      rw [hlow _ (by omega) (by omega) (by omega) (by omega)]; exact r_sv c s hc hs (fun q => hl (by simp only [q_nw, q]; rfl))
end RL
