/-! why a line stops all, whether it calls: the one side -/
section QS
variable {S : m_M} {a p : Nat} {P : pP} {D : pD} {M : qM} {f i : Nat}
theorem p_sl_ne {l s : Nat} (h : p_op P l ≠ 9) : p_sl P l s = s := by simp only [p_sl]; rw [if_neg h]
theorem p_sl_c {l : Nat} (h : p_op P l = 9) : p_sl P l (p_pa P (p_ca P l)) = 0 := by unfold p_sl; rw [if_pos h, if_neg (by omega), if_pos rfl]
theorem p_sl_e {l : Nat} (h : p_op P l = 9) : p_sl P l (p_pa P (p_ca P l) + 1) = 4 := by unfold p_sl; rw [if_pos h, if_neg (by omega), if_neg (by omega), if_pos rfl]
theorem p_sl_a {l s : Nat} (h : p_op P l = 9) (hs : s < p_pa P (p_ca P l)) : p_sl P l s = s + 1 := by simp only [p_sl]; rw [if_pos h, if_pos hs]
theorem p_ex_2 {n : Nat} (h : 2 ≤ n) : p_ex n = n := by simp only [p_ex]; rw [if_neg (by omega), if_neg (by omega)]
theorem p_us_c {l : Nat} (h : p_op P l = 9) : p_us P l 0 := by simp only [p_us, h, true_or]
theorem p_us_e {l : Nat} (h : p_op P l = 9) : p_us P l 4 := by simp only [p_us, h, or_true]
theorem p_us_a {l s : Nat} (h : p_op P l = 9) (hs : s < p_pa P (p_ca P l)) : p_us P l (s + 1) := by simp only [p_us, h]; exact Or.inr (Or.inl (by omega))
theorem p_us_0 {l : Nat} (h : p_op P l = 1 ∨ p_op P l = 2 ∨ p_op P l = 3 ∨ p_op P l = 4 ∨ p_op P l = 5 ∨ p_op P l = 6 ∨ p_op P l = 7) : p_us P l 0 := by
  rcases h with h | h | h | h | h | h | h <;> simp only [p_us, h] <;> omega
theorem p_us_1 {l : Nat} (h : p_op P l = 2 ∨ p_op P l = 5 ∨ p_op P l = 6 ∨ p_op P l = 7) : p_us P l 1 := by
  rcases h with h | h | h | h <;> simp only [p_us, h] <;> omega
theorem p_us_2 {l : Nat} (h : p_op P l = 7) : p_us P l 2 := by simp only [p_us, h]; omega
theorem p_us_8 {l s : Nat} (h : p_op P l = 8) (hs : s < p_pa P (p_ca P l)) : p_us P l s := by simp only [p_us, h]; exact hs
theorem k_callsNow (C : q_P S a p P D) (hM : q_R S a M) (T : q_top P M f i) : f_X2_callsNow a p S (nI (p_fi P f + i)) = some (nI (if q_cl P M (p_fi P f + i) = true then 1 else 0), S) := by
  have T' := T
  obtain ⟨t1, t2, t3, t4, t5, t6, t7⟩ := T
  have h1 := C.2.1.line t5 t6
  have h2 := C.2.1.2.2.2.2 f i t5 t6
  have h3 := (C.2.2.1.2.2.2.2.2 f i t5 t6).1
  by_cases h9 : p_op P (p_fi P f + i) = 9
  · rw [h9, p_ex_2 (by omega)] at h3
    have h4 := C.2.1.2.2.1 _ (h2.2.2.1 (by omega))
    have h5 := k_valueAt (s := p_pa P (p_ca P (p_fi P f + i))) C hM T' (by omega) (by rw [p_sl_c h9]; exact p_us_c h9)
    rw [p_sl_c h9] at h5
    have h6 := k_argumentCount C t5 t6 (by omega)
    by_cases hv : q_V P M (p_fi P f + i) 0 = nI 0
    · have hc : q_cl P M (p_fi P f + i) = false := by simp only [q_cl, h9]; rw [hv]; rfl
      simp (disch := omega) only [e_let, e_call, e_cal0, e_bind, e_lit, e_ofN, e_neg, nI_add, pk_mul, e_sub, e_ldi, e_sti, e_ldj, e_stj, e_le_t, e_le_f, e_lt_t, e_lt_f, e_eq_t, e_eq_f, e_no_eq, e_no_eq', e_no_rfl, e_no_lt, e_no_le, e_le_no, e_lt_no, if_true, if_false, ↓reduceIte, e_rs, e_rq, e_rn, e_ji, e_ki, e_ij, e_kj, e_js, e_jq, e_jn, e_cs, e_cq, e_jc, e_kc, e_js', e_jcq, e_icj, e_kcj, or_true, true_or, or_false, false_or, and_true, true_and, not_true_eq_false, not_false_eq_true, f_X2_callsNow, h3, f_X3_conditionSlot, h6, h5, hv, b_X2_callsNow_30, hc, Bool.false_eq_true]
    · have hc : q_cl P M (p_fi P f + i) = true := by
        simp only [q_cl, h9, decide_true, Bool.true_and]
        rw [show (decide (q_V P M (p_fi P f + i) 0 ≠ 0)) = true from decide_eq_true hv]; rfl
      simp (disch := omega) only [e_let, e_call, e_cal0, e_bind, e_lit, e_ofN, e_neg, nI_add, pk_mul, e_sub, e_ldi, e_sti, e_ldj, e_stj, e_le_t, e_le_f, e_lt_t, e_lt_f, e_eq_t, e_eq_f, e_no_eq, e_no_eq', e_no_rfl, e_no_lt, e_no_le, e_le_no, e_lt_no, if_true, if_false, ↓reduceIte, e_rs, e_rq, e_rn, e_ji, e_ki, e_ij, e_kj, e_js, e_jq, e_jn, e_cs, e_cq, e_jc, e_kc, e_js', e_jcq, e_icj, e_kcj, or_true, true_or, or_false, false_or, and_true, true_and, not_true_eq_false, not_false_eq_true, f_X2_callsNow, h3, f_X3_conditionSlot, h6, h5, hv, b_X2_callsNow_30, hc]
  · have hx : p_ex (p_op P (p_fi P f + i)) ≠ 9 ∧ p_ex (p_op P (p_fi P f + i)) < 100 ∧ (p_ex (p_op P (p_fi P f + i)) = 8 ↔ p_op P (p_fi P f + i) = 8) := by
      simp only [p_ex]; split <;> (try split) <;> omega
    by_cases h8 : p_op P (p_fi P f + i) = 8
    · have hc : q_cl P M (p_fi P f + i) = true := by simp only [q_cl, h8, decide_true, Bool.true_or]
      rw [h8, p_ex_2 (by omega)] at h3
      simp (disch := omega) only [e_let, e_call, e_cal0, e_bind, e_lit, e_ofN, e_neg, nI_add, pk_mul, e_sub, e_ldi, e_sti, e_ldj, e_stj, e_le_t, e_le_f, e_lt_t, e_lt_f, e_eq_t, e_eq_f, e_no_eq, e_no_eq', e_no_rfl, e_no_lt, e_no_le, e_le_no, e_lt_no, if_true, if_false, ↓reduceIte, e_rs, e_rq, e_rn, e_ji, e_ki, e_ij, e_kj, e_js, e_jq, e_jn, e_cs, e_cq, e_jc, e_kc, e_js', e_jcq, e_icj, e_kcj, or_true, true_or, or_false, false_or, and_true, true_and, not_true_eq_false, not_false_eq_true, f_X2_callsNow, h3, hc, b_X2_callsNow_47]
    · have hc : q_cl P M (p_fi P f + i) = false := by simp only [q_cl, h8, h9, decide_false, Bool.false_or, Bool.false_and]
      simp (disch := omega) only [e_let, e_call, e_cal0, e_bind, e_lit, e_ofN, e_neg, nI_add, pk_mul, e_sub, e_ldi, e_sti, e_ldj, e_stj, e_le_t, e_le_f, e_lt_t, e_lt_f, e_eq_t, e_eq_f, e_no_eq, e_no_eq', e_no_rfl, e_no_lt, e_no_le, e_le_no, e_lt_no, if_true, if_false, ↓reduceIte, e_rs, e_rq, e_rn, e_ji, e_ki, e_ij, e_kj, e_js, e_jq, e_jn, e_cs, e_cq, e_jc, e_kc, e_js', e_jcq, e_icj, e_kcj, or_true, true_or, or_false, false_or, and_true, true_and, not_true_eq_false, not_false_eq_true, f_X2_callsNow, h3, hc, b_X2_callsNow_47, Bool.false_eq_true]
theorem k_hasPair (C : q_P S a p P D) (hM : q_R S a M) (T : q_top P M f i) : f_X2_hasPairForNumber a p S (nI (p_fi P f + i)) = some (nI (if ((p_op P (p_fi P f + i) = 5 ∨ p_op P (p_fi P f + i) = 6) ∧ (q_K P M (p_fi P f + i) 0 = 2 ∨ q_K P M (p_fi P f + i) 1 = 2)) ∨ ((p_op P (p_fi P f + i) = 7 ∨ p_op P (p_fi P f + i) = 9) ∧ q_K P M (p_fi P f + i) 0 = 2) then 1 else 0), S) := by
  have T' := T
  obtain ⟨t1, t2, t3, t4, t5, t6, t7⟩ := T
  have h1 := C.2.1.line t5 t6
  have h2 := C.2.1.2.2.2.2 f i t5 t6
  have h3 := (C.2.2.1.2.2.2.2.2 f i t5 t6).1
  have hk : ∀ k, q_K P M (p_fi P f + i) k ≤ 2 := fun k => t7 _
  by_cases h9 : p_op P (p_fi P f + i) = 9
  · rw [h9, p_ex_2 (by omega)] at h3
    have h4 := C.2.1.2.2.1 _ (h2.2.2.1 (by omega))
    have h5 := k_kindAt (s := p_pa P (p_ca P (p_fi P f + i))) C hM T' (by omega) (by rw [p_sl_c h9]; exact p_us_c h9)
    rw [p_sl_c h9] at h5
    have h6 := k_argumentCount C t5 t6 (by omega)
    have hk0 := hk 0
    by_cases hv : q_K P M (p_fi P f + i) 0 = 2
    · rw [if_pos (Or.inr ⟨Or.inr h9, hv⟩)]
      rw [hv] at h5
      simp (disch := omega) only [e_let, e_call, e_cal0, e_bind, e_lit, e_ofN, e_neg, nI_add, pk_mul, e_sub, e_ldi, e_sti, e_ldj, e_stj, e_le_t, e_le_f, e_lt_t, e_lt_f, e_eq_t, e_eq_f, e_no_eq, e_no_eq', e_no_rfl, e_no_lt, e_no_le, e_le_no, e_lt_no, if_true, if_false, ↓reduceIte, e_rs, e_rq, e_rn, e_ji, e_ki, e_ij, e_kj, e_js, e_jq, e_jn, e_cs, e_cq, e_jc, e_kc, e_js', e_jcq, e_icj, e_kcj, or_true, true_or, or_false, false_or, and_true, true_and, not_true_eq_false, not_false_eq_true, f_X2_hasPairForNumber, h3, f_X3_conditionSlot, h6, h5, b_X2_hasPairForNumber_105]
    · rw [if_neg (by omega)]
      simp (disch := omega) only [e_let, e_call, e_cal0, e_bind, e_lit, e_ofN, e_neg, nI_add, pk_mul, e_sub, e_ldi, e_sti, e_ldj, e_stj, e_le_t, e_le_f, e_lt_t, e_lt_f, e_eq_t, e_eq_f, e_no_eq, e_no_eq', e_no_rfl, e_no_lt, e_no_le, e_le_no, e_lt_no, if_true, if_false, ↓reduceIte, e_rs, e_rq, e_rn, e_ji, e_ki, e_ij, e_kj, e_js, e_jq, e_jn, e_cs, e_cq, e_jc, e_kc, e_js', e_jcq, e_icj, e_kcj, or_true, true_or, or_false, false_or, and_true, true_and, not_true_eq_false, not_false_eq_true, f_X2_hasPairForNumber, h3, f_X3_conditionSlot, h6, h5, b_X2_hasPairForNumber_105]
  · by_cases h7 : p_op P (p_fi P f + i) = 7
    · rw [h7, p_ex_2 (by omega)] at h3
      have h5 := k_kindAt (s := 0) C hM T' (by omega) (by rw [p_sl_ne h9]; exact p_us_0 (by omega))
      rw [p_sl_ne h9] at h5
      have hk0 := hk 0
      by_cases hv : q_K P M (p_fi P f + i) 0 = 2
      · rw [if_pos (Or.inr ⟨Or.inl h7, hv⟩)]
        rw [hv] at h5
        simp (disch := omega) only [e_let, e_call, e_cal0, e_bind, e_lit, e_ofN, e_neg, nI_add, pk_mul, e_sub, e_ldi, e_sti, e_ldj, e_stj, e_le_t, e_le_f, e_lt_t, e_lt_f, e_eq_t, e_eq_f, e_no_eq, e_no_eq', e_no_rfl, e_no_lt, e_no_le, e_le_no, e_lt_no, if_true, if_false, ↓reduceIte, e_rs, e_rq, e_rn, e_ji, e_ki, e_ij, e_kj, e_js, e_jq, e_jn, e_cs, e_cq, e_jc, e_kc, e_js', e_jcq, e_icj, e_kcj, or_true, true_or, or_false, false_or, and_true, true_and, not_true_eq_false, not_false_eq_true, f_X2_hasPairForNumber, h3, h5, b_X2_hasPairForNumber_84]
      · rw [if_neg (by omega)]
        simp (disch := omega) only [e_let, e_call, e_cal0, e_bind, e_lit, e_ofN, e_neg, nI_add, pk_mul, e_sub, e_ldi, e_sti, e_ldj, e_stj, e_le_t, e_le_f, e_lt_t, e_lt_f, e_eq_t, e_eq_f, e_no_eq, e_no_eq', e_no_rfl, e_no_lt, e_no_le, e_le_no, e_lt_no, if_true, if_false, ↓reduceIte, e_rs, e_rq, e_rn, e_ji, e_ki, e_ij, e_kj, e_js, e_jq, e_jn, e_cs, e_cq, e_jc, e_kc, e_js', e_jcq, e_icj, e_kcj, or_true, true_or, or_false, false_or, and_true, true_and, not_true_eq_false, not_false_eq_true, f_X2_hasPairForNumber, h3, h5, b_X2_hasPairForNumber_84]
    · by_cases h56 : p_op P (p_fi P f + i) = 5 ∨ p_op P (p_fi P f + i) = 6
      · have h5 := k_kindAt (s := 0) C hM T' (by omega) (by rw [p_sl_ne h9]; exact p_us_0 (by omega))
        have h6 := k_kindAt (s := 1) C hM T' (by omega) (by rw [p_sl_ne h9]; exact p_us_1 (by omega))
        rw [p_sl_ne h9] at h5 h6
        have hk0 := hk 0
        have hk1 := hk 1
        have hg : f_X2_hasPairForNumber a p S (nI (p_fi P f + i)) = b_X2_hasPairForNumber_40 a p S (nI (p_fi P f + i)) := by
          rcases h56 with h | h
          · rw [h, p_ex_2 (by omega)] at h3; simp (disch := omega) only [e_let, e_call, e_cal0, e_bind, e_lit, e_ofN, e_neg, nI_add, pk_mul, e_sub, e_ldi, e_sti, e_ldj, e_stj, e_le_t, e_le_f, e_lt_t, e_lt_f, e_eq_t, e_eq_f, e_no_eq, e_no_eq', e_no_rfl, e_no_lt, e_no_le, e_le_no, e_lt_no, if_true, if_false, ↓reduceIte, e_rs, e_rq, e_rn, e_ji, e_ki, e_ij, e_kj, e_js, e_jq, e_jn, e_cs, e_cq, e_jc, e_kc, e_js', e_jcq, e_icj, e_kcj, or_true, true_or, or_false, false_or, and_true, true_and, not_true_eq_false, not_false_eq_true, f_X2_hasPairForNumber, h3]
          · rw [h, p_ex_2 (by omega)] at h3; simp (disch := omega) only [e_let, e_call, e_cal0, e_bind, e_lit, e_ofN, e_neg, nI_add, pk_mul, e_sub, e_ldi, e_sti, e_ldj, e_stj, e_le_t, e_le_f, e_lt_t, e_lt_f, e_eq_t, e_eq_f, e_no_eq, e_no_eq', e_no_rfl, e_no_lt, e_no_le, e_le_no, e_lt_no, if_true, if_false, ↓reduceIte, e_rs, e_rq, e_rn, e_ji, e_ki, e_ij, e_kj, e_js, e_jq, e_jn, e_cs, e_cq, e_jc, e_kc, e_js', e_jcq, e_icj, e_kcj, or_true, true_or, or_false, false_or, and_true, true_and, not_true_eq_false, not_false_eq_true, f_X2_hasPairForNumber, h3]
        rw [hg]
        by_cases hv : q_K P M (p_fi P f + i) 0 = 2
        · rw [if_pos (Or.inl ⟨h56, Or.inl hv⟩)]
          simp (disch := omega) only [e_let, e_call, e_cal0, e_bind, e_lit, e_ofN, e_neg, nI_add, pk_mul, e_sub, e_ldi, e_sti, e_ldj, e_stj, e_le_t, e_le_f, e_lt_t, e_lt_f, e_eq_t, e_eq_f, e_no_eq, e_no_eq', e_no_rfl, e_no_lt, e_no_le, e_le_no, e_lt_no, if_true, if_false, ↓reduceIte, e_rs, e_rq, e_rn, e_ji, e_ki, e_ij, e_kj, e_js, e_jq, e_jn, e_cs, e_cq, e_jc, e_kc, e_js', e_jcq, e_icj, e_kcj, or_true, true_or, or_false, false_or, and_true, true_and, not_true_eq_false, not_false_eq_true, b_X2_hasPairForNumber_40, h5, b_X2_hasPairForNumber_62, b_X2_hasPairForNumber_67]
        · by_cases hv1 : q_K P M (p_fi P f + i) 1 = 2
          · rw [if_pos (Or.inl ⟨h56, Or.inr hv1⟩)]
            simp (disch := omega) only [e_let, e_call, e_cal0, e_bind, e_lit, e_ofN, e_neg, nI_add, pk_mul, e_sub, e_ldi, e_sti, e_ldj, e_stj, e_le_t, e_le_f, e_lt_t, e_lt_f, e_eq_t, e_eq_f, e_no_eq, e_no_eq', e_no_rfl, e_no_lt, e_no_le, e_le_no, e_lt_no, if_true, if_false, ↓reduceIte, e_rs, e_rq, e_rn, e_ji, e_ki, e_ij, e_kj, e_js, e_jq, e_jn, e_cs, e_cq, e_jc, e_kc, e_js', e_jcq, e_icj, e_kcj, or_true, true_or, or_false, false_or, and_true, true_and, not_true_eq_false, not_false_eq_true, b_X2_hasPairForNumber_40, h5, h6, b_X2_hasPairForNumber_62, b_X2_hasPairForNumber_67]
          · rw [if_neg (by omega)]
            simp (disch := omega) only [e_let, e_call, e_cal0, e_bind, e_lit, e_ofN, e_neg, nI_add, pk_mul, e_sub, e_ldi, e_sti, e_ldj, e_stj, e_le_t, e_le_f, e_lt_t, e_lt_f, e_eq_t, e_eq_f, e_no_eq, e_no_eq', e_no_rfl, e_no_lt, e_no_le, e_le_no, e_lt_no, if_true, if_false, ↓reduceIte, e_rs, e_rq, e_rn, e_ji, e_ki, e_ij, e_kj, e_js, e_jq, e_jn, e_cs, e_cq, e_jc, e_kc, e_js', e_jcq, e_icj, e_kcj, or_true, true_or, or_false, false_or, and_true, true_and, not_true_eq_false, not_false_eq_true, b_X2_hasPairForNumber_40, h5, h6, b_X2_hasPairForNumber_62, b_X2_hasPairForNumber_67]
      · rw [if_neg (by omega)]
        have hx : p_ex (p_op P (p_fi P f + i)) ≠ 9 ∧ p_ex (p_op P (p_fi P f + i)) < 100 ∧ p_ex (p_op P (p_fi P f + i)) ≠ 5 ∧ p_ex (p_op P (p_fi P f + i)) ≠ 6 ∧ p_ex (p_op P (p_fi P f + i)) ≠ 7 := by
          simp only [p_ex]; split <;> (try split) <;> omega
        by_cases h8 : p_ex (p_op P (p_fi P f + i)) = 8
        · simp (disch := omega) only [e_let, e_call, e_cal0, e_bind, e_lit, e_ofN, e_neg, nI_add, pk_mul, e_sub, e_ldi, e_sti, e_ldj, e_stj, e_le_t, e_le_f, e_lt_t, e_lt_f, e_eq_t, e_eq_f, e_no_eq, e_no_eq', e_no_rfl, e_no_lt, e_no_le, e_le_no, e_lt_no, if_true, if_false, ↓reduceIte, e_rs, e_rq, e_rn, e_ji, e_ki, e_ij, e_kj, e_js, e_jq, e_jn, e_cs, e_cq, e_jc, e_kc, e_js', e_jcq, e_icj, e_kcj, or_true, true_or, or_false, false_or, and_true, true_and, not_true_eq_false, not_false_eq_true, f_X2_hasPairForNumber, h3, b_X2_hasPairForNumber_106]
        · simp (disch := omega) only [e_let, e_call, e_cal0, e_bind, e_lit, e_ofN, e_neg, nI_add, pk_mul, e_sub, e_ldi, e_sti, e_ldj, e_stj, e_le_t, e_le_f, e_lt_t, e_lt_f, e_eq_t, e_eq_f, e_no_eq, e_no_eq', e_no_rfl, e_no_lt, e_no_le, e_le_no, e_lt_no, if_true, if_false, ↓reduceIte, e_rs, e_rq, e_rn, e_ji, e_ki, e_ij, e_kj, e_js, e_jq, e_jn, e_cs, e_cq, e_jc, e_kc, e_js', e_jcq, e_icj, e_kcj, or_true, true_or, or_false, false_or, and_true, true_and, not_true_eq_false, not_false_eq_true, f_X2_hasPairForNumber, h3, b_X2_hasPairForNumber_106]
theorem k_stop_73 (hM : q_R S a M) (hc : q_sc M 4 ≤ 200) (hs : q_sc M 6 ≤ 5001) {x : Nat} (hx : x < 100) : b_X2_stopReason_73 a p S (nI x) = some (nI (if x = 2 ∧ 200 ≤ q_sc M 4 then 4 else if 5000 ≤ q_sc M 6 then 5 else 0), S) := by
  have h4 := hM.1 4 (by omega) (by omega) (by omega)
  have h6 := hM.1 6 (by omega) (by omega) (by omega)
  have h91 : b_X2_stopReason_91 a p S = some (nI (if 5000 ≤ q_sc M 6 then 5 else 0), S) := by
    by_cases hq : 5000 ≤ q_sc M 6
    · rw [if_pos hq]; simp (disch := omega) only [e_let, e_call, e_cal0, e_bind, e_lit, e_ofN, e_neg, nI_add, pk_mul, e_sub, e_ldi, e_sti, e_ldj, e_stj, e_le_t, e_le_f, e_lt_t, e_lt_f, e_eq_t, e_eq_f, e_no_eq, e_no_eq', e_no_rfl, e_no_lt, e_no_le, e_le_no, e_lt_no, if_true, if_false, ↓reduceIte, e_rs, e_rq, e_rn, e_ji, e_ki, e_ij, e_kj, e_js, e_jq, e_jn, e_cs, e_cq, e_jc, e_kc, e_js', e_jcq, e_icj, e_kcj, or_true, true_or, or_false, false_or, and_true, true_and, not_true_eq_false, not_false_eq_true, b_X2_stopReason_91, h6, b_X2_stopReason_106]
    · rw [if_neg hq]; simp (disch := omega) only [e_let, e_call, e_cal0, e_bind, e_lit, e_ofN, e_neg, nI_add, pk_mul, e_sub, e_ldi, e_sti, e_ldj, e_stj, e_le_t, e_le_f, e_lt_t, e_lt_f, e_eq_t, e_eq_f, e_no_eq, e_no_eq', e_no_rfl, e_no_lt, e_no_le, e_le_no, e_lt_no, if_true, if_false, ↓reduceIte, e_rs, e_rq, e_rn, e_ji, e_ki, e_ij, e_kj, e_js, e_jq, e_jn, e_cs, e_cq, e_jc, e_kc, e_js', e_jcq, e_icj, e_kcj, or_true, true_or, or_false, false_or, and_true, true_and, not_true_eq_false, not_false_eq_true, b_X2_stopReason_91, h6, b_X2_stopReason_106]
  by_cases hq : x = 2
  · by_cases hq2 : 200 ≤ q_sc M 4
    · rw [if_pos ⟨hq, hq2⟩]; simp (disch := omega) only [e_let, e_call, e_cal0, e_bind, e_lit, e_ofN, e_neg, nI_add, pk_mul, e_sub, e_ldi, e_sti, e_ldj, e_stj, e_le_t, e_le_f, e_lt_t, e_lt_f, e_eq_t, e_eq_f, e_no_eq, e_no_eq', e_no_rfl, e_no_lt, e_no_le, e_le_no, e_lt_no, if_true, if_false, ↓reduceIte, e_rs, e_rq, e_rn, e_ji, e_ki, e_ij, e_kj, e_js, e_jq, e_jn, e_cs, e_cq, e_jc, e_kc, e_js', e_jcq, e_icj, e_kcj, or_true, true_or, or_false, false_or, and_true, true_and, not_true_eq_false, not_false_eq_true, b_X2_stopReason_73, h4]
    · rw [if_neg (by omega)]; simp (disch := omega) only [e_let, e_call, e_cal0, e_bind, e_lit, e_ofN, e_neg, nI_add, pk_mul, e_sub, e_ldi, e_sti, e_ldj, e_stj, e_le_t, e_le_f, e_lt_t, e_lt_f, e_eq_t, e_eq_f, e_no_eq, e_no_eq', e_no_rfl, e_no_lt, e_no_le, e_le_no, e_lt_no, if_true, if_false, ↓reduceIte, e_rs, e_rq, e_rn, e_ji, e_ki, e_ij, e_kj, e_js, e_jq, e_jn, e_cs, e_cq, e_jc, e_kc, e_js', e_jcq, e_icj, e_kcj, or_true, true_or, or_false, false_or, and_true, true_and, not_true_eq_false, not_false_eq_true, b_X2_stopReason_73, h4, h91]
  · rw [if_neg (by omega)]; simp (disch := omega) only [e_let, e_call, e_cal0, e_bind, e_lit, e_ofN, e_neg, nI_add, pk_mul, e_sub, e_ldi, e_sti, e_ldj, e_stj, e_le_t, e_le_f, e_lt_t, e_lt_f, e_eq_t, e_eq_f, e_no_eq, e_no_eq', e_no_rfl, e_no_lt, e_no_le, e_le_no, e_lt_no, if_true, if_false, ↓reduceIte, e_rs, e_rq, e_rn, e_ji, e_ki, e_ij, e_kj, e_js, e_jq, e_jn, e_cs, e_cq, e_jc, e_kc, e_js', e_jcq, e_icj, e_kcj, or_true, true_or, or_false, false_or, and_true, true_and, not_true_eq_false, not_false_eq_true, b_X2_stopReason_73, h91]
theorem k_stop_33 (C : q_P S a p P D) (hM : q_R S a M) (hB : q_B P M) (T : q_top P M f i) : b_X2_stopReason_33 a p S (nI f) (nI (p_fi P f + i)) (nI (p_ex (p_op P (p_fi P f + i)))) = some (nI (if ((p_op P (p_fi P f + i) = 5 ∨ p_op P (p_fi P f + i) = 6) ∧ (q_K P M (p_fi P f + i) 0 = 2 ∨ q_K P M (p_fi P f + i) 1 = 2)) ∨ ((p_op P (p_fi P f + i) = 7 ∨ p_op P (p_fi P f + i) = 9) ∧ q_K P M (p_fi P f + i) 0 = 2) then 2
  else if q_cl P M (p_fi P f + i) = true ∧ 12 ≤ q_sc M 2 ∧ q_lv P D f i = false then 3
  else if p_op P (p_fi P f + i) = 2 ∧ 200 ≤ q_sc M 4 then 4
  else if 5000 ≤ q_sc M 6 then 5 else 0), S) := by
  have T' := T
  obtain ⟨t1, t2, t3, t4, t5, t6, t7⟩ := T
  have hcell : q_sc M 4 ≤ 200 := by rw [hB.2.2.2.2.2.2.1]; exact fb_ct_le _ _
  have hst : q_sc M 6 ≤ 5001 := hB.2.2.2.2.2.2.2.2.1
  have h2 := (C.2.1.2.2.2.2 f i t5 t6).1
  have hx : p_ex (p_op P (p_fi P f + i)) < 100 ∧ (p_ex (p_op P (p_fi P f + i)) = 2 ↔ p_op P (p_fi P f + i) = 2) := by
    simp only [p_ex]; split <;> (try split) <;> omega
  have h73 := k_stop_73 (p := p) hM hcell hst hx.1
  simp only [hx.2] at h73
  have hpn := k_hasPair C hM T'
  have hcn := k_callsNow C hM T'
  have hlv := k_leavesBy C t5 t6
  have hn := hM.1 2 (by omega) (by omega) (by omega)
  split
  · rename_i hc
    rw [if_pos hc] at hpn
    simp (disch := omega) only [e_let, e_call, e_cal0, e_bind, e_lit, e_ofN, e_neg, nI_add, pk_mul, e_sub, e_ldi, e_sti, e_ldj, e_stj, e_le_t, e_le_f, e_lt_t, e_lt_f, e_eq_t, e_eq_f, e_no_eq, e_no_eq', e_no_rfl, e_no_lt, e_no_le, e_le_no, e_lt_no, if_true, if_false, ↓reduceIte, e_rs, e_rq, e_rn, e_ji, e_ki, e_ij, e_kj, e_js, e_jq, e_jn, e_cs, e_cq, e_jc, e_kc, e_js', e_jcq, e_icj, e_kcj, or_true, true_or, or_false, false_or, and_true, true_and, not_true_eq_false, not_false_eq_true, b_X2_stopReason_33, hpn]
  · rename_i hc
    rw [if_neg hc] at hpn
    by_cases hcl : q_cl P M (p_fi P f + i) = true
    · rw [if_pos hcl] at hcn
      by_cases h12 : 12 ≤ q_sc M 2
      · by_cases hl : q_lv P D f i = true
        · rw [if_pos hl] at hlv
          rw [if_neg (by rw [hl]; rintro ⟨-, -, h⟩; cases h)]
          simp (disch := omega) only [e_let, e_call, e_cal0, e_bind, e_lit, e_ofN, e_neg, nI_add, pk_mul, e_sub, e_ldi, e_sti, e_ldj, e_stj, e_le_t, e_le_f, e_lt_t, e_lt_f, e_eq_t, e_eq_f, e_no_eq, e_no_eq', e_no_rfl, e_no_lt, e_no_le, e_le_no, e_lt_no, if_true, if_false, ↓reduceIte, e_rs, e_rq, e_rn, e_ji, e_ki, e_ij, e_kj, e_js, e_jq, e_jn, e_cs, e_cq, e_jc, e_kc, e_js', e_jcq, e_icj, e_kcj, or_true, true_or, or_false, false_or, and_true, true_and, not_true_eq_false, not_false_eq_true, b_X2_stopReason_33, hpn, hcn, hn, hlv, h73]
        · rw [if_neg hl] at hlv
          rw [if_pos ⟨hcl, h12, Bool.eq_false_iff.mpr hl⟩]
          simp (disch := omega) only [e_let, e_call, e_cal0, e_bind, e_lit, e_ofN, e_neg, nI_add, pk_mul, e_sub, e_ldi, e_sti, e_ldj, e_stj, e_le_t, e_le_f, e_lt_t, e_lt_f, e_eq_t, e_eq_f, e_no_eq, e_no_eq', e_no_rfl, e_no_lt, e_no_le, e_le_no, e_lt_no, if_true, if_false, ↓reduceIte, e_rs, e_rq, e_rn, e_ji, e_ki, e_ij, e_kj, e_js, e_jq, e_jn, e_cs, e_cq, e_jc, e_kc, e_js', e_jcq, e_icj, e_kcj, or_true, true_or, or_false, false_or, and_true, true_and, not_true_eq_false, not_false_eq_true, b_X2_stopReason_33, hpn, hcn, hn, hlv]
      · rw [if_neg (by rintro ⟨-, h, -⟩; exact h12 h)]
        simp (disch := omega) only [e_let, e_call, e_cal0, e_bind, e_lit, e_ofN, e_neg, nI_add, pk_mul, e_sub, e_ldi, e_sti, e_ldj, e_stj, e_le_t, e_le_f, e_lt_t, e_lt_f, e_eq_t, e_eq_f, e_no_eq, e_no_eq', e_no_rfl, e_no_lt, e_no_le, e_le_no, e_lt_no, if_true, if_false, ↓reduceIte, e_rs, e_rq, e_rn, e_ji, e_ki, e_ij, e_kj, e_js, e_jq, e_jn, e_cs, e_cq, e_jc, e_kc, e_js', e_jcq, e_icj, e_kcj, or_true, true_or, or_false, false_or, and_true, true_and, not_true_eq_false, not_false_eq_true, b_X2_stopReason_33, hpn, hcn, hn, h73]
    · rw [if_neg hcl] at hcn
      rw [if_neg (by rintro ⟨h, -, -⟩; exact hcl h)]
      simp (disch := omega) only [e_let, e_call, e_cal0, e_bind, e_lit, e_ofN, e_neg, nI_add, pk_mul, e_sub, e_ldi, e_sti, e_ldj, e_stj, e_le_t, e_le_f, e_lt_t, e_lt_f, e_eq_t, e_eq_f, e_no_eq, e_no_eq', e_no_rfl, e_no_lt, e_no_le, e_le_no, e_lt_no, if_true, if_false, ↓reduceIte, e_rs, e_rq, e_rn, e_ji, e_ki, e_ij, e_kj, e_js, e_jq, e_jn, e_cs, e_cq, e_jc, e_kc, e_js', e_jcq, e_icj, e_kcj, or_true, true_or, or_false, false_or, and_true, true_and, not_true_eq_false, not_false_eq_true, b_X2_stopReason_33, hpn, hcn, h73]
theorem k_stop (C : q_P S a p P D) (hM : q_R S a M) (hB : q_B P M) (T : q_top P M f i) : f_X2_stopReason a p S (nI f) (nI (p_fi P f + i)) = some (nI (q_stop P D M f i), S) := by
  have T' := T
  obtain ⟨t1, t2, t3, t4, t5, t6, t7⟩ := T
  have h1 := C.2.1.line t5 t6
  have h3 := (C.2.2.1.2.2.2.2.2 f i t5 t6).1
  have h2 := (C.2.1.2.2.2.2 f i t5 t6).1
  have h33 := k_stop_33 C hM hB T'
  have hx : p_ex (p_op P (p_fi P f + i)) < 100 ∧ (p_ex (p_op P (p_fi P f + i)) = 3 ↔ p_op P (p_fi P f + i) = 3) ∧ (p_ex (p_op P (p_fi P f + i)) = 4 ↔ p_op P (p_fi P f + i) = 4) := by
    simp only [p_ex]; split <;> (try split) <;> omega
  by_cases h34 : p_op P (p_fi P f + i) = 3 ∨ p_op P (p_fi P f + i) = 4
  · have h5 := k_kindAt (s := 0) C hM T' (by omega) (by rw [p_sl_ne (by omega)]; exact p_us_0 (by omega))
    rw [p_sl_ne (by omega)] at h5
    have hk0 : q_K P M (p_fi P f + i) 0 ≤ 2 := t7 _
    have hg : f_X2_stopReason a p S (nI f) (nI (p_fi P f + i)) = b_X2_stopReason_20 a p S (nI f) (nI (p_fi P f + i)) (nI (p_ex (p_op P (p_fi P f + i)))) := by
      rcases h34 with h | h
      · rw [h, p_ex_2 (by omega)] at h3 ⊢; simp (disch := omega) only [e_let, e_call, e_cal0, e_bind, e_lit, e_ofN, e_neg, nI_add, pk_mul, e_sub, e_ldi, e_sti, e_ldj, e_stj, e_le_t, e_le_f, e_lt_t, e_lt_f, e_eq_t, e_eq_f, e_no_eq, e_no_eq', e_no_rfl, e_no_lt, e_no_le, e_le_no, e_lt_no, if_true, if_false, ↓reduceIte, e_rs, e_rq, e_rn, e_ji, e_ki, e_ij, e_kj, e_js, e_jq, e_jn, e_cs, e_cq, e_jc, e_kc, e_js', e_jcq, e_icj, e_kcj, or_true, true_or, or_false, false_or, and_true, true_and, not_true_eq_false, not_false_eq_true, f_X2_stopReason, h3]
      · rw [h, p_ex_2 (by omega)] at h3 ⊢; simp (disch := omega) only [e_let, e_call, e_cal0, e_bind, e_lit, e_ofN, e_neg, nI_add, pk_mul, e_sub, e_ldi, e_sti, e_ldj, e_stj, e_le_t, e_le_f, e_lt_t, e_lt_f, e_eq_t, e_eq_f, e_no_eq, e_no_eq', e_no_rfl, e_no_lt, e_no_le, e_le_no, e_lt_no, if_true, if_false, ↓reduceIte, e_rs, e_rq, e_rn, e_ji, e_ki, e_ij, e_kj, e_js, e_jq, e_jn, e_cs, e_cq, e_jc, e_kc, e_js', e_jcq, e_icj, e_kcj, or_true, true_or, or_false, false_or, and_true, true_and, not_true_eq_false, not_false_eq_true, f_X2_stopReason, h3]
    rw [hg]
    by_cases hv : q_K P M (p_fi P f + i) 0 = 2
    · rw [q_stop, if_neg (by rintro ⟨-, h⟩; exact h hv)]
      rw [hv] at h5
      simp (disch := omega) only [e_let, e_call, e_cal0, e_bind, e_lit, e_ofN, e_neg, nI_add, pk_mul, e_sub, e_ldi, e_sti, e_ldj, e_stj, e_le_t, e_le_f, e_lt_t, e_lt_f, e_eq_t, e_eq_f, e_no_eq, e_no_eq', e_no_rfl, e_no_lt, e_no_le, e_le_no, e_lt_no, if_true, if_false, ↓reduceIte, e_rs, e_rq, e_rn, e_ji, e_ki, e_ij, e_kj, e_js, e_jq, e_jn, e_cs, e_cq, e_jc, e_kc, e_js', e_jcq, e_icj, e_kcj, or_true, true_or, or_false, false_or, and_true, true_and, not_true_eq_false, not_false_eq_true, b_X2_stopReason_20, h5, h33]
    · rw [q_stop, if_pos ⟨h34, hv⟩]
      simp (disch := omega) only [e_let, e_call, e_cal0, e_bind, e_lit, e_ofN, e_neg, nI_add, pk_mul, e_sub, e_ldi, e_sti, e_ldj, e_stj, e_le_t, e_le_f, e_lt_t, e_lt_f, e_eq_t, e_eq_f, e_no_eq, e_no_eq', e_no_rfl, e_no_lt, e_no_le, e_le_no, e_lt_no, if_true, if_false, ↓reduceIte, e_rs, e_rq, e_rn, e_ji, e_ki, e_ij, e_kj, e_js, e_jq, e_jn, e_cs, e_cq, e_jc, e_kc, e_js', e_jcq, e_icj, e_kcj, or_true, true_or, or_false, false_or, and_true, true_and, not_true_eq_false, not_false_eq_true, b_X2_stopReason_20, h5]
  · rw [q_stop, if_neg (by rintro ⟨h, -⟩; exact h34 h)]
    simp (disch := omega) only [e_let, e_call, e_cal0, e_bind, e_lit, e_ofN, e_neg, nI_add, pk_mul, e_sub, e_ldi, e_sti, e_ldj, e_stj, e_le_t, e_le_f, e_lt_t, e_lt_f, e_eq_t, e_eq_f, e_no_eq, e_no_eq', e_no_rfl, e_no_lt, e_no_le, e_le_no, e_lt_no, if_true, if_false, ↓reduceIte, e_rs, e_rq, e_rn, e_ji, e_ki, e_ij, e_kj, e_js, e_jq, e_jn, e_cs, e_cq, e_jc, e_kc, e_js', e_jcq, e_icj, e_kcj, or_true, true_or, or_false, false_or, and_true, true_and, not_true_eq_false, not_false_eq_true, f_X2_stopReason, h3, h33]
end QS
