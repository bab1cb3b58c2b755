/-! a line is worked, a fun is called, a step is made: the one side -/
section QW
variable {S : m_M} {a p : Nat} {P : pP} {D : pD} {M : qM} {f i : Nat}
def q_work (P : pP) (D : pD) (M : qM) (f i : Nat) : qM := match p_op P (p_fi P f + i) with
  | 0 => q_gi M 1 (nI (p_nu P (p_fi P f + i)))
  | 1 => q_gi M (q_K P M (p_fi P f + i) 0) (q_V P M (p_fi P f + i) 0)
  | 2 => q_gi (q_lay P M (p_fi P f + i) (q_fc (q_ce M) 200 0) (q_at D M (q_sc M 2) (d_pt D f (p_pa P f + i) - 1))) 2 (nI (q_fc (q_ce M) 200 0))
  | 3 => q_gi M (q_sk M (q_V P M (p_fi P f + i) 0).toNatClampNeg 0) (q_sv M (q_V P M (p_fi P f + i) 0).toNatClampNeg 0)
  | 4 => q_gi M (q_sk M (q_V P M (p_fi P f + i) 0).toNatClampNeg 1) (q_sv M (q_V P M (p_fi P f + i) 0).toNatClampNeg 1)
  | 5 => q_gi M 1 (q_V P M (p_fi P f + i) 0 + q_V P M (p_fi P f + i) 1)
  | 6 => q_gi M 1 (if q_V P M (p_fi P f + i) 1 ≤ q_V P M (p_fi P f + i) 0 then nI 0 else nI 1)
  | 7 => q_gi M (q_K P M (p_fi P f + i) (if q_V P M (p_fi P f + i) 0 = nI 0 then 2 else 1)) (q_V P M (p_fi P f + i) (if q_V P M (p_fi P f + i) 0 = nI 0 then 2 else 1))
  | _ => q_gi M (q_K P M (p_fi P f + i) 4) (q_V P M (p_fi P f + i) 4)
def q_wk (P : pP) (D : pD) (M : qM) (f i : Nat) : Prop :=
  (p_op P (p_fi P f + i) = 2 → ∃ r, d_pt D f (p_pa P f + i) = r + 1 ∧ q_at D M (q_sc M 2) r ∈ q_F M ∧ (∀ y, y ∈ q_F M → y.2 = r → y.1 ≤ (q_at D M (q_sc M 2) r).1) ∧ q_sc M 4 < 200) ∧
  (p_op P (p_fi P f + i) = 3 ∨ p_op P (p_fi P f + i) = 4 → ∃ c, c < 200 ∧ q_V P M (p_fi P f + i) 0 = nI c ∧ q_ce M c ≠ none)
theorem k_hasCell {c : Nat} (hM : q_R S a M) (hl : (q_F M).length ≤ 312) (hm : ∀ c y, c < 200 → q_ce M c = some y → y ∈ q_F M) (hc : c < 200) : f_X2_hasCell a S (nI c) = some (nI (if q_ce M c = none then 0 else 1), S) := by
  have h9 := hM.2.2.2.2.2.2.2.2.1 c hc
  cases hce : q_ce M c with
  | none =>
    rw [hce] at h9
    have h9 : m_ri S (a + 6) c = m_no := h9
    simp (disch := omega) only [e_let, e_call, e_cal0, e_bind, e_lit, e_ofN, e_neg, nI_add, pk_mul, e_sub, e_ldi, e_sti, e_ldj, e_stj, e_le_t, e_le_f, e_lt_t, e_lt_f, e_eq_t, e_eq_f, e_no_eq, e_no_eq', e_no_rfl, e_no_lt, e_no_le, e_le_no, e_lt_no, if_true, if_false, ↓reduceIte, e_rs, e_rq, e_rn, e_ji, e_ki, e_ij, e_kj, e_js, e_jq, e_jn, e_cs, e_cq, e_jc, e_kc, e_js', e_jcq, e_icj, e_kcj, or_true, true_or, or_false, false_or, and_true, true_and, not_true_eq_false, not_false_eq_true, f_X2_hasCell, h9, b_X2_hasCell_25, b_X2_hasCell_26]
  | some y =>
    rw [hce] at h9
    have h9 : m_ri S (a + 6) c = nI ((q_F M).idxOf y) := h9
    have hy := List.idxOf_lt_length_of_mem (hm c y hc hce)
    rw [if_neg (by intro h; cases h)]
    simp (disch := omega) only [e_let, e_call, e_cal0, e_bind, e_lit, e_ofN, e_neg, nI_add, pk_mul, e_sub, e_ldi, e_sti, e_ldj, e_stj, e_le_t, e_le_f, e_lt_t, e_lt_f, e_eq_t, e_eq_f, e_no_eq, e_no_eq', e_no_rfl, e_no_lt, e_no_le, e_le_no, e_lt_no, if_true, if_false, ↓reduceIte, e_rs, e_rq, e_rn, e_ji, e_ki, e_ij, e_kj, e_js, e_jq, e_jn, e_cs, e_cq, e_jc, e_kc, e_js', e_jcq, e_icj, e_kcj, or_true, true_or, or_false, false_or, and_true, true_and, not_true_eq_false, not_false_eq_true, f_X2_hasCell, h9, b_X2_hasCell_26]
theorem k_give {x : Nat} {y : Int32} (hM : q_R S a M) : ∃ S', f_X2_give a S (nI x) y = some S' ∧ q_R S' a (q_gi M x y) ∧ e_O a (a + 9) S S' :=
  ⟨m_si (m_si S a 9 (nI x)) a 10 y, by simp (disch := omega) only [e_let, e_call, e_cal0, e_bind, e_lit, e_ofN, e_neg, nI_add, pk_mul, e_sub, e_ldi, e_sti, e_ldj, e_stj, e_le_t, e_le_f, e_lt_t, e_lt_f, e_eq_t, e_eq_f, e_no_eq, e_no_eq', e_no_rfl, e_no_lt, e_no_le, e_le_no, e_lt_no, if_true, if_false, ↓reduceIte, e_rs, e_rq, e_rn, e_ji, e_ki, e_ij, e_kj, e_js, e_jq, e_jn, e_cs, e_cq, e_jc, e_kc, e_js', e_jcq, e_icj, e_kcj, or_true, true_or, or_false, false_or, and_true, true_and, not_true_eq_false, not_false_eq_true, f_X2_give], hM.gi, (e_O.rf.si (by omega) (by omega)).si (by omega) (by omega)⟩
theorem k_giveVar {s : Nat} (C : q_P S a p P D) (hM : q_R S a M) (T : q_top P M f i) (hs : s < 5) (hu : p_us P (p_fi P f + i) (p_sl P (p_fi P f + i) s)) : ∃ S', f_X2_giveVar a p S (nI (p_fi P f + i)) (nI s) = some S' ∧ q_R S' a (q_gi M (q_K P M (p_fi P f + i) (p_sl P (p_fi P f + i) s)) (q_V P M (p_fi P f + i) (p_sl P (p_fi P f + i) s))) ∧ e_O a (a + 9) S S' := by
  obtain ⟨S', g1, g2, g3⟩ := k_give (a := a) (x := q_K P M (p_fi P f + i) (p_sl P (p_fi P f + i) s)) (y := q_V P M (p_fi P f + i) (p_sl P (p_fi P f + i) s)) hM
  exact ⟨S', by simp (disch := omega) only [e_let, e_call, e_cal0, e_bind, e_lit, e_ofN, e_neg, nI_add, pk_mul, e_sub, e_ldi, e_sti, e_ldj, e_stj, e_le_t, e_le_f, e_lt_t, e_lt_f, e_eq_t, e_eq_f, e_no_eq, e_no_eq', e_no_rfl, e_no_lt, e_no_le, e_le_no, e_lt_no, if_true, if_false, ↓reduceIte, e_rs, e_rq, e_rn, e_ji, e_ki, e_ij, e_kj, e_js, e_jq, e_jn, e_cs, e_cq, e_jc, e_kc, e_js', e_jcq, e_icj, e_kcj, or_true, true_or, or_false, false_or, and_true, true_and, not_true_eq_false, not_false_eq_true, f_X2_giveVar, k_kindAt C hM T hs hu, k_valueAt C hM T hs hu, g1], g2, g3⟩
theorem k_giveSide {c s : Nat} (hM : q_R S a M) (hB : q_B P M) (hc : c < 200) (hs : s < 2) (hce : q_ce M c ≠ none) : ∃ S', f_X2_giveSide a S (nI c) (nI s) = some S' ∧ q_R S' a (q_gi M (q_sk M c s) (q_sv M c s)) ∧ e_O a (a + 9) S S' := by
  obtain ⟨S', g1, g2, g3⟩ := k_give (a := a) (x := q_sk M c s) (y := q_sv M c s) hM
  have h1 := k_hasCell hM hB.2.1 hB.2.2.2.2.2.1 hc
  rw [if_neg hce] at h1
  have r10 := hM.2.2.2.2.2.2.2.2.2.1 c s hc hs hce
  have r11 := hM.2.2.2.2.2.2.2.2.2.2 c s hc hs hce
  exact ⟨S', by simp (disch := omega) only [e_let, e_call, e_cal0, e_bind, e_lit, e_ofN, e_neg, nI_add, pk_mul, e_sub, e_ldi, e_sti, e_ldj, e_stj, e_le_t, e_le_f, e_lt_t, e_lt_f, e_eq_t, e_eq_f, e_no_eq, e_no_eq', e_no_rfl, e_no_lt, e_no_le, e_le_no, e_lt_no, if_true, if_false, ↓reduceIte, e_rs, e_rq, e_rn, e_ji, e_ki, e_ij, e_kj, e_js, e_jq, e_jn, e_cs, e_cq, e_jc, e_kc, e_js', e_jcq, e_icj, e_kcj, or_true, true_or, or_false, false_or, and_true, true_and, not_true_eq_false, not_false_eq_true, f_X2_giveSide, h1, r10, b_X2_giveSide_25, r11, b_X2_giveSide_43, g1], g2, g3⟩
theorem k_work (C : q_P S a p P D) (hM : q_R S a M) (hB : q_B P M) (T : q_top P M f i) (h8 : p_op P (p_fi P f + i) ≠ 8) (hw : q_wk P D M f i) : ∃ S', f_X2_work a p S (nI f) (nI (p_fi P f + i)) = some S' ∧ q_R S' a (q_work P D M f i) ∧ e_O a (a + 9) S S' := by
  have T' := T
  obtain ⟨t1, t2, t3, t4, t5, t6, t7⟩ := T
  have hl := C.2.1.line t5 t6
  have h9 := (C.2.1.2.2.2.2 f i t5 t6).1
  have hex := (C.2.2.1.2.2.2.2.2 f i t5 t6).1
  have hop : p_op P (p_fi P f + i) = 0 ∨ p_op P (p_fi P f + i) = 1 ∨ p_op P (p_fi P f + i) = 2 ∨ p_op P (p_fi P f + i) = 3 ∨ p_op P (p_fi P f + i) = 4 ∨ p_op P (p_fi P f + i) = 5 ∨ p_op P (p_fi P f + i) = 6 ∨ p_op P (p_fi P f + i) = 7 ∨ p_op P (p_fi P f + i) = 9 := by omega
  rcases hop with o | o | o | o | o | o | o | o | o
  · have hn := (C.2.2.1.2.2.2.2.2 f i t5 t6).2.2.1 o
    rw [o, show p_ex 0 = 22 from rfl] at hex
    obtain ⟨S', g1, g2, g3⟩ := k_give (a := a) (x := 1) (y := nI (p_nu P (p_fi P f + i))) hM
    refine ⟨S', ?_, by simp only [q_work, o]; exact g2, g3⟩
    rw [f_X2_work, e_ldi (by omega) (by omega), e_bind, hex]
    simp (disch := omega) only [e_let, e_call, e_cal0, e_bind, e_lit, e_ofN, e_neg, nI_add, pk_mul, e_sub, e_ldi, e_sti, e_ldj, e_stj, e_le_t, e_le_f, e_lt_t, e_lt_f, e_eq_t, e_eq_f, e_no_eq, e_no_eq', e_no_rfl, e_no_lt, e_no_le, e_le_no, e_lt_no, if_true, if_false, ↓reduceIte, e_rs, e_rq, e_rn, e_ji, e_ki, e_ij, e_kj, e_js, e_jq, e_jn, e_cs, e_cq, e_jc, e_kc, e_js', e_jcq, e_icj, e_kcj, or_true, true_or, or_false, false_or, and_true, true_and, not_true_eq_false, not_false_eq_true, f_X3_operandAt, hn, g1, b_X2_work_261]
  · rw [o, show p_ex 1 = 23 from rfl] at hex
    obtain ⟨S', g1, g2, g3⟩ := k_giveVar (s := 0) C hM T' (by omega) (by rw [p_sl_ne (by omega)]; exact p_us_0 (by omega))
    rw [p_sl_ne (by omega)] at g2
    refine ⟨S', ?_, by simp only [q_work, o]; exact g2, g3⟩
    rw [f_X2_work, e_ldi (by omega) (by omega), e_bind, hex]
    simp (disch := omega) only [e_let, e_call, e_cal0, e_bind, e_lit, e_ofN, e_neg, nI_add, pk_mul, e_sub, e_ldi, e_sti, e_ldj, e_stj, e_le_t, e_le_f, e_lt_t, e_lt_f, e_eq_t, e_eq_f, e_no_eq, e_no_eq', e_no_rfl, e_no_lt, e_no_le, e_le_no, e_lt_no, if_true, if_false, ↓reduceIte, e_rs, e_rq, e_rn, e_ji, e_ki, e_ij, e_kj, e_js, e_jq, e_jn, e_cs, e_cq, e_jc, e_kc, e_js', e_jcq, e_icj, e_kcj, or_true, true_or, or_false, false_or, and_true, true_and, not_true_eq_false, not_false_eq_true, b_X2_work_254, g1, b_X2_work_261]
  · rw [o, p_ex_2 (by omega)] at hex
    obtain ⟨r, hr, hx, hmx, h200⟩ := hw.1 o
    obtain ⟨S1, g1, g2, g3⟩ := k_layCell C hM hB T' o hr hx hmx h200
    obtain ⟨S', f1, f2, f3⟩ := k_give (a := a) (x := 2) (y := nI (q_fc (q_ce M) 200 0)) g2
    refine ⟨S', ?_, by simp only [q_work, o, hr, Nat.add_sub_cancel]; exact f2, g3.tr f3⟩
    rw [f_X2_work, e_ldi (by omega) (by omega), e_bind, hex]
    simp (disch := omega) only [e_let, e_call, e_cal0, e_bind, e_lit, e_ofN, e_neg, nI_add, pk_mul, e_sub, e_ldi, e_sti, e_ldj, e_stj, e_le_t, e_le_f, e_lt_t, e_lt_f, e_eq_t, e_eq_f, e_no_eq, e_no_eq', e_no_rfl, e_no_lt, e_no_le, e_le_no, e_lt_no, if_true, if_false, ↓reduceIte, e_rs, e_rq, e_rn, e_ji, e_ki, e_ij, e_kj, e_js, e_jq, e_jn, e_cs, e_cq, e_jc, e_kc, e_js', e_jcq, e_icj, e_kcj, or_true, true_or, or_false, false_or, and_true, true_and, not_true_eq_false, not_false_eq_true, g1, f1, b_X2_work_261]
  · rw [o, p_ex_2 (by omega)] at hex
    obtain ⟨c, hc, hv, hce⟩ := hw.2 (Or.inl o)
    have h0 := k_valueAt (s := 0) C hM T' (by omega) (by rw [p_sl_ne (by omega)]; exact p_us_0 (by omega))
    rw [p_sl_ne (by omega), hv] at h0
    obtain ⟨S', f1, f2, f3⟩ := k_giveSide (s := 0) hM hB hc (by omega) hce
    refine ⟨S', ?_, by simp only [q_work, o, hv]; rw [nI_clamp (by omega)]; exact f2, f3⟩
    rw [f_X2_work, e_ldi (by omega) (by omega), e_bind, hex]
    simp (disch := omega) only [e_let, e_call, e_cal0, e_bind, e_lit, e_ofN, e_neg, nI_add, pk_mul, e_sub, e_ldi, e_sti, e_ldj, e_stj, e_le_t, e_le_f, e_lt_t, e_lt_f, e_eq_t, e_eq_f, e_no_eq, e_no_eq', e_no_rfl, e_no_lt, e_no_le, e_le_no, e_lt_no, if_true, if_false, ↓reduceIte, e_rs, e_rq, e_rn, e_ji, e_ki, e_ij, e_kj, e_js, e_jq, e_jn, e_cs, e_cq, e_jc, e_kc, e_js', e_jcq, e_icj, e_kcj, or_true, true_or, or_false, false_or, and_true, true_and, not_true_eq_false, not_false_eq_true, h0, f1, b_X2_work_261]
  · rw [o, p_ex_2 (by omega)] at hex
    obtain ⟨c, hc, hv, hce⟩ := hw.2 (Or.inr o)
    have h0 := k_valueAt (s := 0) C hM T' (by omega) (by rw [p_sl_ne (by omega)]; exact p_us_0 (by omega))
    rw [p_sl_ne (by omega), hv] at h0
    obtain ⟨S', f1, f2, f3⟩ := k_giveSide (s := 1) hM hB hc (by omega) hce
    refine ⟨S', ?_, by simp only [q_work, o, hv]; rw [nI_clamp (by omega)]; exact f2, f3⟩
    rw [f_X2_work, e_ldi (by omega) (by omega), e_bind, hex]
    simp (disch := omega) only [e_let, e_call, e_cal0, e_bind, e_lit, e_ofN, e_neg, nI_add, pk_mul, e_sub, e_ldi, e_sti, e_ldj, e_stj, e_le_t, e_le_f, e_lt_t, e_lt_f, e_eq_t, e_eq_f, e_no_eq, e_no_eq', e_no_rfl, e_no_lt, e_no_le, e_le_no, e_lt_no, if_true, if_false, ↓reduceIte, e_rs, e_rq, e_rn, e_ji, e_ki, e_ij, e_kj, e_js, e_jq, e_jn, e_cs, e_cq, e_jc, e_kc, e_js', e_jcq, e_icj, e_kcj, or_true, true_or, or_false, false_or, and_true, true_and, not_true_eq_false, not_false_eq_true, h0, f1, b_X2_work_261]
  · rw [o, p_ex_2 (by omega)] at hex
    have h0 := k_valueAt (s := 0) C hM T' (by omega) (by rw [p_sl_ne (by omega)]; exact p_us_0 (by omega))
    have h1 := k_valueAt (s := 1) C hM T' (by omega) (by rw [p_sl_ne (by omega)]; exact p_us_1 (by omega))
    rw [p_sl_ne (by omega)] at h0 h1
    obtain ⟨S', g1, g2, g3⟩ := k_give (a := a) (x := 1) (y := q_V P M (p_fi P f + i) 0 + q_V P M (p_fi P f + i) 1) hM
    refine ⟨S', ?_, by simp only [q_work, o]; exact g2, g3⟩
    rw [f_X2_work, e_ldi (by omega) (by omega), e_bind, hex]
    simp (disch := omega) only [e_let, e_call, e_cal0, e_bind, e_lit, e_ofN, e_neg, nI_add, pk_mul, e_sub, e_ldi, e_sti, e_ldj, e_stj, e_le_t, e_le_f, e_lt_t, e_lt_f, e_eq_t, e_eq_f, e_no_eq, e_no_eq', e_no_rfl, e_no_lt, e_no_le, e_le_no, e_lt_no, if_true, if_false, ↓reduceIte, e_rs, e_rq, e_rn, e_ji, e_ki, e_ij, e_kj, e_js, e_jq, e_jn, e_cs, e_cq, e_jc, e_kc, e_js', e_jcq, e_icj, e_kcj, or_true, true_or, or_false, false_or, and_true, true_and, not_true_eq_false, not_false_eq_true, h0, h1, g1, b_X2_work_261]
  · rw [o, p_ex_2 (by omega)] at hex
    have h0 := k_valueAt (s := 0) C hM T' (by omega) (by rw [p_sl_ne (by omega)]; exact p_us_0 (by omega))
    have h1 := k_valueAt (s := 1) C hM T' (by omega) (by rw [p_sl_ne (by omega)]; exact p_us_1 (by omega))
    rw [p_sl_ne (by omega)] at h0 h1
    by_cases hle : q_V P M (p_fi P f + i) 1 ≤ q_V P M (p_fi P f + i) 0
    · obtain ⟨S', g1, g2, g3⟩ := k_give (a := a) (x := 1) (y := nI 0) hM
      refine ⟨S', ?_, by simp only [q_work, o]; rw [if_pos hle]; exact g2, g3⟩
      rw [f_X2_work, e_ldi (by omega) (by omega), e_bind, hex]
      simp (disch := omega) only [e_let, e_call, e_cal0, e_bind, e_lit, e_ofN, e_neg, nI_add, pk_mul, e_sub, e_ldi, e_sti, e_ldj, e_stj, e_le_t, e_le_f, e_lt_t, e_lt_f, e_eq_t, e_eq_f, e_no_eq, e_no_eq', e_no_rfl, e_no_lt, e_no_le, e_le_no, e_lt_no, if_true, if_false, ↓reduceIte, e_rs, e_rq, e_rn, e_ji, e_ki, e_ij, e_kj, e_js, e_jq, e_jn, e_cs, e_cq, e_jc, e_kc, e_js', e_jcq, e_icj, e_kcj, or_true, true_or, or_false, false_or, and_true, true_and, not_true_eq_false, not_false_eq_true, h0, h1, hle, b_X2_work_210, g1, b_X2_work_261]
    · obtain ⟨S', g1, g2, g3⟩ := k_give (a := a) (x := 1) (y := nI 1) hM
      refine ⟨S', ?_, by simp only [q_work, o]; rw [if_neg hle]; exact g2, g3⟩
      rw [f_X2_work, e_ldi (by omega) (by omega), e_bind, hex]
      simp (disch := omega) only [e_let, e_call, e_cal0, e_bind, e_lit, e_ofN, e_neg, nI_add, pk_mul, e_sub, e_ldi, e_sti, e_ldj, e_stj, e_le_t, e_le_f, e_lt_t, e_lt_f, e_eq_t, e_eq_f, e_no_eq, e_no_eq', e_no_rfl, e_no_lt, e_no_le, e_le_no, e_lt_no, if_true, if_false, ↓reduceIte, e_rs, e_rq, e_rn, e_ji, e_ki, e_ij, e_kj, e_js, e_jq, e_jn, e_cs, e_cq, e_jc, e_kc, e_js', e_jcq, e_icj, e_kcj, or_true, true_or, or_false, false_or, and_true, true_and, not_true_eq_false, not_false_eq_true, h0, h1, hle, b_X2_work_210, g1, b_X2_work_261]
  · rw [o, p_ex_2 (by omega)] at hex
    have h0 := k_valueAt (s := 0) C hM T' (by omega) (by rw [p_sl_ne (by omega)]; exact p_us_0 (by omega))
    rw [p_sl_ne (by omega)] at h0
    by_cases hz : q_V P M (p_fi P f + i) 0 = nI 0
    · obtain ⟨S', g1, g2, g3⟩ := k_giveVar (s := 2) C hM T' (by omega) (by rw [p_sl_ne (by omega)]; exact p_us_2 (by omega))
      rw [p_sl_ne (by omega)] at g2
      refine ⟨S', ?_, by simp only [q_work, o]; rw [if_pos hz]; exact g2, g3⟩
      rw [hz] at h0
      rw [f_X2_work, e_ldi (by omega) (by omega), e_bind, hex]
      simp (disch := omega) only [e_let, e_call, e_cal0, e_bind, e_lit, e_ofN, e_neg, nI_add, pk_mul, e_sub, e_ldi, e_sti, e_ldj, e_stj, e_le_t, e_le_f, e_lt_t, e_lt_f, e_eq_t, e_eq_f, e_no_eq, e_no_eq', e_no_rfl, e_no_lt, e_no_le, e_le_no, e_lt_no, if_true, if_false, ↓reduceIte, e_rs, e_rq, e_rn, e_ji, e_ki, e_ij, e_kj, e_js, e_jq, e_jn, e_cs, e_cq, e_jc, e_kc, e_js', e_jcq, e_icj, e_kcj, or_true, true_or, or_false, false_or, and_true, true_and, not_true_eq_false, not_false_eq_true, h0, b_X2_work_234, g1, b_X2_work_261]
    · obtain ⟨S', g1, g2, g3⟩ := k_giveVar (s := 1) C hM T' (by omega) (by rw [p_sl_ne (by omega)]; exact p_us_1 (by omega))
      rw [p_sl_ne (by omega)] at g2
      refine ⟨S', ?_, by simp only [q_work, o]; rw [if_neg hz]; exact g2, g3⟩
      rw [f_X2_work, e_ldi (by omega) (by omega), e_bind, hex]
      simp (disch := omega) only [e_let, e_call, e_cal0, e_bind, e_lit, e_ofN, e_neg, nI_add, pk_mul, e_sub, e_ldi, e_sti, e_ldj, e_stj, e_le_t, e_le_f, e_lt_t, e_lt_f, e_eq_t, e_eq_f, e_no_eq, e_no_eq', e_no_rfl, e_no_lt, e_no_le, e_le_no, e_lt_no, if_true, if_false, ↓reduceIte, e_rs, e_rq, e_rn, e_ji, e_ki, e_ij, e_kj, e_js, e_jq, e_jn, e_cs, e_cq, e_jc, e_kc, e_js', e_jcq, e_icj, e_kcj, or_true, true_or, or_false, false_or, and_true, true_and, not_true_eq_false, not_false_eq_true, h0, hz, b_X2_work_234, g1, b_X2_work_261]
  · rw [o, p_ex_2 (by omega)] at hex
    have hpc := C.2.1.2.2.1 _ ((C.2.1.2.2.2.2 f i t5 t6).2.2.1 (by omega))
    obtain ⟨S', g1, g2, g3⟩ := k_giveVar (s := p_pa P (p_ca P (p_fi P f + i)) + 1) C hM T' (by omega) (by rw [p_sl_e o]; exact p_us_e o)
    rw [p_sl_e o] at g2
    have h6 := k_argumentCount C t5 t6 (by omega)
    refine ⟨S', ?_, by simp only [q_work, o]; exact g2, g3⟩
    rw [f_X2_work, e_ldi (by omega) (by omega), e_bind, hex]
    simp (disch := omega) only [e_let, e_call, e_cal0, e_bind, e_lit, e_ofN, e_neg, nI_add, pk_mul, e_sub, e_ldi, e_sti, e_ldj, e_stj, e_le_t, e_le_f, e_lt_t, e_lt_f, e_eq_t, e_eq_f, e_no_eq, e_no_eq', e_no_rfl, e_no_lt, e_no_le, e_le_no, e_lt_no, if_true, if_false, ↓reduceIte, e_rs, e_rq, e_rn, e_ji, e_ki, e_ij, e_kj, e_js, e_jq, e_jn, e_cs, e_cq, e_jc, e_kc, e_js', e_jcq, e_icj, e_kcj, or_true, true_or, or_false, false_or, and_true, true_and, not_true_eq_false, not_false_eq_true, f_X3_elseSlot, h6, g1, b_X2_work_261]
/-! a fun is called -/
def q_ar (P : pP) (l v : Nat) : Nat := if p_op P l = 8 then v else v + 1
def q_kk (P : pP) (M : qM) (l v : Nat) : Nat := if v < p_pa P (p_ca P l) then q_K P M l (q_ar P l v) else 0
def q_vv (P : pP) (M : qM) (l v : Nat) : Int32 := if v < p_pa P (p_ca P l) then q_V P M l (q_ar P l v) else nI 0
def q_call (P : pP) (D : pD) (M : qM) (f i : Nat) : qM :=
  if q_lv P D f i = true then q_s (q_s (q_s (q_push M (q_sc M 2 - 1) (p_ca P (p_fi P f + i)) (q_kk P M (p_fi P f + i)) (q_vv P M (p_fi P f + i))) 2 (q_sc M 2)) 11 1) 8 (q_sc M 8 + 1)
  else q_s (q_push M (q_sc M 2) (p_ca P (p_fi P f + i)) (q_kk P M (p_fi P f + i)) (q_vv P M (p_fi P f + i))) 2 (q_sc M 2 + 1)
/-- the new frame's row is filled up to j -/
def q_cI (S : m_M) (a n g : Nat) (kk : Nat → Nat) (vv : Nat → Int32) (j : Nat) (S' : m_M) : Prop :=
  (∀ q, q < a + 1 ∨ a + 4 < q → m_ri S' q = m_ri S q) ∧ (∀ i, i ≠ n → m_ri S' (a + 1) i = m_ri S (a + 1) i) ∧ (∀ i, i ≠ n → m_ri S' (a + 2) i = m_ri S (a + 2) i) ∧ m_ri S' (a + 1) n = nI g ∧ m_ri S' (a + 2) n = nI 0 ∧
  (∀ t, t < n * 27 → m_ri S' (a + 3) t = m_ri S (a + 3) t) ∧ (∀ t, t < n * 27 → m_ri S' (a + 4) t = m_ri S (a + 4) t) ∧
  (∀ v, v < 27 → m_ri S' (a + 3) (n * 27 + v) = nI (if v < j then kk v else 0)) ∧ (∀ v, v < 27 → m_ri S' (a + 4) (n * 27 + v) = if v < j then vv v else nI 0) ∧ m_rj S' = m_rj S ∧ m_rr S' = m_rr S
theorem k_oF {k : Nat} (hk : k < 13) : ∀ (d i fu : Nat) (S : m_M), i + d = 27 → d < fu → ∃ S', b_X2_openFrame_16 a fu S (nI k) (nI i) = some S' ∧ (∀ q, q < a + 3 ∨ a + 4 < q → m_ri S' q = m_ri S q) ∧ (∀ t, t < k * 27 + i → m_ri S' (a + 3) t = m_ri S (a + 3) t) ∧ (∀ t, t < k * 27 + i → m_ri S' (a + 4) t = m_ri S (a + 4) t) ∧ (∀ v, i ≤ v → v < 27 → m_ri S' (a + 3) (k * 27 + v) = nI 0) ∧ (∀ v, i ≤ v → v < 27 → m_ri S' (a + 4) (k * 27 + v) = nI 0) ∧ m_rj S' = m_rj S ∧ m_rr S' = m_rr S := by
  intro d
  induction d with
  | zero =>
    intro i fu S h hf
    obtain ⟨fu, rfl⟩ : ∃ f, fu = f + 1 := ⟨fu - 1, by omega⟩
    obtain rfl : i = 27 := by omega
    refine ⟨S, by simp (disch := omega) only [e_let, e_call, e_cal0, e_bind, e_lit, e_ofN, e_neg, nI_add, pk_mul, e_sub, e_ldi, e_sti, e_ldj, e_stj, e_le_t, e_le_f, e_lt_t, e_lt_f, e_eq_t, e_eq_f, e_no_eq, e_no_eq', e_no_rfl, e_no_lt, e_no_le, e_le_no, e_lt_no, if_true, if_false, ↓reduceIte, e_rs, e_rq, e_rn, e_ji, e_ki, e_ij, e_kj, e_js, e_jq, e_jn, e_cs, e_cq, e_jc, e_kc, e_js', e_jcq, e_icj, e_kcj, or_true, true_or, or_false, false_or, and_true, true_and, not_true_eq_false, not_false_eq_true, b_X2_openFrame_16], fun _ _ => rfl, fun _ _ => rfl, fun _ _ => rfl, fun v h1 h2 => absurd h2 (by omega), fun v h1 h2 => absurd h2 (by omega), rfl, rfl⟩
  | succ d ih =>
    intro i fu S h hf
    obtain ⟨fu, rfl⟩ : ∃ f, fu = f + 1 := ⟨fu - 1, by omega⟩
    obtain ⟨S', b1, b2, b3, b4, b5, b6, b7, b8⟩ := ih (i + 1) fu (m_si (m_si S (a + 3) (k * 27 + i) (nI 0)) (a + 4) (k * 27 + i) (nI 0)) (by omega) (by omega)
    refine ⟨S', ?_, fun q hq => ?_, fun t ht => ?_, fun t ht => ?_, fun v h1 h2 => ?_, fun v h1 h2 => ?_, by rw [b7]; rfl, by rw [b8]; rfl⟩
    · rw [← b1]; simp (disch := omega) only [e_let, e_call, e_cal0, e_bind, e_lit, e_ofN, e_neg, nI_add, pk_mul, e_sub, e_ldi, e_sti, e_ldj, e_stj, e_le_t, e_le_f, e_lt_t, e_lt_f, e_eq_t, e_eq_f, e_no_eq, e_no_eq', e_no_rfl, e_no_lt, e_no_le, e_le_no, e_lt_no, if_true, if_false, ↓reduceIte, e_rs, e_rq, e_rn, e_ji, e_ki, e_ij, e_kj, e_js, e_jq, e_jn, e_cs, e_cq, e_jc, e_kc, e_js', e_jcq, e_icj, e_kcj, or_true, true_or, or_false, false_or, and_true, true_and, not_true_eq_false, not_false_eq_true, b_X2_openFrame_16, f_X2_setVar]
    · rw [b2 q hq, e_rq (by omega), e_rq (by omega)]
    · rw [b3 t (by omega), e_rq (by omega), e_rn (by omega)]
    · rw [b4 t (by omega), e_rn (by omega), e_rq (by omega)]
    · by_cases hv : v = i
      · subst hv; rw [b3 _ (by omega), e_rq (by omega), e_rs]
      · exact b5 v (by omega) h2
    · by_cases hv : v = i
      · subst hv; rw [b4 _ (by omega), e_rs]
      · exact b6 v (by omega) h2
theorem k_openFrame {k g : Nat} (hk : k < 13) : ∃ S', f_X2_openFrame a S (nI k) (nI g) = some S' ∧ ∀ kk vv, q_cI S a k g kk vv 0 S' := by
  have hfu := m_fu_ge
  obtain ⟨S', b1, b2, b3, b4, b5, b6, b7, b8⟩ := k_oF (a := a) hk 27 0 m_fu (m_si (m_si S (a + 1) k (nI g)) (a + 2) k (nI 0)) rfl (by omega)
  refine ⟨S', by rw [← b1]; simp (disch := omega) only [e_let, e_call, e_cal0, e_bind, e_lit, e_ofN, e_neg, nI_add, pk_mul, e_sub, e_ldi, e_sti, e_ldj, e_stj, e_le_t, e_le_f, e_lt_t, e_lt_f, e_eq_t, e_eq_f, e_no_eq, e_no_eq', e_no_rfl, e_no_lt, e_no_le, e_le_no, e_lt_no, if_true, if_false, ↓reduceIte, e_rs, e_rq, e_rn, e_ji, e_ki, e_ij, e_kj, e_js, e_jq, e_jn, e_cs, e_cq, e_jc, e_kc, e_js', e_jcq, e_icj, e_kcj, or_true, true_or, or_false, false_or, and_true, true_and, not_true_eq_false, not_false_eq_true, f_X2_openFrame], fun kk vv => ⟨fun q hq => ?_, fun j hj => ?_, fun j hj => ?_, ?_, ?_, fun t ht => ?_, fun t ht => ?_, fun v hv => ?_, fun v hv => ?_, b7, b8⟩⟩
  · rw [b2 q (by omega), e_rq (by omega), e_rq (by omega)]
  · rw [b2 (a + 1) (by omega), e_rq (by omega), e_rn hj]
  · rw [b2 (a + 2) (by omega), e_rn hj, e_rq (by omega)]
  · rw [b2 _ (by omega), e_rq (by omega), e_rs]
  · rw [b2 _ (by omega), e_rs]
  · rw [b3 t (by omega), e_rq (by omega), e_rq (by omega)]
  · rw [b4 t (by omega), e_rq (by omega), e_rq (by omega)]
  · rw [b5 v (by omega) hv, if_neg (by omega)]
  · rw [b6 v (by omega) hv, if_neg (by omega)]
theorem p_sl_ar {l v : Nat} (ho : p_op P l = 8 ∨ p_op P l = 9) (hv : v < p_pa P (p_ca P l)) : p_sl P l v = q_ar P l v ∧ p_us P l (q_ar P l v) := by
  rcases ho with h | h
  · rw [p_sl_ne (by omega)]; simp only [q_ar]; rw [if_pos h]; exact ⟨rfl, p_us_8 h hv⟩
  · rw [p_sl_a h hv]; simp only [q_ar]; rw [if_neg (by omega)]; exact ⟨rfl, p_us_a h hv⟩
theorem k_args (C : q_P S a p P D) (hM : q_R S a M) (T : q_top P M f i) (ho : p_op P (p_fi P f + i) = 8 ∨ p_op P (p_fi P f + i) = 9) : ∀ (d j fu : Nat) (S' : m_M), j + d = p_pa P (p_ca P (p_fi P f + i)) → d < fu → q_cI S a (q_sc M 2) (p_ca P (p_fi P f + i)) (q_kk P M (p_fi P f + i)) (q_vv P M (p_fi P f + i)) j S' →
    ∃ S'', q_cI S a (q_sc M 2) (p_ca P (p_fi P f + i)) (q_kk P M (p_fi P f + i)) (q_vv P M (p_fi P f + i)) (p_pa P (p_ca P (p_fi P f + i))) S'' ∧ b_X2_callBy_17 a p fu S' (nI f) (nI (p_fi P f + i)) (nI j) = b_X2_callBy_17 a p (fu - d) S'' (nI f) (nI (p_fi P f + i)) (nI (p_pa P (p_ca P (p_fi P f + i)))) := by
  have T' := T
  obtain ⟨t1, t2, t3, t4, t5, t6, t7⟩ := T
  have hl := C.2.1.line t5 t6
  have hpc := C.2.1.2.2.1 _ ((C.2.1.2.2.2.2 f i t5 t6).2.2.1 (by omega))
  intro d
  induction d with
  | zero =>
    intro j fu S' hj hf hI
    have hj : j = _ := hj
    subst hj
    exact ⟨S', hI, rfl⟩
  | succ d ih =>
    intro j fu S' hj hf hI
    obtain ⟨fu, rfl⟩ : ∃ f, fu = f + 1 := ⟨fu - 1, by omega⟩
    rw [show fu + 1 - (d + 1) = fu - d by omega]
    obtain ⟨i1, i2, i3, i4, i5, i6, i7, i8, i9, i10, i11⟩ := hI
    have hd := C.1
    have C' : q_P S' a p P D := C.kept ⟨fun q hq => i1 q (by omega), i10, i11⟩
    have h6 := k_argumentCount C' t5 t6 (by omega)
    obtain ⟨sl, us⟩ := p_sl_ar (v := j) ho (by omega)
    have hop := (C'.2.2.1.2.2.2.2.2 f i t5 t6).2.2.2 j (by omega) (by rw [sl]; exact us)
    rw [sl] at hop
    have hva := (C.2.1.2.2.2.2 f i t5 t6).2.2.2 _ us
    have s2 : m_ri S' a 2 = nI (q_sc M 2) := by rw [i1 a (by omega)]; exact hM.1 2 (by omega) (by omega) (by omega)
    have hb : (q_sc M 2 - 1) * 27 + p_va P (p_fi P f + i) (q_ar P (p_fi P f + i) j) < q_sc M 2 * 27 := by omega
    have kk : m_ri S' (a + 3) ((q_sc M 2 - 1) * 27 + p_va P (p_fi P f + i) (q_ar P (p_fi P f + i) j)) = nI (q_kk P M (p_fi P f + i) j) := by
      rw [i6 _ hb, hM.2.2.2.2.2.1 (q_sc M 2 - 1) _ (by omega) (by omega)]; simp only [q_kk]; rw [if_pos (by omega)]; rfl
    have vv : m_ri S' (a + 4) ((q_sc M 2 - 1) * 27 + p_va P (p_fi P f + i) (q_ar P (p_fi P f + i) j)) = q_vv P M (p_fi P f + i) j := by
      rw [i7 _ hb, hM.2.2.2.2.2.2.1 (q_sc M 2 - 1) _ (by omega) (by omega)]; simp only [q_vv]; rw [if_pos (by omega)]; rfl
    obtain ⟨S'', g1, g2⟩ := ih (j + 1) fu (m_si (m_si S' (a + 3) (q_sc M 2 * 27 + j) (nI (q_kk P M (p_fi P f + i) j))) (a + 4) (q_sc M 2 * 27 + j) (q_vv P M (p_fi P f + i) j)) (by omega) (by omega)
      ⟨fun q hq => by rw [e_rq (by omega), e_rq (by omega)]; exact i1 q hq, fun k hk => by rw [e_rq (by omega), e_rq (by omega)]; exact i2 k hk, fun k hk => by rw [e_rq (by omega), e_rq (by omega)]; exact i3 k hk, by rw [e_rq (by omega), e_rq (by omega)]; exact i4, by rw [e_rq (by omega), e_rq (by omega)]; exact i5,
       fun t ht => by rw [e_rq (by omega), e_rn (by omega)]; exact i6 t ht, fun t ht => by rw [e_rn (by omega), e_rq (by omega)]; exact i7 t ht,
       fun v hv => by
        rw [e_rq (by omega), e_rif]
        by_cases h : v = j
        · subst h; rw [if_pos rfl, if_pos (by omega)]
        · rw [if_neg (by omega), i8 v hv]
          by_cases h2 : v < j
          · rw [if_pos h2, if_pos (by omega)]
          · rw [if_neg h2, if_neg (by omega)],
       fun v hv => by
        rw [e_rif]
        by_cases h : v = j
        · subst h; rw [if_pos rfl, if_pos (by omega)]
        · rw [if_neg (by omega), e_rq (by omega), i9 v hv]
          by_cases h2 : v < j
          · rw [if_pos h2, if_pos (by omega)]
          · rw [if_neg h2, if_neg (by omega)], i10, i11⟩
    refine ⟨S'', g1, ?_⟩
    rw [← g2]
    simp (disch := omega) only [e_let, e_call, e_cal0, e_bind, e_lit, e_ofN, e_neg, nI_add, pk_mul, e_sub, e_ldi, e_sti, e_ldj, e_stj, e_le_t, e_le_f, e_lt_t, e_lt_f, e_eq_t, e_eq_f, e_no_eq, e_no_eq', e_no_rfl, e_no_lt, e_no_le, e_le_no, e_lt_no, if_true, if_false, ↓reduceIte, e_rs, e_rq, e_rn, e_ji, e_ki, e_ij, e_kj, e_js, e_jq, e_jn, e_cs, e_cq, e_jc, e_kc, e_js', e_jcq, e_icj, e_kcj, or_true, true_or, or_false, false_or, and_true, true_and, not_true_eq_false, not_false_eq_true, b_X2_callBy_17, h6, f_X2_kindAt, f_X2_valueAt, f_X3_operandAt, hop, s2, kk, vv, f_X2_setVar]
theorem e_same {S : m_M} {q j : Nat} {v : Int32} (h : m_ri S q j = v) : m_si S q j v = S := by
  have : va_up S.1 q (va_up (S.1 q) j v) = S.1 := by
    funext t
    by_cases ht : t = q
    · subst ht; rw [va_up_self]; funext u; by_cases hu : u = j
      · subst hu; rw [va_up_self]; exact h.symm
      · rw [va_up_ne _ _ hu]
    · rw [va_up_ne _ _ ht]
  simp only [m_si, this]
theorem k_callBy (C : q_P S a p P D) (hM : q_R S a M) (hB : q_B P M) (T : q_top P M f i) (ho : p_op P (p_fi P f + i) = 8 ∨ p_op P (p_fi P f + i) = 9) (hlim : q_lv P D f i = false → q_sc M 2 < 12) : ∃ S', f_X2_callBy a p S (nI f) (nI (p_fi P f + i)) = some S' ∧ q_R S' a (q_call P D M f i) ∧ e_O a (a + 9) S S' := by
  have hfu := m_fu_ge
  have T' := T
  obtain ⟨t1, t2, t3, t4, t5, t6, t7⟩ := T
  have hl := C.2.1.line t5 t6
  have hca := (C.2.1.2.2.2.2 f i t5 t6).2.2.1 (by omega)
  have hpc := C.2.1.2.2.1 _ hca
  have hce := (C.2.2.1.2.2.2.2.2 f i t5 t6).2.1 (by omega)
  have s2 := hM.1 2 (by omega) (by omega) (by omega)
  have s8 := hM.1 8 (by omega) (by omega) (by omega)
  obtain ⟨S1, o1, o2⟩ := k_openFrame (S := S) (a := a) (k := q_sc M 2) (g := p_ca P (p_fi P f + i)) (by omega)
  obtain ⟨S2, g1, g2⟩ := k_args C hM T' ho (p_pa P (p_ca P (p_fi P f + i))) 0 m_fu S1 (by omega) (by omega) (o2 _ _)
  obtain ⟨i1, i2, i3, i4, i5, i6, i7, i8, i9, i10, i11⟩ := g1
  have hd := C.1
  have hO2 : e_O a (a + 9) S S2 := ⟨fun q hq => i1 q (by omega), i10, i11⟩
  have C2 := C.kept hO2
  have h6 := k_argumentCount C2 t5 t6 (by omega)
  have hlv := k_leavesBy C2 t5 t6
  have s2' : m_ri S2 a 2 = nI (q_sc M 2) := by rw [i1 a (by omega)]; exact s2
  have s8' : m_ri S2 a 8 = nI (q_sc M 8) := by rw [i1 a (by omega)]; exact s8
  obtain ⟨u, hu⟩ : ∃ u, m_fu - p_pa P (p_ca P (p_fi P f + i)) = u + 1 := ⟨m_fu - p_pa P (p_ca P (p_fi P f + i)) - 1, by omega⟩
  rw [hu] at g2
  have kkz : ∀ v, (if v < p_pa P (p_ca P (p_fi P f + i)) then q_kk P M (p_fi P f + i) v else 0) = q_kk P M (p_fi P f + i) v := by
    intro v; split
    · rfl
    · rename_i h; simp only [q_kk]; rw [if_neg h]
  have vvz : ∀ v, (if v < p_pa P (p_ca P (p_fi P f + i)) then q_vv P M (p_fi P f + i) v else nI 0) = q_vv P M (p_fi P f + i) v := by
    intro v; split
    · rfl
    · rename_i h; simp only [q_vv]; rw [if_neg h]
  simp only [kkz, vvz] at i8 i9
  by_cases hq : q_lv P D f i = true
  · rw [if_pos hq] at hlv
    have hR : q_R (m_si (m_ci (m_ci (m_si (m_si S2 (a + 1) (q_sc M 2 - 1) (nI (p_ca P (p_fi P f + i)))) (a + 2) (q_sc M 2 - 1) (nI 0)) (a + 3) (va_cpy (m_ri S2 (a + 3)) (m_ri S2 (a + 3)) (q_sc M 2 * 27) ((q_sc M 2 - 1) * 27) 27)) (a + 4) (va_cpy (m_ri S2 (a + 4)) (m_ri S2 (a + 4)) (q_sc M 2 * 27) ((q_sc M 2 - 1) * 27) 27)) a 2 (nI (q_sc M 2))) a (q_s (q_push M (q_sc M 2 - 1) (p_ca P (p_fi P f + i)) (q_kk P M (p_fi P f + i)) (q_vv P M (p_fi P f + i))) 2 (q_sc M 2)) := by
      refine q_R.push (k := q_sc M 2 - 1) (n := q_sc M 2) hM (Or.inl (Nat.le_refl _)) (fun q hq' => ?_) (fun j hj hjn => ?_) (fun j hj hjn => ?_) (fun j v hj hjn hv => ?_) (fun j v hj hjn hv => ?_) ?_ ?_ (fun v hv => ?_) (fun v hv => ?_) (by omega)
      · rw [e_cq (by omega), e_cq (by omega), e_rq (by omega), e_rq (by omega)]; exact i1 q hq'
      · rw [e_cq (by omega), e_cq (by omega), e_rq (by omega), e_rn hj]; exact i2 j (by omega)
      · rw [e_cq (by omega), e_cq (by omega), e_rn hj, e_rq (by omega)]; exact i3 j (by omega)
      · rw [e_cq (by omega), e_cs]; simp only [va_cpy]; rw [if_neg (by omega)]; exact i6 _ (by omega)
      · rw [e_cs]; simp only [va_cpy]; rw [if_neg (by omega)]; exact i7 _ (by omega)
      · rw [e_cq (by omega), e_cq (by omega), e_rq (by omega), e_rs]
      · rw [e_cq (by omega), e_cq (by omega), e_rs]
      · rw [e_cq (by omega), e_cs]; simp only [va_cpy]; rw [if_pos (by omega), show q_sc M 2 * 27 + ((q_sc M 2 - 1) * 27 + v - (q_sc M 2 - 1) * 27) = q_sc M 2 * 27 + v by omega]; exact i8 v hv
      · rw [e_cs]; simp only [va_cpy]; rw [if_pos (by omega), show q_sc M 2 * 27 + ((q_sc M 2 - 1) * 27 + v - (q_sc M 2 - 1) * 27) = q_sc M 2 * 27 + v by omega]; exact i9 v hv
    rw [e_same (by rw [e_cq (by omega), e_cq (by omega), e_rq (by omega), e_rq (by omega)]; exact s2')] at hR
    have hR2 := (hR.s (j := 11) (v := 1) (by omega) (by omega) (by omega)).s (j := 8) (v := q_sc M 8 + 1) (by omega) (by omega) (by omega)
    refine ⟨_, ?_, by rw [q_call, if_pos hq]; exact hR2, ?_⟩
    · simp (disch := omega) only [e_let, e_call, e_cal0, e_bind, e_lit, e_ofN, e_neg, nI_add, pk_mul, e_sub, e_ldi, e_sti, e_ldj, e_stj, e_le_t, e_le_f, e_lt_t, e_lt_f, e_eq_t, e_eq_f, e_no_eq, e_no_eq', e_no_rfl, e_no_lt, e_no_le, e_le_no, e_lt_no, if_true, if_false, ↓reduceIte, e_rs, e_rq, e_rn, e_ji, e_ki, e_ij, e_kj, e_js, e_jq, e_jn, e_cs, e_cq, e_jc, e_kc, e_js', e_jcq, e_icj, e_kcj, or_true, true_or, or_false, false_or, and_true, true_and, not_true_eq_false, not_false_eq_true, f_X2_callBy, hce, s2, o1]
      rw [g2]
      simp (disch := omega) only [e_let, e_call, e_cal0, e_bind, e_lit, e_ofN, e_neg, nI_add, pk_mul, e_sub, e_ldi, e_sti, e_ldj, e_stj, e_le_t, e_le_f, e_lt_t, e_lt_f, e_eq_t, e_eq_f, e_no_eq, e_no_eq', e_no_rfl, e_no_lt, e_no_le, e_le_no, e_lt_no, if_true, if_false, ↓reduceIte, e_rs, e_rq, e_rn, e_ji, e_ki, e_ij, e_kj, e_js, e_jq, e_jn, e_cs, e_cq, e_jc, e_kc, e_js', e_jcq, e_icj, e_kcj, or_true, true_or, or_false, false_or, and_true, true_and, not_true_eq_false, not_false_eq_true, b_X2_callBy_17, h6, hlv, s2', f_X2_moveFrame, i4, i5, e_cpi, b_X2_callBy_110, s8']
    · refine e_O.si (e_O.si (e_O.ci (e_O.ci (e_O.si (e_O.si hO2 ?_ ?_) ?_ ?_) ?_ ?_) ?_ ?_) ?_ ?_) ?_ ?_ <;> omega
  · have hq' : q_lv P D f i = false := Bool.eq_false_iff.mpr hq
    have h12 := hlim hq'
    rw [if_neg hq] at hlv
    have hR : q_R (m_si S2 a 2 (nI (q_sc M 2 + 1))) a (q_s (q_push M (q_sc M 2) (p_ca P (p_fi P f + i)) (q_kk P M (p_fi P f + i)) (q_vv P M (p_fi P f + i))) 2 (q_sc M 2 + 1)) :=
      q_R.push (k := q_sc M 2) (n := q_sc M 2 + 1) hM (Or.inr ⟨rfl, rfl⟩) i1 (fun j hj _ => i2 j hj) (fun j hj _ => i3 j hj) (fun j v hj hjn hv => i6 _ (by omega)) (fun j v hj hjn hv => i7 _ (by omega)) i4 i5 i8 i9 (by omega)
    refine ⟨_, ?_, by rw [q_call, if_neg hq]; exact hR, hO2.si (by omega) (by omega)⟩
    simp (disch := omega) only [e_let, e_call, e_cal0, e_bind, e_lit, e_ofN, e_neg, nI_add, pk_mul, e_sub, e_ldi, e_sti, e_ldj, e_stj, e_le_t, e_le_f, e_lt_t, e_lt_f, e_eq_t, e_eq_f, e_no_eq, e_no_eq', e_no_rfl, e_no_lt, e_no_le, e_le_no, e_lt_no, if_true, if_false, ↓reduceIte, e_rs, e_rq, e_rn, e_ji, e_ki, e_ij, e_kj, e_js, e_jq, e_jn, e_cs, e_cq, e_jc, e_kc, e_js', e_jcq, e_icj, e_kcj, or_true, true_or, or_false, false_or, and_true, true_and, not_true_eq_false, not_false_eq_true, f_X2_callBy, hce, s2, o1]
    rw [g2]
    simp (disch := omega) only [e_let, e_call, e_cal0, e_bind, e_lit, e_ofN, e_neg, nI_add, pk_mul, e_sub, e_ldi, e_sti, e_ldj, e_stj, e_le_t, e_le_f, e_lt_t, e_lt_f, e_eq_t, e_eq_f, e_no_eq, e_no_eq', e_no_rfl, e_no_lt, e_no_le, e_le_no, e_lt_no, if_true, if_false, ↓reduceIte, e_rs, e_rq, e_rn, e_ji, e_ki, e_ij, e_kj, e_js, e_jq, e_jn, e_cs, e_cq, e_jc, e_kc, e_js', e_jcq, e_icj, e_kcj, or_true, true_or, or_false, false_or, and_true, true_and, not_true_eq_false, not_false_eq_true, b_X2_callBy_17, h6, hlv, s2', b_X2_callBy_110]
end QW
