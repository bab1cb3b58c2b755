/-! a step, a beginning: the one side -/
section QX
variable {S : m_M} {a p : Nat} {P : pP} {D : pD} {M : qM}
def q_m1 (D : pD) (M : qM) : qM := q_mk (q_s M 11 0) (d_bg D (q_ff M (q_sc M 2 - 1)) (q_fl M (q_sc M 2 - 1))) (q_sc M 2)
def q_m2 (D : pD) (M : qM) : qM := q_s (q_m1 D M) 6 (q_sc M 6 + 1)
theorem q_m1_sc {j : Nat} (h : j ≠ 11) : q_sc (q_m1 D M) j = q_sc M j := by
  show (if j = 11 then 0 else q_sc M j) = _
  rw [if_neg h]
theorem q_m2_sc {j : Nat} (h : j ≠ 11) (h6 : j ≠ 6) : q_sc (q_m2 D M) j = q_sc M j := by
  show (if j = 6 then q_sc M 6 + 1 else q_sc (q_m1 D M) j) = _
  rw [if_neg h6, q_m1_sc h]
def q_step (P : pP) (D : pD) (M : qM) : qM :=
  if q_stop P D (q_m1 D M) (q_ff M (q_sc M 2 - 1)) (q_fl M (q_sc M 2 - 1)) ≠ 0 then q_s (q_s (q_m2 D M) 0 3) 1 (q_stop P D (q_m1 D M) (q_ff M (q_sc M 2 - 1)) (q_fl M (q_sc M 2 - 1)))
  else if q_cl P (q_m2 D M) (p_fi P (q_ff M (q_sc M 2 - 1)) + q_fl M (q_sc M 2 - 1)) = true then q_call P D (q_m2 D M) (q_ff M (q_sc M 2 - 1)) (q_fl M (q_sc M 2 - 1))
  else q_set P D 12 (q_work P D (q_m2 D M) (q_ff M (q_sc M 2 - 1)) (q_fl M (q_sc M 2 - 1)))
/-- what a step stands on -/
def q_sp (P : pP) (D : pD) (M : qM) : Prop :=
  q_sc M 0 = 1 ∧ 1 ≤ q_sc M 2 ∧ q_sc M 6 ≤ 5000 ∧ q_B P M ∧ q_B P (q_m1 D M) ∧
  (q_stop P D (q_m1 D M) (q_ff M (q_sc M 2 - 1)) (q_fl M (q_sc M 2 - 1)) = 0 → q_cl P (q_m2 D M) (p_fi P (q_ff M (q_sc M 2 - 1)) + q_fl M (q_sc M 2 - 1)) = false →
    q_wk P D (q_m2 D M) (q_ff M (q_sc M 2 - 1)) (q_fl M (q_sc M 2 - 1)) ∧ q_oks P D 12 (q_work P D (q_m2 D M) (q_ff M (q_sc M 2 - 1)) (q_fl M (q_sc M 2 - 1))))
theorem q_work_2 {f i : Nat} : q_sc (q_work P D M f i) 2 = q_sc M 2 := by
  simp only [q_work]
  split <;> rfl
theorem q_stop_lim {f i : Nat} (h : q_stop P D M f i = 0) (hc : q_cl P M (p_fi P f + i) = true) (hl : q_lv P D f i = false) : q_sc M 2 < 12 := by
  simp only [q_stop] at h
  split at h
  · omega
  split at h
  · omega
  split at h
  · omega
  · rename_i h3
    rcases Nat.lt_or_ge (q_sc M 2) 12 with h4 | h4
    · exact h4
    · exact absurd ⟨hc, h4, hl⟩ h3
theorem q_stop_lt {f i : Nat} : q_stop P D M f i < 6 := by
  simp only [q_stop]
  split
  · omega
  split
  · omega
  split
  · omega
  split
  · omega
  split <;> omega
theorem q_cl_op {l : Nat} (h : q_cl P M l = true) : p_op P l = 8 ∨ p_op P l = 9 := by
  simp only [q_cl, Bool.or_eq_true, Bool.and_eq_true, decide_eq_true_eq] at h
  rcases h with h | ⟨h, -⟩
  · exact Or.inl h
  · exact Or.inr h
theorem q_cl_no {l : Nat} (h : q_cl P M l = false) : p_op P l ≠ 8 := by
  intro q
  simp [q_cl, q] at h
theorem q_m12 {l : Nat} : q_cl P (q_m2 D M) l = q_cl P (q_m1 D M) l := by
  have h : q_V P (q_m2 D M) l 0 = q_V P (q_m1 D M) l 0 := by
    simp only [q_V]
    rw [q_m2_sc (by omega) (by omega), q_m1_sc (by omega)]; rfl
  simp only [q_cl, h]
theorem k_step (C : q_P S a p P D) (hM : q_R S a M) (hs : q_sp P D M) : ∃ S', f_X2_makeStep a p S = some S' ∧ q_R S' a (q_step P D M) ∧ e_O a (a + 9) S S' := by
  have hfu := m_fu_ge
  obtain ⟨h0, hn, h6, hB, hB1, hgo⟩ := hs
  have T := hB.top hn
  generalize hf : q_ff M (q_sc M 2 - 1) = f at *
  generalize hi : q_fl M (q_sc M 2 - 1) = i at *
  have T0 := T
  obtain ⟨t1, t2, t3, t4, t5, t6, t7⟩ := T
  have hl := C.2.1.line t5 t6
  have s0 := hM.1 0 (by omega) (by omega) (by omega)
  have s2 := hM.1 2 (by omega) (by omega) (by omega)
  have hff := hM.2.2.2.1 (q_sc M 2 - 1) (by omega)
  have hfl := hM.2.2.2.2.1 (q_sc M 2 - 1) (by omega)
  rw [h0] at s0
  rw [hf] at hff
  rw [hi] at hfl
  have hfi := C.2.2.1.2.2.2.1 _ t5
  have hd := C.1
  have hdd : p + 3 ≠ a ∧ p + 20 ≠ a := by omega
  have hR1 := hM.s (j := 11) (v := 0) (by omega) (by omega) (by omega)
  have hbits := fun r hr => C.2.2.2.1.2.2.1 f i r t5 t6 hr
  have e1 : q_m1 D M = q_mk (q_s M 11 0) (d_bg D f i) (q_sc M 2) := by simp only [q_m1, hf, hi]
  obtain ⟨S9, g1, g2, g3⟩ := k_mk (lev := q_sc M 2) hbits hR1 hB.2.2.2.2.2.1 (by have := hB1.2.1; rw [e1] at this; exact this)
  rw [← e1] at g2
  have hO1 : e_O a (a + 9) S (m_si S a 11 (nI 0)) := e_O.rf.si (by omega) (by omega)
  have hO9 := hO1.tr g3
  have C9 := C.kept hO9
  have T1 : q_top P (q_m1 D M) f i := by
    have : q_sc (q_m1 D M) 2 = q_sc M 2 := q_m1_sc (by omega)
    simp only [q_top, this]
    exact ⟨t1, t2, t3, t4, t5, t6, t7⟩
  have hst := k_stop C9 g2 hB1 T1
  have e6 : q_sc (q_m1 D M) 6 = q_sc M 6 := q_m1_sc (by omega)
  have s6 := g2.1 6 (by omega) (by omega) (by omega)
  rw [e6] at s6
  have hR2 := g2.s (j := 6) (v := q_sc M 6 + 1) (by omega) (by omega) (by omega)
  have hO2 : e_O a (a + 9) S (m_si S9 a 6 (nI (q_sc M 6 + 1))) := hO9.si (by omega) (by omega)
  have C2 := C.kept hO2
  have hB2 : q_B P (q_m2 D M) := hB1.s (by omega) (by omega) (by omega) (by omega) (by omega) (by omega) (by omega) (by omega)
  have T2 : q_top P (q_m2 D M) f i := by
    have : q_sc (q_m2 D M) 2 = q_sc M 2 := q_m2_sc (by omega) (by omega)
    simp only [q_top, this]
    exact ⟨t1, t2, t3, t4, t5, t6, t7⟩
  have hstl := q_stop_lt (P := P) (D := D) (M := q_m1 D M) (f := f) (i := i)
  by_cases hz : q_stop P D (q_m1 D M) f i = 0
  · rw [hz] at hst
    have hcn := k_callsNow C2 hR2 T2
    by_cases hc : q_cl P (q_m2 D M) (p_fi P f + i) = true
    · have hc2 : q_cl P (q_s (q_m1 D M) 6 (q_sc M 6 + 1)) (p_fi P f + i) = true := hc
      rw [if_pos hc2] at hcn
      have hlim : q_lv P D f i = false → q_sc (q_m2 D M) 2 < 12 := fun hl => by
        rw [q_m2_sc (by omega) (by omega), ← q_m1_sc (D := D) (M := M) (j := 2) (by omega)]
        exact q_stop_lim hz (q_m12 ▸ hc) hl
      obtain ⟨S', f1, f2, f3⟩ := k_callBy C2 hR2 hB2 T2 (q_cl_op hc) hlim
      refine ⟨S', ?_, ?_, hO2.tr f3⟩
      · simp (disch := omega) only [e_let, e_call, e_cal0, e_bind, e_lit, e_ofN, e_neg, nI_add, pk_mul, e_sub, e_ldi, e_sti, e_ldj, e_stj, e_le_t, e_le_f, e_lt_t, e_lt_f, e_eq_t, e_eq_f, e_no_eq, e_no_eq', e_no_rfl, e_no_lt, e_no_le, e_le_no, e_lt_no, if_true, if_false, ↓reduceIte, e_rs, e_rq, e_rn, e_ji, e_ki, e_ij, e_kj, e_js, e_jq, e_jn, e_cs, e_cq, e_jc, e_kc, e_js', e_jcq, e_icj, e_kcj, or_true, true_or, or_false, false_or, and_true, true_and, not_true_eq_false, not_false_eq_true, f_X2_makeStep, s0, s2, hff, hfl, e_rq hdd.1, e_rq hdd.2, hfi, g1, hst, s6, hcn, f1, b_X2_makeStep_134]
      · rw [q_step, hf, hi, if_neg (by rw [hz]; exact fun h => h rfl), if_pos hc]; exact f2
    · have hc2 : ¬ q_cl P (q_s (q_m1 D M) 6 (q_sc M 6 + 1)) (p_fi P f + i) = true := hc
      rw [if_neg hc2] at hcn
      have hc' : q_cl P (q_m2 D M) (p_fi P f + i) = false := Bool.eq_false_iff.mpr hc
      obtain ⟨hw, hk⟩ := hgo hz hc'
      obtain ⟨S3, f1, f2, f3⟩ := k_work C2 hR2 hB2 T2 (q_cl_no hc') hw
      have hO3 := hO2.tr f3
      have e22 : q_sc (q_m2 D M) 2 = q_sc M 2 := q_m2_sc (by omega) (by omega)
      obtain ⟨S', w1, w2, w3⟩ := k_settle 12 0 m_fu S3 _ (by omega) (by omega) (C.kept hO3) f2 (by rw [q_work_2]; exact T2.2.1) hk
      refine ⟨S', ?_, ?_, hO3.tr w3⟩
      · simp (disch := omega) only [e_let, e_call, e_cal0, e_bind, e_lit, e_ofN, e_neg, nI_add, pk_mul, e_sub, e_ldi, e_sti, e_ldj, e_stj, e_le_t, e_le_f, e_lt_t, e_lt_f, e_eq_t, e_eq_f, e_no_eq, e_no_eq', e_no_rfl, e_no_lt, e_no_le, e_le_no, e_lt_no, if_true, if_false, ↓reduceIte, e_rs, e_rq, e_rn, e_ji, e_ki, e_ij, e_kj, e_js, e_jq, e_jn, e_cs, e_cq, e_jc, e_kc, e_js', e_jcq, e_icj, e_kcj, or_true, true_or, or_false, false_or, and_true, true_and, not_true_eq_false, not_false_eq_true, f_X2_makeStep, s0, s2, hff, hfl, e_rq hdd.1, e_rq hdd.2, hfi, g1, hst, s6, hcn, f1, b_X2_makeStep_134, f_X2_settle, w1]
      · rw [q_step, hf, hi, if_neg (by rw [hz]; exact fun h => h rfl), if_neg hc]; exact w2
  · have hR3 := (hR2.s (j := 0) (v := 3) (by omega) (by omega) (by omega)).s (j := 1) (v := q_stop P D (q_m1 D M) f i) (by omega) (by omega) (by omega)
    refine ⟨_, ?_, by rw [q_step, hf, hi, if_pos hz]; exact hR3, (hO2.si (by omega) (by omega)).si (by omega) (by omega)⟩
    simp (disch := omega) only [e_let, e_call, e_cal0, e_bind, e_lit, e_ofN, e_neg, nI_add, pk_mul, e_sub, e_ldi, e_sti, e_ldj, e_stj, e_le_t, e_le_f, e_lt_t, e_lt_f, e_eq_t, e_eq_f, e_no_eq, e_no_eq', e_no_rfl, e_no_lt, e_no_le, e_le_no, e_lt_no, if_true, if_false, ↓reduceIte, e_rs, e_rq, e_rn, e_ji, e_ki, e_ij, e_kj, e_js, e_jq, e_jn, e_cs, e_cq, e_jc, e_kc, e_js', e_jcq, e_icj, e_kcj, or_true, true_or, or_false, false_or, and_true, true_and, not_true_eq_false, not_false_eq_true, f_X2_makeStep, s0, s2, hff, hfl, e_rq hdd.1, e_rq hdd.2, hfi, g1, hst, s6, b_X2_makeStep_134]
/-! at the beginning -/
def q_emp : qM := (fun _ => 0, fun _ => 0, fun _ => 0, fun _ _ => 0, fun _ _ => nI 0, [], fun _ => none, fun _ _ => 0, fun _ _ => nI 0, nI 0)
theorem k_clear : ∃ S', f_X2_clear a S = some S' ∧ q_R S' a q_emp ∧ e_O a (a + 9) S S' := by
  refine ⟨_, by simp (disch := omega) only [e_let, e_call, e_cal0, e_bind, e_lit, e_ofN, e_neg, nI_add, pk_mul, e_sub, e_ldi, e_sti, e_ldj, e_stj, e_le_t, e_le_f, e_lt_t, e_lt_f, e_eq_t, e_eq_f, e_no_eq, e_no_eq', e_no_rfl, e_no_lt, e_no_le, e_le_no, e_lt_no, if_true, if_false, ↓reduceIte, e_rs, e_rq, e_rn, e_ji, e_ki, e_ij, e_kj, e_js, e_jq, e_jn, e_cs, e_cq, e_jc, e_kc, e_js', e_jcq, e_icj, e_kcj, or_true, true_or, or_false, false_or, and_true, true_and, not_true_eq_false, not_false_eq_true, f_X2_clear, k_fills]; rfl, ⟨fun j hj h3 h10 => ?_, ?_, ?_, fun k hk => ?_, fun k hk => ?_, fun k v hk hv => ?_, fun k v hk hv => ?_, fun j x hx => ?_, fun c hc => ?_, fun c s hc hs hl => ?_, fun c s hc hs hl => ?_⟩, ?_⟩
  · rw [e_cq (by omega)]
    show _ = nI 0
    rcases (by omega : j = 0 ∨ j = 1 ∨ j = 2 ∨ j = 4 ∨ j = 5 ∨ j = 6 ∨ j = 7 ∨ j = 8 ∨ j = 9 ∨ j = 11) with h | h | h | h | h | h | h | h | h | h <;> subst h <;> simp (disch := omega) only [e_let, e_call, e_cal0, e_bind, e_lit, e_ofN, e_neg, nI_add, pk_mul, e_sub, e_ldi, e_sti, e_ldj, e_stj, e_le_t, e_le_f, e_lt_t, e_lt_f, e_eq_t, e_eq_f, e_no_eq, e_no_eq', e_no_rfl, e_no_lt, e_no_le, e_le_no, e_lt_no, if_true, if_false, ↓reduceIte, e_rs, e_rq, e_rn, e_ji, e_ki, e_ij, e_kj, e_js, e_jq, e_jn, e_cs, e_cq, e_jc, e_kc, e_js', e_jcq, e_icj, e_kcj, or_true, true_or, or_false, false_or, and_true, true_and, not_true_eq_false, not_false_eq_true]
  · rw [e_cq (by omega)]; simp (disch := omega) only [e_let, e_call, e_cal0, e_bind, e_lit, e_ofN, e_neg, nI_add, pk_mul, e_sub, e_ldi, e_sti, e_ldj, e_stj, e_le_t, e_le_f, e_lt_t, e_lt_f, e_eq_t, e_eq_f, e_no_eq, e_no_eq', e_no_rfl, e_no_lt, e_no_le, e_le_no, e_lt_no, if_true, if_false, ↓reduceIte, e_rs, e_rq, e_rn, e_ji, e_ki, e_ij, e_kj, e_js, e_jq, e_jn, e_cs, e_cq, e_jc, e_kc, e_js', e_jcq, e_icj, e_kcj, or_true, true_or, or_false, false_or, and_true, true_and, not_true_eq_false, not_false_eq_true]; rfl
  · rw [e_cq (by omega)]; simp (disch := omega) only [e_let, e_call, e_cal0, e_bind, e_lit, e_ofN, e_neg, nI_add, pk_mul, e_sub, e_ldi, e_sti, e_ldj, e_stj, e_le_t, e_le_f, e_lt_t, e_lt_f, e_eq_t, e_eq_f, e_no_eq, e_no_eq', e_no_rfl, e_no_lt, e_no_le, e_le_no, e_lt_no, if_true, if_false, ↓reduceIte, e_rs, e_rq, e_rn, e_ji, e_ki, e_ij, e_kj, e_js, e_jq, e_jn, e_cs, e_cq, e_jc, e_kc, e_js', e_jcq, e_icj, e_kcj, or_true, true_or, or_false, false_or, and_true, true_and, not_true_eq_false, not_false_eq_true]; rfl
  · exact absurd hk (Nat.not_lt_zero _)
  · exact absurd hk (Nat.not_lt_zero _)
  · exact absurd hk (Nat.not_lt_zero _)
  · exact absurd hk (Nat.not_lt_zero _)
  · cases hx
  · rw [e_cs]; rw [if_pos hc]; rfl
  · exact absurd rfl hl
  · exact absurd rfl hl
  · refine e_O.ci (e_O.si (e_O.si (e_O.si (e_O.si (e_O.si (e_O.si (e_O.si (e_O.si (e_O.si (e_O.si (e_O.si (e_O.si e_O.rf ?_ ?_) ?_ ?_) ?_ ?_) ?_ ?_) ?_ ?_) ?_ ?_) ?_ ?_) ?_ ?_) ?_ ?_) ?_ ?_) ?_ ?_) ?_ ?_) ?_ ?_ <;> omega
def q_begin (P : pP) (D : pD) : qM := q_s (q_s (q_push (q_mk q_emp (d_ou D (p_fu P - 1)) 0) 0 (p_fu P - 1) (fun _ => 0) (fun _ => nI 0)) 2 1) 0 1
theorem k_begin (C : q_P S a p P D) (h0 : 1 ≤ p_fu P) : ∃ S', f_X2_begin a p S = some S' ∧ q_R S' a (q_begin P D) ∧ e_O a (a + 9) S S' := by
  obtain ⟨S1, g1, g2, g3⟩ := k_clear (S := S) (a := a)
  have C1 := C.kept g3
  have hfu := C1.2.2.1.1
  have h5 := C.2.1.1
  have hbits := fun r hr => C1.2.2.2.1.2.2.2.2 (p_fu P - 1) r (by omega) hr
  obtain ⟨S4, f1, f2, f3⟩ := k_mk (lev := 0) hbits g2 (fun c x _ h => by cases h) (by
    show ([] ++ q_rs _ 0 0 24).length ≤ 312
    have := q_rs_len (b := d_ou D (p_fu P - 1)) (lev := 0) (d := 24) (k := 0)
    rw [List.nil_append]; omega)
  have hfu4 := (C1.kept f3).2.2.1.1
  obtain ⟨S5, o1, o2⟩ := k_openFrame (S := S4) (a := a) (k := 0) (g := p_fu P - 1) (by omega)
  obtain ⟨i1, i2, i3, i4, i5, i6, i7, i8, i9, i10, i11⟩ := o2 (fun _ => 0) (fun _ => nI 0)
  have hR := q_R.push (k := 0) (g := p_fu P - 1) (n := 1) (S' := S5) (kk := fun _ => 0) (vv := fun _ => nI 0) f2 (Or.inr ⟨rfl, rfl⟩) i1 (fun j hj _ => i2 j hj) (fun j hj _ => i3 j hj) (fun j v hj hjn hv => by omega) (fun j v hj hjn hv => by omega) i4 i5 (fun v hv => by have := i8 v hv; rw [if_neg (by omega)] at this; exact this) (fun v hv => by have := i9 v hv; rw [if_neg (by omega)] at this; exact this) (by omega)
  have hR2 := hR.s (j := 0) (v := 1) (by omega) (by omega) (by omega)
  refine ⟨_, ?_, hR2, ?_⟩
  · have e16 : p + 16 = p + 16 := rfl
    simp (disch := omega) only [e_let, e_call, e_cal0, e_bind, e_lit, e_ofN, e_neg, nI_add, pk_mul, e_sub, e_ldi, e_sti, e_ldj, e_stj, e_le_t, e_le_f, e_lt_t, e_lt_f, e_eq_t, e_eq_f, e_no_eq, e_no_eq', e_no_rfl, e_no_lt, e_no_le, e_le_no, e_lt_no, if_true, if_false, ↓reduceIte, e_rs, e_rq, e_rn, e_ji, e_ki, e_ij, e_kj, e_js, e_jq, e_jn, e_cs, e_cq, e_jc, e_kc, e_js', e_jcq, e_icj, e_kcj, or_true, true_or, or_false, false_or, and_true, true_and, not_true_eq_false, not_false_eq_true, f_X2_begin, g1, hfu, f1, hfu4, o1]
  · refine e_O.si (e_O.si ((g3.tr f3).tr ⟨fun q hq => i1 q (by omega), i10, i11⟩) ?_ ?_) ?_ ?_ <;> omega
end QX
