/-! the program and its regions in the memory of the one side -/
def p_ex (n : Nat) : Nat := if n = 0 then 22 else if n = 1 then 23 else n
/-- which place of a line a slot tells -/
def p_sl (P : pP) (l s : Nat) : Nat := if p_op P l = 9 then (if s < p_pa P (p_ca P l) then s + 1 else if s = p_pa P (p_ca P l) then 0 else if s = p_pa P (p_ca P l) + 1 then 4 else 5) else s
def p_R (S : m_M) (p : Nat) (P : pP) : Prop :=
  m_ri S p 0 = nI (p_fu P) ∧ m_ri S p 1 = nI (p_ln P) ∧ (∀ f, f < p_fu P → m_ri S (p + 2) f = nI (p_pa P f)) ∧ (∀ f, f < p_fu P → m_ri S (p + 3) f = nI (p_fi P f)) ∧ (∀ f, f < p_fu P → m_ri S (p + 4) f = nI (p_ct P f)) ∧
  (∀ f i, f < p_fu P → i < p_ct P f → m_ri S (p + 5) (p_fi P f + i) = nI (p_ex (p_op P (p_fi P f + i))) ∧ (8 ≤ p_op P (p_fi P f + i) → m_ri S (p + 6) (p_fi P f + i) = nI (p_ca P (p_fi P f + i))) ∧
    (p_op P (p_fi P f + i) = 0 → m_ri S (p + 7) ((p_fi P f + i) * 5 + 0) = nI (p_nu P (p_fi P f + i))) ∧ ∀ s, s < 5 → p_us P (p_fi P f + i) (p_sl P (p_fi P f + i) s) → m_ri S (p + 7) ((p_fi P f + i) * 5 + s) = nI (p_va P (p_fi P f + i) (p_sl P (p_fi P f + i) s)))
def d_S (D : pD) : Prop := (∀ t f v r, 24 ≤ r → D.2.2 t f v r = false) ∧ (∀ f v, D.1 f v ≤ 24) ∧ ∀ r s, D.2.1 r s ≤ 24
def d_R (S : m_M) (p : Nat) (P : pP) (D : pD) : Prop :=
  (∀ f v, f < p_fu P → v < p_vs P f → m_ri S (p + 9) (f * 27 + v) = nO (d_pt D f v)) ∧ (∀ f v r, f < p_fu P → v < p_vs P f → r < 32 → bt (m_ri S (p + 10) (f * 27 + v)) r = d_rc D f v r) ∧
  (∀ f i r, f < p_fu P → i < p_ct P f → r < 32 → bt (m_ri S (p + 20) (p_fi P f + i)) r = d_bg D f i r) ∧ (∀ f i r, f < p_fu P → i < p_ct P f → r < 32 → bt (m_ri S (p + 21) (p_fi P f + i)) r = d_en D f i r) ∧
  (∀ f r, f < p_fu P → r < 32 → bt (m_ri S (p + 16) f) r = d_ou D f r)
theorem p_R.kept {S S' : m_M} {p : Nat} {P : pP} (h : p_R S p P) (w : ∀ q, p ≤ q → q < p + 22 → m_ri S' q = m_ri S q) : p_R S' p P := by
  simp only [p_R, w p (by omega) (by omega), w (p + 2) (by omega) (by omega), w (p + 3) (by omega) (by omega), w (p + 4) (by omega) (by omega), w (p + 5) (by omega) (by omega), w (p + 6) (by omega) (by omega), w (p + 7) (by omega) (by omega)]
  exact h
theorem d_R.kept {S S' : m_M} {p : Nat} {P : pP} {D : pD} (h : d_R S p P D) (w : ∀ q, p ≤ q → q < p + 22 → m_ri S' q = m_ri S q) : d_R S' p P D := by
  simp only [d_R, w (p + 9) (by omega) (by omega), w (p + 10) (by omega) (by omega), w (p + 20) (by omega) (by omega), w (p + 21) (by omega) (by omega), w (p + 16) (by omega) (by omega)]
  exact h
/-- what the machine's methods stand on, but for the machine -/
def q_P (S : m_M) (a p : Nat) (P : pP) (D : pD) : Prop := (a + 9 ≤ p ∨ p + 22 ≤ a) ∧ p_W P ∧ p_R S p P ∧ d_R S p P D ∧ d_S D
theorem q_P.kept {S S' : m_M} {a p : Nat} {P : pP} {D : pD} (h : q_P S a p P D) (w : e_O a (a + 9) S S') : q_P S' a p P D :=
  ⟨h.1, h.2.1, h.2.2.1.kept fun q h1 h2 => w.1 q (by have := h.1; omega), h.2.2.2.1.kept fun q h1 h2 => w.1 q (by have := h.1; omega), h.2.2.2.2⟩
def q_K (P : pP) (M : qM) (l k : Nat) : Nat := q_kd M (q_sc M 2 - 1) (p_va P l k)
def q_V (P : pP) (M : qM) (l k : Nat) : Int32 := q_vl M (q_sc M 2 - 1) (p_va P l k)
/-- whether a frame that calls by a line is left ahead -/
def q_lv (P : pP) (D : pD) (f i : Nat) : Bool := decide (i + 1 = p_ct P f) && (List.range 24).all (fun r => !d_en D f i r)
def q_cl (P : pP) (M : qM) (l : Nat) : Bool := decide (p_op P l = 8) || (decide (p_op P l = 9) && decide (q_V P M l 0 ≠ 0))
def q_stop (P : pP) (D : pD) (M : qM) (f i : Nat) : Nat :=
  if (p_op P (p_fi P f + i) = 3 ∨ p_op P (p_fi P f + i) = 4) ∧ q_K P M (p_fi P f + i) 0 ≠ 2 then 1
  else if ((p_op P (p_fi P f + i) = 5 ∨ p_op P (p_fi P f + i) = 6) ∧ (q_K P M (p_fi P f + i) 0 = 2 ∨ q_K P M (p_fi P f + i) 1 = 2)) ∨ ((p_op P (p_fi P f + i) = 7 ∨ p_op P (p_fi P f + i) = 9) ∧ q_K P M (p_fi P f + i) 0 = 2) then 2
  else if q_cl P M (p_fi P f + i) = true ∧ 12 ≤ q_sc M 2 ∧ q_lv P D f i = false then 3
  else if p_op P (p_fi P f + i) = 2 ∧ 200 ≤ q_sc M 4 then 4
  else if 5000 ≤ q_sc M 6 then 5 else 0
section QK
variable {S : m_M} {a p : Nat} {P : pP} {D : pD} {M : qM} {f i : Nat}
/-- the frame on top -/
def q_top (P : pP) (M : qM) (f i : Nat) : Prop := 1 ≤ q_sc M 2 ∧ q_sc M 2 ≤ 12 ∧ q_ff M (q_sc M 2 - 1) = f ∧ q_fl M (q_sc M 2 - 1) = i ∧ f < p_fu P ∧ i < p_ct P f ∧ ∀ v, q_kd M (q_sc M 2 - 1) v ≤ 2
theorem q_B.top (hB : q_B P M) (hn : 1 ≤ q_sc M 2) : q_top P M (q_ff M (q_sc M 2 - 1)) (q_fl M (q_sc M 2 - 1)) := by
  have h := hB.2.2.2.2.1 (q_sc M 2 - 1) (by omega)
  exact ⟨hn, hB.1, rfl, rfl, h.1, h.2.1, h.2.2⟩
/-- a line's bounds -/
theorem p_W.line (hW : p_W P) (hf : f < p_fu P) (hi : i < p_ct P f) : f < 5 ∧ p_fi P f + i < 24 ∧ p_pa P f ≤ 3 ∧ p_pa P f + p_ct P f ≤ 27 ∧ p_ct P f ≤ 24 ∧ p_fi P f ≤ 24 := by
  obtain ⟨w1, w2, w3, w4, w5⟩ := hW
  have h := w3 f hf
  omega
theorem k_varCount (C : q_P S a p P D) (hf : f < p_fu P) : f_X3_varCount p S (nI f) = some (nI (p_vs P f), S) := by
  obtain ⟨hd, hW, hP, -, -⟩ := C
  have := hW.1
  simp (disch := omega) only [e_let, e_call, e_cal0, e_bind, e_lit, e_ofN, e_neg, nI_add, pk_mul, e_sub, e_ldi, e_sti, e_ldj, e_stj, e_le_t, e_le_f, e_lt_t, e_lt_f, e_eq_t, e_eq_f, e_no_eq, e_no_eq', e_no_rfl, e_no_lt, e_no_le, e_le_no, e_lt_no, if_true, if_false, ↓reduceIte, e_rs, e_rq, e_rn, e_ji, e_ki, e_ij, e_kj, e_js, e_jq, e_jn, e_cs, e_cq, e_jc, e_kc, e_js', e_jcq, e_icj, e_kcj, or_true, true_or, or_false, false_or, and_true, true_and, not_true_eq_false, not_false_eq_true, f_X3_varCount, hP.2.2.1 f hf, hP.2.2.2.2.1 f hf, p_vs]
theorem k_operandAt {s : Nat} (C : q_P S a p P D) (hf : f < p_fu P) (hi : i < p_ct P f) (hs : s < 5) (hu : p_us P (p_fi P f + i) (p_sl P (p_fi P f + i) s)) : f_X3_operandAt p S (nI (p_fi P f + i)) (nI s) = some (nI (p_va P (p_fi P f + i) (p_sl P (p_fi P f + i) s)), S) := by
  obtain ⟨hd, hW, hP, -, -⟩ := C
  have h1 := hW.line hf hi
  have h2 := (hP.2.2.2.2.2 f i hf hi).2.2.2 s hs hu
  simp (disch := omega) only [e_let, e_call, e_cal0, e_bind, e_lit, e_ofN, e_neg, nI_add, pk_mul, e_sub, e_ldi, e_sti, e_ldj, e_stj, e_le_t, e_le_f, e_lt_t, e_lt_f, e_eq_t, e_eq_f, e_no_eq, e_no_eq', e_no_rfl, e_no_lt, e_no_le, e_le_no, e_lt_no, if_true, if_false, ↓reduceIte, e_rs, e_rq, e_rn, e_ji, e_ki, e_ij, e_kj, e_js, e_jq, e_jn, e_cs, e_cq, e_jc, e_kc, e_js', e_jcq, e_icj, e_kcj, or_true, true_or, or_false, false_or, and_true, true_and, not_true_eq_false, not_false_eq_true, f_X3_operandAt, h2]
theorem k_kindAt {s : Nat} (C : q_P S a p P D) (hM : q_R S a M) (T : q_top P M f i) (hs : s < 5) (hu : p_us P (p_fi P f + i) (p_sl P (p_fi P f + i) s)) : f_X2_kindAt a p S (nI (p_fi P f + i)) (nI s) = some (nI (q_K P M (p_fi P f + i) (p_sl P (p_fi P f + i) s)), S) := by
  obtain ⟨t1, t2, t3, t4, t5, t6, t7⟩ := T
  have h1 := C.2.1.line t5 t6
  have h2 := (C.2.1.2.2.2.2 f i t5 t6).2.2.2 _ hu
  have h3 := hM.1 2 (by omega) (by omega) (by omega)
  have h4 := hM.2.2.2.2.2.1 (q_sc M 2 - 1) (p_va P (p_fi P f + i) (p_sl P (p_fi P f + i) s)) (by omega) (by omega)
  simp (disch := omega) only [e_let, e_call, e_cal0, e_bind, e_lit, e_ofN, e_neg, nI_add, pk_mul, e_sub, e_ldi, e_sti, e_ldj, e_stj, e_le_t, e_le_f, e_lt_t, e_lt_f, e_eq_t, e_eq_f, e_no_eq, e_no_eq', e_no_rfl, e_no_lt, e_no_le, e_le_no, e_lt_no, if_true, if_false, ↓reduceIte, e_rs, e_rq, e_rn, e_ji, e_ki, e_ij, e_kj, e_js, e_jq, e_jn, e_cs, e_cq, e_jc, e_kc, e_js', e_jcq, e_icj, e_kcj, or_true, true_or, or_false, false_or, and_true, true_and, not_true_eq_false, not_false_eq_true, f_X2_kindAt, k_operandAt C t5 t6 hs hu, h3, h4, q_K]
theorem k_valueAt {s : Nat} (C : q_P S a p P D) (hM : q_R S a M) (T : q_top P M f i) (hs : s < 5) (hu : p_us P (p_fi P f + i) (p_sl P (p_fi P f + i) s)) : f_X2_valueAt a p S (nI (p_fi P f + i)) (nI s) = some (q_V P M (p_fi P f + i) (p_sl P (p_fi P f + i) s), S) := by
  obtain ⟨t1, t2, t3, t4, t5, t6, t7⟩ := T
  have h1 := C.2.1.line t5 t6
  have h2 := (C.2.1.2.2.2.2 f i t5 t6).2.2.2 _ hu
  have h3 := hM.1 2 (by omega) (by omega) (by omega)
  have h4 := hM.2.2.2.2.2.2.1 (q_sc M 2 - 1) (p_va P (p_fi P f + i) (p_sl P (p_fi P f + i) s)) (by omega) (by omega)
  simp (disch := omega) only [e_let, e_call, e_cal0, e_bind, e_lit, e_ofN, e_neg, nI_add, pk_mul, e_sub, e_ldi, e_sti, e_ldj, e_stj, e_le_t, e_le_f, e_lt_t, e_lt_f, e_eq_t, e_eq_f, e_no_eq, e_no_eq', e_no_rfl, e_no_lt, e_no_le, e_le_no, e_lt_no, if_true, if_false, ↓reduceIte, e_rs, e_rq, e_rn, e_ji, e_ki, e_ij, e_kj, e_js, e_jq, e_jn, e_cs, e_cq, e_jc, e_kc, e_js', e_jcq, e_icj, e_kcj, or_true, true_or, or_false, false_or, and_true, true_and, not_true_eq_false, not_false_eq_true, f_X2_valueAt, k_operandAt C t5 t6 hs hu, h3, h4, q_V]
theorem k_argumentCount (C : q_P S a p P D) (hf : f < p_fu P) (hi : i < p_ct P f) (ho : 8 ≤ p_op P (p_fi P f + i)) : f_X3_argumentCount p S (nI (p_fi P f + i)) = some (nI (p_pa P (p_ca P (p_fi P f + i))), S) := by
  obtain ⟨hd, hW, hP, -, -⟩ := C
  have h1 := hW.line hf hi
  have h2 := (hP.2.2.2.2.2 f i hf hi).2.1 ho
  have h3 := (hW.2.2.2.2 f i hf hi).2.2.1 ho
  have h4 := hW.1
  simp (disch := omega) only [e_let, e_call, e_cal0, e_bind, e_lit, e_ofN, e_neg, nI_add, pk_mul, e_sub, e_ldi, e_sti, e_ldj, e_stj, e_le_t, e_le_f, e_lt_t, e_lt_f, e_eq_t, e_eq_f, e_no_eq, e_no_eq', e_no_rfl, e_no_lt, e_no_le, e_le_no, e_lt_no, if_true, if_false, ↓reduceIte, e_rs, e_rq, e_rn, e_ji, e_ki, e_ij, e_kj, e_js, e_jq, e_jn, e_cs, e_cq, e_jc, e_kc, e_js', e_jcq, e_icj, e_kcj, or_true, true_or, or_false, false_or, and_true, true_and, not_true_eq_false, not_false_eq_true, f_X3_argumentCount, h2, hP.2.2.1 _ h3]
theorem k_leavesBy (C : q_P S a p P D) (hf : f < p_fu P) (hi : i < p_ct P f) : f_X3_leavesBy p S (nI f) (nI (p_fi P f + i)) = some (nI (if q_lv P D f i = true then 1 else 0), S) := by
  obtain ⟨hd, hW, hP, hD, hS⟩ := C
  have h1 := hW.line hf hi
  have h4 := hW.1
  by_cases hc : i + 1 = p_ct P f
  · have hz : m_ri S (p + 21) (p_fi P f + i) = nI 0 ↔ (List.range 24).all (fun r => !d_en D f i r) = true := by
      constructor
      · intro hz
        rw [List.all_eq_true]
        intro r hr
        have hr : r < 24 := List.mem_range.mp hr
        have := hD.2.2.2.1 f i r hf hi (by omega)
        rw [hz, e_b0] at this
        rw [← this]; rfl
      · intro hz
        rw [List.all_eq_true] at hz
        refine e_bz fun r hr => ?_
        rw [hD.2.2.2.1 f i r hf hi hr]
        by_cases h24 : r < 24
        · have := hz r (List.mem_range.mpr h24)
          simpa using this
        · exact hS.1 2 f i r (by omega)
    by_cases hz2 : m_ri S (p + 21) (p_fi P f + i) = nI 0
    · have hl : q_lv P D f i = true := by simp only [q_lv, hc, decide_true, Bool.true_and]; exact hz.mp hz2
      simp (disch := omega) only [e_let, e_call, e_cal0, e_bind, e_lit, e_ofN, e_neg, nI_add, pk_mul, e_sub, e_ldi, e_sti, e_ldj, e_stj, e_le_t, e_le_f, e_lt_t, e_lt_f, e_eq_t, e_eq_f, e_no_eq, e_no_eq', e_no_rfl, e_no_lt, e_no_le, e_le_no, e_lt_no, if_true, if_false, ↓reduceIte, e_rs, e_rq, e_rn, e_ji, e_ki, e_ij, e_kj, e_js, e_jq, e_jn, e_cs, e_cq, e_jc, e_kc, e_js', e_jcq, e_icj, e_kcj, or_true, true_or, or_false, false_or, and_true, true_and, not_true_eq_false, not_false_eq_true, f_X3_leavesBy, hP.2.2.2.1 f hf, hP.2.2.2.2.1 f hf, hz2, hl, b_X3_leavesBy_36]
    · have hl : q_lv P D f i = false := by
        simp only [q_lv, hc, decide_true, Bool.true_and]
        exact Bool.eq_false_iff.mpr (fun q => hz2 (hz.mpr q))
      simp (disch := omega) only [e_let, e_call, e_cal0, e_bind, e_lit, e_ofN, e_neg, nI_add, pk_mul, e_sub, e_ldi, e_sti, e_ldj, e_stj, e_le_t, e_le_f, e_lt_t, e_lt_f, e_eq_t, e_eq_f, e_no_eq, e_no_eq', e_no_rfl, e_no_lt, e_no_le, e_le_no, e_lt_no, if_true, if_false, ↓reduceIte, e_rs, e_rq, e_rn, e_ji, e_ki, e_ij, e_kj, e_js, e_jq, e_jn, e_cs, e_cq, e_jc, e_kc, e_js', e_jcq, e_icj, e_kcj, or_true, true_or, or_false, false_or, and_true, true_and, not_true_eq_false, not_false_eq_true, f_X3_leavesBy, hP.2.2.2.1 f hf, hP.2.2.2.2.1 f hf, hz2, hl, b_X3_leavesBy_36, b_X3_leavesBy_35, Bool.false_eq_true]
  · have hl : q_lv P D f i = false := by simp only [q_lv, hc, decide_false, Bool.false_and]
    simp (disch := omega) only [e_let, e_call, e_cal0, e_bind, e_lit, e_ofN, e_neg, nI_add, pk_mul, e_sub, e_ldi, e_sti, e_ldj, e_stj, e_le_t, e_le_f, e_lt_t, e_lt_f, e_eq_t, e_eq_f, e_no_eq, e_no_eq', e_no_rfl, e_no_lt, e_no_le, e_le_no, e_lt_no, if_true, if_false, ↓reduceIte, e_rs, e_rq, e_rn, e_ji, e_ki, e_ij, e_kj, e_js, e_jq, e_jn, e_cs, e_cq, e_jc, e_kc, e_js', e_jcq, e_icj, e_kcj, or_true, true_or, or_false, false_or, and_true, true_and, not_true_eq_false, not_false_eq_true, f_X3_leavesBy, hP.2.2.2.1 f hf, hP.2.2.2.2.1 f hf, hl, b_X3_leavesBy_36, b_X3_leavesBy_35, Bool.false_eq_true]
end QK
