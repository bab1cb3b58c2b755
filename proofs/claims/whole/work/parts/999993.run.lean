/-! run: both sides -/
def q_k5 (M : qM) : Nat := if q_sc M 0 = 2 then q_sc M 9 else 0
def q_v6 (M : qM) : Int32 := if q_k5 M = 1 then q_gv M else nI 0
/-- what is told of a run -/
def q_rr (M : qM) (w i : Nat) : Int32 := if i = 0 then nI (q_sc M 6) else if i = 1 then nI (q_sc M 5) else if i = 2 then nI (q_sc M 4) else if i = 3 then nI (q_sc M 7) else if i = 4 then nI (q_sc M 1) else if i = 5 then nI (q_k5 M) else if i = 6 then q_v6 M else nI w
section RN
variable {S S' T T' : m_M} {x m a w : Nat} {s s' : sT} {M : qM} {P : pP}
theorem k_rk (hM : q_R S a M) (h0 : q_sc M 0 < 4) : f_X2_resultKind a S = some (nI (q_k5 M), S) := by
  have e0 := hM.1 0 (by omega) (by omega) (by omega)
  have e9 := hM.1 9 (by omega) (by omega) (by omega)
  rw [q_k5]
  by_cases h : q_sc M 0 = 2
  · rw [if_pos h]
    rw [h] at e0
    simp (disch := omega) only [e_let, e_call, e_cal0, e_bind, e_lit, e_ofN, e_neg, nI_add, pk_mul, e_sub, e_ldi, e_sti, e_ldj, e_stj, e_le_t, e_le_f, e_lt_t, e_lt_f, e_eq_t, e_eq_f, e_no_eq, e_no_eq', e_no_rfl, e_no_lt, e_no_le, e_le_no, e_lt_no, if_true, if_false, ↓reduceIte, e_rs, e_rq, e_rn, e_ji, e_ki, e_ij, e_kj, e_js, e_jq, e_jn, e_cs, e_cq, e_jc, e_kc, e_js', e_jcq, e_icj, e_kcj, or_true, true_or, or_false, false_or, and_true, true_and, not_true_eq_false, not_false_eq_true, f_X2_resultKind, b_X2_resultKind_16, e0, e9]
  · rw [if_neg h]
    simp (disch := omega) only [e_let, e_call, e_cal0, e_bind, e_lit, e_ofN, e_neg, nI_add, pk_mul, e_sub, e_ldi, e_sti, e_ldj, e_stj, e_le_t, e_le_f, e_lt_t, e_lt_f, e_eq_t, e_eq_f, e_no_eq, e_no_eq', e_no_rfl, e_no_lt, e_no_le, e_le_no, e_lt_no, if_true, if_false, ↓reduceIte, e_rs, e_rq, e_rn, e_ji, e_ki, e_ij, e_kj, e_js, e_jq, e_jn, e_cs, e_cq, e_jc, e_kc, e_js', e_jcq, e_icj, e_kcj, or_true, true_or, or_false, false_or, and_true, true_and, not_true_eq_false, not_false_eq_true, f_X2_resultKind, b_X2_resultKind_16, e0]
theorem e_8 {p : Nat → Prop} (h0 : p 0) (h1 : p 1) (h2 : p 2) (h3 : p 3) (h4 : p 4) (h5 : p 5) (h6 : p 6) (h7 : p 7) : ∀ i, i < 8 → p i := by
  intro i hi
  have : i = 0 ∨ i = 1 ∨ i = 2 ∨ i = 3 ∨ i = 4 ∨ i = 5 ∨ i = 6 ∨ i = 7 := by omega
  rcases this with rfl | rfl | rfl | rfl | rfl | rfl | rfl | rfl <;> assumption
theorem k_tell (hM : q_R S (x + 84) M) (h0 : q_sc M 0 < 4) (h9 : q_sc M 9 ≤ 2) : ∃ S', f_X11_tellRan x S (nI w) = some S' ∧ c_rn S' x 1 (q_rr M w) ∧ (∀ q, q ≠ x → q ≠ x + 99 → m_ri S' q = m_ri S q) ∧ (∀ j, j ≠ 12 → m_ri S' x j = m_ri S x j) ∧ m_rj S' = m_rj S ∧ m_rr S' = m_rr S := by
  have e1 := hM.1 1 (by omega) (by omega) (by omega)
  have e4 := hM.1 4 (by omega) (by omega) (by omega)
  have e5 := hM.1 5 (by omega) (by omega) (by omega)
  have e6 := hM.1 6 (by omega) (by omega) (by omega)
  have e7 := hM.1 7 (by omega) (by omega) (by omega)
  have e10 := hM.2.2.1
  obtain ⟨U5, hU5⟩ : ∃ U, U = m_si (m_si (m_si (m_si (m_si (m_si S x 12 (nI 1)) (x + 99) 0 (nI (q_sc M 6))) (x + 99) 1 (nI (q_sc M 5))) (x + 99) 2 (nI (q_sc M 4))) (x + 99) 3 (nI (q_sc M 7))) (x + 99) 4 (nI (q_sc M 1)) := ⟨_, rfl⟩
  have hM5 : q_R U5 (x + 84) M := hM.kept (fun q h1 h2 => by rw [hU5]; simp (disch := omega) only [e_let, e_call, e_cal0, e_bind, e_lit, e_ofN, e_neg, nI_add, pk_mul, e_sub, e_ldi, e_sti, e_ldj, e_stj, e_le_t, e_le_f, e_lt_t, e_lt_f, e_eq_t, e_eq_f, e_no_eq, e_no_eq', e_no_rfl, e_no_lt, e_no_le, e_le_no, e_lt_no, if_true, if_false, ↓reduceIte, e_rs, e_rq, e_rn, e_ji, e_ki, e_ij, e_kj, e_js, e_jq, e_jn, e_cs, e_cq, e_jc, e_kc, e_js', e_jcq, e_icj, e_kcj, or_true, true_or, or_false, false_or, and_true, true_and, not_true_eq_false, not_false_eq_true])
  have r5 := k_rk hM5 h0
  obtain ⟨U6, hU6⟩ : ∃ U, U = m_si U5 (x + 99) 5 (nI (q_k5 M)) := ⟨_, rfl⟩
  have hM6 : q_R U6 (x + 84) M := hM5.kept (fun q h1 h2 => by rw [hU6]; simp (disch := omega) only [e_let, e_call, e_cal0, e_bind, e_lit, e_ofN, e_neg, nI_add, pk_mul, e_sub, e_ldi, e_sti, e_ldj, e_stj, e_le_t, e_le_f, e_lt_t, e_lt_f, e_eq_t, e_eq_f, e_no_eq, e_no_eq', e_no_rfl, e_no_lt, e_no_le, e_le_no, e_lt_no, if_true, if_false, ↓reduceIte, e_rs, e_rq, e_rn, e_ji, e_ki, e_ij, e_kj, e_js, e_jq, e_jn, e_cs, e_cq, e_jc, e_kc, e_js', e_jcq, e_icj, e_kcj, or_true, true_or, or_false, false_or, and_true, true_and, not_true_eq_false, not_false_eq_true])
  have r6 := k_rk hM6 h0
  have e10' := hM6.2.2.1
  have k5 : q_k5 M ≤ 2 := by rw [q_k5]; split <;> omega
  refine ⟨m_si (m_si U6 (x + 99) 6 (q_v6 M)) (x + 99) 7 (nI w), ?_, ⟨?_, fun _ => e_8 ?_ ?_ ?_ ?_ ?_ ?_ ?_ ?_⟩, fun q h1 h2 => ?_, fun j hj => ?_, ?_, ?_⟩
  · have ea : f_X11_tellRan x S (nI w) = m_call (f_X2_resultKind (x + 84) U5) fun v8 S7 => (m_sti S7 (x + 99) 8 (5 : Int32) v8).bind fun S9 => m_call (f_X2_resultKind (x + 84) S9) fun v11 S10 => if v11 = (1 : Int32) then (b_X11_tellRan_111 x S10 (nI w) (6 : Int32) (m_ri S10 (x + 84) 10)) else (b_X11_tellRan_111 x S10 (nI w) (6 : Int32) (0 : Int32)) := by
      rw [hU5]
      simp (disch := omega) only [e_let, e_call, e_cal0, e_bind, e_lit, e_ofN, e_neg, nI_add, pk_mul, e_sub, e_ldi, e_sti, e_ldj, e_stj, e_le_t, e_le_f, e_lt_t, e_lt_f, e_eq_t, e_eq_f, e_no_eq, e_no_eq', e_no_rfl, e_no_lt, e_no_le, e_le_no, e_lt_no, if_true, if_false, ↓reduceIte, e_rs, e_rq, e_rn, e_ji, e_ki, e_ij, e_kj, e_js, e_jq, e_jn, e_cs, e_cq, e_jc, e_kc, e_js', e_jcq, e_icj, e_kcj, or_true, true_or, or_false, false_or, and_true, true_and, not_true_eq_false, not_false_eq_true, f_X11_tellRan, e1, e4, e5, e6, e7]
    rw [ea, r5, e_call, show (5 : Int32) = nI 5 from rfl, e_sti (by omega) (by omega), e_bind, ← hU6, r6, e_call]
    by_cases h : q_k5 M = 1
    · rw [h, if_pos (show nI 1 = (1 : Int32) from rfl), q_v6, if_pos h]
      simp (disch := omega) only [e_let, e_call, e_cal0, e_bind, e_lit, e_ofN, e_neg, nI_add, pk_mul, e_sub, e_ldi, e_sti, e_ldj, e_stj, e_le_t, e_le_f, e_lt_t, e_lt_f, e_eq_t, e_eq_f, e_no_eq, e_no_eq', e_no_rfl, e_no_lt, e_no_le, e_le_no, e_lt_no, if_true, if_false, ↓reduceIte, e_rs, e_rq, e_rn, e_ji, e_ki, e_ij, e_kj, e_js, e_jq, e_jn, e_cs, e_cq, e_jc, e_kc, e_js', e_jcq, e_icj, e_kcj, or_true, true_or, or_false, false_or, and_true, true_and, not_true_eq_false, not_false_eq_true, b_X11_tellRan_111, e10']
    · rw [if_neg (show ¬ nI (q_k5 M) = (1 : Int32) from fun q => (e_eq_f (a := q_k5 M) (b := 1) h (by omega) (by omega)).mp q), q_v6, if_neg h]
      simp (disch := omega) only [e_let, e_call, e_cal0, e_bind, e_lit, e_ofN, e_neg, nI_add, pk_mul, e_sub, e_ldi, e_sti, e_ldj, e_stj, e_le_t, e_le_f, e_lt_t, e_lt_f, e_eq_t, e_eq_f, e_no_eq, e_no_eq', e_no_rfl, e_no_lt, e_no_le, e_le_no, e_lt_no, if_true, if_false, ↓reduceIte, e_rs, e_rq, e_rn, e_ji, e_ki, e_ij, e_kj, e_js, e_jq, e_jn, e_cs, e_cq, e_jc, e_kc, e_js', e_jcq, e_icj, e_kcj, or_true, true_or, or_false, false_or, and_true, true_and, not_true_eq_false, not_false_eq_true, b_X11_tellRan_111]
  · rw [hU6, hU5]; simp (disch := omega) only [e_let, e_call, e_cal0, e_bind, e_lit, e_ofN, e_neg, nI_add, pk_mul, e_sub, e_ldi, e_sti, e_ldj, e_stj, e_le_t, e_le_f, e_lt_t, e_lt_f, e_eq_t, e_eq_f, e_no_eq, e_no_eq', e_no_rfl, e_no_lt, e_no_le, e_le_no, e_lt_no, if_true, if_false, ↓reduceIte, e_rs, e_rq, e_rn, e_ji, e_ki, e_ij, e_kj, e_js, e_jq, e_jn, e_cs, e_cq, e_jc, e_kc, e_js', e_jcq, e_icj, e_kcj, or_true, true_or, or_false, false_or, and_true, true_and, not_true_eq_false, not_false_eq_true]
  · rw [hU6, hU5]; simp (disch := omega) only [e_let, e_call, e_cal0, e_bind, e_lit, e_ofN, e_neg, nI_add, pk_mul, e_sub, e_ldi, e_sti, e_ldj, e_stj, e_le_t, e_le_f, e_lt_t, e_lt_f, e_eq_t, e_eq_f, e_no_eq, e_no_eq', e_no_rfl, e_no_lt, e_no_le, e_le_no, e_lt_no, if_true, if_false, ↓reduceIte, e_rs, e_rq, e_rn, e_ji, e_ki, e_ij, e_kj, e_js, e_jq, e_jn, e_cs, e_cq, e_jc, e_kc, e_js', e_jcq, e_icj, e_kcj, or_true, true_or, or_false, false_or, and_true, true_and, not_true_eq_false, not_false_eq_true]; rfl
  · rw [hU6, hU5]; simp (disch := omega) only [e_let, e_call, e_cal0, e_bind, e_lit, e_ofN, e_neg, nI_add, pk_mul, e_sub, e_ldi, e_sti, e_ldj, e_stj, e_le_t, e_le_f, e_lt_t, e_lt_f, e_eq_t, e_eq_f, e_no_eq, e_no_eq', e_no_rfl, e_no_lt, e_no_le, e_le_no, e_lt_no, if_true, if_false, ↓reduceIte, e_rs, e_rq, e_rn, e_ji, e_ki, e_ij, e_kj, e_js, e_jq, e_jn, e_cs, e_cq, e_jc, e_kc, e_js', e_jcq, e_icj, e_kcj, or_true, true_or, or_false, false_or, and_true, true_and, not_true_eq_false, not_false_eq_true]; rfl
  · rw [hU6, hU5]; simp (disch := omega) only [e_let, e_call, e_cal0, e_bind, e_lit, e_ofN, e_neg, nI_add, pk_mul, e_sub, e_ldi, e_sti, e_ldj, e_stj, e_le_t, e_le_f, e_lt_t, e_lt_f, e_eq_t, e_eq_f, e_no_eq, e_no_eq', e_no_rfl, e_no_lt, e_no_le, e_le_no, e_lt_no, if_true, if_false, ↓reduceIte, e_rs, e_rq, e_rn, e_ji, e_ki, e_ij, e_kj, e_js, e_jq, e_jn, e_cs, e_cq, e_jc, e_kc, e_js', e_jcq, e_icj, e_kcj, or_true, true_or, or_false, false_or, and_true, true_and, not_true_eq_false, not_false_eq_true]; rfl
  · rw [hU6, hU5]; simp (disch := omega) only [e_let, e_call, e_cal0, e_bind, e_lit, e_ofN, e_neg, nI_add, pk_mul, e_sub, e_ldi, e_sti, e_ldj, e_stj, e_le_t, e_le_f, e_lt_t, e_lt_f, e_eq_t, e_eq_f, e_no_eq, e_no_eq', e_no_rfl, e_no_lt, e_no_le, e_le_no, e_lt_no, if_true, if_false, ↓reduceIte, e_rs, e_rq, e_rn, e_ji, e_ki, e_ij, e_kj, e_js, e_jq, e_jn, e_cs, e_cq, e_jc, e_kc, e_js', e_jcq, e_icj, e_kcj, or_true, true_or, or_false, false_or, and_true, true_and, not_true_eq_false, not_false_eq_true]; rfl
  · rw [hU6, hU5]; simp (disch := omega) only [e_let, e_call, e_cal0, e_bind, e_lit, e_ofN, e_neg, nI_add, pk_mul, e_sub, e_ldi, e_sti, e_ldj, e_stj, e_le_t, e_le_f, e_lt_t, e_lt_f, e_eq_t, e_eq_f, e_no_eq, e_no_eq', e_no_rfl, e_no_lt, e_no_le, e_le_no, e_lt_no, if_true, if_false, ↓reduceIte, e_rs, e_rq, e_rn, e_ji, e_ki, e_ij, e_kj, e_js, e_jq, e_jn, e_cs, e_cq, e_jc, e_kc, e_js', e_jcq, e_icj, e_kcj, or_true, true_or, or_false, false_or, and_true, true_and, not_true_eq_false, not_false_eq_true]; rfl
  · rw [hU6, hU5]; simp (disch := omega) only [e_let, e_call, e_cal0, e_bind, e_lit, e_ofN, e_neg, nI_add, pk_mul, e_sub, e_ldi, e_sti, e_ldj, e_stj, e_le_t, e_le_f, e_lt_t, e_lt_f, e_eq_t, e_eq_f, e_no_eq, e_no_eq', e_no_rfl, e_no_lt, e_no_le, e_le_no, e_lt_no, if_true, if_false, ↓reduceIte, e_rs, e_rq, e_rn, e_ji, e_ki, e_ij, e_kj, e_js, e_jq, e_jn, e_cs, e_cq, e_jc, e_kc, e_js', e_jcq, e_icj, e_kcj, or_true, true_or, or_false, false_or, and_true, true_and, not_true_eq_false, not_false_eq_true]; rfl
  · rw [hU6, hU5]; simp (disch := omega) only [e_let, e_call, e_cal0, e_bind, e_lit, e_ofN, e_neg, nI_add, pk_mul, e_sub, e_ldi, e_sti, e_ldj, e_stj, e_le_t, e_le_f, e_lt_t, e_lt_f, e_eq_t, e_eq_f, e_no_eq, e_no_eq', e_no_rfl, e_no_lt, e_no_le, e_le_no, e_lt_no, if_true, if_false, ↓reduceIte, e_rs, e_rq, e_rn, e_ji, e_ki, e_ij, e_kj, e_js, e_jq, e_jn, e_cs, e_cq, e_jc, e_kc, e_js', e_jcq, e_icj, e_kcj, or_true, true_or, or_false, false_or, and_true, true_and, not_true_eq_false, not_false_eq_true]; rfl
  · rw [hU6, hU5]; simp (disch := omega) only [e_let, e_call, e_cal0, e_bind, e_lit, e_ofN, e_neg, nI_add, pk_mul, e_sub, e_ldi, e_sti, e_ldj, e_stj, e_le_t, e_le_f, e_lt_t, e_lt_f, e_eq_t, e_eq_f, e_no_eq, e_no_eq', e_no_rfl, e_no_lt, e_no_le, e_le_no, e_lt_no, if_true, if_false, ↓reduceIte, e_rs, e_rq, e_rn, e_ji, e_ki, e_ij, e_kj, e_js, e_jq, e_jn, e_cs, e_cq, e_jc, e_kc, e_js', e_jcq, e_icj, e_kcj, or_true, true_or, or_false, false_or, and_true, true_and, not_true_eq_false, not_false_eq_true]; rfl
  · rw [hU6, hU5]; simp (disch := omega) only [e_let, e_call, e_cal0, e_bind, e_lit, e_ofN, e_neg, nI_add, pk_mul, e_sub, e_ldi, e_sti, e_ldj, e_stj, e_le_t, e_le_f, e_lt_t, e_lt_f, e_eq_t, e_eq_f, e_no_eq, e_no_eq', e_no_rfl, e_no_lt, e_no_le, e_le_no, e_lt_no, if_true, if_false, ↓reduceIte, e_rs, e_rq, e_rn, e_ji, e_ki, e_ij, e_kj, e_js, e_jq, e_jn, e_cs, e_cq, e_jc, e_kc, e_js', e_jcq, e_icj, e_kcj, or_true, true_or, or_false, false_or, and_true, true_and, not_true_eq_false, not_false_eq_true]
  · rw [hU6, hU5]; simp (disch := omega) only [e_let, e_call, e_cal0, e_bind, e_lit, e_ofN, e_neg, nI_add, pk_mul, e_sub, e_ldi, e_sti, e_ldj, e_stj, e_le_t, e_le_f, e_lt_t, e_lt_f, e_eq_t, e_eq_f, e_no_eq, e_no_eq', e_no_rfl, e_no_lt, e_no_le, e_le_no, e_lt_no, if_true, if_false, ↓reduceIte, e_rs, e_rq, e_rn, e_ji, e_ki, e_ij, e_kj, e_js, e_jq, e_jn, e_cs, e_cq, e_jc, e_kc, e_js', e_jcq, e_icj, e_kcj, or_true, true_or, or_false, false_or, and_true, true_and, not_true_eq_false, not_false_eq_true]
  · rw [hU6, hU5]; rfl
  · rw [hU6, hU5]; rfl
theorem j_tell {fu : Nat} (hM : r_R (m_ri T (m + 2)) M) (h0 : q_sc M 0 < 4) (h1 : q_sc M 0 ≠ 1) (h9 : q_sc M 9 ≤ 2) : ∃ T', b_X12_run_37 m (fu + 1) T (nI w) = (m_cal0 (f_X12_comeBack m (m + 6) 2195 T' (0 : Int32)) fun S4 => some (nI (q_sc M 0), S4)) ∧ r_rn T' m 1 (q_rr M w) ∧ (∀ q, q ≠ m → q ≠ m + 27 → m_ri T' q = m_ri T q) ∧ (∀ j, j ≠ 44 → m_ri T' m j = m_ri T m j) ∧ m_rj T' = m_rj T ∧ m_rr T' = m_rr T := by
  obtain ⟨d0, d1, _, d4, _, d5, d6, d7, _, d9, d10, _⟩ := hM
  have d9 : m_ri T (m + 2) 219 = nI (q_k5 M) := d9
  have k5 : q_k5 M ≤ 2 := by rw [q_k5]; split <;> omega
  obtain ⟨U, hU⟩ : ∃ U, U = m_si (m_si (m_si (m_si (m_si (m_si T (m + 27) 0 (nI (q_sc M 6))) (m + 27) 1 (nI (q_sc M 5))) (m + 27) 2 (nI (q_sc M 4))) (m + 27) 3 (nI (q_sc M 7))) (m + 27) 4 (nI (q_sc M 1))) (m + 27) 5 (nI (q_k5 M)) := ⟨_, rfl⟩
  refine ⟨m_si (m_si (m_si U (m + 27) 6 (q_v6 M)) (m + 27) 7 (nI w)) m 44 (nI 1), ?_, ⟨?_, fun _ => e_8 ?_ ?_ ?_ ?_ ?_ ?_ ?_ ?_⟩, fun q h1 h2 => ?_, fun j hj => ?_, ?_, ?_⟩
  · by_cases h : q_k5 M = 1
    · have h2 : q_sc M 0 = 2 := by
        by_cases e : q_sc M 0 = 2
        · exact e
        · rw [q_k5, if_neg e] at h; omega
      have d10 := d10 h2
      rw [h] at d9
      rw [q_v6, if_pos h, hU, h]
      simp (disch := omega) only [e_let, e_call, e_cal0, e_bind, e_lit, e_ofN, e_neg, nI_add, pk_mul, e_sub, e_ldi, e_sti, e_ldj, e_stj, e_le_t, e_le_f, e_lt_t, e_lt_f, e_eq_t, e_eq_f, e_no_eq, e_no_eq', e_no_rfl, e_no_lt, e_no_le, e_le_no, e_lt_no, if_true, if_false, ↓reduceIte, e_rs, e_rq, e_rn, e_ji, e_ki, e_ij, e_kj, e_js, e_jq, e_jn, e_cs, e_cq, e_jc, e_kc, e_js', e_jcq, e_icj, e_kcj, or_true, true_or, or_false, false_or, and_true, true_and, not_true_eq_false, not_false_eq_true, b_X12_run_37, b_X12_run_192, d0, d1, d4, d5, d6, d7, d9, d10]
    · rw [q_v6, if_neg h, hU]
      simp (disch := omega) only [e_let, e_call, e_cal0, e_bind, e_lit, e_ofN, e_neg, nI_add, pk_mul, e_sub, e_ldi, e_sti, e_ldj, e_stj, e_le_t, e_le_f, e_lt_t, e_lt_f, e_eq_t, e_eq_f, e_no_eq, e_no_eq', e_no_rfl, e_no_lt, e_no_le, e_le_no, e_lt_no, if_true, if_false, ↓reduceIte, e_rs, e_rq, e_rn, e_ji, e_ki, e_ij, e_kj, e_js, e_jq, e_jn, e_cs, e_cq, e_jc, e_kc, e_js', e_jcq, e_icj, e_kcj, or_true, true_or, or_false, false_or, and_true, true_and, not_true_eq_false, not_false_eq_true, b_X12_run_37, b_X12_run_192, d0, d1, d4, d5, d6, d7, d9]
  · rw [hU]; simp (disch := omega) only [e_let, e_call, e_cal0, e_bind, e_lit, e_ofN, e_neg, nI_add, pk_mul, e_sub, e_ldi, e_sti, e_ldj, e_stj, e_le_t, e_le_f, e_lt_t, e_lt_f, e_eq_t, e_eq_f, e_no_eq, e_no_eq', e_no_rfl, e_no_lt, e_no_le, e_le_no, e_lt_no, if_true, if_false, ↓reduceIte, e_rs, e_rq, e_rn, e_ji, e_ki, e_ij, e_kj, e_js, e_jq, e_jn, e_cs, e_cq, e_jc, e_kc, e_js', e_jcq, e_icj, e_kcj, or_true, true_or, or_false, false_or, and_true, true_and, not_true_eq_false, not_false_eq_true]
  · rw [hU]; simp (disch := omega) only [e_let, e_call, e_cal0, e_bind, e_lit, e_ofN, e_neg, nI_add, pk_mul, e_sub, e_ldi, e_sti, e_ldj, e_stj, e_le_t, e_le_f, e_lt_t, e_lt_f, e_eq_t, e_eq_f, e_no_eq, e_no_eq', e_no_rfl, e_no_lt, e_no_le, e_le_no, e_lt_no, if_true, if_false, ↓reduceIte, e_rs, e_rq, e_rn, e_ji, e_ki, e_ij, e_kj, e_js, e_jq, e_jn, e_cs, e_cq, e_jc, e_kc, e_js', e_jcq, e_icj, e_kcj, or_true, true_or, or_false, false_or, and_true, true_and, not_true_eq_false, not_false_eq_true]; rfl
  · rw [hU]; simp (disch := omega) only [e_let, e_call, e_cal0, e_bind, e_lit, e_ofN, e_neg, nI_add, pk_mul, e_sub, e_ldi, e_sti, e_ldj, e_stj, e_le_t, e_le_f, e_lt_t, e_lt_f, e_eq_t, e_eq_f, e_no_eq, e_no_eq', e_no_rfl, e_no_lt, e_no_le, e_le_no, e_lt_no, if_true, if_false, ↓reduceIte, e_rs, e_rq, e_rn, e_ji, e_ki, e_ij, e_kj, e_js, e_jq, e_jn, e_cs, e_cq, e_jc, e_kc, e_js', e_jcq, e_icj, e_kcj, or_true, true_or, or_false, false_or, and_true, true_and, not_true_eq_false, not_false_eq_true]; rfl
  · rw [hU]; simp (disch := omega) only [e_let, e_call, e_cal0, e_bind, e_lit, e_ofN, e_neg, nI_add, pk_mul, e_sub, e_ldi, e_sti, e_ldj, e_stj, e_le_t, e_le_f, e_lt_t, e_lt_f, e_eq_t, e_eq_f, e_no_eq, e_no_eq', e_no_rfl, e_no_lt, e_no_le, e_le_no, e_lt_no, if_true, if_false, ↓reduceIte, e_rs, e_rq, e_rn, e_ji, e_ki, e_ij, e_kj, e_js, e_jq, e_jn, e_cs, e_cq, e_jc, e_kc, e_js', e_jcq, e_icj, e_kcj, or_true, true_or, or_false, false_or, and_true, true_and, not_true_eq_false, not_false_eq_true]; rfl
  · rw [hU]; simp (disch := omega) only [e_let, e_call, e_cal0, e_bind, e_lit, e_ofN, e_neg, nI_add, pk_mul, e_sub, e_ldi, e_sti, e_ldj, e_stj, e_le_t, e_le_f, e_lt_t, e_lt_f, e_eq_t, e_eq_f, e_no_eq, e_no_eq', e_no_rfl, e_no_lt, e_no_le, e_le_no, e_lt_no, if_true, if_false, ↓reduceIte, e_rs, e_rq, e_rn, e_ji, e_ki, e_ij, e_kj, e_js, e_jq, e_jn, e_cs, e_cq, e_jc, e_kc, e_js', e_jcq, e_icj, e_kcj, or_true, true_or, or_false, false_or, and_true, true_and, not_true_eq_false, not_false_eq_true]; rfl
  · rw [hU]; simp (disch := omega) only [e_let, e_call, e_cal0, e_bind, e_lit, e_ofN, e_neg, nI_add, pk_mul, e_sub, e_ldi, e_sti, e_ldj, e_stj, e_le_t, e_le_f, e_lt_t, e_lt_f, e_eq_t, e_eq_f, e_no_eq, e_no_eq', e_no_rfl, e_no_lt, e_no_le, e_le_no, e_lt_no, if_true, if_false, ↓reduceIte, e_rs, e_rq, e_rn, e_ji, e_ki, e_ij, e_kj, e_js, e_jq, e_jn, e_cs, e_cq, e_jc, e_kc, e_js', e_jcq, e_icj, e_kcj, or_true, true_or, or_false, false_or, and_true, true_and, not_true_eq_false, not_false_eq_true]; rfl
  · rw [hU]; simp (disch := omega) only [e_let, e_call, e_cal0, e_bind, e_lit, e_ofN, e_neg, nI_add, pk_mul, e_sub, e_ldi, e_sti, e_ldj, e_stj, e_le_t, e_le_f, e_lt_t, e_lt_f, e_eq_t, e_eq_f, e_no_eq, e_no_eq', e_no_rfl, e_no_lt, e_no_le, e_le_no, e_lt_no, if_true, if_false, ↓reduceIte, e_rs, e_rq, e_rn, e_ji, e_ki, e_ij, e_kj, e_js, e_jq, e_jn, e_cs, e_cq, e_jc, e_kc, e_js', e_jcq, e_icj, e_kcj, or_true, true_or, or_false, false_or, and_true, true_and, not_true_eq_false, not_false_eq_true]; rfl
  · rw [hU]; simp (disch := omega) only [e_let, e_call, e_cal0, e_bind, e_lit, e_ofN, e_neg, nI_add, pk_mul, e_sub, e_ldi, e_sti, e_ldj, e_stj, e_le_t, e_le_f, e_lt_t, e_lt_f, e_eq_t, e_eq_f, e_no_eq, e_no_eq', e_no_rfl, e_no_lt, e_no_le, e_le_no, e_lt_no, if_true, if_false, ↓reduceIte, e_rs, e_rq, e_rn, e_ji, e_ki, e_ij, e_kj, e_js, e_jq, e_jn, e_cs, e_cq, e_jc, e_kc, e_js', e_jcq, e_icj, e_kcj, or_true, true_or, or_false, false_or, and_true, true_and, not_true_eq_false, not_false_eq_true]; rfl
  · rw [hU]; simp (disch := omega) only [e_let, e_call, e_cal0, e_bind, e_lit, e_ofN, e_neg, nI_add, pk_mul, e_sub, e_ldi, e_sti, e_ldj, e_stj, e_le_t, e_le_f, e_lt_t, e_lt_f, e_eq_t, e_eq_f, e_no_eq, e_no_eq', e_no_rfl, e_no_lt, e_no_le, e_le_no, e_lt_no, if_true, if_false, ↓reduceIte, e_rs, e_rq, e_rn, e_ji, e_ki, e_ij, e_kj, e_js, e_jq, e_jn, e_cs, e_cq, e_jc, e_kc, e_js', e_jcq, e_icj, e_kcj, or_true, true_or, or_false, false_or, and_true, true_and, not_true_eq_false, not_false_eq_true]; rfl
  · rw [hU]; simp (disch := omega) only [e_let, e_call, e_cal0, e_bind, e_lit, e_ofN, e_neg, nI_add, pk_mul, e_sub, e_ldi, e_sti, e_ldj, e_stj, e_le_t, e_le_f, e_lt_t, e_lt_f, e_eq_t, e_eq_f, e_no_eq, e_no_eq', e_no_rfl, e_no_lt, e_no_le, e_le_no, e_lt_no, if_true, if_false, ↓reduceIte, e_rs, e_rq, e_rn, e_ji, e_ki, e_ij, e_kj, e_js, e_jq, e_jn, e_cs, e_cq, e_jc, e_kc, e_js', e_jcq, e_icj, e_kcj, or_true, true_or, or_false, false_or, and_true, true_and, not_true_eq_false, not_false_eq_true]
  · rw [hU]; simp (disch := omega) only [e_let, e_call, e_cal0, e_bind, e_lit, e_ofN, e_neg, nI_add, pk_mul, e_sub, e_ldi, e_sti, e_ldj, e_stj, e_le_t, e_le_f, e_lt_t, e_lt_f, e_eq_t, e_eq_f, e_no_eq, e_no_eq', e_no_rfl, e_no_lt, e_no_le, e_le_no, e_lt_no, if_true, if_false, ↓reduceIte, e_rs, e_rq, e_rn, e_ji, e_ki, e_ij, e_kj, e_js, e_jq, e_jn, e_cs, e_cq, e_jc, e_kc, e_js', e_jcq, e_icj, e_kcj, or_true, true_or, or_false, false_or, and_true, true_and, not_true_eq_false, not_false_eq_true]
  · rw [hU]; rfl
  · rw [hU]; rfl
theorem s_run (hV : s_V s) (hC : s_C S x s) (hR : s_R T m s) : s_OK S T x m (f_X11_run x S) (f_X12_run m T) := by
  have hfu := m_fu_ge
  have hN := hV.1
  have hW := hV.2.2.2.1.1
  obtain ⟨hV1, hC1, hR1⟩ := s_take hV hC hR
  have ec : f_X11_run x S = m_call (f_X11_fitsMain x (m_si S x 1 (nI 0)) (nI (s_N s))) fun v4 S3 => if v4 = 0 then (some ((-1 : Int32), S3)) else (m_cal0 (f_X11_beginWithTape x (x + 84) S3) fun S6 => b_X11_run_25 x m_fu S6 (0 : Int32) (0 : Int32)) := by
    rw [f_X11_run, f_X11_takeTape, e_let, e_let, e_call, hC.1.1]; rfl
  have d2 : m_ri (m_si T m 0 (0 : Int32)) m 2 = nI (s_N s) := by rw [e_rn (by omega)]; exact hR.1.1
  have er : f_X12_run m T = m_call (f_X12_canLoad m (m_si (m_si T m 0 (nI 0)) m 2 (nI 0)) (nI (s_N s))) fun v5 S4 => if v5 = 0 then (some ((-1 : Int32), S4)) else (m_cal0 (f_X12_save m (m + 6) 2195 S4 (0 : Int32)) fun S7 => m_cal0 (f_X12_loads m (m + 1) 940 S7) fun S8 => b_X12_run_37 m m_fu S8 (0 : Int32)) := by
    rw [f_X12_run, e_let, f_X12_take, e_let, e_let, e_call, d2]; rfl
  have kf := k_fits (x := x) (N := s_N s) hW hC1.2.2.1.1.1 hN
  have jf := j_fits (m := m) (N := s_N s) hW hR1.2.2.1.1.1 hN
  have o1 : x_O x S (m_si S x 1 (nI 0)) := fun q a b => ⟨by rw [e_rq (by omega)], rfl, rfl⟩
  have o2 : y_O m T (m_si (m_si T m 0 (nI 0)) m 2 (nI 0)) := (y_O.rf.si (by omega) (by omega)).si (by omega) (by omega)
  rw [ec, er]
  by_cases hfit : w_fit (w_p (s_w s)) (s_N s)
  · obtain ⟨h1, h2⟩ := hfit
    have hc2 := hC.1.2.1
    have hr2 := hR.1.2
    rw [kf.1 ⟨h1, h2⟩, jf.1 ⟨h1, h2⟩, e_call, e_call, if_neg (by decide), if_neg (by decide)]
    generalize hS1 : m_si S x 1 (nI 0) = S1 at *
    generalize hT1 : m_si (m_si T m 0 (nI 0)) m 2 (nI 0) = T1 at *
    obtain ⟨S2, a1, a2, a3⟩ := k_bwt (x := x) (a := x + 84) (num := fun i => nI (s_t s i)) rfl (by omega) (s_qP2 hV1 hC1) h1 (fun i hi => by
      have hi : i < p_pa (w_p (s_w s)) (p_fu (w_p (s_w s)) - 1) := hi
      rw [← hS1, e_rq (by omega), hc2 i (by omega)]; exact e_t255 _ (hV.2.1 i))
    have hSd := d_S_of hW
    have hG := d_G_of hW
    have hz := i_ld (num := fun i => nI (s_t s i)) hW hSd h1
    have hQ0 : q_Q (w_p (s_w s)) (d_of (w_p (s_w s))) (q_ld (w_p (s_w s)) (d_of (w_p (s_w s))) (fun i => nI (s_t s i))) := Or.inl hz
    have hdr : w_dr (w_p (s_w s)) (q_ld (w_p (s_w s)) (d_of (w_p (s_w s))) (fun i => nI (s_t s i))) ≤ 0 := Nat.sub_le _ _
    have hC2 := s_qP2 hV1 (hC1.kept (S' := S2) hV1 ⟨fun q hq => a3.1 q (by omega), fun q _ => by rw [a3.2.1], by rw [a3.2.1], a3.2.2⟩)
    obtain ⟨S3, b1, b2, b3⟩ := k_run hW hSd hG 5001 0 m_fu S2 _ 0 (by omega) hQ0 (fun _ => ⟨rfl, by omega, hdr⟩) (by omega) (by omega) hC2 a2
    have hQ := q_run_Q hW hSd hG 5001 _ hQ0
    have hend := q_run_end hW hSd hG 5001 _ hQ0 (fun _ => by omega)
    obtain ⟨T2, c1, c2, c3, c4⟩ := j_save (m := m) (o := m + 6) (n1 := 2195) (b := 0) (by omega) (by omega) (by omega) T1
    have hR2 : s_R T2 m ((s_t s, 0, s_f s), s.2) := hR1.kept ⟨fun j hj => by rw [c4.1 m (by omega)], fun q hq => c4.1 q (by omega), fun q hq => by rw [c4.2.1]⟩
    obtain ⟨T3, d1, d3, d4, d5⟩ := j_loads (o := m + 1) (n := 940) (num := fun i => nI (s_t s i)) (s_rC hV1 hR2) h1 (show p_pa (w_p (s_w s)) (p_fu (w_p (s_w s)) - 1) ≤ 940 by omega) (by omega) (fun i hi => by
      have hi : i < p_pa (w_p (s_w s)) (p_fu (w_p (s_w s)) - 1) := hi
      rw [c4.1 (m + 1) (by omega), ← hT1, e_rq (by omega), e_rq (by omega), hr2 i (by omega)])
    obtain ⟨T4, fu', f1, f2, f3, f4⟩ := j_run (m := m) hSd hG 5001 m_fu T3 _ 0 (by omega) hQ0 (by omega) ((s_rC hV1 hR2).kept d4) d3
    generalize hM : q_run (w_p (s_w s)) (d_of (w_p (s_w s))) 5001 (q_ld (w_p (s_w s)) (d_of (w_p (s_w s))) (fun i => nI (s_t s i))) = M at *
    generalize w_run (w_p (s_w s)) (d_of (w_p (s_w s))) 5001 (q_ld (w_p (s_w s)) (d_of (w_p (s_w s))) (fun i => nI (s_t s i))) 0 = wr at *
    have hB := hQ.b
    have b0 := hB.2.2.2.2.2.2.2.2.2.2.2.2.1
    have b9 := hB.2.2.2.2.2.2.2.2.2.2.2.1
    obtain ⟨S4, g1, g2, g3, g4, g5, g6⟩ := k_tell (w := wr) b2 b0 b9
    obtain ⟨T5, i1, i2, i3, i4, i5, i6⟩ := j_tell (w := wr) (fu := fu') f2 b0 hend b9
    obtain ⟨T6, j1, j2, j3, j4⟩ := j_back (m := m) (o := m + 6) (n1 := 2195) (b := 0) (by omega) (by omega) (by omega) T5
    have e79 := b2.1 0 (by omega) (by omega) (by omega)
    have kS : ∀ q, q ≠ x → (q < x + 84 ∨ x + 96 ≤ q) → q ≠ x + 99 → m_ri S4 q = m_ri S1 q := fun q h1 h2 h3 => by rw [g3 q h1 h3, b3.1 q h2, a3.1 q (by omega)]
    have kSx : ∀ j, j ≠ 12 → m_ri S4 x j = m_ri S1 x j := fun j hj => by rw [g4 j hj, b3.1 x (by omega), a3.1 x (by omega)]
    have kSj : m_rj S4 = m_rj S1 := by rw [g5, b3.2.1, a3.2.1]
    have kSr : m_rr S4 = m_rr S1 := by rw [g6, b3.2.2, a3.2.2]
    have kT : ∀ q, q ≠ m → q ≠ m + 2 → q ≠ m + 6 → q ≠ m + 23 → q ≠ m + 24 → q ≠ m + 25 → q ≠ m + 26 → q ≠ m + 27 → q ≠ m + 28 → m_ri T6 q = m_ri T1 q := fun q h0 h1 h2 h3 h4 h5 h6 h7 h8 => by
      rw [j4.1 q (by omega), i3 q h0 h7, f4.1 q h0 h1 h3 h4 h5 h6 h8, d4.1 q h1 h3 h4, c4.1 q (by omega)]
    have kTx : ∀ j, j ≠ 44 → j ≠ 41 → j ≠ 45 → m_ri T6 m j = m_ri T1 m j := fun j h1 h2 h3 => by
      rw [j4.1 m (by omega), i4 j h1, f4.2.1 j h2 h3, d4.1 m (by omega) (by omega) (by omega), c4.1 m (by omega)]
    have kT2 : m_ri T6 (m + 2) = m_ri T1 (m + 2) := by
      funext t
      by_cases ht : t < 210 ∨ 2405 ≤ t
      · rw [j3 t ht, i3 _ (by omega) (by omega), f4.2.2.1 t ht, d4.2.1 t ht, c4.1 _ (by omega)]
      · obtain ⟨k, rfl⟩ : ∃ k, t = 210 + k := ⟨t - 210, by omega⟩
        rw [j2 k (by omega), i3 _ (by omega) (by omega), f4.1 _ (by omega) (by omega) (by omega) (by omega) (by omega) (by omega) (by omega), d4.1 _ (by omega) (by omega) (by omega), c2 k (by omega)]
    have kTj : m_rj T6 = m_rj T1 := by rw [j4.2.1, i5, f4.2.2.2.1, d4.2.2.1, c4.2.1]
    have kTr : m_rr T6 = m_rr T1 := by rw [j4.2.2, i6, f4.2.2.2.2, d4.2.2.2, c4.2.2]
    refine ⟨S4, T6, nI (q_sc M 0), ((s_t s, 0, s_f s), s_w s, (1, q_rr M wr), s_hi s, s_g s), ?_, ?_, ?_, ?_, ?_, ?_, ?_⟩
    · rw [a1, e_cal0, show (0 : Int32) = nI 0 from rfl, b1, b_X11_run_115, g1, e_cal0, g3 _ (by omega) (by omega), e79]
    · rw [show (0 : Int32) = nI 0 from rfl, c1, e_cal0, d1, e_cal0, f1, i1, show (0 : Int32) = nI 0 from rfl, j1]; rfl
    · obtain ⟨v1, v2, v3, v4, v5, v6, v7, v8⟩ := hV1
      exact ⟨v1, v2, v3, v4, show 1 ≤ 1 by omega, v6, v7, v8⟩
    · refine hC1.up2 hV1 rfl rfl rfl ⟨?_, fun i hi => absurd hi (Nat.not_lt_zero i), hC1.1.2.2.kept ⟨by rw [kSj], by rw [kSj], by rw [kS _ (by omega) (by omega) (by omega)], by rw [kS _ (by omega) (by omega) (by omega)]⟩⟩ ?_ g2 (fun q hq h94 => kS q (by omega) (by omega) h94) (fun q _ => by rw [kSj]) kSr
      · rw [kSx 1 (by omega)]; exact hC1.1.1
      · rw [kSx 5 (by omega)]; exact hC1.2.1
    · refine hR1.up2 rfl rfl rfl ⟨?_, fun i hi => absurd hi (Nat.not_lt_zero i)⟩ ?_ ?_ (kTx 24 (by omega) (by omega) (by omega)) (fun q hq => ?_) (fun q _ => by rw [kTj])
      · rw [kTx 2 (by omega) (by omega) (by omega)]; exact hR1.1.1
      · rw [kTx 10 (by omega) (by omega) (by omega)]; exact hR1.2.1
      · exact ⟨by rw [j4.1 m (by omega)]; exact i2.1, fun h i hi => by rw [j4.1 _ (by omega)]; exact i2.2 h i hi⟩
      · by_cases e : q = m + 2
        · rw [e]; exact kT2
        · exact kT q (by omega) e (by omega) (by omega) (by omega) (by omega) (by omega) (by omega) (by omega)
    · exact o1.tr (fun q h1 h2 => ⟨kS q (by omega) (by omega) (by omega), by rw [kSj], by rw [kSr]⟩)
    · exact o2.tr ⟨fun q hq => ⟨kT q (by omega) (by omega) (by omega) (by omega) (by omega) (by omega) (by omega) (by omega) (by omega), by rw [kTj]⟩, kTr⟩
  · rw [kf.2 hfit, jf.2 hfit]
    exact ⟨_, _, m_no, _, rfl, rfl, hV1, hC1, hR1, o1, o2⟩
end RN
