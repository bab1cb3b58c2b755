/-! a parameter is counted, a fun is read: both sides -/
section VF
variable {S S' T T' : m_M} {x m : Nat} {P : pP} {n w : Nat → Int64} {f i j k s : Nat} {W : Int64} {t : Nat → Nat} {N L p : Nat}
theorem v_QT.kn (h : v_QT T m P n w) (w1 : m_ri T' (m + 3) = m_ri T (m + 3)) (w2 : m_rj T' (m + 8) = m_rj T (m + 8)) (w3 : m_rj T' (m + 10) = m_rj T (m + 10)) : v_QT T' m P n w := by
  unfold v_QT at *
  rw [w1, w2, w3]
  exact h
theorem v_QS_pp (hW : v_W P) (hf : 0 < p_fu P) (hb : p_ct P (p_fu P - 1) = 0) (hS : v_QS S x P n w) : v_QS (m_si (m_si (m_sj S (x + 30) (v_n P) W) (x + 2) 3 (nI (v_n P + 1))) (x + 5) (p_fu P - 1) (nI (p_pa P (p_fu P - 1) + 1))) x (v_pp P) n (fun v => if v = v_n P then W else w v) := by
  obtain ⟨⟨r1, r2, r3, r4, r5, r6⟩, h2, h3, h4⟩ := hS
  refine ⟨⟨?_, ?_, fun f h => ?_, fun f h => ?_, fun f h => ?_, fun f i h hi => ?_⟩, fun f h => ?_, ?_, fun v hv => ?_⟩
  · rw [v_pp_fu]; simp (disch := omega) only [e_let, e_call, e_cal0, e_bind, e_lit, e_ofN, e_neg, nI_add, pk_mul, e_sub, e_ldi, e_sti, e_ldj, e_stj, e_le_t, e_le_f, e_lt_t, e_lt_f, e_eq_t, e_eq_f, e_no_eq, e_no_eq', e_no_rfl, e_no_lt, e_no_le, e_le_no, e_lt_no, if_true, if_false, ↓reduceIte, e_rs, e_rq, e_rn, e_ji, e_ki, e_ij, e_kj, e_js, e_jq, e_jn, e_cs, e_cq, e_jc, e_kc, e_js', e_jcq, e_icj, e_kcj, or_true, true_or, or_false, false_or, and_true, true_and, not_true_eq_false, not_false_eq_true, r1]
  · rw [v_pp_ln]; simp (disch := omega) only [e_let, e_call, e_cal0, e_bind, e_lit, e_ofN, e_neg, nI_add, pk_mul, e_sub, e_ldi, e_sti, e_ldj, e_stj, e_le_t, e_le_f, e_lt_t, e_lt_f, e_eq_t, e_eq_f, e_no_eq, e_no_eq', e_no_rfl, e_no_lt, e_no_le, e_le_no, e_lt_no, if_true, if_false, ↓reduceIte, e_rs, e_rq, e_rn, e_ji, e_ki, e_ij, e_kj, e_js, e_jq, e_jn, e_cs, e_cq, e_jc, e_kc, e_js', e_jcq, e_icj, e_kcj, or_true, true_or, or_false, false_or, and_true, true_and, not_true_eq_false, not_false_eq_true, r2]
  · rw [v_pp_fu] at h
    rw [v_pp_pa, show x + 3 + 2 = x + 5 from rfl]
    by_cases e : f = p_fu P - 1
    · rw [if_pos e, e]; simp (disch := omega) only [e_let, e_call, e_cal0, e_bind, e_lit, e_ofN, e_neg, nI_add, pk_mul, e_sub, e_ldi, e_sti, e_ldj, e_stj, e_le_t, e_le_f, e_lt_t, e_lt_f, e_eq_t, e_eq_f, e_no_eq, e_no_eq', e_no_rfl, e_no_lt, e_no_le, e_le_no, e_lt_no, if_true, if_false, ↓reduceIte, e_rs, e_rq, e_rn, e_ji, e_ki, e_ij, e_kj, e_js, e_jq, e_jn, e_cs, e_cq, e_jc, e_kc, e_js', e_jcq, e_icj, e_kcj, or_true, true_or, or_false, false_or, and_true, true_and, not_true_eq_false, not_false_eq_true]
    · rw [if_neg e]; simp (disch := omega) only [e_let, e_call, e_cal0, e_bind, e_lit, e_ofN, e_neg, nI_add, pk_mul, e_sub, e_ldi, e_sti, e_ldj, e_stj, e_le_t, e_le_f, e_lt_t, e_lt_f, e_eq_t, e_eq_f, e_no_eq, e_no_eq', e_no_rfl, e_no_lt, e_no_le, e_le_no, e_lt_no, if_true, if_false, ↓reduceIte, e_rs, e_rq, e_rn, e_ji, e_ki, e_ij, e_kj, e_js, e_jq, e_jn, e_cs, e_cq, e_jc, e_kc, e_js', e_jcq, e_icj, e_kcj, or_true, true_or, or_false, false_or, and_true, true_and, not_true_eq_false, not_false_eq_true]; exact r3 f h
  · rw [v_pp_fu] at h
    rw [v_pp_fi, show x + 3 + 3 = x + 6 from rfl]
    simp (disch := omega) only [e_let, e_call, e_cal0, e_bind, e_lit, e_ofN, e_neg, nI_add, pk_mul, e_sub, e_ldi, e_sti, e_ldj, e_stj, e_le_t, e_le_f, e_lt_t, e_lt_f, e_eq_t, e_eq_f, e_no_eq, e_no_eq', e_no_rfl, e_no_lt, e_no_le, e_le_no, e_lt_no, if_true, if_false, ↓reduceIte, e_rs, e_rq, e_rn, e_ji, e_ki, e_ij, e_kj, e_js, e_jq, e_jn, e_cs, e_cq, e_jc, e_kc, e_js', e_jcq, e_icj, e_kcj, or_true, true_or, or_false, false_or, and_true, true_and, not_true_eq_false, not_false_eq_true]; exact r4 f h
  · rw [v_pp_fu] at h
    rw [v_pp_ct, show x + 3 + 4 = x + 7 from rfl]
    simp (disch := omega) only [e_let, e_call, e_cal0, e_bind, e_lit, e_ofN, e_neg, nI_add, pk_mul, e_sub, e_ldi, e_sti, e_ldj, e_stj, e_le_t, e_le_f, e_lt_t, e_lt_f, e_eq_t, e_eq_f, e_no_eq, e_no_eq', e_no_rfl, e_no_lt, e_no_le, e_le_no, e_lt_no, if_true, if_false, ↓reduceIte, e_rs, e_rq, e_rn, e_ji, e_ki, e_ij, e_kj, e_js, e_jq, e_jn, e_cs, e_cq, e_jc, e_kc, e_js', e_jcq, e_icj, e_kcj, or_true, true_or, or_false, false_or, and_true, true_and, not_true_eq_false, not_false_eq_true]; exact r5 f h
  · rw [v_pp_fu] at h
    rw [v_pp_ct] at hi
    obtain ⟨u1, u2⟩ := v_pp_l hW hb h hi
    obtain ⟨g1, g2, g3, g4⟩ := r6 f i h hi
    rw [v_pp_fi, v_pp_op, v_pp_ca, v_pp_nu]
    simp only [u1, u2, v_pp_va]
    rw [show x + 3 + 5 = x + 8 from rfl, show x + 3 + 6 = x + 9 from rfl, show x + 3 + 7 = x + 10 from rfl]
    have k13 : ∀ q, x + 8 ≤ q → m_ri (m_si (m_si (m_sj S (x + 30) (v_n P) W) (x + 2) 3 (nI (v_n P + 1))) (x + 5) (p_fu P - 1) (nI (p_pa P (p_fu P - 1) + 1))) q = m_ri S q := fun q hq => by simp (disch := omega) only [e_let, e_call, e_cal0, e_bind, e_lit, e_ofN, e_neg, nI_add, pk_mul, e_sub, e_ldi, e_sti, e_ldj, e_stj, e_le_t, e_le_f, e_lt_t, e_lt_f, e_eq_t, e_eq_f, e_no_eq, e_no_eq', e_no_rfl, e_no_lt, e_no_le, e_le_no, e_lt_no, if_true, if_false, ↓reduceIte, e_rs, e_rq, e_rn, e_ji, e_ki, e_ij, e_kj, e_js, e_jq, e_jn, e_cs, e_cq, e_jc, e_kc, e_js', e_jcq, e_icj, e_kcj, or_true, true_or, or_false, false_or, and_true, true_and, not_true_eq_false, not_false_eq_true]
    rw [k13 _ (by omega), k13 _ (by omega), k13 _ (by omega)]
    exact ⟨g1, g2, g3, g4⟩
  · rw [v_pp_fu] at h
    simp (disch := omega) only [e_let, e_call, e_cal0, e_bind, e_lit, e_ofN, e_neg, nI_add, pk_mul, e_sub, e_ldi, e_sti, e_ldj, e_stj, e_le_t, e_le_f, e_lt_t, e_lt_f, e_eq_t, e_eq_f, e_no_eq, e_no_eq', e_no_rfl, e_no_lt, e_no_le, e_le_no, e_lt_no, if_true, if_false, ↓reduceIte, e_rs, e_rq, e_rn, e_ji, e_ki, e_ij, e_kj, e_js, e_jq, e_jn, e_cs, e_cq, e_jc, e_kc, e_js', e_jcq, e_icj, e_kcj, or_true, true_or, or_false, false_or, and_true, true_and, not_true_eq_false, not_false_eq_true]; exact h2 f h
  · rw [v_pp_n hf]; simp (disch := omega) only [e_let, e_call, e_cal0, e_bind, e_lit, e_ofN, e_neg, nI_add, pk_mul, e_sub, e_ldi, e_sti, e_ldj, e_stj, e_le_t, e_le_f, e_lt_t, e_lt_f, e_eq_t, e_eq_f, e_no_eq, e_no_eq', e_no_rfl, e_no_lt, e_no_le, e_le_no, e_lt_no, if_true, if_false, ↓reduceIte, e_rs, e_rq, e_rn, e_ji, e_ki, e_ij, e_kj, e_js, e_jq, e_jn, e_cs, e_cq, e_jc, e_kc, e_js', e_jcq, e_icj, e_kcj, or_true, true_or, or_false, false_or, and_true, true_and, not_true_eq_false, not_false_eq_true]
  · rw [v_pp_n hf] at hv
    dsimp only
    by_cases e : v = v_n P
    · rw [if_pos e, e]; simp (disch := omega) only [e_let, e_call, e_cal0, e_bind, e_lit, e_ofN, e_neg, nI_add, pk_mul, e_sub, e_ldi, e_sti, e_ldj, e_stj, e_le_t, e_le_f, e_lt_t, e_lt_f, e_eq_t, e_eq_f, e_no_eq, e_no_eq', e_no_rfl, e_no_lt, e_no_le, e_le_no, e_lt_no, if_true, if_false, ↓reduceIte, e_rs, e_rq, e_rn, e_ji, e_ki, e_ij, e_kj, e_js, e_jq, e_jn, e_cs, e_cq, e_jc, e_kc, e_js', e_jcq, e_icj, e_kcj, or_true, true_or, or_false, false_or, and_true, true_and, not_true_eq_false, not_false_eq_true]
    · rw [if_neg e]; simp (disch := omega) only [e_let, e_call, e_cal0, e_bind, e_lit, e_ofN, e_neg, nI_add, pk_mul, e_sub, e_ldi, e_sti, e_ldj, e_stj, e_le_t, e_le_f, e_lt_t, e_lt_f, e_eq_t, e_eq_f, e_no_eq, e_no_eq', e_no_rfl, e_no_lt, e_no_le, e_le_no, e_lt_no, if_true, if_false, ↓reduceIte, e_rs, e_rq, e_rn, e_ji, e_ki, e_ij, e_kj, e_js, e_jq, e_jn, e_cs, e_cq, e_jc, e_kc, e_js', e_jcq, e_icj, e_kcj, or_true, true_or, or_false, false_or, and_true, true_and, not_true_eq_false, not_false_eq_true]; exact h4 v (by omega)
theorem v_n_bare (hf : 0 < p_fu P) (hb : p_ct P (p_fu P - 1) = 0) : v_n P = p_pa P (p_fu P - 1) := by
  rw [v_n, if_neg (by omega)]; simp only [p_vs]; omega
theorem v_QT_pp (hW : v_W P) (hf : 0 < p_fu P) (hb : p_ct P (p_fu P - 1) = 0) (hT : v_QT T m P n w) : v_QT (m_si (m_sj T (m + 10) (27 * (p_fu P - 1) + p_pa P (p_fu P - 1)) W) (m + 3) (3 + (p_fu P - 1)) (nI (p_pa P (p_fu P - 1) + 1))) m (v_pp P) n (fun v => if v = v_n P then W else w v) := by
  have h5 := hW.1
  have hn := v_n_bare hf hb
  obtain ⟨⟨s1, s2, s3, s4⟩, z2, z3, z4⟩ := hT
  refine ⟨⟨?_, ?_, fun f h => ?_, fun f i h hi => ?_⟩, fun f h h' => ?_, fun f h => ?_, fun v hv => ?_⟩
  · rw [v_pp_fu]; simp (disch := omega) only [e_let, e_call, e_cal0, e_bind, e_lit, e_ofN, e_neg, nI_add, pk_mul, e_sub, e_ldi, e_sti, e_ldj, e_stj, e_le_t, e_le_f, e_lt_t, e_lt_f, e_eq_t, e_eq_f, e_no_eq, e_no_eq', e_no_rfl, e_no_lt, e_no_le, e_le_no, e_lt_no, if_true, if_false, ↓reduceIte, e_rs, e_rq, e_rn, e_ji, e_ki, e_ij, e_kj, e_js, e_jq, e_jn, e_cs, e_cq, e_jc, e_kc, e_js', e_jcq, e_icj, e_kcj, or_true, true_or, or_false, false_or, and_true, true_and, not_true_eq_false, not_false_eq_true, s1]
  · rw [v_pp_ln]; simp (disch := omega) only [e_let, e_call, e_cal0, e_bind, e_lit, e_ofN, e_neg, nI_add, pk_mul, e_sub, e_ldi, e_sti, e_ldj, e_stj, e_le_t, e_le_f, e_lt_t, e_lt_f, e_eq_t, e_eq_f, e_no_eq, e_no_eq', e_no_rfl, e_no_lt, e_no_le, e_le_no, e_lt_no, if_true, if_false, ↓reduceIte, e_rs, e_rq, e_rn, e_ji, e_ki, e_ij, e_kj, e_js, e_jq, e_jn, e_cs, e_cq, e_jc, e_kc, e_js', e_jcq, e_icj, e_kcj, or_true, true_or, or_false, false_or, and_true, true_and, not_true_eq_false, not_false_eq_true, s2]
  · rw [v_pp_fu] at h
    rw [v_pp_pa, v_pp_fi, v_pp_ct]
    obtain ⟨a1, a2, a3⟩ := s3 f (by omega)
    refine ⟨?_, ?_, ?_⟩
    · by_cases e : f = p_fu P - 1
      · rw [if_pos e, e]; simp (disch := omega) only [e_let, e_call, e_cal0, e_bind, e_lit, e_ofN, e_neg, nI_add, pk_mul, e_sub, e_ldi, e_sti, e_ldj, e_stj, e_le_t, e_le_f, e_lt_t, e_lt_f, e_eq_t, e_eq_f, e_no_eq, e_no_eq', e_no_rfl, e_no_lt, e_no_le, e_le_no, e_lt_no, if_true, if_false, ↓reduceIte, e_rs, e_rq, e_rn, e_ji, e_ki, e_ij, e_kj, e_js, e_jq, e_jn, e_cs, e_cq, e_jc, e_kc, e_js', e_jcq, e_icj, e_kcj, or_true, true_or, or_false, false_or, and_true, true_and, not_true_eq_false, not_false_eq_true]
      · rw [if_neg e]; simp (disch := omega) only [e_let, e_call, e_cal0, e_bind, e_lit, e_ofN, e_neg, nI_add, pk_mul, e_sub, e_ldi, e_sti, e_ldj, e_stj, e_le_t, e_le_f, e_lt_t, e_lt_f, e_eq_t, e_eq_f, e_no_eq, e_no_eq', e_no_rfl, e_no_lt, e_no_le, e_le_no, e_lt_no, if_true, if_false, ↓reduceIte, e_rs, e_rq, e_rn, e_ji, e_ki, e_ij, e_kj, e_js, e_jq, e_jn, e_cs, e_cq, e_jc, e_kc, e_js', e_jcq, e_icj, e_kcj, or_true, true_or, or_false, false_or, and_true, true_and, not_true_eq_false, not_false_eq_true, a1]
    · simp (disch := omega) only [e_let, e_call, e_cal0, e_bind, e_lit, e_ofN, e_neg, nI_add, pk_mul, e_sub, e_ldi, e_sti, e_ldj, e_stj, e_le_t, e_le_f, e_lt_t, e_lt_f, e_eq_t, e_eq_f, e_no_eq, e_no_eq', e_no_rfl, e_no_lt, e_no_le, e_le_no, e_lt_no, if_true, if_false, ↓reduceIte, e_rs, e_rq, e_rn, e_ji, e_ki, e_ij, e_kj, e_js, e_jq, e_jn, e_cs, e_cq, e_jc, e_kc, e_js', e_jcq, e_icj, e_kcj, or_true, true_or, or_false, false_or, and_true, true_and, not_true_eq_false, not_false_eq_true, a2]
    · simp (disch := omega) only [e_let, e_call, e_cal0, e_bind, e_lit, e_ofN, e_neg, nI_add, pk_mul, e_sub, e_ldi, e_sti, e_ldj, e_stj, e_le_t, e_le_f, e_lt_t, e_lt_f, e_eq_t, e_eq_f, e_no_eq, e_no_eq', e_no_rfl, e_no_lt, e_no_le, e_le_no, e_lt_no, if_true, if_false, ↓reduceIte, e_rs, e_rq, e_rn, e_ji, e_ki, e_ij, e_kj, e_js, e_jq, e_jn, e_cs, e_cq, e_jc, e_kc, e_js', e_jcq, e_icj, e_kcj, or_true, true_or, or_false, false_or, and_true, true_and, not_true_eq_false, not_false_eq_true, a3]
  · rw [v_pp_fu] at h
    rw [v_pp_ct] at hi
    obtain ⟨u1, u2⟩ := v_pp_l hW hb h hi
    obtain ⟨g1, g2, g3, g4⟩ := s4 f i h hi
    rw [v_pp_fi, v_pp_op, v_pp_ca, v_pp_nu]
    simp only [u1, v_pp_va]
    have k18 : ∀ q, 18 ≤ q → m_ri (m_si (m_sj T (m + 10) (27 * (p_fu P - 1) + p_pa P (p_fu P - 1)) W) (m + 3) (3 + (p_fu P - 1)) (nI (p_pa P (p_fu P - 1) + 1))) (m + 3) q = m_ri T (m + 3) q := fun q hq => by simp (disch := omega) only [e_let, e_call, e_cal0, e_bind, e_lit, e_ofN, e_neg, nI_add, pk_mul, e_sub, e_ldi, e_sti, e_ldj, e_stj, e_le_t, e_le_f, e_lt_t, e_lt_f, e_eq_t, e_eq_f, e_no_eq, e_no_eq', e_no_rfl, e_no_lt, e_no_le, e_le_no, e_lt_no, if_true, if_false, ↓reduceIte, e_rs, e_rq, e_rn, e_ji, e_ki, e_ij, e_kj, e_js, e_jq, e_jn, e_cs, e_cq, e_jc, e_kc, e_js', e_jcq, e_icj, e_kcj, or_true, true_or, or_false, false_or, and_true, true_and, not_true_eq_false, not_false_eq_true]
    rw [k18 _ (by omega), k18 _ (by omega), k18 _ (by omega)]
    refine ⟨g1, g2, g3, fun k hk => ?_⟩
    rw [k18 _ (by omega)]; exact g4 k hk
  · rw [v_pp_fu] at h
    obtain ⟨a1, a2⟩ := z2 f h h'
    refine ⟨?_, ?_⟩
    · simp (disch := omega) only [e_let, e_call, e_cal0, e_bind, e_lit, e_ofN, e_neg, nI_add, pk_mul, e_sub, e_ldi, e_sti, e_ldj, e_stj, e_le_t, e_le_f, e_lt_t, e_lt_f, e_eq_t, e_eq_f, e_no_eq, e_no_eq', e_no_rfl, e_no_lt, e_no_le, e_le_no, e_lt_no, if_true, if_false, ↓reduceIte, e_rs, e_rq, e_rn, e_ji, e_ki, e_ij, e_kj, e_js, e_jq, e_jn, e_cs, e_cq, e_jc, e_kc, e_js', e_jcq, e_icj, e_kcj, or_true, true_or, or_false, false_or, and_true, true_and, not_true_eq_false, not_false_eq_true, a1]
    · simp (disch := omega) only [e_let, e_call, e_cal0, e_bind, e_lit, e_ofN, e_neg, nI_add, pk_mul, e_sub, e_ldi, e_sti, e_ldj, e_stj, e_le_t, e_le_f, e_lt_t, e_lt_f, e_eq_t, e_eq_f, e_no_eq, e_no_eq', e_no_rfl, e_no_lt, e_no_le, e_le_no, e_lt_no, if_true, if_false, ↓reduceIte, e_rs, e_rq, e_rn, e_ji, e_ki, e_ij, e_kj, e_js, e_jq, e_jn, e_cs, e_cq, e_jc, e_kc, e_js', e_jcq, e_icj, e_kcj, or_true, true_or, or_false, false_or, and_true, true_and, not_true_eq_false, not_false_eq_true, a2]
  · rw [v_pp_fu] at h
    simp (disch := omega) only [e_let, e_call, e_cal0, e_bind, e_lit, e_ofN, e_neg, nI_add, pk_mul, e_sub, e_ldi, e_sti, e_ldj, e_stj, e_le_t, e_le_f, e_lt_t, e_lt_f, e_eq_t, e_eq_f, e_no_eq, e_no_eq', e_no_rfl, e_no_lt, e_no_le, e_le_no, e_lt_no, if_true, if_false, ↓reduceIte, e_rs, e_rq, e_rn, e_ji, e_ki, e_ij, e_kj, e_js, e_jq, e_jn, e_cs, e_cq, e_jc, e_kc, e_js', e_jcq, e_icj, e_kcj, or_true, true_or, or_false, false_or, and_true, true_and, not_true_eq_false, not_false_eq_true]; exact z3 f h
  · rw [v_pp_n hf] at hv
    rw [v_pp_fu]
    dsimp only
    by_cases e : v = v_n P
    · rw [if_pos e, e, hn]; simp (disch := omega) only [e_let, e_call, e_cal0, e_bind, e_lit, e_ofN, e_neg, nI_add, pk_mul, e_sub, e_ldi, e_sti, e_ldj, e_stj, e_le_t, e_le_f, e_lt_t, e_lt_f, e_eq_t, e_eq_f, e_no_eq, e_no_eq', e_no_rfl, e_no_lt, e_no_le, e_le_no, e_lt_no, if_true, if_false, ↓reduceIte, e_rs, e_rq, e_rn, e_ji, e_ki, e_ij, e_kj, e_js, e_jq, e_jn, e_cs, e_cq, e_jc, e_kc, e_js', e_jcq, e_icj, e_kcj, or_true, true_or, or_false, false_or, and_true, true_and, not_true_eq_false, not_false_eq_true]
    · rw [if_neg e]; simp (disch := omega) only [e_let, e_call, e_cal0, e_bind, e_lit, e_ofN, e_neg, nI_add, pk_mul, e_sub, e_ldi, e_sti, e_ldj, e_stj, e_le_t, e_le_f, e_lt_t, e_lt_f, e_eq_t, e_eq_f, e_no_eq, e_no_eq', e_no_rfl, e_no_lt, e_no_le, e_le_no, e_lt_no, if_true, if_false, ↓reduceIte, e_rs, e_rq, e_rn, e_ji, e_ki, e_ij, e_kj, e_js, e_jq, e_jn, e_cs, e_cq, e_jc, e_kc, e_js', e_jcq, e_icj, e_kcj, or_true, true_or, or_false, false_or, and_true, true_and, not_true_eq_false, not_false_eq_true]; exact z4 v (by omega)
/-- what both sides hold behind a line that opens a fun -/
def v_RF (S T S' T' : m_M) (x m : Nat) (t : Nat → Nat) (N L : Nat) (a b r : Nat) : Prop :=
  v_oS x S S' ∧ v_FT m T T' ∧ ((r = 0 ∧ v_B S' T' x m) ∨ (r = 1 ∧ ∃ (p' : Nat) (P' : pP) (n' w' : Nat → Int64), v_J S' T' x m t N L p' ∧ v_QS S' x P' n' w' ∧ v_QT T' m P' n' w' ∧ v_W P' ∧ p_fu P' = a ∧ p_ln P' = b))
theorem v_FT.rf : v_FT m T T := ⟨fun _ _ => rfl, fun _ _ => rfl, fun _ _ _ => rfl, fun _ _ _ _ => rfl, rfl⟩
theorem v_RF.fail {κ a b : Nat} (hJ : v_J S T x m t N L p) (hκ : t_K t N L p = 1 → κ = 1) (h1 : 1 ≤ κ) (h4 : κ ≤ 4) : ∃ S' T', f_X9_failsBy x S (nI κ) = some (nI 0, S') ∧ f_X12_bad m T (nI κ) = some (nI 0, T') ∧ v_RF S T S' T' x m t N L a b 0 := by
  obtain ⟨b1, b2, b3⟩ := v_fail hJ hκ h1 h4
  exact ⟨_, _, b1, b2, (v_oS.rf.si (by omega) (by omega)).si (by omega) (by omega), v_FT.of (l := 0) ((v_ft.rf.sl (by omega) (by omega)).sl (by omega) (by omega)), Or.inl ⟨rfl, b3⟩⟩
theorem v_par : ∀ (c i fu fu' p : Nat) (S T : m_M) (P : pP) (w : Nat → Int64), i + c = 4 → 1 ≤ c → c < fu → c < fu' → 0 < p_fu P → p_ct P (p_fu P - 1) = 0 → p_pa P (p_fu P - 1) = i → v_W P → v_J S T x m t N L p → v_QS S x P n w → v_QT T m P n w →
    ∃ S' T' r, b_X4_readsParameters_2 x fu S (nI i) = some (nI r, S') ∧ b_X12_readFun_123 m fu' T = some (nI r, T') ∧ v_RF S T S' T' x m t N L (p_fu P) (p_ln P) r := by
  intro c
  induction c with
  | zero => intro i fu fu' p S T P w _ h; omega
  | succ c ih =>
    intro i fu fu' p S T P w hi _ hc hc' hf hb hp hW hJ hS hT
    obtain ⟨fu, rfl⟩ : ∃ f, fu = f + 1 := ⟨fu - 1, by omega⟩
    obtain ⟨fu', rfl⟩ : ∃ f, fu' = f + 1 := ⟨fu' - 1, by omega⟩
    have h5 := hW.1
    have hK5 := t_K_5 (t := t) (N := N) (L := L) (p := p)
    obtain ⟨k9, _, _, _, _, k14⟩ := hJ.1.tk
    have hnm := j_isName hJ.2
    have hr1 := hT.1.1
    have hp1 := hS.1.1
    have h3i : ¬ (3 : Int32) < nI i := by rw [show (3 : Int32) = nI 3 from rfl, e_lt (by omega) (by omega)]; omega
    have n10 : ¬ (nI 1 = (0 : Int32)) := by decide
    have e2 : nI 2 = (2 : Int32) := rfl
    have em : m_no = (-1 : Int32) := rfl
    by_cases g : t_K t N L p = 2
    · rw [if_pos g] at hnm k14
      rw [g] at k9
      have h12 := hJ.2.2.1.2.2.2.1 (Or.inl g)
      have hv := k_varOf (W := t_W t N p) hS hW
      have hfv := j_findVar hT hW hf
      rw [h12] at hfv
      have hfn : f_X12_funNow m T = some (nI (p_fu P - 1), T) := by simp (disch := omega) only [e_let, e_call, e_cal0, e_bind, e_lit, e_ofN, e_neg, nI_add, pk_mul, e_sub, e_ldi, e_sti, e_ldj, e_stj, e_le_t, e_le_f, e_lt_t, e_lt_f, e_eq_t, e_eq_f, e_no_eq, e_no_eq', e_no_rfl, e_no_lt, e_no_le, e_le_no, e_lt_no, if_true, if_false, ↓reduceIte, e_rs, e_rq, e_rn, e_ji, e_ki, e_ij, e_kj, e_js, e_jq, e_jn, e_cs, e_cq, e_jc, e_kc, e_js', e_jcq, e_icj, e_kcj, or_true, true_or, or_false, false_or, and_true, true_and, not_true_eq_false, not_false_eq_true, f_X12_funNow, hr1]
      have hpa := (hT.1.2.2.1 (p_fu P - 1) (by omega)).1
      rw [hp] at hpa
      by_cases e : v_lk w (t_W t N p) (v_n P) < v_n P
      · have h27 := v_n_le hW
        have ean : v_an w (t_W t N p) (v_n P) = nI (v_lk w (t_W t N p) (v_n P)) := by rw [v_an, if_pos e]
        rw [ean] at hv hfv
        have nn : ¬ (nI (v_lk w (t_W t N p) (v_n P)) = (-1 : Int32)) := fun q => (e_no_eq (a := v_lk w (t_W t N p) (v_n P)) (by omega)).mp q
        obtain ⟨S', T', a1, a2, a3⟩ := v_RF.fail (κ := 3) (a := p_fu P) (b := p_ln P) hJ (fun q => by omega) (by omega) (by omega)
        refine ⟨S', T', 0, ?_, ?_, a3⟩
        · rw [b_X4_readsParameters_2, if_neg h3i, k9, if_pos e2, k14, hv, e_call, if_neg nn, show (3 : Int32) = nI 3 from rfl, a1]
          rfl
        · rw [b_X12_readFun_123, hnm, e_call, if_neg n10, f_X12_readParameter, hfn, e_call, hfv, e_call, if_neg nn, show (3 : Int32) = nI 3 from rfl, a2]
          rfl
      · have ean : v_an w (t_W t N p) (v_n P) = m_no := by rw [v_an, if_neg e]
        rw [ean] at hv hfv
        by_cases h3 : i = 3
        · obtain ⟨S', T', a1, a2, a3⟩ := v_RF.fail (κ := 4) (a := p_fu P) (b := p_ln P) hJ (fun q => by omega) (by omega) (by omega)
          rw [h3] at h3i hpa
          refine ⟨S', T', 0, ?_, ?_, a3⟩
          · rw [h3, b_X4_readsParameters_2, if_neg h3i, k9, if_pos e2, k14, hv, e_call, if_pos em, if_pos (show nI 3 = (3 : Int32) from rfl), show (4 : Int32) = nI 4 from rfl, a1]
            rfl
          · rw [b_X12_readFun_123, hnm, e_call, if_neg n10, f_X12_readParameter, hfn, e_call, hfv, e_call, if_pos em, show (3 : Int32) = nI 3 from rfl, nI_add, e_ldi (by omega) (by omega), e_bind, hpa, if_pos rfl, show (4 : Int32) = nI 4 from rfl, a2]
            rfl
        · have n3 : ¬ nI i = (3 : Int32) := fun q => (e_eq_f (a := i) (b := 3) h3 (by omega) (by omega)).mp q
          have hvn := v_n_bare hf hb
          have hpc := hS.1.2.2.1 (p_fu P - 1) (by omega)
          rw [hp] at hpc
          have hQ := v_QS_pp (W := t_W t N p) hW hf hb hS
          have hR := v_QT_pp (W := t_W t N p) hW hf hb hT
          have hW' := v_W_pp hW hf hb (by omega)
          rw [hp] at hQ hR hvn
          rw [hvn] at hQ
          have hJ' : v_J (m_si (m_si (m_sj S (x + 30) i (t_W t N p)) (x + 2) 3 (nI (i + 1))) (x + 5) (p_fu P - 1) (nI (i + 1))) (m_si (m_sj T (m + 10) (27 * (p_fu P - 1) + i) (t_W t N p)) (m + 3) (3 + (p_fu P - 1)) (nI (i + 1))) x m t N L p :=
            ⟨hJ.1.kept fun q h1 h2 => ⟨by simp (disch := omega) only [e_let, e_call, e_cal0, e_bind, e_lit, e_ofN, e_neg, nI_add, pk_mul, e_sub, e_ldi, e_sti, e_ldj, e_stj, e_le_t, e_le_f, e_lt_t, e_lt_f, e_eq_t, e_eq_f, e_no_eq, e_no_eq', e_no_rfl, e_no_lt, e_no_le, e_le_no, e_lt_no, if_true, if_false, ↓reduceIte, e_rs, e_rq, e_rn, e_ji, e_ki, e_ij, e_kj, e_js, e_jq, e_jn, e_cs, e_cq, e_jc, e_kc, e_js', e_jcq, e_icj, e_kcj, or_true, true_or, or_false, false_or, and_true, true_and, not_true_eq_false, not_false_eq_true], by simp (disch := omega) only [e_let, e_call, e_cal0, e_bind, e_lit, e_ofN, e_neg, nI_add, pk_mul, e_sub, e_ldi, e_sti, e_ldj, e_stj, e_le_t, e_le_f, e_lt_t, e_lt_f, e_eq_t, e_eq_f, e_no_eq, e_no_eq', e_no_rfl, e_no_lt, e_no_le, e_le_no, e_lt_no, if_true, if_false, ↓reduceIte, e_rs, e_rq, e_rn, e_ji, e_ki, e_ij, e_kj, e_js, e_jq, e_jn, e_cs, e_cq, e_jc, e_kc, e_js', e_jcq, e_icj, e_kcj, or_true, true_or, or_false, false_or, and_true, true_and, not_true_eq_false, not_false_eq_true]⟩, hJ.2.kept (fun i _ _ => by simp (disch := omega) only [e_let, e_call, e_cal0, e_bind, e_lit, e_ofN, e_neg, nI_add, pk_mul, e_sub, e_ldi, e_sti, e_ldj, e_stj, e_le_t, e_le_f, e_lt_t, e_lt_f, e_eq_t, e_eq_f, e_no_eq, e_no_eq', e_no_rfl, e_no_lt, e_no_le, e_le_no, e_lt_no, if_true, if_false, ↓reduceIte, e_rs, e_rq, e_rn, e_ji, e_ki, e_ij, e_kj, e_js, e_jq, e_jn, e_cs, e_cq, e_jc, e_kc, e_js', e_jcq, e_icj, e_kcj, or_true, true_or, or_false, false_or, and_true, true_and, not_true_eq_false, not_false_eq_true]) (by simp (disch := omega) only [e_let, e_call, e_cal0, e_bind, e_lit, e_ofN, e_neg, nI_add, pk_mul, e_sub, e_ldi, e_sti, e_ldj, e_stj, e_le_t, e_le_f, e_lt_t, e_lt_f, e_eq_t, e_eq_f, e_no_eq, e_no_eq', e_no_rfl, e_no_lt, e_no_le, e_le_no, e_lt_no, if_true, if_false, ↓reduceIte, e_rs, e_rq, e_rn, e_ji, e_ki, e_ij, e_kj, e_js, e_jq, e_jn, e_cs, e_cq, e_jc, e_kc, e_js', e_jcq, e_icj, e_kcj, or_true, true_or, or_false, false_or, and_true, true_and, not_true_eq_false, not_false_eq_true]) (by simp (disch := omega) only [e_let, e_call, e_cal0, e_bind, e_lit, e_ofN, e_neg, nI_add, pk_mul, e_sub, e_ldi, e_sti, e_ldj, e_stj, e_le_t, e_le_f, e_lt_t, e_lt_f, e_eq_t, e_eq_f, e_no_eq, e_no_eq', e_no_rfl, e_no_lt, e_no_le, e_le_no, e_lt_no, if_true, if_false, ↓reduceIte, e_rs, e_rq, e_rn, e_ji, e_ki, e_ij, e_kj, e_js, e_jq, e_jn, e_cs, e_cq, e_jc, e_kc, e_js', e_jcq, e_icj, e_kcj, or_true, true_or, or_false, false_or, and_true, true_and, not_true_eq_false, not_false_eq_true])⟩
          obtain ⟨S1, a1, a2, a3, a4⟩ := k_go2 hJ'.1 (by omega)
          obtain ⟨T1, b1, b2, b3⟩ := j_go2 hJ'.2 (by omega)
          have hQ1 := hQ.kept hW' (v_fs.of a4)
          have hR1 := hR.kn (T' := T1) (b3.2.2.1 (m + 3) (by omega)).1 (b3.2.2.1 (m + 8) (by omega)).2 (b3.2.2.1 (m + 10) (by omega)).2
          obtain ⟨S2, T2, r, c1, c2, c3, c4, c5⟩ := ih (i + 1) fu fu' (t_E t N p) S1 T1 (v_pp P) _ (by omega) (by omega) (by omega) (by omega) (by rw [v_pp_fu]; exact hf) (by rw [v_pp_ct, v_pp_fu]; exact hb) (by rw [v_pp_pa, v_pp_fu, if_pos rfl, hp]) hW' ⟨a2, b2⟩ hQ1 (by rw [hvn] at hR1; exact hR1)
          refine ⟨S2, T2, r, ?_, ?_, ?_, ?_, by rw [v_pp_fu, v_pp_ln] at c5; exact c5⟩
          · rw [b_X4_readsParameters_2, if_neg h3i, k9, if_pos e2, k14, hv, e_call, if_pos em, if_neg n3, k14, ← c1]
            have h73 := hS.2.2.1
            rw [hvn] at h73
            have hav : f_X4_addVar x S (t_W t N p) = some (m_si (m_sj S (x + 30) i (t_W t N p)) (x + 2) 3 (nI (i + 1))) := by simp (disch := omega) only [e_let, e_call, e_cal0, e_bind, e_lit, e_ofN, e_neg, nI_add, pk_mul, e_sub, e_ldi, e_sti, e_ldj, e_stj, e_le_t, e_le_f, e_lt_t, e_lt_f, e_eq_t, e_eq_f, e_no_eq, e_no_eq', e_no_rfl, e_no_lt, e_no_le, e_le_no, e_lt_no, if_true, if_false, ↓reduceIte, e_rs, e_rq, e_rn, e_ji, e_ki, e_ij, e_kj, e_js, e_jq, e_jn, e_cs, e_cq, e_jc, e_kc, e_js', e_jcq, e_icj, e_kcj, or_true, true_or, or_false, false_or, and_true, true_and, not_true_eq_false, not_false_eq_true, f_X4_addVar, b_X4_addVar_29, h73]
            rw [hav, e_cal0]
            simp (disch := omega) only [e_let, e_call, e_cal0, e_bind, e_lit, e_ofN, e_neg, nI_add, pk_mul, e_sub, e_ldi, e_sti, e_ldj, e_stj, e_le_t, e_le_f, e_lt_t, e_lt_f, e_eq_t, e_eq_f, e_no_eq, e_no_eq', e_no_rfl, e_no_lt, e_no_le, e_le_no, e_lt_no, if_true, if_false, ↓reduceIte, e_rs, e_rq, e_rn, e_ji, e_ki, e_ij, e_kj, e_js, e_jq, e_jn, e_cs, e_cq, e_jc, e_kc, e_js', e_jcq, e_icj, e_kcj, or_true, true_or, or_false, false_or, and_true, true_and, not_true_eq_false, not_false_eq_true, hp1, hpc, a1]
          · rw [b_X12_readFun_123, hnm, e_call, if_neg n10, f_X12_readParameter, hfn, e_call, hfv, e_call, if_pos em, show (3 : Int32) = nI 3 from rfl, nI_add, e_ldi (by omega) (by omega), e_bind, hpa, if_neg (show ¬ nI i = nI 3 from n3), e_bind, ← c2, h12]
            simp (disch := omega) only [e_let, e_call, e_cal0, e_bind, e_lit, e_ofN, e_neg, nI_add, pk_mul, e_sub, e_ldi, e_sti, e_ldj, e_stj, e_le_t, e_le_f, e_lt_t, e_lt_f, e_eq_t, e_eq_f, e_no_eq, e_no_eq', e_no_rfl, e_no_lt, e_no_le, e_le_no, e_lt_no, if_true, if_false, ↓reduceIte, e_rs, e_rq, e_rn, e_ji, e_ki, e_ij, e_kj, e_js, e_jq, e_jn, e_cs, e_cq, e_jc, e_kc, e_js', e_jcq, e_icj, e_kcj, or_true, true_or, or_false, false_or, and_true, true_and, not_true_eq_false, not_false_eq_true, hpa, b1, n10]
          · exact (v_oS.of (((v_pf.rf.sj (by omega) (by omega)).si (by omega) (by omega)).si (by omega) (by omega))).tr ((v_oS.of3 a4).tr c3)
          · refine v_FT.tr ?_ ((v_FT.of (v_ft.of (l := 0) b3)).tr c4)
            exact ⟨fun i _ => by simp (disch := omega) only [e_let, e_call, e_cal0, e_bind, e_lit, e_ofN, e_neg, nI_add, pk_mul, e_sub, e_ldi, e_sti, e_ldj, e_stj, e_le_t, e_le_f, e_lt_t, e_lt_f, e_eq_t, e_eq_f, e_no_eq, e_no_eq', e_no_rfl, e_no_lt, e_no_le, e_le_no, e_lt_no, if_true, if_false, ↓reduceIte, e_rs, e_rq, e_rn, e_ji, e_ki, e_ij, e_kj, e_js, e_jq, e_jn, e_cs, e_cq, e_jc, e_kc, e_js', e_jcq, e_icj, e_kcj, or_true, true_or, or_false, false_or, and_true, true_and, not_true_eq_false, not_false_eq_true], fun i _ => by simp (disch := omega) only [e_let, e_call, e_cal0, e_bind, e_lit, e_ofN, e_neg, nI_add, pk_mul, e_sub, e_ldi, e_sti, e_ldj, e_stj, e_le_t, e_le_f, e_lt_t, e_lt_f, e_eq_t, e_eq_f, e_no_eq, e_no_eq', e_no_rfl, e_no_lt, e_no_le, e_le_no, e_lt_no, if_true, if_false, ↓reduceIte, e_rs, e_rq, e_rn, e_ji, e_ki, e_ij, e_kj, e_js, e_jq, e_jn, e_cs, e_cq, e_jc, e_kc, e_js', e_jcq, e_icj, e_kcj, or_true, true_or, or_false, false_or, and_true, true_and, not_true_eq_false, not_false_eq_true], fun q _ h => by simp (disch := omega) only [e_let, e_call, e_cal0, e_bind, e_lit, e_ofN, e_neg, nI_add, pk_mul, e_sub, e_ldi, e_sti, e_ldj, e_stj, e_le_t, e_le_f, e_lt_t, e_lt_f, e_eq_t, e_eq_f, e_no_eq, e_no_eq', e_no_rfl, e_no_lt, e_no_le, e_le_no, e_lt_no, if_true, if_false, ↓reduceIte, e_rs, e_rq, e_rn, e_ji, e_ki, e_ij, e_kj, e_js, e_jq, e_jn, e_cs, e_cq, e_jc, e_kc, e_js', e_jcq, e_icj, e_kcj, or_true, true_or, or_false, false_or, and_true, true_and, not_true_eq_false, not_false_eq_true], fun q _ _ h => by simp (disch := omega) only [e_let, e_call, e_cal0, e_bind, e_lit, e_ofN, e_neg, nI_add, pk_mul, e_sub, e_ldi, e_sti, e_ldj, e_stj, e_le_t, e_le_f, e_lt_t, e_lt_f, e_eq_t, e_eq_f, e_no_eq, e_no_eq', e_no_rfl, e_no_lt, e_no_le, e_le_no, e_lt_no, if_true, if_false, ↓reduceIte, e_rs, e_rq, e_rn, e_ji, e_ki, e_ij, e_kj, e_js, e_jq, e_jn, e_cs, e_cq, e_jc, e_kc, e_js', e_jcq, e_icj, e_kcj, or_true, true_or, or_false, false_or, and_true, true_and, not_true_eq_false, not_false_eq_true], rfl⟩
    · rw [if_neg g] at hnm
      have h92 : ¬ (nI (t_K t N L p) = (2 : Int32)) := fun q => (e_eq_f (a := t_K t N L p) (b := 2) g (by omega) (by omega)).mp q
      refine ⟨S, T, 1, ?_, ?_, v_oS.rf, v_FT.rf, Or.inr ⟨rfl, p, P, n, w, hJ, hS, hT, hW, rfl, rfl⟩⟩
      · rw [b_X4_readsParameters_2, if_neg h3i, k9, if_neg h92]
        rfl
      · rw [b_X12_readFun_123, hnm, e_call, if_pos (show nI 0 = (0 : Int32) from rfl)]
        rfl
end VF
