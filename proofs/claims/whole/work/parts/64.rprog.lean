/-! the other side: the program in a row, what it reads, why a line stops all -/
def r_P (N : Nat → Int32) (P : pP) : Prop :=
  N 0 = nI (p_fu P) ∧ N 1 = nI (p_ln P) ∧ (∀ f, f < p_fu P → N (3 + f) = nI (p_pa P f) ∧ N (8 + f) = nI (p_fi P f) ∧ N (13 + f) = nI (p_ct P f)) ∧
  (∀ f i, f < p_fu P → i < p_ct P f → N (18 + (p_fi P f + i)) = nI (p_op P (p_fi P f + i)) ∧ (8 ≤ p_op P (p_fi P f + i) → N (42 + (p_fi P f + i)) = nI (p_ca P (p_fi P f + i))) ∧ (p_op P (p_fi P f + i) = 0 → N (186 + (p_fi P f + i)) = nI (p_nu P (p_fi P f + i))) ∧
    ∀ k, k < 5 → (p_us P (p_fi P f + i) k → N (66 + 5 * (p_fi P f + i) + k) = nI (p_va P (p_fi P f + i) k)) ∧ (¬ p_us P (p_fi P f + i) k → N (66 + 5 * (p_fi P f + i) + k) = m_no))
def r_D (T : m_M) (m : Nat) (P : pP) (D : pD) (z : Nat) : Prop :=
  z ≤ 24 ∧ m_ri T (m + 2) 2 = nI z ∧ (∀ f v, f < p_fu P → v < p_vs P f → m_ri T (m + 15) (27 * f + v) = nO (d_pt D f v)) ∧ (∀ f v r, f < p_fu P → v < p_vs P f → r < 32 → bt (m_ri T (m + 16) (27 * f + v)) r = d_rc D f v r) ∧
  (∀ f r, f < p_fu P → r < z → ∃ o, o ≤ 24 ∧ m_ri T (m + 20) (24 * f + r) = nO o ∧ ∀ i, i < p_ct P f → (o = i + 1 ↔ d_bg D f i r = true)) ∧ (∀ f r, f < p_fu P → r < z → ∃ o, o ≤ 24 ∧ m_ri T (m + 21) (24 * f + r) = nO o ∧ ∀ i, i < p_ct P f → (o = i + 1 ↔ d_en D f i r = true)) ∧
  (∀ f r, f < p_fu P → r < 32 → bt (m_ri T (m + 18) f) r = d_ou D f r) ∧ (∀ f i r, z ≤ r → d_bg D f i r = false ∧ d_en D f i r = false ∧ d_ou D f r = false)
/-- what the machine's methods may write -/
def r_O (m : Nat) (T T' : m_M) : Prop := (∀ q, q ≠ m + 2 → q ≠ m + 23 → q ≠ m + 24 → m_ri T' q = m_ri T q) ∧ (∀ j, j < 210 ∨ 2405 ≤ j → m_ri T' (m + 2) j = m_ri T (m + 2) j) ∧ m_rj T' = m_rj T ∧ m_rr T' = m_rr T
theorem r_O.rf {m : Nat} {T : m_M} : r_O m T T := ⟨fun _ _ _ _ => rfl, fun _ _ => rfl, rfl, rfl⟩
theorem r_O.tr {m : Nat} {T T' T'' : m_M} (h : r_O m T T') (h' : r_O m T' T'') : r_O m T T'' := ⟨fun q h1 h2 h3 => (h'.1 q h1 h2 h3).trans (h.1 q h1 h2 h3), fun j hj => (h'.2.1 j hj).trans (h.2.1 j hj), h'.2.2.1.trans h.2.2.1, h'.2.2.2.trans h.2.2.2⟩
theorem r_O.now {m j : Nat} {T T' : m_M} {v : Int32} (h : r_O m T T') (h1 : 210 ≤ j) (h2 : j < 2405) : r_O m T (m_si T' (m + 2) j v) := ⟨fun q g1 g2 g3 => by rw [e_rq g1]; exact h.1 q g1 g2 g3, fun t ht => by rw [e_rn (by omega)]; exact h.2.1 t ht, h.2.2.1, h.2.2.2⟩
theorem r_O.arg {m q j : Nat} {T T' : m_M} {v : Int32} (h : r_O m T T') (h1 : q = m + 23 ∨ q = m + 24) : r_O m T (m_si T' q j v) := ⟨fun q' g1 g2 g3 => by rw [e_rq (by omega)]; exact h.1 q' g1 g2 g3, fun t ht => by rw [e_rq (by omega)]; exact h.2.1 t ht, h.2.2.1, h.2.2.2⟩
theorem r_P.cong {N N' : Nat → Int32} {P : pP} (h : r_P N P) (hW : p_W P) (w : ∀ t, t < 210 → N' t = N t) : r_P N' P := by
  obtain ⟨h1, h2, h3, h4⟩ := h
  obtain ⟨w1, w2, w3, w4, w5⟩ := hW
  refine ⟨by rw [w 0 (by omega)]; exact h1, by rw [w 1 (by omega)]; exact h2, fun f hf => ?_, fun f i hf hi => ?_⟩
  · rw [w _ (by omega), w _ (by omega), w _ (by omega)]; exact h3 f hf
  · have := w3 f hf
    obtain ⟨g1, g2, g3, g4⟩ := h4 f i hf hi
    refine ⟨by rw [w _ (by omega)]; exact g1, fun h => by rw [w _ (by omega)]; exact g2 h, fun h => by rw [w _ (by omega)]; exact g3 h, fun k hk => ?_⟩
    rw [w _ (by omega)]; exact g4 k hk
def r_C (T : m_M) (m : Nat) (P : pP) (D : pD) (z : Nat) : Prop := p_W P ∧ r_P (m_ri T (m + 2)) P ∧ r_D T m P D z ∧ d_S D
theorem r_C.kept {T T' : m_M} {m z : Nat} {P : pP} {D : pD} (h : r_C T m P D z) (w : r_O m T T') : r_C T' m P D z := by
  obtain ⟨h1, h2, h3, h4⟩ := h
  refine ⟨h1, h2.cong h1 (fun t ht => w.2.1 t (by omega)), ?_, h4⟩
  simp only [r_D, w.1 (m + 15) (by omega) (by omega) (by omega), w.1 (m + 16) (by omega) (by omega) (by omega), w.1 (m + 18) (by omega) (by omega) (by omega), w.1 (m + 20) (by omega) (by omega) (by omega), w.1 (m + 21) (by omega) (by omega) (by omega), w.2.1 2 (by omega)]
  exact h3
section RK
variable {T : m_M} {m z : Nat} {P : pP} {D : pD} {M : qM} {f i : Nat}
theorem j_funOf (hM : r_R (m_ri T (m + 2)) M) (H : q_top P M f i) : f_X12_funOf m T (nI (q_sc M 2 - 1)) = some (nI f, T) := by
  obtain ⟨t1, t2, t3, t4, t5, t6, t7⟩ := H
  have h := hM.2.2.2.2.2.2.2.2.2.2.2.1 (q_sc M 2 - 1) (by omega) (by omega)
  rw [t3] at h
  simp (disch := omega) only [e_let, e_call, e_cal0, e_bind, e_lit, e_ofN, e_neg, nI_add, pk_mul, e_sub, e_ldi, e_sti, e_ldj, e_stj, e_le_t, e_le_f, e_lt_t, e_lt_f, e_eq_t, e_eq_f, e_no_eq, e_no_eq', e_no_rfl, e_no_lt, e_no_le, e_le_no, e_lt_no, if_true, if_false, ↓reduceIte, e_rs, e_rq, e_rn, e_ji, e_ki, e_ij, e_kj, e_js, e_jq, e_jn, e_cs, e_cq, e_jc, e_kc, e_js', e_jcq, e_icj, e_kcj, or_true, true_or, or_false, false_or, and_true, true_and, not_true_eq_false, not_false_eq_true, f_X12_funOf, h]
theorem j_lineOf (C : r_C T m P D z) (hM : r_R (m_ri T (m + 2)) M) (H : q_top P M f i) : f_X12_lineOf m T (nI (q_sc M 2 - 1)) = some (nI (p_fi P f + i), T) := by
  have hf := j_funOf hM H
  obtain ⟨t1, t2, t3, t4, t5, t6, t7⟩ := H
  have h := hM.2.2.2.2.2.2.2.2.2.2.2.2.1 (q_sc M 2 - 1) (by omega) (by omega)
  rw [t4] at h
  have h8 := (C.2.1.2.2.1 f t5).2.1
  have := C.1.1
  simp (disch := omega) only [e_let, e_call, e_cal0, e_bind, e_lit, e_ofN, e_neg, nI_add, pk_mul, e_sub, e_ldi, e_sti, e_ldj, e_stj, e_le_t, e_le_f, e_lt_t, e_lt_f, e_eq_t, e_eq_f, e_no_eq, e_no_eq', e_no_rfl, e_no_lt, e_no_le, e_le_no, e_lt_no, if_true, if_false, ↓reduceIte, e_rs, e_rq, e_rn, e_ji, e_ki, e_ij, e_kj, e_js, e_jq, e_jn, e_cs, e_cq, e_jc, e_kc, e_js', e_jcq, e_icj, e_kcj, or_true, true_or, or_false, false_or, and_true, true_and, not_true_eq_false, not_false_eq_true, f_X12_lineOf, hf, h8, h]
theorem j_kindAt {k : Nat} (C : r_C T m P D z) (hM : r_R (m_ri T (m + 2)) M) (H : q_top P M f i) (hk : k < 5) (hu : p_us P (p_fi P f + i) k) : f_X12_kindAt m T (nI (q_sc M 2 - 1)) (nI k) = some (nI (q_K P M (p_fi P f + i) k), T) := by
  have hl := j_lineOf C hM H
  obtain ⟨t1, t2, t3, t4, t5, t6, t7⟩ := H
  have h1 := C.1.line t5 t6
  have h2 := (C.1.2.2.2.2 f i t5 t6).2.2.2 _ hu
  have h3 := ((C.2.1.2.2.2 f i t5 t6).2.2.2 k hk).1 hu
  have h4 := hM.2.2.2.2.2.2.2.2.2.2.2.2.2.1 (q_sc M 2 - 1) (p_va P (p_fi P f + i) k) (by omega) (by omega) (by omega)
  simp (disch := omega) only [e_let, e_call, e_cal0, e_bind, e_lit, e_ofN, e_neg, nI_add, pk_mul, e_sub, e_ldi, e_sti, e_ldj, e_stj, e_le_t, e_le_f, e_lt_t, e_lt_f, e_eq_t, e_eq_f, e_no_eq, e_no_eq', e_no_rfl, e_no_lt, e_no_le, e_le_no, e_lt_no, if_true, if_false, ↓reduceIte, e_rs, e_rq, e_rn, e_ji, e_ki, e_ij, e_kj, e_js, e_jq, e_jn, e_cs, e_cq, e_jc, e_kc, e_js', e_jcq, e_icj, e_kcj, or_true, true_or, or_false, false_or, and_true, true_and, not_true_eq_false, not_false_eq_true, f_X12_kindAt, hl, f_X12_var, h3, f_X12_slot, h4, q_K]
theorem j_valueAt {k : Nat} (C : r_C T m P D z) (hM : r_R (m_ri T (m + 2)) M) (H : q_top P M f i) (hk : k < 5) (hu : p_us P (p_fi P f + i) k) : f_X12_valueAt m T (nI (q_sc M 2 - 1)) (nI k) = some (q_V P M (p_fi P f + i) k, T) := by
  have hl := j_lineOf C hM H
  obtain ⟨t1, t2, t3, t4, t5, t6, t7⟩ := H
  have h1 := C.1.line t5 t6
  have h2 := (C.1.2.2.2.2 f i t5 t6).2.2.2 _ hu
  have h3 := ((C.2.1.2.2.2 f i t5 t6).2.2.2 k hk).1 hu
  have h4 := hM.2.2.2.2.2.2.2.2.2.2.2.2.2.2.1 (q_sc M 2 - 1) (p_va P (p_fi P f + i) k) (by omega) (by omega) (by omega)
  simp (disch := omega) only [e_let, e_call, e_cal0, e_bind, e_lit, e_ofN, e_neg, nI_add, pk_mul, e_sub, e_ldi, e_sti, e_ldj, e_stj, e_le_t, e_le_f, e_lt_t, e_lt_f, e_eq_t, e_eq_f, e_no_eq, e_no_eq', e_no_rfl, e_no_lt, e_no_le, e_le_no, e_lt_no, if_true, if_false, ↓reduceIte, e_rs, e_rq, e_rn, e_ji, e_ki, e_ij, e_kj, e_js, e_jq, e_jn, e_cs, e_cq, e_jc, e_kc, e_js', e_jcq, e_icj, e_kcj, or_true, true_or, or_false, false_or, and_true, true_and, not_true_eq_false, not_false_eq_true, f_X12_valueAt, hl, f_X12_var, h3, f_X12_slot, h4, q_V]
theorem j_calls (C : r_C T m P D z) (hM : r_R (m_ri T (m + 2)) M) (H : q_top P M f i) : f_X12_calls m T (nI (q_sc M 2 - 1)) = some (nI (if q_cl P M (p_fi P f + i) = true then 1 else 0), T) := by
  have hl := j_lineOf C hM H
  have H' := H
  obtain ⟨t1, t2, t3, t4, t5, t6, t7⟩ := H
  have h1 := C.1.line t5 t6
  have h2 := C.1.2.2.2.2 f i t5 t6
  have h3 := (C.2.1.2.2.2 f i t5 t6).1
  by_cases h9 : p_op P (p_fi P f + i) = 9
  · rw [h9] at h3
    have h5 := j_valueAt (k := 0) C hM H' (by omega) (p_us_c h9)
    by_cases hv : q_V P M (p_fi P f + i) 0 = nI 0
    · have hc : q_cl P M (p_fi P f + i) = false := by simp only [q_cl, h9]; rw [hv]; rfl
      simp (disch := omega) only [e_let, e_call, e_cal0, e_bind, e_lit, e_ofN, e_neg, nI_add, pk_mul, e_sub, e_ldi, e_sti, e_ldj, e_stj, e_le_t, e_le_f, e_lt_t, e_lt_f, e_eq_t, e_eq_f, e_no_eq, e_no_eq', e_no_rfl, e_no_lt, e_no_le, e_le_no, e_lt_no, if_true, if_false, ↓reduceIte, e_rs, e_rq, e_rn, e_ji, e_ki, e_ij, e_kj, e_js, e_jq, e_jn, e_cs, e_cq, e_jc, e_kc, e_js', e_jcq, e_icj, e_kcj, or_true, true_or, or_false, false_or, and_true, true_and, not_true_eq_false, not_false_eq_true, f_X12_calls, hl, h3, h5, hv, b_X12_calls_39, b_X12_calls_40, hc, Bool.false_eq_true]
    · have hc : q_cl P M (p_fi P f + i) = true := by
        simp only [q_cl, h9, decide_true, Bool.true_and]
        rw [show (decide (q_V P M (p_fi P f + i) 0 ≠ 0)) = true from decide_eq_true hv]; rfl
      simp (disch := omega) only [e_let, e_call, e_cal0, e_bind, e_lit, e_ofN, e_neg, nI_add, pk_mul, e_sub, e_ldi, e_sti, e_ldj, e_stj, e_le_t, e_le_f, e_lt_t, e_lt_f, e_eq_t, e_eq_f, e_no_eq, e_no_eq', e_no_rfl, e_no_lt, e_no_le, e_le_no, e_lt_no, if_true, if_false, ↓reduceIte, e_rs, e_rq, e_rn, e_ji, e_ki, e_ij, e_kj, e_js, e_jq, e_jn, e_cs, e_cq, e_jc, e_kc, e_js', e_jcq, e_icj, e_kcj, or_true, true_or, or_false, false_or, and_true, true_and, not_true_eq_false, not_false_eq_true, f_X12_calls, hl, h3, h5, hv, b_X12_calls_35, b_X12_calls_40, hc]
  · by_cases h8 : p_op P (p_fi P f + i) = 8
    · have hc : q_cl P M (p_fi P f + i) = true := by simp only [q_cl, h8, decide_true, Bool.true_or]
      rw [h8] at h3
      simp (disch := omega) only [e_let, e_call, e_cal0, e_bind, e_lit, e_ofN, e_neg, nI_add, pk_mul, e_sub, e_ldi, e_sti, e_ldj, e_stj, e_le_t, e_le_f, e_lt_t, e_lt_f, e_eq_t, e_eq_f, e_no_eq, e_no_eq', e_no_rfl, e_no_lt, e_no_le, e_le_no, e_lt_no, if_true, if_false, ↓reduceIte, e_rs, e_rq, e_rn, e_ji, e_ki, e_ij, e_kj, e_js, e_jq, e_jn, e_cs, e_cq, e_jc, e_kc, e_js', e_jcq, e_icj, e_kcj, or_true, true_or, or_false, false_or, and_true, true_and, not_true_eq_false, not_false_eq_true, f_X12_calls, hl, h3, hc, b_X12_calls_35, b_X12_calls_40]
    · have hc : q_cl P M (p_fi P f + i) = false := by simp only [q_cl, h8, h9, decide_false, Bool.false_or, Bool.false_and]
      simp (disch := omega) only [e_let, e_call, e_cal0, e_bind, e_lit, e_ofN, e_neg, nI_add, pk_mul, e_sub, e_ldi, e_sti, e_ldj, e_stj, e_le_t, e_le_f, e_lt_t, e_lt_f, e_eq_t, e_eq_f, e_no_eq, e_no_eq', e_no_rfl, e_no_lt, e_no_le, e_le_no, e_lt_no, if_true, if_false, ↓reduceIte, e_rs, e_rq, e_rn, e_ji, e_ki, e_ij, e_kj, e_js, e_jq, e_jn, e_cs, e_cq, e_jc, e_kc, e_js', e_jcq, e_icj, e_kcj, or_true, true_or, or_false, false_or, and_true, true_and, not_true_eq_false, not_false_eq_true, f_X12_calls, hl, h3, hc, b_X12_calls_39, b_X12_calls_40, Bool.false_eq_true]
theorem j_leftl (C : r_C T m P D z) (hf : f < p_fu P) (hi : i < p_ct P f) : ∀ (d k fu : Nat), k + d = z → d < fu → b_X12_isLeft_40 m fu T (nI f) (nI i) (nI k) = some (nI (if (List.range' k d).all (fun r => !d_en D f i r) = true then 1 else 0), T) := by
  have hz := C.2.2.1.1
  have h2 := C.2.2.1.2.1
  have h5 := C.1.1
  have hl := C.1.line hf hi
  intro d
  induction d with
  | zero =>
    intro k fu hk hfu
    obtain ⟨fu, rfl⟩ : ∃ f, fu = f + 1 := ⟨fu - 1, by omega⟩
    simp (disch := omega) only [e_let, e_call, e_cal0, e_bind, e_lit, e_ofN, e_neg, nI_add, pk_mul, e_sub, e_ldi, e_sti, e_ldj, e_stj, e_le_t, e_le_f, e_lt_t, e_lt_f, e_eq_t, e_eq_f, e_no_eq, e_no_eq', e_no_rfl, e_no_lt, e_no_le, e_le_no, e_lt_no, if_true, if_false, ↓reduceIte, e_rs, e_rq, e_rn, e_ji, e_ki, e_ij, e_kj, e_js, e_jq, e_jn, e_cs, e_cq, e_jc, e_kc, e_js', e_jcq, e_icj, e_kcj, or_true, true_or, or_false, false_or, and_true, true_and, not_true_eq_false, not_false_eq_true, b_X12_isLeft_40, h2, List.range'_zero, List.all_nil]
  | succ d ih =>
    intro k fu hk hfu
    obtain ⟨fu, rfl⟩ : ∃ f, fu = f + 1 := ⟨fu - 1, by omega⟩
    obtain ⟨o, o1, o2, o3⟩ := C.2.2.1.2.2.2.2.2.1 f k hf (by omega)
    have o3 := o3 i hi
    rw [List.range'_succ, List.all_cons]
    by_cases he : d_en D f k i = true
    all_goals
    by_cases hq : o = i + 1
    · have he' := o3.mp hq
      rw [hq, nO_s] at o2
      simp (disch := omega) only [e_let, e_call, e_cal0, e_bind, e_lit, e_ofN, e_neg, nI_add, pk_mul, e_sub, e_ldi, e_sti, e_ldj, e_stj, e_le_t, e_le_f, e_lt_t, e_lt_f, e_eq_t, e_eq_f, e_no_eq, e_no_eq', e_no_rfl, e_no_lt, e_no_le, e_le_no, e_lt_no, if_true, if_false, ↓reduceIte, e_rs, e_rq, e_rn, e_ji, e_ki, e_ij, e_kj, e_js, e_jq, e_jn, e_cs, e_cq, e_jc, e_kc, e_js', e_jcq, e_icj, e_kcj, or_true, true_or, or_false, false_or, and_true, true_and, not_true_eq_false, not_false_eq_true, b_X12_isLeft_40, h2, o2, he', Bool.not_true, Bool.false_and, Bool.false_eq_true]
    · have he' : d_en D f i k = false := Bool.eq_false_iff.mpr (fun h => hq (o3.mpr h))
      have hne : ¬ m_ri T (m + 21) (24 * f + k) = nI i := by
        rw [o2]
        intro h
        rw [← nO_s] at h
        exact hq (nO_inj (by omega) (by omega) h)
      rw [he', Bool.not_false, Bool.true_and]
      rw [← ih (k + 1) fu (by omega) (by omega)]
      simp (disch := omega) only [e_let, e_call, e_cal0, e_bind, e_lit, e_ofN, e_neg, nI_add, pk_mul, e_sub, e_ldi, e_sti, e_ldj, e_stj, e_le_t, e_le_f, e_lt_t, e_lt_f, e_eq_t, e_eq_f, e_no_eq, e_no_eq', e_no_rfl, e_no_lt, e_no_le, e_le_no, e_lt_no, if_true, if_false, ↓reduceIte, e_rs, e_rq, e_rn, e_ji, e_ki, e_ij, e_kj, e_js, e_jq, e_jn, e_cs, e_cq, e_jc, e_kc, e_js', e_jcq, e_icj, e_kcj, or_true, true_or, or_false, false_or, and_true, true_and, not_true_eq_false, not_false_eq_true, b_X12_isLeft_40, h2, hne]
theorem q_all_z (C : r_C T m P D z) : (List.range' 0 z).all (fun r => !d_en D f i r) = (List.range 24).all (fun r => !d_en D f i r) := by
  have hz := C.2.2.1.1
  rw [Bool.eq_iff_iff, List.all_eq_true, List.all_eq_true]
  constructor
  · intro h r hr
    have hr := List.mem_range.mp hr
    by_cases hrz : r < z
    · exact h r (List.mem_range'_1.mpr ⟨by omega, by omega⟩)
    · rw [(C.2.2.1.2.2.2.2.2.2.2 f i r (by omega)).2.1]; rfl
  · intro h r hr
    have hr := List.mem_range'_1.mp hr
    exact h r (List.mem_range.mpr (by omega))
theorem j_isLeft (C : r_C T m P D z) (hf : f < p_fu P) (hi : i + 1 = p_ct P f) (ho : 8 ≤ p_op P (p_fi P f + i)) : f_X12_isLeft m T (nI f) = some (nI (if q_lv P D f i = true then 1 else 0), T) := by
  have hfu := m_fu_ge
  have hl := C.1.line hf (show i < p_ct P f by omega)
  have h3 := C.2.1.2.2.1 f hf
  have h4 := (C.2.1.2.2.2 f i hf (by omega)).1
  have hop := (C.1.2.2.2.2 f i hf (by omega)).1
  have h5 := j_leftl C hf (show i < p_ct P f by omega) z 0 m_fu (by omega) (by have := C.2.2.1.1; omega)
  rw [q_all_z C] at h5
  have e1 : q_lv P D f i = (List.range 24).all (fun r => !d_en D f i r) := by simp only [q_lv, hi, decide_true, Bool.true_and]
  rw [e1]
  have hct : p_ct P f - 1 = i := by omega
  have e18 : 18 + p_fi P f + i = 18 + (p_fi P f + i) := by omega
  simp (disch := omega) only [e_let, e_call, e_cal0, e_bind, e_lit, e_ofN, e_neg, nI_add, pk_mul, e_sub, e_ldi, e_sti, e_ldj, e_stj, e_le_t, e_le_f, e_lt_t, e_lt_f, e_eq_t, e_eq_f, e_no_eq, e_no_eq', e_no_rfl, e_no_lt, e_no_le, e_le_no, e_lt_no, if_true, if_false, ↓reduceIte, e_rs, e_rq, e_rn, e_ji, e_ki, e_ij, e_kj, e_js, e_jq, e_jn, e_cs, e_cq, e_jc, e_kc, e_js', e_jcq, e_icj, e_kcj, or_true, true_or, or_false, false_or, and_true, true_and, not_true_eq_false, not_false_eq_true, f_X12_isLeft, h3.2.2, h3.2.1, hct, e18, h4]
  exact h5
theorem j_goesAhead (C : r_C T m P D z) (hM : r_R (m_ri T (m + 2)) M) (H : q_top P M f i) (ho : 8 ≤ p_op P (p_fi P f + i)) : f_X12_goesAhead m T (nI (q_sc M 2 - 1)) = some (nI (if q_lv P D f i = true then 1 else 0), T) := by
  have hf := j_funOf hM H
  obtain ⟨t1, t2, t3, t4, t5, t6, t7⟩ := H
  have hl := C.1.line t5 t6
  have h := hM.2.2.2.2.2.2.2.2.2.2.2.2.1 (q_sc M 2 - 1) (by omega) (by omega)
  rw [t4] at h
  have h3 := C.2.1.2.2.1 f t5
  by_cases hc : i + 1 = p_ct P f
  · have h6 := j_isLeft C t5 hc ho
    have hct : p_ct P f - 1 = i := by omega
    by_cases hq : q_lv P D f i = true
    · rw [if_pos hq] at h6 ⊢
      simp (disch := omega) only [e_let, e_call, e_cal0, e_bind, e_lit, e_ofN, e_neg, nI_add, pk_mul, e_sub, e_ldi, e_sti, e_ldj, e_stj, e_le_t, e_le_f, e_lt_t, e_lt_f, e_eq_t, e_eq_f, e_no_eq, e_no_eq', e_no_rfl, e_no_lt, e_no_le, e_le_no, e_lt_no, if_true, if_false, ↓reduceIte, e_rs, e_rq, e_rn, e_ji, e_ki, e_ij, e_kj, e_js, e_jq, e_jn, e_cs, e_cq, e_jc, e_kc, e_js', e_jcq, e_icj, e_kcj, or_true, true_or, or_false, false_or, and_true, true_and, not_true_eq_false, not_false_eq_true, f_X12_goesAhead, h, hf, h3.2.2, hct, h6, b_X12_goesAhead_45]
    · rw [if_neg hq] at h6 ⊢
      simp (disch := omega) only [e_let, e_call, e_cal0, e_bind, e_lit, e_ofN, e_neg, nI_add, pk_mul, e_sub, e_ldi, e_sti, e_ldj, e_stj, e_le_t, e_le_f, e_lt_t, e_lt_f, e_eq_t, e_eq_f, e_no_eq, e_no_eq', e_no_rfl, e_no_lt, e_no_le, e_le_no, e_lt_no, if_true, if_false, ↓reduceIte, e_rs, e_rq, e_rn, e_ji, e_ki, e_ij, e_kj, e_js, e_jq, e_jn, e_cs, e_cq, e_jc, e_kc, e_js', e_jcq, e_icj, e_kcj, or_true, true_or, or_false, false_or, and_true, true_and, not_true_eq_false, not_false_eq_true, f_X12_goesAhead, h, hf, h3.2.2, hct, h6, b_X12_goesAhead_45, b_X12_goesAhead_44]
  · have hq : q_lv P D f i = false := by simp only [q_lv, hc, decide_false, Bool.false_and]
    simp (disch := omega) only [e_let, e_call, e_cal0, e_bind, e_lit, e_ofN, e_neg, nI_add, pk_mul, e_sub, e_ldi, e_sti, e_ldj, e_stj, e_le_t, e_le_f, e_lt_t, e_lt_f, e_eq_t, e_eq_f, e_no_eq, e_no_eq', e_no_rfl, e_no_lt, e_no_le, e_le_no, e_lt_no, if_true, if_false, ↓reduceIte, e_rs, e_rq, e_rn, e_ji, e_ki, e_ij, e_kj, e_js, e_jq, e_jn, e_cs, e_cq, e_jc, e_kc, e_js', e_jcq, e_icj, e_kcj, or_true, true_or, or_false, false_or, and_true, true_and, not_true_eq_false, not_false_eq_true, f_X12_goesAhead, h, hf, h3.2.2, hq, b_X12_goesAhead_45, b_X12_goesAhead_44, Bool.false_eq_true]
end RK
