/-! lines, as they join: the other side -/
section UG
variable {T : m_M} {m : Nat} {P : pP} {X : u3} {o : Nat → Nat} {f i : Nat}
theorem u_O.row {T' : m_M} (h : u_O m T T') {q : Nat} (h0 : q ≠ 0) (h1 : q ≠ 12) (h2 : q ≠ 13) : m_ri T' (m + q) = m_ri T (m + q) := h.1 (m + q) (by omega) (by omega) (by omega)
theorem j_nodeq {f v : Nat} : f_X12_node m T (nI f) (nI v) = some (nI (u_nd f v), T) := by simp (disch := omega) only [e_let, e_call, e_cal0, e_bind, e_lit, e_ofN, e_neg, nI_add, pk_mul, e_sub, e_ldi, e_sti, e_ldj, e_stj, e_le_t, e_le_f, e_lt_t, e_lt_f, e_eq_t, e_eq_f, e_no_eq, e_no_eq', e_no_rfl, e_no_lt, e_no_le, e_le_no, e_lt_no, if_true, if_false, ↓reduceIte, e_rs, e_rq, e_rn, e_ji, e_ki, e_ij, e_kj, e_js, e_jq, e_jn, e_cs, e_cq, e_jc, e_kc, e_js', e_jcq, e_icj, e_kcj, or_true, true_or, or_false, false_or, and_true, true_and, not_true_eq_false, not_false_eq_true, f_X12_node, e_nd']
theorem j_vnode {k : Nat} (hW : p_W P) (hP : r_P (m_ri T (m + 2)) P) (hf : f < p_fu P) (hi : i < p_ct P f) (hk : k < 5) (hu : p_us P (p_fi P f + i) k) : f_X12_var m T (nI (p_fi P f + i)) (nI k) = some (nI (p_va P (p_fi P f + i) k), T) ∧ f_X12_node m T (nI f) (nI (p_va P (p_fi P f + i) k)) = some (nI (u_vn P f i k), T) := by
  have h1 := hW.line hf hi
  have h2 := ((hP.2.2.2 f i hf hi).2.2.2 k hk).1 hu
  refine ⟨?_, ?_⟩
  · simp (disch := omega) only [e_let, e_call, e_cal0, e_bind, e_lit, e_ofN, e_neg, nI_add, pk_mul, e_sub, e_ldi, e_sti, e_ldj, e_stj, e_le_t, e_le_f, e_lt_t, e_lt_f, e_eq_t, e_eq_f, e_no_eq, e_no_eq', e_no_rfl, e_no_lt, e_no_le, e_le_no, e_lt_no, if_true, if_false, ↓reduceIte, e_rs, e_rq, e_rn, e_ji, e_ki, e_ij, e_kj, e_js, e_jq, e_jn, e_cs, e_cq, e_jc, e_kc, e_js', e_jcq, e_icj, e_kcj, or_true, true_or, or_false, false_or, and_true, true_and, not_true_eq_false, not_false_eq_true, f_X12_var, h2]
  · simp (disch := omega) only [e_let, e_call, e_cal0, e_bind, e_lit, e_ofN, e_neg, nI_add, pk_mul, e_sub, e_ldi, e_sti, e_ldj, e_stj, e_le_t, e_le_f, e_lt_t, e_lt_f, e_eq_t, e_eq_f, e_no_eq, e_no_eq', e_no_rfl, e_no_lt, e_no_le, e_le_no, e_lt_no, if_true, if_false, ↓reduceIte, e_rs, e_rq, e_rn, e_ji, e_ki, e_ij, e_kj, e_js, e_jq, e_jn, e_cs, e_cq, e_jc, e_kc, e_js', e_jcq, e_icj, e_kcj, or_true, true_or, or_false, false_or, and_true, true_and, not_true_eq_false, not_false_eq_true, f_X12_node, e_nd', u_vn]
theorem j_J {U : u3} {i j : Nat} (hR : u_R2 T m U.1 U.2) (hK : u_S3 o U U) (hi : i < 183) (hj : j < 183) : ∃ T', f_X12_join 200 m T (nI i) (nI j) = some T' ∧ u_R2 T' m (u_J 200 U i j).1 (u_J 200 U i j).2 ∧ u_O m T T' := by
  have hV := hK.2.1
  have := u_c_le hV
  have := hV.2.1
  exact j_join 200 U.1 T i j hV (by omega) hR hi hj
theorem j_args {y : Nat} (hW : p_W P) (hf : f < p_fu P) (hi : i < p_ct P f) (ho : p_op P (p_fi P f + i) = 8 ∨ p_op P (p_fi P f + i) = 9) (hy : y = if p_op P (p_fi P f + i) = 8 then 0 else 1) : ∀ (c j fu : Nat) (T : m_M) (X : u3), j + c = p_pa P (p_ca P (p_fi P f + i)) → c < fu → u_S3 o X X → u_R2 T m X.1 X.2 → r_P (m_ri T (m + 2)) P →
    ∃ T' T'' : m_M, b_X12_joinLine_238 m fu T (nI f) (nI (p_fi P f + i)) (nI (u_xn P f i)) (nI (p_op P (p_fi P f + i))) (nI (p_ca P (p_fi P f + i))) (nI y) (nI j) = some T'' ∧ u_R2 T' m (u_Jw 200 true (u_ag 200 true (fun j => u_nd (p_ca P (p_fi P f + i)) j) (fun j => u_vn P f i (q_ar P (p_fi P f + i) j)) c j X) (u_nd (p_ca P (p_fi P f + i)) (p_vs P (p_ca P (p_fi P f + i)) - 1)) (u_xn P f i)).1 X.2 ∧ u_O m T T' ∧
      (p_op P (p_fi P f + i) = 8 → T'' = T') ∧ (p_op P (p_fi P f + i) = 9 → f_X12_join 200 m T' (nI (u_xn P f i)) (nI (u_vn P f i 4)) = some T'') := by
  obtain ⟨nx, nv, ng⟩ := u_nodes hW hf hi
  have hca := (hW.2.2.2.2 f i hf hi).2.2.1 (by omega)
  have hp := hW.2.2.1 _ hca
  have hl := hW.line hf hi
  have h5 := hW.1
  have h24 := hW.2.1
  intro c
  induction c with
  | zero =>
    intro j fu T X hj hfu hK hR hP
    obtain ⟨fu, rfl⟩ : ∃ f, fu = f + 1 := ⟨fu - 1, by omega⟩
    have hr := ng (by omega) (p_vs P (p_ca P (p_fi P f + i)) - 1) (by simp only [p_vs]; omega)
    obtain ⟨T1, f1, f2, f3⟩ := j_J (i := u_xn P f i) (j := u_nd (p_ca P (p_fi P f + i)) (p_vs P (p_ca P (p_fi P f + i)) - 1)) hR hK (by omega) (by omega)
    obtain ⟨p1, -, p3⟩ := hP.2.2.1 _ hca
    have f1' := f1
    simp only [p_vs] at f1'
    obtain ⟨s1, -, -⟩ := hK.J (d := 200) (e := 200) (a := u_xn P f i) (b := u_nd (p_ca P (p_fi P f + i)) (p_vs P (p_ca P (p_fi P f + i)) - 1)) (by omega) (by omega) (by omega) (by omega) (by omega) (by omega) (Or.inl ⟨rfl, rfl⟩)
    rcases ho with h8 | h9
    · refine ⟨T1, T1, ?_, f2, f3, fun _ => rfl, fun q => by omega⟩
      rw [h8]
      simp (disch := omega) only [e_let, e_call, e_cal0, e_bind, e_lit, e_ofN, e_neg, nI_add, pk_mul, e_sub, e_ldi, e_sti, e_ldj, e_stj, e_le_t, e_le_f, e_lt_t, e_lt_f, e_eq_t, e_eq_f, e_no_eq, e_no_eq', e_no_rfl, e_no_lt, e_no_le, e_le_no, e_lt_no, if_true, if_false, ↓reduceIte, e_rs, e_rq, e_rn, e_ji, e_ki, e_ij, e_kj, e_js, e_jq, e_jn, e_cs, e_cq, e_jc, e_kc, e_js', e_jcq, e_icj, e_kcj, or_true, true_or, or_false, false_or, and_true, true_and, not_true_eq_false, not_false_eq_true, b_X12_joinLine_238, p1, p3, f_X12_varsOf, f_X12_node, e_nd', f1', b_X12_joinLine_331]
    · have us4 := p_us_e (P := P) (l := p_fi P f + i) h9
      have hv4 := nv 4 us4
      obtain ⟨v1, v2⟩ := j_vnode hW (by rw [f3.row (by omega) (by omega) (by omega)]; exact hP : r_P (m_ri T1 (m + 2)) P) hf hi (by omega) us4
      obtain ⟨T2, g1, g2, g3⟩ := j_J (i := u_xn P f i) (j := u_vn P f i 4) f2 s1 (by omega) (by omega)
      refine ⟨T1, T2, ?_, f2, f3, fun q => by omega, fun _ => g1⟩
      have hn : f_X12_node m T (nI (p_ca P (p_fi P f + i))) (nI (p_pa P (p_ca P (p_fi P f + i)) + p_ct P (p_ca P (p_fi P f + i)) - 1)) = some (nI (u_nd (p_ca P (p_fi P f + i)) (p_pa P (p_ca P (p_fi P f + i)) + p_ct P (p_ca P (p_fi P f + i)) - 1)), T) := j_nodeq
      rw [h9]
      simp (disch := omega) only [e_let, e_call, e_cal0, e_bind, e_lit, e_ofN, e_neg, nI_add, pk_mul, e_sub, e_ldi, e_sti, e_ldj, e_stj, e_le_t, e_le_f, e_lt_t, e_lt_f, e_eq_t, e_eq_f, e_no_eq, e_no_eq', e_no_rfl, e_no_lt, e_no_le, e_le_no, e_lt_no, if_true, if_false, ↓reduceIte, e_rs, e_rq, e_rn, e_ji, e_ki, e_ij, e_kj, e_js, e_jq, e_jn, e_cs, e_cq, e_jc, e_kc, e_js', e_jcq, e_icj, e_kcj, or_true, true_or, or_false, false_or, and_true, true_and, not_true_eq_false, not_false_eq_true, b_X12_joinLine_238, p1, p3, f_X12_varsOf, hn, f1', v1, v2, g1, b_X12_joinLine_331]
  | succ c ih =>
    intro j fu T X hj hfu hK hR hP
    obtain ⟨fu, rfl⟩ : ∃ f, fu = f + 1 := ⟨fu - 1, by omega⟩
    obtain ⟨sl1, sl2⟩ := p_sl_ar (P := P) (l := p_fi P f + i) (v := j) ho (by omega)
    have hg := ng (by omega) j (by simp only [p_vs]; omega)
    have hv := nv _ sl2
    have har : q_ar P (p_fi P f + i) j < 5 := by simp only [q_ar]; split <;> omega
    have hyj : y + j = q_ar P (p_fi P f + i) j := by rw [hy, q_ar]; split <;> omega
    obtain ⟨v1, v2⟩ := j_vnode hW hP hf hi har sl2
    obtain ⟨T1, f1, f2, f3⟩ := j_J (i := u_vn P f i (q_ar P (p_fi P f + i) j)) (j := u_nd (p_ca P (p_fi P f + i)) j) hR hK (by omega) (by omega)
    obtain ⟨s1, -, -⟩ := hK.J (d := 200) (e := 200) (a := u_vn P f i (q_ar P (p_fi P f + i) j)) (b := u_nd (p_ca P (p_fi P f + i)) j) (by omega) (by omega) (by omega) (by omega) (by omega) (by omega) (Or.inl ⟨rfl, rfl⟩)
    obtain ⟨T', T'', g1, g2, g3, g4, g5⟩ := ih (j + 1) fu T1 _ (by omega) (by omega) s1 f2 (by rw [f3.row (by omega) (by omega) (by omega)]; exact hP)
    refine ⟨T', T'', ?_, g2, f3.tr g3, g4, g5⟩
    rw [← g1]
    obtain ⟨p1, -, p3⟩ := hP.2.2.1 _ hca
    have hn : f_X12_node m T (nI (p_ca P (p_fi P f + i))) (nI j) = some (nI (u_nd (p_ca P (p_fi P f + i)) j), T) := j_nodeq
    simp (disch := omega) only [e_let, e_call, e_cal0, e_bind, e_lit, e_ofN, e_neg, nI_add, pk_mul, e_sub, e_ldi, e_sti, e_ldj, e_stj, e_le_t, e_le_f, e_lt_t, e_lt_f, e_eq_t, e_eq_f, e_no_eq, e_no_eq', e_no_rfl, e_no_lt, e_no_le, e_le_no, e_lt_no, if_true, if_false, ↓reduceIte, e_rs, e_rq, e_rn, e_ji, e_ki, e_ij, e_kj, e_js, e_jq, e_jn, e_cs, e_cq, e_jc, e_kc, e_js', e_jcq, e_icj, e_kcj, or_true, true_or, or_false, false_or, and_true, true_and, not_true_eq_false, not_false_eq_true, b_X12_joinLine_238, p1, hyj, v1, v2, hn, f1]
theorem j_line (hW : p_W P) (hf : f < p_fu P) (hi : i < p_ct P f) (hK : u_S3 o X X) (hm : X.2 < 24) (hR : u_R2 T m X.1 X.2) (hP : r_P (m_ri T (m + 2)) P) : ∃ T', f_X12_joinLine m T (nI f) (nI (p_fi P f + i)) = some T' ∧ u_R2 T' m (u_li 200 true P f i X).1 (u_li 200 true P f i X).2 ∧ u_O m T T' := by
  have hfu := m_fu_ge
  obtain ⟨nx, nv, ng⟩ := u_nodes hW hf hi
  have hl := hW.line hf hi
  have h9 := (hW.2.2.2.2 f i hf hi).1
  have hop : p_op P (p_fi P f + i) = 0 ∨ p_op P (p_fi P f + i) = 1 ∨ p_op P (p_fi P f + i) = 2 ∨ p_op P (p_fi P f + i) = 3 ∨ p_op P (p_fi P f + i) = 4 ∨ p_op P (p_fi P f + i) = 5 ∨ p_op P (p_fi P f + i) = 6 ∨ p_op P (p_fi P f + i) = 7 ∨ p_op P (p_fi P f + i) = 8 ∨ p_op P (p_fi P f + i) = 9 := by omega
  obtain ⟨p1, p2, p3⟩ := hP.2.2.1 f hf
  have p5 := (hP.2.2.2 f i hf hi).1
  have ev : p_pa P f + (p_fi P f + i) - p_fi P f = p_pa P f + i := by omega
  have hvl : f_X12_madeBy m T (nI f) (nI (p_fi P f + i)) = some (nI (p_pa P f + i), T) := by simp (disch := omega) only [e_let, e_call, e_cal0, e_bind, e_lit, e_ofN, e_neg, nI_add, pk_mul, e_sub, e_ldi, e_sti, e_ldj, e_stj, e_le_t, e_le_f, e_lt_t, e_lt_f, e_eq_t, e_eq_f, e_no_eq, e_no_eq', e_no_rfl, e_no_lt, e_no_le, e_le_no, e_lt_no, if_true, if_false, ↓reduceIte, e_rs, e_rq, e_rn, e_ji, e_ki, e_ij, e_kj, e_js, e_jq, e_jn, e_cs, e_cq, e_jc, e_kc, e_js', e_jcq, e_icj, e_kcj, or_true, true_or, or_false, false_or, and_true, true_and, not_true_eq_false, not_false_eq_true, f_X12_madeBy, p1, p2, ev]
  have hno : f_X12_node m T (nI f) (nI (p_pa P f + i)) = some (nI (u_xn P f i), T) := j_nodeq
  have kp : ∀ T', u_O m T T' → r_P (m_ri T' (m + 2)) P := fun T' h => by rw [h.row (by omega) (by omega) (by omega)]; exact hP
  have hgo : ∀ n, p_op P (p_fi P f + i) = n → m_ri T (m + 2) (18 + (p_fi P f + i)) = nI n := fun n h => by rw [← h]; exact p5
  have hcall : p_op P (p_fi P f + i) = 8 ∨ p_op P (p_fi P f + i) = 9 → ∃ T' T'' : m_M, b_X12_joinLine_210 m T (nI f) (nI (p_fi P f + i)) (nI (u_xn P f i)) (nI (p_op P (p_fi P f + i))) = some T'' ∧ u_R2 T' m (u_ca 200 true P f i X).1 (u_ca 200 true P f i X).2 ∧ u_O m T T' ∧ (p_op P (p_fi P f + i) = 8 → T'' = T') ∧ (p_op P (p_fi P f + i) = 9 → f_X12_join 200 m T' (nI (u_xn P f i)) (nI (u_vn P f i 4)) = some T'') := fun ho => by
    have hca := (hW.2.2.2.2 f i hf hi).2.2.1 (by omega)
    have hp := hW.2.2.1 _ hca
    have h6 := (hP.2.2.2 f i hf hi).2.1 (by omega)
    obtain ⟨T', T'', g1, g2, g3, g4, g5⟩ := j_args (y := if p_op P (p_fi P f + i) = 8 then 0 else 1) hW hf hi ho rfl (p_pa P (p_ca P (p_fi P f + i))) 0 m_fu T X (by omega) (by omega) hK hR hP
    refine ⟨T', T'', ?_, by rw [u_ca_2]; exact g2, g3, g4, g5⟩
    rw [← g1]
    rcases ho with h | h
    · rw [h]
      simp (disch := omega) only [e_let, e_call, e_cal0, e_bind, e_lit, e_ofN, e_neg, nI_add, pk_mul, e_sub, e_ldi, e_sti, e_ldj, e_stj, e_le_t, e_le_f, e_lt_t, e_lt_f, e_eq_t, e_eq_f, e_no_eq, e_no_eq', e_no_rfl, e_no_lt, e_no_le, e_le_no, e_lt_no, if_true, if_false, ↓reduceIte, e_rs, e_rq, e_rn, e_ji, e_ki, e_ij, e_kj, e_js, e_jq, e_jn, e_cs, e_cq, e_jc, e_kc, e_js', e_jcq, e_icj, e_kcj, or_true, true_or, or_false, false_or, and_true, true_and, not_true_eq_false, not_false_eq_true, b_X12_joinLine_210, h6, b_X12_joinLine_233]
    · rw [h]
      simp (disch := omega) only [e_let, e_call, e_cal0, e_bind, e_lit, e_ofN, e_neg, nI_add, pk_mul, e_sub, e_ldi, e_sti, e_ldj, e_stj, e_le_t, e_le_f, e_lt_t, e_lt_f, e_eq_t, e_eq_f, e_no_eq, e_no_eq', e_no_rfl, e_no_lt, e_no_le, e_le_no, e_lt_no, if_true, if_false, ↓reduceIte, e_rs, e_rq, e_rn, e_ji, e_ki, e_ij, e_kj, e_js, e_jq, e_jn, e_cs, e_cq, e_jc, e_kc, e_js', e_jcq, e_icj, e_kcj, or_true, true_or, or_false, false_or, and_true, true_and, not_true_eq_false, not_false_eq_true, b_X12_joinLine_210, h6, b_X12_joinLine_233]
      rfl
  rcases hop with h | h | h | h | h | h | h | h | h | h
  · have p5 := hgo _ h
    simp only [u_li, h]
    refine ⟨T, ?_, hR, u_O.rf⟩
    rw [f_X12_joinLine, hvl, e_call, hno, e_call, e_lit, nI_add, e_ldi (by omega) (by omega), e_bind, p5]; simp (disch := omega) only [e_let, e_call, e_cal0, e_bind, e_lit, e_ofN, e_neg, nI_add, pk_mul, e_sub, e_ldi, e_sti, e_ldj, e_stj, e_le_t, e_le_f, e_lt_t, e_lt_f, e_eq_t, e_eq_f, e_no_eq, e_no_eq', e_no_rfl, e_no_lt, e_no_le, e_le_no, e_lt_no, if_true, if_false, ↓reduceIte, e_rs, e_rq, e_rn, e_ji, e_ki, e_ij, e_kj, e_js, e_jq, e_jn, e_cs, e_cq, e_jc, e_kc, e_js', e_jcq, e_icj, e_kcj, or_true, true_or, or_false, false_or, and_true, true_and, not_true_eq_false, not_false_eq_true, b_X12_joinLine_332]
  · have p5 := hgo _ h
    have us := p_us_0 (P := P) (l := p_fi P f + i) (by omega)
    have hv := nv 0 us
    obtain ⟨v1, v2⟩ := j_vnode hW hP hf hi (by omega) us
    obtain ⟨T1, f1, f2, f3⟩ := j_J (i := u_xn P f i) (j := u_vn P f i 0) hR hK (by omega) (by omega)
    simp only [u_li, h]
    refine ⟨T1, ?_, f2, f3⟩
    rw [f_X12_joinLine, hvl, e_call, hno, e_call, e_lit, nI_add, e_ldi (by omega) (by omega), e_bind, p5]; simp (disch := omega) only [e_let, e_call, e_cal0, e_bind, e_lit, e_ofN, e_neg, nI_add, pk_mul, e_sub, e_ldi, e_sti, e_ldj, e_stj, e_le_t, e_le_f, e_lt_t, e_lt_f, e_eq_t, e_eq_f, e_no_eq, e_no_eq', e_no_rfl, e_no_lt, e_no_le, e_le_no, e_lt_no, if_true, if_false, ↓reduceIte, e_rs, e_rq, e_rn, e_ji, e_ki, e_ij, e_kj, e_js, e_jq, e_jn, e_cs, e_cq, e_jc, e_kc, e_js', e_jcq, e_icj, e_kcj, or_true, true_or, or_false, false_or, and_true, true_and, not_true_eq_false, not_false_eq_true, v1, v2, f1]
  · have p5 := hgo _ h
    have us0 := p_us_0 (P := P) (l := p_fi P f + i) (by omega)
    have us1 := p_us_1 (P := P) (l := p_fi P f + i) (by omega)
    have hv0 := nv 0 us0
    have hv1 := nv 1 us1
    obtain ⟨o1, b1, b2, b3, b4, b5, b6, -⟩ := hK.N nx hm
    obtain ⟨o2, c1, c2, c3⟩ := u_pr_ok (d := 200) (e := 200) (by omega) (by omega) hW hf hi h hK hm
    obtain ⟨T1, f1, f3, f4⟩ := j_new hR hK.2.1 (n := u_xn P f i) (by omega) hm
    have hP1 := kp T1 f4
    obtain ⟨v1, v2⟩ := j_vnode hW hP1 hf hi (by omega) us0
    have l0 := (b6 0 (by omega)).1
    obtain ⟨T2, g1, g2, g3⟩ := j_J (U := u_N X (u_xn P f i)) (i := u_at (u_N X (u_xn P f i)) (u_xn P f i) 0) (j := u_vn P f i 0) f3 b1 l0 (by omega)
    rw [u_at_eq] at g1 l0
    have hs0 : f_X12_sideNode m T1 (nI ((u_nw X.2 X.1 (u_xn P f i)).2 (X.1.1 (u_xn P f i)) - 1)) (nI 0) = some (nI (u_sd ((u_nw X.2 X.1 (u_xn P f i)).2 (X.1.1 (u_xn P f i)) - 1) 0), T1) := by
      rw [u_sd] at l0; simp (disch := omega) only [e_let, e_call, e_cal0, e_bind, e_lit, e_ofN, e_neg, nI_add, pk_mul, e_sub, e_ldi, e_sti, e_ldj, e_stj, e_le_t, e_le_f, e_lt_t, e_lt_f, e_eq_t, e_eq_f, e_no_eq, e_no_eq', e_no_rfl, e_no_lt, e_no_le, e_le_no, e_lt_no, if_true, if_false, ↓reduceIte, e_rs, e_rq, e_rn, e_ji, e_ki, e_ij, e_kj, e_js, e_jq, e_jn, e_cs, e_cq, e_jc, e_kc, e_js', e_jcq, e_icj, e_kcj, or_true, true_or, or_false, false_or, and_true, true_and, not_true_eq_false, not_false_eq_true, f_X12_sideNode, u_sd]
    have g2 : u_R2 T2 m (u_pr 200 P f i X).1 (u_pr 200 P f i X).2 := g2
    have hO2 := f4.tr g3
    have hP2 := kp T2 hO2
    have r2 := j_hasr g2 c1.2.1 (n := u_xn P f i) (by omega) c2
    obtain ⟨w1, w2⟩ := j_vnode hW hP2 hf hi (by omega) us1
    obtain ⟨n1, n2⟩ := c1.2.1.1 (u_xn P f i) (by omega)
    have q1 := c1.2.1.2.2.2.1 _ n1
    have m24 := c1.2.1.2.1
    have a1 : u_at (u_pr 200 P f i X) (u_xn P f i) 1 < 183 := u_sd_lt (by omega) (by omega)
    obtain ⟨T3, k1, k2, k3⟩ := j_J (U := u_pr 200 P f i X) (i := u_at (u_pr 200 P f i X) (u_xn P f i) 1) (j := u_vn P f i 1) g2 c1 a1 (by omega)
    have hs1 : f_X12_sideNode m T2 (nI ((u_pr 200 P f i X).1.2 ((u_pr 200 P f i X).1.1 (u_xn P f i)) - 1)) (nI 1) = some (nI (u_at (u_pr 200 P f i X) (u_xn P f i) 1), T2) := by
      rw [u_at, u_sd] at a1 ⊢; simp (disch := omega) only [e_let, e_call, e_cal0, e_bind, e_lit, e_ofN, e_neg, nI_add, pk_mul, e_sub, e_ldi, e_sti, e_ldj, e_stj, e_le_t, e_le_f, e_lt_t, e_lt_f, e_eq_t, e_eq_f, e_no_eq, e_no_eq', e_no_rfl, e_no_lt, e_no_le, e_le_no, e_lt_no, if_true, if_false, ↓reduceIte, e_rs, e_rq, e_rn, e_ji, e_ki, e_ij, e_kj, e_js, e_jq, e_jn, e_cs, e_cq, e_jc, e_kc, e_js', e_jcq, e_icj, e_kcj, or_true, true_or, or_false, false_or, and_true, true_and, not_true_eq_false, not_false_eq_true, f_X12_sideNode]
    refine ⟨T3, ?_, ?_, hO2.tr k3⟩
    · rw [f_X12_joinLine, hvl, e_call, hno, e_call, e_lit, nI_add, e_ldi (by omega) (by omega), e_bind, p5]; simp (disch := omega) only [e_let, e_call, e_cal0, e_bind, e_lit, e_ofN, e_neg, nI_add, pk_mul, e_sub, e_ldi, e_sti, e_ldj, e_stj, e_le_t, e_le_f, e_lt_t, e_lt_f, e_eq_t, e_eq_f, e_no_eq, e_no_eq', e_no_rfl, e_no_lt, e_no_le, e_le_no, e_lt_no, if_true, if_false, ↓reduceIte, e_rs, e_rq, e_rn, e_ji, e_ki, e_ij, e_kj, e_js, e_jq, e_jn, e_cs, e_cq, e_jc, e_kc, e_js', e_jcq, e_icj, e_kcj, or_true, true_or, or_false, false_or, and_true, true_and, not_true_eq_false, not_false_eq_true, f1, hs0, v1, v2, g1, r2, hs1, w1, w2, k1]
    · simp only [u_li, h, c3]; exact k2
  · have p5 := hgo _ h
    have us0 := p_us_0 (P := P) (l := p_fi P f + i) (by omega)
    have hv0 := nv 0 us0
    obtain ⟨o1, b1, b2, b3, b4, b5, b6, -⟩ := hK.N hv0 hm
    obtain ⟨v1, v2⟩ := j_vnode hW hP hf hi (by omega) us0
    obtain ⟨T1, f1, f3, f4⟩ := j_new hR hK.2.1 (n := u_vn P f i 0) (by omega) hm
    have l0 := (b6 0 (by omega)).1
    obtain ⟨T2, g1, g2, g3⟩ := j_J (U := u_N X (u_vn P f i 0)) (i := u_at (u_N X (u_vn P f i 0)) (u_vn P f i 0) 0) (j := u_xn P f i) f3 b1 l0 (by omega)
    rw [u_at_eq] at g1 l0
    have hs0 : f_X12_sideNode m T1 (nI ((u_nw X.2 X.1 (u_vn P f i 0)).2 (X.1.1 (u_vn P f i 0)) - 1)) (nI (3 - 3)) = some (nI (u_sd ((u_nw X.2 X.1 (u_vn P f i 0)).2 (X.1.1 (u_vn P f i 0)) - 1) 0), T1) := by
      rw [u_sd] at l0; simp (disch := omega) only [e_let, e_call, e_cal0, e_bind, e_lit, e_ofN, e_neg, nI_add, pk_mul, e_sub, e_ldi, e_sti, e_ldj, e_stj, e_le_t, e_le_f, e_lt_t, e_lt_f, e_eq_t, e_eq_f, e_no_eq, e_no_eq', e_no_rfl, e_no_lt, e_no_le, e_le_no, e_lt_no, if_true, if_false, ↓reduceIte, e_rs, e_rq, e_rn, e_ji, e_ki, e_ij, e_kj, e_js, e_jq, e_jn, e_cs, e_cq, e_jc, e_kc, e_js', e_jcq, e_icj, e_kcj, or_true, true_or, or_false, false_or, and_true, true_and, not_true_eq_false, not_false_eq_true, f_X12_sideNode, u_sd]
    simp only [u_li, h]
    refine ⟨T2, ?_, g2, f4.tr g3⟩
    rw [f_X12_joinLine, hvl, e_call, hno, e_call, e_lit, nI_add, e_ldi (by omega) (by omega), e_bind, p5]; simp (disch := omega) only [e_let, e_call, e_cal0, e_bind, e_lit, e_ofN, e_neg, nI_add, pk_mul, e_sub, e_ldi, e_sti, e_ldj, e_stj, e_le_t, e_le_f, e_lt_t, e_lt_f, e_eq_t, e_eq_f, e_no_eq, e_no_eq', e_no_rfl, e_no_lt, e_no_le, e_le_no, e_lt_no, if_true, if_false, ↓reduceIte, e_rs, e_rq, e_rn, e_ji, e_ki, e_ij, e_kj, e_js, e_jq, e_jn, e_cs, e_cq, e_jc, e_kc, e_js', e_jcq, e_icj, e_kcj, or_true, true_or, or_false, false_or, and_true, true_and, not_true_eq_false, not_false_eq_true, b_X12_joinLine_148, v1, v2, f1, hs0, g1]
  · have p5 := hgo _ h
    have us0 := p_us_0 (P := P) (l := p_fi P f + i) (by omega)
    have hv0 := nv 0 us0
    obtain ⟨o1, b1, b2, b3, b4, b5, b6, -⟩ := hK.N hv0 hm
    obtain ⟨v1, v2⟩ := j_vnode hW hP hf hi (by omega) us0
    obtain ⟨T1, f1, f3, f4⟩ := j_new hR hK.2.1 (n := u_vn P f i 0) (by omega) hm
    have l0 := (b6 1 (by omega)).1
    obtain ⟨T2, g1, g2, g3⟩ := j_J (U := u_N X (u_vn P f i 0)) (i := u_at (u_N X (u_vn P f i 0)) (u_vn P f i 0) 1) (j := u_xn P f i) f3 b1 l0 (by omega)
    rw [u_at_eq] at g1 l0
    have hs0 : f_X12_sideNode m T1 (nI ((u_nw X.2 X.1 (u_vn P f i 0)).2 (X.1.1 (u_vn P f i 0)) - 1)) (nI (4 - 3)) = some (nI (u_sd ((u_nw X.2 X.1 (u_vn P f i 0)).2 (X.1.1 (u_vn P f i 0)) - 1) 1), T1) := by
      rw [u_sd] at l0; simp (disch := omega) only [e_let, e_call, e_cal0, e_bind, e_lit, e_ofN, e_neg, nI_add, pk_mul, e_sub, e_ldi, e_sti, e_ldj, e_stj, e_le_t, e_le_f, e_lt_t, e_lt_f, e_eq_t, e_eq_f, e_no_eq, e_no_eq', e_no_rfl, e_no_lt, e_no_le, e_le_no, e_lt_no, if_true, if_false, ↓reduceIte, e_rs, e_rq, e_rn, e_ji, e_ki, e_ij, e_kj, e_js, e_jq, e_jn, e_cs, e_cq, e_jc, e_kc, e_js', e_jcq, e_icj, e_kcj, or_true, true_or, or_false, false_or, and_true, true_and, not_true_eq_false, not_false_eq_true, f_X12_sideNode, u_sd]
    simp only [u_li, h]
    refine ⟨T2, ?_, g2, f4.tr g3⟩
    rw [f_X12_joinLine, hvl, e_call, hno, e_call, e_lit, nI_add, e_ldi (by omega) (by omega), e_bind, p5]; simp (disch := omega) only [e_let, e_call, e_cal0, e_bind, e_lit, e_ofN, e_neg, nI_add, pk_mul, e_sub, e_ldi, e_sti, e_ldj, e_stj, e_le_t, e_le_f, e_lt_t, e_lt_f, e_eq_t, e_eq_f, e_no_eq, e_no_eq', e_no_rfl, e_no_lt, e_no_le, e_le_no, e_lt_no, if_true, if_false, ↓reduceIte, e_rs, e_rq, e_rn, e_ji, e_ki, e_ij, e_kj, e_js, e_jq, e_jn, e_cs, e_cq, e_jc, e_kc, e_js', e_jcq, e_icj, e_kcj, or_true, true_or, or_false, false_or, and_true, true_and, not_true_eq_false, not_false_eq_true, b_X12_joinLine_148, v1, v2, f1, hs0, g1]
  · have p5 := hgo _ h
    simp only [u_li, h]
    refine ⟨T, ?_, hR, u_O.rf⟩
    rw [f_X12_joinLine, hvl, e_call, hno, e_call, e_lit, nI_add, e_ldi (by omega) (by omega), e_bind, p5]; simp (disch := omega) only [e_let, e_call, e_cal0, e_bind, e_lit, e_ofN, e_neg, nI_add, pk_mul, e_sub, e_ldi, e_sti, e_ldj, e_stj, e_le_t, e_le_f, e_lt_t, e_lt_f, e_eq_t, e_eq_f, e_no_eq, e_no_eq', e_no_rfl, e_no_lt, e_no_le, e_le_no, e_lt_no, if_true, if_false, ↓reduceIte, e_rs, e_rq, e_rn, e_ji, e_ki, e_ij, e_kj, e_js, e_jq, e_jn, e_cs, e_cq, e_jc, e_kc, e_js', e_jcq, e_icj, e_kcj, or_true, true_or, or_false, false_or, and_true, true_and, not_true_eq_false, not_false_eq_true, b_X12_joinLine_332]
  · have p5 := hgo _ h
    simp only [u_li, h]
    refine ⟨T, ?_, hR, u_O.rf⟩
    rw [f_X12_joinLine, hvl, e_call, hno, e_call, e_lit, nI_add, e_ldi (by omega) (by omega), e_bind, p5]; simp (disch := omega) only [e_let, e_call, e_cal0, e_bind, e_lit, e_ofN, e_neg, nI_add, pk_mul, e_sub, e_ldi, e_sti, e_ldj, e_stj, e_le_t, e_le_f, e_lt_t, e_lt_f, e_eq_t, e_eq_f, e_no_eq, e_no_eq', e_no_rfl, e_no_lt, e_no_le, e_le_no, e_lt_no, if_true, if_false, ↓reduceIte, e_rs, e_rq, e_rn, e_ji, e_ki, e_ij, e_kj, e_js, e_jq, e_jn, e_cs, e_cq, e_jc, e_kc, e_js', e_jcq, e_icj, e_kcj, or_true, true_or, or_false, false_or, and_true, true_and, not_true_eq_false, not_false_eq_true, b_X12_joinLine_332]
  · have p5 := hgo _ h
    have us1 := p_us_1 (P := P) (l := p_fi P f + i) (by omega)
    have us2 := p_us_2 (P := P) (l := p_fi P f + i) h
    have hv1 := nv 1 us1
    have hv2 := nv 2 us2
    obtain ⟨v1, v2⟩ := j_vnode hW hP hf hi (by omega) us1
    obtain ⟨T1, f1, f2, f3⟩ := j_J (i := u_xn P f i) (j := u_vn P f i 1) hR hK (by omega) (by omega)
    obtain ⟨s1, -, -⟩ := hK.J (d := 200) (e := 200) (a := u_xn P f i) (b := u_vn P f i 1) (by omega) (by omega) (by omega) (by omega) (by omega) (by omega) (Or.inl ⟨rfl, rfl⟩)
    obtain ⟨w1, w2⟩ := j_vnode hW (kp T1 f3) hf hi (by omega) us2
    obtain ⟨T2, g1, g2, g3⟩ := j_J (i := u_xn P f i) (j := u_vn P f i 2) f2 s1 (by omega) (by omega)
    simp only [u_li, h]
    refine ⟨T2, ?_, g2, f3.tr g3⟩
    rw [f_X12_joinLine, hvl, e_call, hno, e_call, e_lit, nI_add, e_ldi (by omega) (by omega), e_bind, p5]; simp (disch := omega) only [e_let, e_call, e_cal0, e_bind, e_lit, e_ofN, e_neg, nI_add, pk_mul, e_sub, e_ldi, e_sti, e_ldj, e_stj, e_le_t, e_le_f, e_lt_t, e_lt_f, e_eq_t, e_eq_f, e_no_eq, e_no_eq', e_no_rfl, e_no_lt, e_no_le, e_le_no, e_lt_no, if_true, if_false, ↓reduceIte, e_rs, e_rq, e_rn, e_ji, e_ki, e_ij, e_kj, e_js, e_jq, e_jn, e_cs, e_cq, e_jc, e_kc, e_js', e_jcq, e_icj, e_kcj, or_true, true_or, or_false, false_or, and_true, true_and, not_true_eq_false, not_false_eq_true, v1, v2, f1, w1, w2, g1]
  · have p5 := hgo _ h
    obtain ⟨T1, T2, f1, f2, f3, f4, -⟩ := hcall (Or.inl h)
    rw [f4 h, h] at f1
    simp only [u_li, h]
    refine ⟨T1, ?_, f2, f3⟩
    rw [f_X12_joinLine, hvl, e_call, hno, e_call, e_lit, nI_add, e_ldi (by omega) (by omega), e_bind, p5]; simp (disch := omega) only [e_let, e_call, e_cal0, e_bind, e_lit, e_ofN, e_neg, nI_add, pk_mul, e_sub, e_ldi, e_sti, e_ldj, e_stj, e_le_t, e_le_f, e_lt_t, e_lt_f, e_eq_t, e_eq_f, e_no_eq, e_no_eq', e_no_rfl, e_no_lt, e_no_le, e_le_no, e_lt_no, if_true, if_false, ↓reduceIte, e_rs, e_rq, e_rn, e_ji, e_ki, e_ij, e_kj, e_js, e_jq, e_jn, e_cs, e_cq, e_jc, e_kc, e_js', e_jcq, e_icj, e_kcj, or_true, true_or, or_false, false_or, and_true, true_and, not_true_eq_false, not_false_eq_true, f1]
  · have p5 := hgo _ h
    have us4 := p_us_e (P := P) (l := p_fi P f + i) h
    have hv4 := nv 4 us4
    obtain ⟨T1, T2, f1, f2, f3, -, f5⟩ := hcall (Or.inr h)
    rw [h] at f1
    obtain ⟨s1, -, -, -⟩ := u_ca_ok (sw := true) (sw' := true) (d := 200) (e := 200) (by omega) (by omega) hW hf hi (Or.inr h) hK
    obtain ⟨T3, g1, g2, g3⟩ := j_J (i := u_xn P f i) (j := u_vn P f i 4) f2 s1 (by omega) (by omega)
    have e23 : T3 = T2 := Option.some.inj (g1.symm.trans (f5 h))
    rw [e23] at g2 g3
    simp only [u_li, h]
    refine ⟨T2, ?_, g2, f3.tr g3⟩
    rw [f_X12_joinLine, hvl, e_call, hno, e_call, e_lit, nI_add, e_ldi (by omega) (by omega), e_bind, p5]; simp (disch := omega) only [e_let, e_call, e_cal0, e_bind, e_lit, e_ofN, e_neg, nI_add, pk_mul, e_sub, e_ldi, e_sti, e_ldj, e_stj, e_le_t, e_le_f, e_lt_t, e_lt_f, e_eq_t, e_eq_f, e_no_eq, e_no_eq', e_no_rfl, e_no_lt, e_no_le, e_le_no, e_lt_no, if_true, if_false, ↓reduceIte, e_rs, e_rq, e_rn, e_ji, e_ki, e_ij, e_kj, e_js, e_jq, e_jn, e_cs, e_cq, e_jc, e_kc, e_js', e_jcq, e_icj, e_kcj, or_true, true_or, or_false, false_or, and_true, true_and, not_true_eq_false, not_false_eq_true, f1]
end UG
