/-! lines, as they join, in the memory of both sides -/
section UF
variable {S T : m_M} {a m p : Nat} {P : pP} {X Y : u3} {o : Nat → Nat} {f i : Nat}
theorem e_nd {f v : Nat} : nI (f * 27 + v) = nI (u_nd f v) := by rw [u_nd, Nat.mul_comm]
theorem e_nd' {f v : Nat} : nI (27 * f + v) = nI (u_nd f v) := rfl
theorem u_at_eq {n s : Nat} : u_at (u_N X n) n s = u_sd ((u_nw X.2 X.1 n).2 (X.1.1 n) - 1) s := by
  show u_sd ((u_nw X.2 X.1 n).2 ((u_nw X.2 X.1 n).1 n) - 1) s = _
  rw [u_nw_1]
theorem u_pr_ok {d e : Nat} (hd : 24 < d) (he : 24 < e) (hW : p_W P) (hf : f < p_fu P) (hi : i < p_ct P f) (h : p_op P (p_fi P f + i) = 2) (hS : u_S3 o X Y) (hm : X.2 < 24) : ∃ o', u_S3 o' (u_pr d P f i X) (u_pr e P f i Y) ∧ (u_pr d P f i X).1.2 ((u_pr d P f i X).1.1 (u_xn P f i)) ≠ 0 ∧ u_N (u_pr d P f i X) (u_xn P f i) = u_pr d P f i X := by
  obtain ⟨nx, nv, ng⟩ := u_nodes hW hf hi
  have hv0 := nv 0 (p_us_0 (by omega))
  obtain ⟨o', b1, b2, b3, b4, b5, b6, k, b7, b8, b9⟩ := hS.N nx hm
  obtain ⟨s1, s2, s3⟩ := b6 0 (by omega)
  obtain ⟨c1, c2, c3⟩ := b1.J (b := u_vn P f i 0) (b' := u_vn P f i 0) hd he s1 (by omega) s2 (by omega) (Or.inl ⟨by rw [b4]; exact s3, rfl⟩)
  have hk135 := b1.2.1.2.2.1 k b7
  have hhas : (u_pr d P f i X).1.2 ((u_pr d P f i X).1.1 (u_xn P f i)) ≠ 0 := by
    have h1 := c1.2.1.2.2.2.2.2 k b7
    have h2 : (u_pr d P f i X).1.1 (o' k) = (u_pr d P f i X).1.1 (u_xn P f i) := c2.2.2 _ _ (by omega) (by omega) (by rw [b4]; exact b8)
    rw [← h2]; exact h1
  refine ⟨o', c1, hhas, ?_⟩
  show (u_nw _ _ _, u_nm _ _ _) = _
  rw [u_nw, u_nm, if_neg hhas, if_neg hhas]
theorem k_has {U : u2} {mk n : Nat} (hR : u_R1 S a U mk) (hV : u_V mk o U) (hn : n < 183) (hq : U.2 (U.1 n) ≠ 0) : f_X5_leftOf a S (nI n) = some (nI (u_sd (U.2 (U.1 n) - 1) 0), S) ∧ f_X5_rightOf a S (nI n) = some (nI (u_sd (U.2 (U.1 n) - 1) 1), S) := by
  obtain ⟨r1, r2, r3⟩ := hR
  have ri := k_rootOf r1 hn
  obtain ⟨hx, tx⟩ := hV.1 n hn
  obtain ⟨lx, rx⟩ := r2 _ hx
  have hqx := hV.2.2.2.1 _ hx
  have m24 := hV.2.1
  rw [u_ln_p hq] at lx rx
  generalize U.1 n = x at *
  have sl0 := u_sd_lt (k := U.2 x - 1) (s := 0) (by omega) (by omega)
  have hw : f_X5_rootWithRegion a S (nI n) = some (nI x, S) := by simp (disch := omega) only [e_let, e_call, e_cal0, e_bind, e_lit, e_ofN, e_neg, nI_add, pk_mul, e_sub, e_ldi, e_sti, e_ldj, e_stj, e_le_t, e_le_f, e_lt_t, e_lt_f, e_eq_t, e_eq_f, e_no_eq, e_no_eq', e_no_rfl, e_no_lt, e_no_le, e_le_no, e_lt_no, if_true, if_false, ↓reduceIte, e_rs, e_rq, e_rn, e_ji, e_ki, e_ij, e_kj, e_js, e_jq, e_jn, e_cs, e_cq, e_jc, e_kc, e_js', e_jcq, e_icj, e_kcj, or_true, true_or, or_false, false_or, and_true, true_and, not_true_eq_false, not_false_eq_true, f_X5_rootWithRegion, ri, lx, b_X5_rootWithRegion_60]
  refine ⟨?_, ?_⟩
  · simp (disch := omega) only [e_let, e_call, e_cal0, e_bind, e_lit, e_ofN, e_neg, nI_add, pk_mul, e_sub, e_ldi, e_sti, e_ldj, e_stj, e_le_t, e_le_f, e_lt_t, e_lt_f, e_eq_t, e_eq_f, e_no_eq, e_no_eq', e_no_rfl, e_no_lt, e_no_le, e_le_no, e_lt_no, if_true, if_false, ↓reduceIte, e_rs, e_rq, e_rn, e_ji, e_ki, e_ij, e_kj, e_js, e_jq, e_jn, e_cs, e_cq, e_jc, e_kc, e_js', e_jcq, e_icj, e_kcj, or_true, true_or, or_false, false_or, and_true, true_and, not_true_eq_false, not_false_eq_true, f_X5_leftOf, hw, lx]
  · simp (disch := omega) only [e_let, e_call, e_cal0, e_bind, e_lit, e_ofN, e_neg, nI_add, pk_mul, e_sub, e_ldi, e_sti, e_ldj, e_stj, e_le_t, e_le_f, e_lt_t, e_lt_f, e_eq_t, e_eq_f, e_no_eq, e_no_eq', e_no_rfl, e_no_lt, e_no_le, e_le_no, e_lt_no, if_true, if_false, ↓reduceIte, e_rs, e_rq, e_rn, e_ji, e_ki, e_ij, e_kj, e_js, e_jq, e_jn, e_cs, e_cq, e_jc, e_kc, e_js', e_jcq, e_icj, e_kcj, or_true, true_or, or_false, false_or, and_true, true_and, not_true_eq_false, not_false_eq_true, f_X5_rightOf, hw, rx]
theorem j_hasr {U : u2} {mk n : Nat} (hR : u_R2 T m U mk) (hV : u_V mk o U) (hn : n < 183) (hq : U.2 (U.1 n) ≠ 0) : f_X12_pointFrom m T (nI n) = some (nI (U.2 (U.1 n) - 1), T) := by
  obtain ⟨r1, r2, r3⟩ := hR
  have ri := j_topOf r1 hn
  obtain ⟨hx, tx⟩ := hV.1 n hn
  have lx := r2 _ hx
  have hqx := hV.2.2.2.1 _ hx
  have m24 := hV.2.1
  generalize U.1 n = x at *
  rw [nO_pos (by omega)] at lx
  simp (disch := omega) only [e_let, e_call, e_cal0, e_bind, e_lit, e_ofN, e_neg, nI_add, pk_mul, e_sub, e_ldi, e_sti, e_ldj, e_stj, e_le_t, e_le_f, e_lt_t, e_lt_f, e_eq_t, e_eq_f, e_no_eq, e_no_eq', e_no_rfl, e_no_lt, e_no_le, e_le_no, e_lt_no, if_true, if_false, ↓reduceIte, e_rs, e_rq, e_rn, e_ji, e_ki, e_ij, e_kj, e_js, e_jq, e_jn, e_cs, e_cq, e_jc, e_kc, e_js', e_jcq, e_icj, e_kcj, or_true, true_or, or_false, false_or, and_true, true_and, not_true_eq_false, not_false_eq_true, f_X12_pointFrom, ri, lx, b_X12_pointFrom_36]
/-! the one side -/
theorem c_opn {s : Nat} (hW : p_W P) (hP : p_R S p P) (hf : f < p_fu P) (hi : i < p_ct P f) (hs : s < 5) (hu : p_us P (p_fi P f + i) (p_sl P (p_fi P f + i) s)) : f_X5_operandNode p S (nI f) (nI (p_fi P f + i)) (nI s) = some (nI (u_vn P f i (p_sl P (p_fi P f + i) s)), S) := by
  have h1 := hW.line hf hi
  have h2 := (hP.2.2.2.2.2 f i hf hi).2.2.2 s hs hu
  have h3 := (hW.2.2.2.2 f i hf hi).2.2.2 _ hu
  simp (disch := omega) only [e_let, e_call, e_cal0, e_bind, e_lit, e_ofN, e_neg, nI_add, pk_mul, e_sub, e_ldi, e_sti, e_ldj, e_stj, e_le_t, e_le_f, e_lt_t, e_lt_f, e_eq_t, e_eq_f, e_no_eq, e_no_eq', e_no_rfl, e_no_lt, e_no_le, e_le_no, e_lt_no, if_true, if_false, ↓reduceIte, e_rs, e_rq, e_rn, e_ji, e_ki, e_ij, e_kj, e_js, e_jq, e_jn, e_cs, e_cq, e_jc, e_kc, e_js', e_jcq, e_icj, e_kcj, or_true, true_or, or_false, false_or, and_true, true_and, not_true_eq_false, not_false_eq_true, f_X5_operandNode, f_X3_operandAt, h2, f_X5_nodeOf, e_nd, u_vn]
theorem k_J {U : u3} {i j : Nat} (hR : u_R1 S a U.1 U.2) (hK : u_S3 o U U) (hi : i < 183) (hj : j < 183) : ∃ S', f_X5_join 30 a S (nI i) (nI j) (nI 0) = some S' ∧ u_R1 S' a (u_J 30 U i j).1 (u_J 30 U i j).2 ∧ e_O a (a + 4) S S' := by
  have hV := hK.2.1
  have := u_c_le hV
  have := hV.2.1
  obtain ⟨S', f1, f2, f3⟩ := k_join 30 U.1 S i j 0 hV (by omega) (by omega) hR hi hj
  exact ⟨S', f1, f2, f3.wide (by omega) (by omega)⟩
theorem k_args1 (hW : p_W P) (hap : p + 22 ≤ a ∨ a + 5 ≤ p) (hf : f < p_fu P) (hi : i < p_ct P f) (ho : p_op P (p_fi P f + i) = 8 ∨ p_op P (p_fi P f + i) = 9) : ∀ (c j fu : Nat) (S : m_M) (X : u3), j + c = p_pa P (p_ca P (p_fi P f + i)) → c < fu → u_S3 o X X → u_R1 S a X.1 X.2 → p_R S p P →
    ∃ S', b_X5_joinCall_11 a p fu S (nI f) (nI (p_fi P f + i)) (nI (u_xn P f i)) (nI (p_ca P (p_fi P f + i))) (nI j) = some S' ∧ u_R1 S' a (u_Jw 30 false (u_ag 30 false (fun j => u_nd (p_ca P (p_fi P f + i)) j) (fun j => u_vn P f i (q_ar P (p_fi P f + i) j)) c j X) (u_nd (p_ca P (p_fi P f + i)) (p_vs P (p_ca P (p_fi P f + i)) - 1)) (u_xn P f i)).1 X.2 ∧ e_O a (a + 4) S S' := by
  obtain ⟨nx, nv, ng⟩ := u_nodes hW hf hi
  have hca := (hW.2.2.2.2 f i hf hi).2.2.1 (by omega)
  have hp := hW.2.2.1 _ hca
  have hl := hW.line hf hi
  have h5 := hW.1
  have h24 := hW.2.1
  intro c
  induction c with
  | zero =>
    intro j fu S X hj hfu hK hR hP
    obtain ⟨fu, rfl⟩ : ∃ f, fu = f + 1 := ⟨fu - 1, by omega⟩
    have hr := ng (by omega) (p_vs P (p_ca P (p_fi P f + i)) - 1) (by simp only [p_vs]; omega)
    obtain ⟨S1, f1, f2, f3⟩ := k_J (i := u_nd (p_ca P (p_fi P f + i)) (p_vs P (p_ca P (p_fi P f + i)) - 1)) (j := u_xn P f i) hR hK (by omega) (by omega)
    refine ⟨S1, ?_, f2, f3⟩
    have p1 := hP.2.2.1 _ hca
    have p2 := hP.2.2.2.2.1 _ hca
    simp only [p_vs] at f1
    simp (disch := omega) only [e_let, e_call, e_cal0, e_bind, e_lit, e_ofN, e_neg, nI_add, pk_mul, e_sub, e_ldi, e_sti, e_ldj, e_stj, e_le_t, e_le_f, e_lt_t, e_lt_f, e_eq_t, e_eq_f, e_no_eq, e_no_eq', e_no_rfl, e_no_lt, e_no_le, e_le_no, e_lt_no, if_true, if_false, ↓reduceIte, e_rs, e_rq, e_rn, e_ji, e_ki, e_ij, e_kj, e_js, e_jq, e_jn, e_cs, e_cq, e_jc, e_kc, e_js', e_jcq, e_icj, e_kcj, or_true, true_or, or_false, false_or, and_true, true_and, not_true_eq_false, not_false_eq_true, b_X5_joinCall_11, p1, f_X3_resultOf, f_X3_varCount, p2, f_X5_nodeOf, e_nd, f1]
  | succ c ih =>
    intro j fu S X hj hfu hK hR hP
    obtain ⟨fu, rfl⟩ : ∃ f, fu = f + 1 := ⟨fu - 1, by omega⟩
    obtain ⟨sl1, sl2⟩ := p_sl_ar (P := P) (l := p_fi P f + i) (v := j) ho (by omega)
    have hg := ng (by omega) j (by simp only [p_vs]; omega)
    have hv := nv _ sl2
    have hop := c_opn (s := j) hW hP hf hi (by omega) (by rw [sl1]; exact sl2)
    rw [sl1] at hop
    obtain ⟨S1, f1, f2, f3⟩ := k_J (i := u_nd (p_ca P (p_fi P f + i)) j) (j := u_vn P f i (q_ar P (p_fi P f + i) j)) hR hK (by omega) (by omega)
    obtain ⟨s1, -, -⟩ := hK.J (d := 30) (e := 30) (a := u_nd (p_ca P (p_fi P f + i)) j) (b := u_vn P f i (q_ar P (p_fi P f + i) j)) (by omega) (by omega) (by omega) (by omega) (by omega) (by omega) (Or.inl ⟨rfl, rfl⟩)
    obtain ⟨S', g1, g2, g3⟩ := ih (j + 1) fu S1 _ (by omega) (by omega) s1 f2 (hP.kept (fun q h1 h2 => f3.1 q (by omega)))
    refine ⟨S', ?_, g2, f3.tr g3⟩
    rw [← g1]
    have p1 := hP.2.2.1 _ hca
    simp (disch := omega) only [e_let, e_call, e_cal0, e_bind, e_lit, e_ofN, e_neg, nI_add, pk_mul, e_sub, e_ldi, e_sti, e_ldj, e_stj, e_le_t, e_le_f, e_lt_t, e_lt_f, e_eq_t, e_eq_f, e_no_eq, e_no_eq', e_no_rfl, e_no_lt, e_no_le, e_le_no, e_lt_no, if_true, if_false, ↓reduceIte, e_rs, e_rq, e_rn, e_ji, e_ki, e_ij, e_kj, e_js, e_jq, e_jn, e_cs, e_cq, e_jc, e_kc, e_js', e_jcq, e_icj, e_kcj, or_true, true_or, or_false, false_or, and_true, true_and, not_true_eq_false, not_false_eq_true, b_X5_joinCall_11, p1, f_X5_nodeOf, e_nd, hop, f1]
theorem u_ca_2 {d : Nat} {sw : Bool} : (u_ca d sw P f i X).2 = X.2 := by
  have : ∀ (c j : Nat) (X : u3), (u_ag d sw (fun j => u_nd (p_ca P (p_fi P f + i)) j) (fun j => u_vn P f i (q_ar P (p_fi P f + i) j)) c j X).2 = X.2 := by
    intro c
    induction c with
    | zero => intro j X; rfl
    | succ c ih => intro j X; rw [u_ag, ih]; cases sw <;> rfl
  rw [u_ca]
  refine Eq.trans ?_ (this (p_pa P (p_ca P (p_fi P f + i))) 0 X)
  cases sw <;> rfl
theorem k_call1 (hW : p_W P) (hap : p + 22 ≤ a ∨ a + 5 ≤ p) (hf : f < p_fu P) (hi : i < p_ct P f) (ho : p_op P (p_fi P f + i) = 8 ∨ p_op P (p_fi P f + i) = 9) (hK : u_S3 o X X) (hR : u_R1 S a X.1 X.2) (hP : p_R S p P) : ∃ S', f_X5_joinCall a p S (nI f) (nI (p_fi P f + i)) (nI (u_xn P f i)) = some S' ∧ u_R1 S' a (u_ca 30 false P f i X).1 (u_ca 30 false P f i X).2 ∧ e_O a (a + 4) S S' := by
  have hfu := m_fu_ge
  have hl := hW.line hf hi
  have hca := (hW.2.2.2.2 f i hf hi).2.2.1 (by omega)
  have hp := hW.2.2.1 _ hca
  have h6 := (hP.2.2.2.2.2 f i hf hi).2.1 (by omega)
  obtain ⟨S', g1, g2, g3⟩ := k_args1 hW hap hf hi ho (p_pa P (p_ca P (p_fi P f + i))) 0 m_fu S X (by omega) (by omega) hK hR hP
  refine ⟨S', ?_, by rw [u_ca_2]; exact g2, g3⟩
  rw [← g1]
  simp (disch := omega) only [e_let, e_call, e_cal0, e_bind, e_lit, e_ofN, e_neg, nI_add, pk_mul, e_sub, e_ldi, e_sti, e_ldj, e_stj, e_le_t, e_le_f, e_lt_t, e_lt_f, e_eq_t, e_eq_f, e_no_eq, e_no_eq', e_no_rfl, e_no_lt, e_no_le, e_le_no, e_lt_no, if_true, if_false, ↓reduceIte, e_rs, e_rq, e_rn, e_ji, e_ki, e_ij, e_kj, e_js, e_jq, e_jn, e_cs, e_cq, e_jc, e_kc, e_js', e_jcq, e_icj, e_kcj, or_true, true_or, or_false, false_or, and_true, true_and, not_true_eq_false, not_false_eq_true, f_X5_joinCall, h6]
theorem k_line (hW : p_W P) (hap : p + 22 ≤ a ∨ a + 5 ≤ p) (hf : f < p_fu P) (hi : i < p_ct P f) (hK : u_S3 o X X) (hm : X.2 < 24) (hR : u_R1 S a X.1 X.2) (hP : p_R S p P) : ∃ S', f_X5_joinLine a p S (nI f) (nI (p_fi P f + i)) = some S' ∧ u_R1 S' a (u_li 30 false P f i X).1 (u_li 30 false P f i X).2 ∧ e_O a (a + 4) S S' := by
  obtain ⟨nx, nv, ng⟩ := u_nodes hW hf hi
  have hl := hW.line hf hi
  have h9 := (hW.2.2.2.2 f i hf hi).1
  have hop : p_op P (p_fi P f + i) = 0 ∨ p_op P (p_fi P f + i) = 1 ∨ p_op P (p_fi P f + i) = 2 ∨ p_op P (p_fi P f + i) = 3 ∨ p_op P (p_fi P f + i) = 4 ∨ p_op P (p_fi P f + i) = 5 ∨ p_op P (p_fi P f + i) = 6 ∨ p_op P (p_fi P f + i) = 7 ∨ p_op P (p_fi P f + i) = 8 ∨ p_op P (p_fi P f + i) = 9 := by omega
  have p2 := hP.2.2.1 f hf
  have p3 := hP.2.2.2.1 f hf
  have p5 := (hP.2.2.2.2.2 f i hf hi).1
  have ev : p_pa P f + (p_fi P f + i) - p_fi P f = p_pa P f + i := by omega
  have hvl : f_X3_varOfLine p S (nI f) (nI (p_fi P f + i)) = some (nI (p_pa P f + i), S) := by simp (disch := omega) only [e_let, e_call, e_cal0, e_bind, e_lit, e_ofN, e_neg, nI_add, pk_mul, e_sub, e_ldi, e_sti, e_ldj, e_stj, e_le_t, e_le_f, e_lt_t, e_lt_f, e_eq_t, e_eq_f, e_no_eq, e_no_eq', e_no_rfl, e_no_lt, e_no_le, e_le_no, e_lt_no, if_true, if_false, ↓reduceIte, e_rs, e_rq, e_rn, e_ji, e_ki, e_ij, e_kj, e_js, e_jq, e_jn, e_cs, e_cq, e_jc, e_kc, e_js', e_jcq, e_icj, e_kcj, or_true, true_or, or_false, false_or, and_true, true_and, not_true_eq_false, not_false_eq_true, f_X3_varOfLine, p2, p3, ev]
  have hno : f_X5_nodeOf S (nI f) (nI (p_pa P f + i)) = some (nI (u_xn P f i), S) := by simp (disch := omega) only [e_let, e_call, e_cal0, e_bind, e_lit, e_ofN, e_neg, nI_add, pk_mul, e_sub, e_ldi, e_sti, e_ldj, e_stj, e_le_t, e_le_f, e_lt_t, e_lt_f, e_eq_t, e_eq_f, e_no_eq, e_no_eq', e_no_rfl, e_no_lt, e_no_le, e_le_no, e_lt_no, if_true, if_false, ↓reduceIte, e_rs, e_rq, e_rn, e_ji, e_ki, e_ij, e_kj, e_js, e_jq, e_jn, e_cs, e_cq, e_jc, e_kc, e_js', e_jcq, e_icj, e_kcj, or_true, true_or, or_false, false_or, and_true, true_and, not_true_eq_false, not_false_eq_true, f_X5_nodeOf, e_nd, u_xn]
  have kp : ∀ S', e_O a (a + 4) S S' → p_R S' p P := fun S' h => hP.kept (fun q h1 h2 => h.1 q (by omega))
  rcases hop with h | h | h | h | h | h | h | h | h | h
  · rw [h] at p5
    simp only [u_li, h]
    have p5 : m_ri S (p + 5) (p_fi P f + i) = nI 22 := p5
    refine ⟨S, ?_, hR, e_O.rf⟩
    rw [f_X5_joinLine, hvl, e_call, hno, e_call, e_ldi (by omega) (by omega), e_bind, p5]; simp (disch := omega) only [e_let, e_call, e_cal0, e_bind, e_lit, e_ofN, e_neg, nI_add, pk_mul, e_sub, e_ldi, e_sti, e_ldj, e_stj, e_le_t, e_le_f, e_lt_t, e_lt_f, e_eq_t, e_eq_f, e_no_eq, e_no_eq', e_no_rfl, e_no_lt, e_no_le, e_le_no, e_lt_no, if_true, if_false, ↓reduceIte, e_rs, e_rq, e_rn, e_ji, e_ki, e_ij, e_kj, e_js, e_jq, e_jn, e_cs, e_cq, e_jc, e_kc, e_js', e_jcq, e_icj, e_kcj, or_true, true_or, or_false, false_or, and_true, true_and, not_true_eq_false, not_false_eq_true, b_X5_joinLine_291]
  · rw [h] at p5
    have p5 : m_ri S (p + 5) (p_fi P f + i) = nI 23 := p5
    have us := p_us_0 (P := P) (l := p_fi P f + i) (by omega)
    have hv := nv 0 us
    have e0 := c_opn (s := 0) hW hP hf hi (by omega) (by rw [p_sl_ne (by omega)]; exact us)
    rw [p_sl_ne (by omega)] at e0
    obtain ⟨S1, f1, f2, f3⟩ := k_J (i := u_xn P f i) (j := u_vn P f i 0) hR hK (by omega) (by omega)
    simp only [u_li, h]
    refine ⟨S1, ?_, f2, f3⟩
    rw [f_X5_joinLine, hvl, e_call, hno, e_call, e_ldi (by omega) (by omega), e_bind, p5]; simp (disch := omega) only [e_let, e_call, e_cal0, e_bind, e_lit, e_ofN, e_neg, nI_add, pk_mul, e_sub, e_ldi, e_sti, e_ldj, e_stj, e_le_t, e_le_f, e_lt_t, e_lt_f, e_eq_t, e_eq_f, e_no_eq, e_no_eq', e_no_rfl, e_no_lt, e_no_le, e_le_no, e_lt_no, if_true, if_false, ↓reduceIte, e_rs, e_rq, e_rn, e_ji, e_ki, e_ij, e_kj, e_js, e_jq, e_jn, e_cs, e_cq, e_jc, e_kc, e_js', e_jcq, e_icj, e_kcj, or_true, true_or, or_false, false_or, and_true, true_and, not_true_eq_false, not_false_eq_true, e0, f1, b_X5_joinLine_291]
  · rw [h] at p5
    have p5 : m_ri S (p + 5) (p_fi P f + i) = nI 2 := p5
    have us0 := p_us_0 (P := P) (l := p_fi P f + i) (by omega)
    have us1 := p_us_1 (P := P) (l := p_fi P f + i) (by omega)
    have hv0 := nv 0 us0
    have hv1 := nv 1 us1
    obtain ⟨o1, b1, b2, b3, b4, b5, b6, -⟩ := hK.N nx hm
    obtain ⟨o2, c1, c2, c3⟩ := u_pr_ok (d := 30) (e := 30) (by omega) (by omega) hW hf hi h hK hm
    obtain ⟨S1, f1, -, f3, f4⟩ := k_side hR hK.2.1 (n := u_xn P f i) (by omega) hm
    rw [← u_at_eq] at f1
    have hP1 := kp S1 f4
    have e0 := c_opn (s := 0) hW hP1 hf hi (by omega) (by rw [p_sl_ne (by omega)]; exact us0)
    rw [p_sl_ne (by omega)] at e0
    obtain ⟨S2, g1, g2, g3⟩ := k_J (U := u_N X (u_xn P f i)) (i := u_at (u_N X (u_xn P f i)) (u_xn P f i) 0) (j := u_vn P f i 0) f3 b1 (b6 0 (by omega)).1 (by omega)
    have g2 : u_R1 S2 a (u_pr 30 P f i X).1 (u_pr 30 P f i X).2 := g2
    have hO2 := f4.tr g3
    have hP2 := kp S2 hO2
    obtain ⟨-, r2⟩ := k_has g2 c1.2.1 (n := u_xn P f i) (by omega) c2
    have e1 := c_opn (s := 1) hW hP2 hf hi (by omega) (by rw [p_sl_ne (by omega)]; exact us1)
    rw [p_sl_ne (by omega)] at e1
    obtain ⟨n1, n2⟩ := c1.2.1.1 (u_xn P f i) (by omega)
    have q1 := c1.2.1.2.2.2.1 _ n1
    have m24 := c1.2.1.2.1
    have a1 : u_at (u_pr 30 P f i X) (u_xn P f i) 1 < 183 := u_sd_lt (by omega) (by omega)
    obtain ⟨S3, k1, k2, k3⟩ := k_J (U := u_pr 30 P f i X) (i := u_at (u_pr 30 P f i X) (u_xn P f i) 1) (j := u_vn P f i 1) g2 c1 a1 (by omega)
    have r2 : f_X5_rightOf a S2 (nI (u_xn P f i)) = some (nI (u_at (u_pr 30 P f i X) (u_xn P f i) 1), S2) := r2
    refine ⟨S3, ?_, ?_, hO2.tr k3⟩
    · rw [f_X5_joinLine, hvl, e_call, hno, e_call, e_ldi (by omega) (by omega), e_bind, p5]; simp (disch := omega) only [e_let, e_call, e_cal0, e_bind, e_lit, e_ofN, e_neg, nI_add, pk_mul, e_sub, e_ldi, e_sti, e_ldj, e_stj, e_le_t, e_le_f, e_lt_t, e_lt_f, e_eq_t, e_eq_f, e_no_eq, e_no_eq', e_no_rfl, e_no_lt, e_no_le, e_le_no, e_lt_no, if_true, if_false, ↓reduceIte, e_rs, e_rq, e_rn, e_ji, e_ki, e_ij, e_kj, e_js, e_jq, e_jn, e_cs, e_cq, e_jc, e_kc, e_js', e_jcq, e_icj, e_kcj, or_true, true_or, or_false, false_or, and_true, true_and, not_true_eq_false, not_false_eq_true, f1, e0, g1, r2, e1, k1, b_X5_joinLine_291]
    · simp only [u_li, h, c3]; exact k2
  · rw [h] at p5
    have p5 : m_ri S (p + 5) (p_fi P f + i) = nI 3 := p5
    have us0 := p_us_0 (P := P) (l := p_fi P f + i) (by omega)
    have hv0 := nv 0 us0
    obtain ⟨o1, b1, b2, b3, b4, b5, b6, -⟩ := hK.N hv0 hm
    have e0 := c_opn (s := 0) hW hP hf hi (by omega) (by rw [p_sl_ne (by omega)]; exact us0)
    rw [p_sl_ne (by omega)] at e0
    obtain ⟨S1, f1, f2, f3, f4⟩ := k_side hR hK.2.1 (n := u_vn P f i 0) (by omega) hm
    rw [← u_at_eq] at f1 f2
    obtain ⟨S2, g1, g2, g3⟩ := k_J (U := u_N X (u_vn P f i 0)) (i := u_at (u_N X (u_vn P f i 0)) (u_vn P f i 0) 0) (j := u_xn P f i) f3 b1 (b6 0 (by omega)).1 (by omega)
    simp only [u_li, h]
    refine ⟨S2, ?_, g2, f4.tr g3⟩
    rw [f_X5_joinLine, hvl, e_call, hno, e_call, e_ldi (by omega) (by omega), e_bind, p5]; simp (disch := omega) only [e_let, e_call, e_cal0, e_bind, e_lit, e_ofN, e_neg, nI_add, pk_mul, e_sub, e_ldi, e_sti, e_ldj, e_stj, e_le_t, e_le_f, e_lt_t, e_lt_f, e_eq_t, e_eq_f, e_no_eq, e_no_eq', e_no_rfl, e_no_lt, e_no_le, e_le_no, e_lt_no, if_true, if_false, ↓reduceIte, e_rs, e_rq, e_rn, e_ji, e_ki, e_ij, e_kj, e_js, e_jq, e_jn, e_cs, e_cq, e_jc, e_kc, e_js', e_jcq, e_icj, e_kcj, or_true, true_or, or_false, false_or, and_true, true_and, not_true_eq_false, not_false_eq_true, e0, f1, g1, b_X5_joinLine_291]
  · rw [h] at p5
    have p5 : m_ri S (p + 5) (p_fi P f + i) = nI 4 := p5
    have us0 := p_us_0 (P := P) (l := p_fi P f + i) (by omega)
    have hv0 := nv 0 us0
    obtain ⟨o1, b1, b2, b3, b4, b5, b6, -⟩ := hK.N hv0 hm
    have e0 := c_opn (s := 0) hW hP hf hi (by omega) (by rw [p_sl_ne (by omega)]; exact us0)
    rw [p_sl_ne (by omega)] at e0
    obtain ⟨S1, f1, f2, f3, f4⟩ := k_side hR hK.2.1 (n := u_vn P f i 0) (by omega) hm
    rw [← u_at_eq] at f1 f2
    obtain ⟨S2, g1, g2, g3⟩ := k_J (U := u_N X (u_vn P f i 0)) (i := u_at (u_N X (u_vn P f i 0)) (u_vn P f i 0) 1) (j := u_xn P f i) f3 b1 (b6 1 (by omega)).1 (by omega)
    simp only [u_li, h]
    refine ⟨S2, ?_, g2, f4.tr g3⟩
    rw [f_X5_joinLine, hvl, e_call, hno, e_call, e_ldi (by omega) (by omega), e_bind, p5]; simp (disch := omega) only [e_let, e_call, e_cal0, e_bind, e_lit, e_ofN, e_neg, nI_add, pk_mul, e_sub, e_ldi, e_sti, e_ldj, e_stj, e_le_t, e_le_f, e_lt_t, e_lt_f, e_eq_t, e_eq_f, e_no_eq, e_no_eq', e_no_rfl, e_no_lt, e_no_le, e_le_no, e_lt_no, if_true, if_false, ↓reduceIte, e_rs, e_rq, e_rn, e_ji, e_ki, e_ij, e_kj, e_js, e_jq, e_jn, e_cs, e_cq, e_jc, e_kc, e_js', e_jcq, e_icj, e_kcj, or_true, true_or, or_false, false_or, and_true, true_and, not_true_eq_false, not_false_eq_true, e0, f2, g1, b_X5_joinLine_291]
  · rw [h] at p5
    have p5 : m_ri S (p + 5) (p_fi P f + i) = nI 5 := p5
    simp only [u_li, h]
    refine ⟨S, ?_, hR, e_O.rf⟩
    rw [f_X5_joinLine, hvl, e_call, hno, e_call, e_ldi (by omega) (by omega), e_bind, p5]; simp (disch := omega) only [e_let, e_call, e_cal0, e_bind, e_lit, e_ofN, e_neg, nI_add, pk_mul, e_sub, e_ldi, e_sti, e_ldj, e_stj, e_le_t, e_le_f, e_lt_t, e_lt_f, e_eq_t, e_eq_f, e_no_eq, e_no_eq', e_no_rfl, e_no_lt, e_no_le, e_le_no, e_lt_no, if_true, if_false, ↓reduceIte, e_rs, e_rq, e_rn, e_ji, e_ki, e_ij, e_kj, e_js, e_jq, e_jn, e_cs, e_cq, e_jc, e_kc, e_js', e_jcq, e_icj, e_kcj, or_true, true_or, or_false, false_or, and_true, true_and, not_true_eq_false, not_false_eq_true, b_X5_joinLine_291]
  · rw [h] at p5
    have p5 : m_ri S (p + 5) (p_fi P f + i) = nI 6 := p5
    simp only [u_li, h]
    refine ⟨S, ?_, hR, e_O.rf⟩
    rw [f_X5_joinLine, hvl, e_call, hno, e_call, e_ldi (by omega) (by omega), e_bind, p5]; simp (disch := omega) only [e_let, e_call, e_cal0, e_bind, e_lit, e_ofN, e_neg, nI_add, pk_mul, e_sub, e_ldi, e_sti, e_ldj, e_stj, e_le_t, e_le_f, e_lt_t, e_lt_f, e_eq_t, e_eq_f, e_no_eq, e_no_eq', e_no_rfl, e_no_lt, e_no_le, e_le_no, e_lt_no, if_true, if_false, ↓reduceIte, e_rs, e_rq, e_rn, e_ji, e_ki, e_ij, e_kj, e_js, e_jq, e_jn, e_cs, e_cq, e_jc, e_kc, e_js', e_jcq, e_icj, e_kcj, or_true, true_or, or_false, false_or, and_true, true_and, not_true_eq_false, not_false_eq_true, b_X5_joinLine_291]
  · rw [h] at p5
    have p5 : m_ri S (p + 5) (p_fi P f + i) = nI 7 := p5
    have us1 := p_us_1 (P := P) (l := p_fi P f + i) (by omega)
    have us2 := p_us_2 (P := P) (l := p_fi P f + i) h
    have hv1 := nv 1 us1
    have hv2 := nv 2 us2
    have e1 := c_opn (s := 1) hW hP hf hi (by omega) (by rw [p_sl_ne (by omega)]; exact us1)
    rw [p_sl_ne (by omega)] at e1
    obtain ⟨S1, f1, f2, f3⟩ := k_J (i := u_xn P f i) (j := u_vn P f i 1) hR hK (by omega) (by omega)
    obtain ⟨s1, -, -⟩ := hK.J (d := 30) (e := 30) (a := u_xn P f i) (b := u_vn P f i 1) (by omega) (by omega) (by omega) (by omega) (by omega) (by omega) (Or.inl ⟨rfl, rfl⟩)
    have e2 := c_opn (s := 2) hW (kp S1 f3) hf hi (by omega) (by rw [p_sl_ne (by omega)]; exact us2)
    rw [p_sl_ne (by omega)] at e2
    obtain ⟨S2, g1, g2, g3⟩ := k_J (i := u_xn P f i) (j := u_vn P f i 2) f2 s1 (by omega) (by omega)
    simp only [u_li, h]
    refine ⟨S2, ?_, g2, f3.tr g3⟩
    rw [f_X5_joinLine, hvl, e_call, hno, e_call, e_ldi (by omega) (by omega), e_bind, p5]; simp (disch := omega) only [e_let, e_call, e_cal0, e_bind, e_lit, e_ofN, e_neg, nI_add, pk_mul, e_sub, e_ldi, e_sti, e_ldj, e_stj, e_le_t, e_le_f, e_lt_t, e_lt_f, e_eq_t, e_eq_f, e_no_eq, e_no_eq', e_no_rfl, e_no_lt, e_no_le, e_le_no, e_lt_no, if_true, if_false, ↓reduceIte, e_rs, e_rq, e_rn, e_ji, e_ki, e_ij, e_kj, e_js, e_jq, e_jn, e_cs, e_cq, e_jc, e_kc, e_js', e_jcq, e_icj, e_kcj, or_true, true_or, or_false, false_or, and_true, true_and, not_true_eq_false, not_false_eq_true, e1, f1, e2, g1, b_X5_joinLine_291]
  · rw [h] at p5
    have p5 : m_ri S (p + 5) (p_fi P f + i) = nI 8 := p5
    obtain ⟨S1, f1, f2, f3⟩ := k_call1 hW hap hf hi (Or.inl h) hK hR hP
    simp only [u_li, h]
    refine ⟨S1, ?_, f2, f3⟩
    rw [f_X5_joinLine, hvl, e_call, hno, e_call, e_ldi (by omega) (by omega), e_bind, p5]; simp (disch := omega) only [e_let, e_call, e_cal0, e_bind, e_lit, e_ofN, e_neg, nI_add, pk_mul, e_sub, e_ldi, e_sti, e_ldj, e_stj, e_le_t, e_le_f, e_lt_t, e_lt_f, e_eq_t, e_eq_f, e_no_eq, e_no_eq', e_no_rfl, e_no_lt, e_no_le, e_le_no, e_lt_no, if_true, if_false, ↓reduceIte, e_rs, e_rq, e_rn, e_ji, e_ki, e_ij, e_kj, e_js, e_jq, e_jn, e_cs, e_cq, e_jc, e_kc, e_js', e_jcq, e_icj, e_kcj, or_true, true_or, or_false, false_or, and_true, true_and, not_true_eq_false, not_false_eq_true, f1, b_X5_joinLine_291]
  · rw [h] at p5
    have p5 : m_ri S (p + 5) (p_fi P f + i) = nI 9 := p5
    have us4 := p_us_e (P := P) (l := p_fi P f + i) h
    have hv4 := nv 4 us4
    obtain ⟨S1, f1, f2, f3⟩ := k_call1 hW hap hf hi (Or.inr h) hK hR hP
    have hP1 := kp S1 f3
    obtain ⟨s1, -, -, -⟩ := u_ca_ok (sw := false) (sw' := false) (d := 30) (e := 30) (by omega) (by omega) hW hf hi (Or.inr h) hK
    have hca := (hW.2.2.2.2 f i hf hi).2.2.1 (by omega)
    have hp := hW.2.2.1 _ hca
    have h6 := (hP1.2.2.2.2.2 f i hf hi).2.1 (by omega)
    have h7 := hP1.2.2.1 _ hca
    have h5 := hW.1
    have he : f_X3_elseSlot p S1 (nI (p_fi P f + i)) = some (nI (p_pa P (p_ca P (p_fi P f + i)) + 1), S1) := by simp (disch := omega) only [e_let, e_call, e_cal0, e_bind, e_lit, e_ofN, e_neg, nI_add, pk_mul, e_sub, e_ldi, e_sti, e_ldj, e_stj, e_le_t, e_le_f, e_lt_t, e_lt_f, e_eq_t, e_eq_f, e_no_eq, e_no_eq', e_no_rfl, e_no_lt, e_no_le, e_le_no, e_lt_no, if_true, if_false, ↓reduceIte, e_rs, e_rq, e_rn, e_ji, e_ki, e_ij, e_kj, e_js, e_jq, e_jn, e_cs, e_cq, e_jc, e_kc, e_js', e_jcq, e_icj, e_kcj, or_true, true_or, or_false, false_or, and_true, true_and, not_true_eq_false, not_false_eq_true, f_X3_elseSlot, f_X3_argumentCount, h6, h7]
    have e4 := c_opn (s := p_pa P (p_ca P (p_fi P f + i)) + 1) hW hP1 hf hi (by omega) (by rw [p_sl_e h]; exact us4)
    rw [p_sl_e h] at e4
    obtain ⟨S2, g1, g2, g3⟩ := k_J (i := u_xn P f i) (j := u_vn P f i 4) f2 s1 (by omega) (by omega)
    simp only [u_li, h]
    refine ⟨S2, ?_, g2, f3.tr g3⟩
    rw [f_X5_joinLine, hvl, e_call, hno, e_call, e_ldi (by omega) (by omega), e_bind, p5]; simp (disch := omega) only [e_let, e_call, e_cal0, e_bind, e_lit, e_ofN, e_neg, nI_add, pk_mul, e_sub, e_ldi, e_sti, e_ldj, e_stj, e_le_t, e_le_f, e_lt_t, e_lt_f, e_eq_t, e_eq_f, e_no_eq, e_no_eq', e_no_rfl, e_no_lt, e_no_le, e_le_no, e_lt_no, if_true, if_false, ↓reduceIte, e_rs, e_rq, e_rn, e_ji, e_ki, e_ij, e_kj, e_js, e_jq, e_jn, e_cs, e_cq, e_jc, e_kc, e_js', e_jcq, e_icj, e_kcj, or_true, true_or, or_false, false_or, and_true, true_and, not_true_eq_false, not_false_eq_true, f1, he, e4, g1, b_X5_joinLine_291]
end UF
