/-! fun, value, in, result: both sides -/
/-- the one side answers or throws, the other answers or says so -/
def s_XK (S T : m_M) (m : Nat) (cl : Option (Option Int32 × m_M)) (re : Option (Int32 × m_M)) : Prop :=
  (∃ v, cl = some (some v, S) ∧ re = some (v, m_si T m 0 (nI 0))) ∨ (cl = some (none, S) ∧ ∃ r, re = some (r, m_si (m_si T m 0 (nI 0)) m 0 (nI 1)))
/-- whom a fun calls, as bits -/
def c_by (P : pP) (f : Nat) : Nat → Int32
  | 0 => nI 0
  | i + 1 => if 8 ≤ p_op P (p_fi P f + i) then c_by P f i ||| ((1 : Int32) <<< (nI (p_ca P (p_fi P f + i)) &&& 31)) else c_by P f i
section XQ
variable {S T : m_M} {x m p a : Nat} {s : sT} {P : pP} {D : pD} {M : qM} {f i : Nat} {i1 i2 : Int32}
theorem k_isCall (hW : p_W P) (hP : p_R S p P) (hf : f < p_fu P) (hi : i < p_ct P f) : f_X3_isCall p S (nI (p_fi P f + i)) = some (nI (if 8 ≤ p_op P (p_fi P f + i) then 1 else 0), S) := by
  have h1 := hW.line hf hi
  have h2 := (hP.2.2.2.2.2 f i hf hi).1
  have h3 := (hW.2.2.2.2 f i hf hi).1
  generalize p_op P (p_fi P f + i) = o at *
  by_cases h : 8 ≤ o
  · rw [if_pos h]
    rcases (show o = 8 ∨ o = 9 by omega) with rfl | rfl
    · have h2 : m_ri S (p + 5) (p_fi P f + i) = nI 8 := h2
      simp (disch := omega) only [e_let, e_call, e_cal0, e_bind, e_lit, e_ofN, e_neg, nI_add, pk_mul, e_sub, e_ldi, e_sti, e_ldj, e_stj, e_le_t, e_le_f, e_lt_t, e_lt_f, e_eq_t, e_eq_f, e_no_eq, e_no_eq', e_no_rfl, e_no_lt, e_no_le, e_le_no, e_lt_no, if_true, if_false, ↓reduceIte, e_rs, e_rq, e_rn, e_ji, e_ki, e_ij, e_kj, e_js, e_jq, e_jn, e_cs, e_cq, e_jc, e_kc, e_js', e_jcq, e_icj, e_kcj, or_true, true_or, or_false, false_or, and_true, true_and, not_true_eq_false, not_false_eq_true, f_X3_isCall, h2, b_X3_isCall_22, b_X3_isCall_27]
    · have h2 : m_ri S (p + 5) (p_fi P f + i) = nI 9 := h2
      simp (disch := omega) only [e_let, e_call, e_cal0, e_bind, e_lit, e_ofN, e_neg, nI_add, pk_mul, e_sub, e_ldi, e_sti, e_ldj, e_stj, e_le_t, e_le_f, e_lt_t, e_lt_f, e_eq_t, e_eq_f, e_no_eq, e_no_eq', e_no_rfl, e_no_lt, e_no_le, e_le_no, e_lt_no, if_true, if_false, ↓reduceIte, e_rs, e_rq, e_rn, e_ji, e_ki, e_ij, e_kj, e_js, e_jq, e_jn, e_cs, e_cq, e_jc, e_kc, e_js', e_jcq, e_icj, e_kcj, or_true, true_or, or_false, false_or, and_true, true_and, not_true_eq_false, not_false_eq_true, f_X3_isCall, h2, b_X3_isCall_22, b_X3_isCall_27]
  · rw [if_neg h]
    have h4 : p_ex o ≠ 8 ∧ p_ex o ≠ 9 ∧ p_ex o < 30 := by
      simp only [p_ex]
      by_cases h6 : o = 0
      · rw [if_pos h6]; omega
      · rw [if_neg h6]
        by_cases h7 : o = 1
        · rw [if_pos h7]; omega
        · rw [if_neg h7]; omega
    generalize p_ex o = z at *
    simp (disch := omega) only [e_let, e_call, e_cal0, e_bind, e_lit, e_ofN, e_neg, nI_add, pk_mul, e_sub, e_ldi, e_sti, e_ldj, e_stj, e_le_t, e_le_f, e_lt_t, e_lt_f, e_eq_t, e_eq_f, e_no_eq, e_no_eq', e_no_rfl, e_no_lt, e_no_le, e_le_no, e_lt_no, if_true, if_false, ↓reduceIte, e_rs, e_rq, e_rn, e_ji, e_ki, e_ij, e_kj, e_js, e_jq, e_jn, e_cs, e_cq, e_jc, e_kc, e_js', e_jcq, e_icj, e_kcj, or_true, true_or, or_false, false_or, and_true, true_and, not_true_eq_false, not_false_eq_true, f_X3_isCall, h2, b_X3_isCall_22, b_X3_isCall_27]
theorem k_cby (hW : p_W P) (hP : p_R S p P) (hf : f < p_fu P) : ∀ (d i fu : Nat), i + d = p_ct P f → d < fu → b_X3_calledBy_9 p fu S (nI f) (c_by P f i) (nI (p_fi P f + i)) = some (c_by P f (p_ct P f), S) := by
  have h5 := hW.1
  have w3 := hW.2.2.1 f hf
  have w2 := hW.2.1
  have e3 := hP.2.2.2.1 f hf
  have e4 := hP.2.2.2.2.1 f hf
  intro d
  induction d with
  | zero =>
    intro i fu hi hfu
    obtain ⟨fu, rfl⟩ : ∃ k, fu = k + 1 := ⟨fu - 1, by omega⟩
    have : i = p_ct P f := by omega
    subst this
    rw [b_X3_calledBy_9, e_ldi (by omega) (by omega), e_bind, e_ldi (by omega) (by omega), e_bind, e3, e4, nI_add, if_pos (Int32.le_refl _)]
  | succ d ih =>
    intro i fu hi hfu
    obtain ⟨fu, rfl⟩ : ∃ k, fu = k + 1 := ⟨fu - 1, by omega⟩
    have hi' : i < p_ct P f := by omega
    have h9 := ih (i + 1) fu (by omega) (by omega)
    have hc := k_isCall hW hP hf hi'
    have h2 := (hP.2.2.2.2.2 f i hf hi').2.1
    rw [b_X3_calledBy_9, e_ldi (by omega) (by omega), e_bind, e_ldi (by omega) (by omega), e_bind, e3, e4, nI_add, if_neg (of_eq_false (e_le_f (a := p_fi P f + p_ct P f) (b := p_fi P f + i) (by omega) (by omega))), hc, e_call]
    rw [c_by] at h9
    have e1 : nI (p_fi P f + i) + (1 : Int32) = nI (p_fi P f + (i + 1)) := nI_add (p_fi P f + i) 1
    by_cases h : 8 ≤ p_op P (p_fi P f + i)
    · rw [if_pos h] at h9 ⊢
      rw [if_neg (by decide), e_ldi (by omega) (by omega), e_bind, h2 h, e_let, b_X3_calledBy_45, e_let, e1]
      exact h9
    · rw [if_neg h] at h9 ⊢
      rw [if_pos (by decide), b_X3_calledBy_45, e_let, e1]
      exact h9
theorem j_cby (hW : p_W P) (hP : r_P (m_ri T (m + 2)) P) (hf : f < p_fu P) : ∀ (d i fu : Nat), i + d = p_ct P f → d < fu → b_X12_calledBy_4 m fu T (nI f) (c_by P f i) (nI i) = some (c_by P f (p_ct P f), T) := by
  have h5 := hW.1
  have w3 := hW.2.2.1 f hf
  have w2 := hW.2.1
  have e3 := hP.2.2.1 f hf
  intro d
  induction d with
  | zero =>
    intro i fu hi hfu
    obtain ⟨fu, rfl⟩ : ∃ k, fu = k + 1 := ⟨fu - 1, by omega⟩
    have : i = p_ct P f := by omega
    subst this
    rw [b_X12_calledBy_4, show (13 : Int32) + nI f = nI (13 + f) from nI_add 13 f, e_ldi (by omega) (by omega), e_bind, e3.2.2, if_pos (Int32.le_refl _)]
  | succ d ih =>
    intro i fu hi hfu
    obtain ⟨fu, rfl⟩ : ∃ k, fu = k + 1 := ⟨fu - 1, by omega⟩
    have hi' : i < p_ct P f := by omega
    have h9 := ih (i + 1) fu (by omega) (by omega)
    obtain ⟨h1, h2, -⟩ := hP.2.2.2 f i hf hi'
    have h3 := (hW.2.2.2.2 f i hf hi').1
    have e18 : (18 : Int32) + nI (p_fi P f) + nI i = nI (18 + (p_fi P f + i)) := by
      rw [show (18 : Int32) = nI 18 from rfl, nI_add, nI_add, Nat.add_assoc]
    have e42 : (42 : Int32) + nI (p_fi P f) + nI i = nI (42 + (p_fi P f + i)) := by
      rw [show (42 : Int32) = nI 42 from rfl, nI_add, nI_add, Nat.add_assoc]
    have e8 : (8 : Int32) + nI f = nI (8 + f) := nI_add 8 f
    rw [b_X12_calledBy_4, show (13 : Int32) + nI f = nI (13 + f) from nI_add 13 f, e_ldi (by omega) (by omega), e_bind, e3.2.2, if_neg (of_eq_false (e_le_f (a := p_ct P f) (b := i) (by omega) (by omega))), e8, e_ldi (by omega) (by omega), e_bind, e3.2.1, e18, e_ldi (by omega) (by omega), e_bind, h1]
    rw [c_by] at h9
    have e1 : nI i + (1 : Int32) = nI (i + 1) := nI_add i 1
    by_cases h : 8 ≤ p_op P (p_fi P f + i)
    · rw [if_pos h] at h9
      rw [if_neg (show ¬ nI (p_op P (p_fi P f + i)) < (8 : Int32) from of_eq_false (e_lt_f (a := p_op P (p_fi P f + i)) (b := 8) (by omega) (by omega))), e_bind, e42, e_ldi (by omega) (by omega), e_bind, h2 h, e_let, b_X12_calledBy_65, e_let, e1]
      exact h9
    · rw [if_neg h] at h9
      rw [if_pos (show nI (p_op P (p_fi P f + i)) < (8 : Int32) from of_eq_true (e_lt_t (a := p_op P (p_fi P f + i)) (b := 8) (by omega) (by omega))), b_X12_calledBy_65, e_let, e1]
      exact h9
theorem j_left0 (hW : p_W P) (hP : r_P (m_ri T (m + 2)) P) (hf : f < p_fu P) (hi : i + 1 = p_ct P f) (ho : ¬ 8 ≤ p_op P (p_fi P f + i)) : f_X12_isLeft m T (nI f) = some (nI 0, T) := by
  have hl := hW.line hf (show i < p_ct P f by omega)
  have h3 := hP.2.2.1 f hf
  have h4 := (hP.2.2.2 f i hf (by omega)).1
  have hct : p_ct P f - 1 = i := by omega
  have e18 : 18 + p_fi P f + i = 18 + (p_fi P f + i) := by omega
  simp (disch := omega) only [e_let, e_call, e_cal0, e_bind, e_lit, e_ofN, e_neg, nI_add, pk_mul, e_sub, e_ldi, e_sti, e_ldj, e_stj, e_le_t, e_le_f, e_lt_t, e_lt_f, e_eq_t, e_eq_f, e_no_eq, e_no_eq', e_no_rfl, e_no_lt, e_no_le, e_le_no, e_lt_no, if_true, if_false, ↓reduceIte, e_rs, e_rq, e_rn, e_ji, e_ki, e_ij, e_kj, e_js, e_jq, e_jn, e_cs, e_cq, e_jc, e_kc, e_js', e_jcq, e_icj, e_kcj, or_true, true_or, or_false, false_or, and_true, true_and, not_true_eq_false, not_false_eq_true, f_X12_isLeft, h3.2.2, h3.2.1, hct, e18, h4]
theorem k_left (C : q_P S a p P D) (hf : f < p_fu P) (hi : i + 1 = p_ct P f) : f_X3_endsWithLeavingCall p S (nI f) = some (nI (if 8 ≤ p_op P (p_fi P f + i) ∧ q_lv P D f i = true then 1 else 0), S) := by
  have hW := C.2.1
  have hP := C.2.2.1
  have hl := hW.line hf (show i < p_ct P f by omega)
  have hc := k_isCall hW hP hf (show i < p_ct P f by omega)
  have hv := k_leavesBy C hf (show i < p_ct P f by omega)
  have e3 := hP.2.2.2.1 f hf
  have e4 := hP.2.2.2.2.1 f hf
  have e9 : (nI (p_fi P f) + nI (p_ct P f)) - (1 : Int32) = nI (p_fi P f + i) := by
    rw [nI_add, show (1 : Int32) = nI 1 from rfl, e_sub (by omega)]
    congr 1; omega
  rw [f_X3_endsWithLeavingCall, e_ldi (by omega) (by omega), e_bind, e_ldi (by omega) (by omega), e_bind, e3, e4, e9, e_let, if_neg (show ¬ nI (p_fi P f + i) < (0 : Int32) from of_eq_false (e_lt_f (a := p_fi P f + i) (b := 0) (by omega) (by omega))), hc, e_call]
  by_cases h : 8 ≤ p_op P (p_fi P f + i)
  · rw [if_pos h, if_neg (by decide), hv, e_call]
    by_cases hq : q_lv P D f i = true
    · rw [if_pos hq, if_neg (by decide), if_pos ⟨h, hq⟩]; rfl
    · rw [if_neg hq, if_pos (by decide), if_neg (fun z => hq z.2)]; rfl
  · rw [if_neg h, if_pos (by decide), if_neg (fun z => h z.1)]; rfl
theorem sx_result (hV : s_V s) (hC : s_C S x s) (hR : s_R T m s) : s_XK S T m (f_X11_result x S) (f_X12_result m T) := by
  have hM : q_R S (x + 70) (w_m (s_w s)) := hC.2.2.1.2.1
  have hN : r_R (m_ri (m_si T m 0 (nI 0)) (m + 2)) (w_m (s_w s)) := by rw [e_rq (by omega)]; exact hR.2.2.1.1.2.1
  have hB := hV.2.2.2.1.2.1.b
  generalize w_m (s_w s) = M at *
  have e0 := hM.1 0 (by omega) (by omega) (by omega)
  have b0 := hB.2.2.2.2.2.2.2.2.2.2.2.2.1
  have e10 := hM.2.2.1
  have d0 := hN.1
  have d10 := hN.2.2.2.2.2.2.2.2.2.2.1
  have er : f_X12_result m T = if nI (q_sc M 0) = (2 : Int32) then b_X12_result_32 m (m_si T m 0 (nI 0)) (m_ri (m_si T m 0 (nI 0)) (m + 2) 220) else m_call (f_X12_refuse m (m_si T m 0 (nI 0))) fun v5 S4 => b_X12_result_32 m S4 v5 := by
    rw [f_X12_result, e_let, show (0 : Int32) = nI 0 from rfl, show (210 : Int32) = nI 210 from rfl, show (220 : Int32) = nI 220 from rfl, e_ldi (by omega) (by omega), e_bind, d0, e_ldi (by omega) (by omega), e_bind]
  rw [f_X11_result, e0, er]
  by_cases h : q_sc M 0 = 2
  · rw [h, if_pos (show nI 2 = (2 : Int32) from rfl), if_pos (show nI 2 = (2 : Int32) from rfl), d10 h, e10]
    exact Or.inl ⟨_, rfl, rfl⟩
  · have hz : ¬ nI (q_sc M 0) = (2 : Int32) := of_eq_false (e_eq_f (a := q_sc M 0) (b := 2) h (by omega) (by omega))
    rw [if_neg hz, if_neg hz]
    exact Or.inr ⟨rfl, _, rfl⟩
theorem sx_value (hV : s_V s) (hC : s_C S x s) (hR : s_R T m s) : s_XK S T m (f_X11_value x S i1 i2) (f_X12_value m T i1 i2) := by
  have hW := hV.2.2.2.1.1
  have hP : p_R S (x + 48) (w_p (s_w s)) := hC.2.2.1.1.1
  have hM : q_R S (x + 70) (w_m (s_w s)) := hC.2.2.1.2.1
  have hN : r_R (m_ri (m_si T m 0 (nI 0)) (m + 2)) (w_m (s_w s)) := by rw [e_rq (by omega)]; exact hR.2.2.1.1.2.1
  have hQ : r_P (m_ri (m_si T m 0 (nI 0)) (m + 2)) (w_p (s_w s)) := by rw [e_rq (by omega)]; exact hR.2.2.1.1.1
  have hB := hV.2.2.2.1.2.1.b
  generalize w_m (s_w s) = M at *
  generalize w_p (s_w s) = P at *
  have h12 := hB.1
  rcases e_fvar hW hB i1 i2 with ⟨k, v, hk, hv, rfl, rfl⟩ | h
  · have h27 := hW.vs (hB.2.2.2.2.1 k hk).1
    have hkd := (hB.2.2.2.2.1 k hk).2.2 v
    have c : m_ri S (x + 73) (k * 27 + v) = nI (q_kd M k v) := hM.2.2.2.2.2.1 k v hk (by omega)
    have c2 : m_ri S (x + 74) (k * 27 + v) = q_vl M k v := hM.2.2.2.2.2.2.1 k v hk (by omega)
    have d := hN.2.2.2.2.2.2.2.2.2.2.2.2.2.1 k v hk (by omega) (by omega)
    have d2 := hN.2.2.2.2.2.2.2.2.2.2.2.2.2.2.1 k v hk (by omega) (by omega)
    have g := k_fvar_t hW hP hM hB hk hv
    have g' := j_fvar_t hW hQ hN hB hk hv
    by_cases hz : q_kd M k v = 0
    · rw [hz] at c d
      refine Or.inr ⟨?_, nI 0, ?_⟩
      · simp (disch := omega) only [e_let, e_call, e_cal0, e_bind, e_lit, e_ofN, e_neg, nI_add, pk_mul, e_sub, e_ldi, e_sti, e_ldj, e_stj, e_le_t, e_le_f, e_lt_t, e_lt_f, e_eq_t, e_eq_f, e_no_eq, e_no_eq', e_no_rfl, e_no_lt, e_no_le, e_le_no, e_lt_no, if_true, if_false, ↓reduceIte, e_rs, e_rq, e_rn, e_ji, e_ki, e_ij, e_kj, e_js, e_jq, e_jn, e_cs, e_cq, e_jc, e_kc, e_js', e_jcq, e_icj, e_kcj, or_true, true_or, or_false, false_or, and_true, true_and, not_true_eq_false, not_false_eq_true, f_X11_value, g, b_X11_value_42, c]
      · rw [f_X12_value, e_let, show (0 : Int32) = nI 0 from rfl, g']
        simp (disch := omega) only [e_let, e_call, e_cal0, e_bind, e_lit, e_ofN, e_neg, nI_add, pk_mul, e_sub, e_ldi, e_sti, e_ldj, e_stj, e_le_t, e_le_f, e_lt_t, e_lt_f, e_eq_t, e_eq_f, e_no_eq, e_no_eq', e_no_rfl, e_no_lt, e_no_le, e_le_no, e_lt_no, if_true, if_false, ↓reduceIte, e_rs, e_rq, e_rn, e_ji, e_ki, e_ij, e_kj, e_js, e_jq, e_jn, e_cs, e_cq, e_jc, e_kc, e_js', e_jcq, e_icj, e_kcj, or_true, true_or, or_false, false_or, and_true, true_and, not_true_eq_false, not_false_eq_true, f_X12_slot, d, b_X12_value_50, f_X12_refuse, b_X12_value_54]
    · refine Or.inl ⟨q_vl M k v, ?_, ?_⟩
      · simp (disch := omega) only [e_let, e_call, e_cal0, e_bind, e_lit, e_ofN, e_neg, nI_add, pk_mul, e_sub, e_ldi, e_sti, e_ldj, e_stj, e_le_t, e_le_f, e_lt_t, e_lt_f, e_eq_t, e_eq_f, e_no_eq, e_no_eq', e_no_rfl, e_no_lt, e_no_le, e_le_no, e_lt_no, if_true, if_false, ↓reduceIte, e_rs, e_rq, e_rn, e_ji, e_ki, e_ij, e_kj, e_js, e_jq, e_jn, e_cs, e_cq, e_jc, e_kc, e_js', e_jcq, e_icj, e_kcj, or_true, true_or, or_false, false_or, and_true, true_and, not_true_eq_false, not_false_eq_true, f_X11_value, g, b_X11_value_42, c, c2]
      · rw [f_X12_value, e_let, show (0 : Int32) = nI 0 from rfl, g']
        simp (disch := omega) only [e_let, e_call, e_cal0, e_bind, e_lit, e_ofN, e_neg, nI_add, pk_mul, e_sub, e_ldi, e_sti, e_ldj, e_stj, e_le_t, e_le_f, e_lt_t, e_lt_f, e_eq_t, e_eq_f, e_no_eq, e_no_eq', e_no_rfl, e_no_lt, e_no_le, e_le_no, e_lt_no, if_true, if_false, ↓reduceIte, e_rs, e_rq, e_rn, e_ji, e_ki, e_ij, e_kj, e_js, e_jq, e_jn, e_cs, e_cq, e_jc, e_kc, e_js', e_jcq, e_icj, e_kcj, or_true, true_or, or_false, false_or, and_true, true_and, not_true_eq_false, not_false_eq_true, f_X12_slot, d, d2, b_X12_value_50, f_X12_refuse, b_X12_value_54]
  · have g := k_fvar_f hW hP hM hB h
    have g' := j_fvar_f hW hQ hN hB h
    refine Or.inr ⟨?_, nI 0, ?_⟩
    · simp (disch := omega) only [e_let, e_call, e_cal0, e_bind, e_lit, e_ofN, e_neg, nI_add, pk_mul, e_sub, e_ldi, e_sti, e_ldj, e_stj, e_le_t, e_le_f, e_lt_t, e_lt_f, e_eq_t, e_eq_f, e_no_eq, e_no_eq', e_no_rfl, e_no_lt, e_no_le, e_le_no, e_lt_no, if_true, if_false, ↓reduceIte, e_rs, e_rq, e_rn, e_ji, e_ki, e_ij, e_kj, e_js, e_jq, e_jn, e_cs, e_cq, e_jc, e_kc, e_js', e_jcq, e_icj, e_kcj, or_true, true_or, or_false, false_or, and_true, true_and, not_true_eq_false, not_false_eq_true, f_X11_value, g, b_X11_value_42]
    · rw [f_X12_value, e_let, show (0 : Int32) = nI 0 from rfl, g']
      simp (disch := omega) only [e_let, e_call, e_cal0, e_bind, e_lit, e_ofN, e_neg, nI_add, pk_mul, e_sub, e_ldi, e_sti, e_ldj, e_stj, e_le_t, e_le_f, e_lt_t, e_lt_f, e_eq_t, e_eq_f, e_no_eq, e_no_eq', e_no_rfl, e_no_lt, e_no_le, e_le_no, e_lt_no, if_true, if_false, ↓reduceIte, e_rs, e_rq, e_rn, e_ji, e_ki, e_ij, e_kj, e_js, e_jq, e_jn, e_cs, e_cq, e_jc, e_kc, e_js', e_jcq, e_icj, e_kcj, or_true, true_or, or_false, false_or, and_true, true_and, not_true_eq_false, not_false_eq_true, b_X12_value_50, f_X12_refuse, b_X12_value_54]
theorem sx_in (hV : s_V s) (hC : s_C S x s) (hR : s_R T m s) : s_XK S T m (f_X11_in x S i1 i2) (f_X12_in m T i1 i2) := by
  have hM : q_R S (x + 70) (w_m (s_w s)) := hC.2.2.1.2.1
  have hN : r_R (m_ri (m_si T m 0 (nI 0)) (m + 2)) (w_m (s_w s)) := by rw [e_rq (by omega)]; exact hR.2.2.1.1.2.1
  have hB := hV.2.2.2.1.2.1.b
  generalize w_m (s_w s) = M at *
  rcases e_cell M i1 with ⟨c, hc, rfl, hn⟩ | h
  · have g := k_hasCell_t hM hB hc hn
    have g' := j_isCell_t hN hB hc hn
    rcases e_arg i2 2 (by omega) with ⟨k, hk, rfl⟩ | hb
    · have c1 : m_ri S (x + 78) (2 * c + k) = q_sv M c k := hM.2.2.2.2.2.2.2.2.2.2 c k hc hk hn
      have d1 := hN.2.2.2.2.2.2.2.2.2.2.2.2.2.2.2.2.2.2.2 c k hc hk hn
      have j1 := j_isIn_t (T := m_si T m 0 (nI 0)) (k := k) (n := 2) hk (by omega)
      have j1 : f_X12_isIn (m_si T m 0 (nI 0)) (nI k) (0 : Int32) (1 : Int32) = some (nI 1, m_si T m 0 (nI 0)) := j1
      refine Or.inl ⟨q_sv M c k, ?_, ?_⟩
      · simp (disch := omega) only [e_let, e_call, e_cal0, e_bind, e_lit, e_ofN, e_neg, nI_add, pk_mul, e_sub, e_ldi, e_sti, e_ldj, e_stj, e_le_t, e_le_f, e_lt_t, e_lt_f, e_eq_t, e_eq_f, e_no_eq, e_no_eq', e_no_rfl, e_no_lt, e_no_le, e_le_no, e_lt_no, if_true, if_false, ↓reduceIte, e_rs, e_rq, e_rn, e_ji, e_ki, e_ij, e_kj, e_js, e_jq, e_jn, e_cs, e_cq, e_jc, e_kc, e_js', e_jcq, e_icj, e_kcj, or_true, true_or, or_false, false_or, and_true, true_and, not_true_eq_false, not_false_eq_true, f_X11_in, g, c1]
      · have e9 : 1693 + 2 * c + k = 1693 + (2 * c + k) := by omega
        rw [f_X12_in, e_let, show m_si T m 0 (0 : Int32) = m_si T m 0 (nI 0) from rfl, g', e_call, if_neg (by decide), j1, e_call, if_neg (by decide)]
        simp (disch := omega) only [e_let, e_call, e_cal0, e_bind, e_lit, e_ofN, e_neg, nI_add, pk_mul, e_sub, e_ldi, e_sti, e_ldj, e_stj, e_le_t, e_le_f, e_lt_t, e_lt_f, e_eq_t, e_eq_f, e_no_eq, e_no_eq', e_no_rfl, e_no_lt, e_no_le, e_le_no, e_lt_no, if_true, if_false, ↓reduceIte, e_rs, e_rq, e_rn, e_ji, e_ki, e_ij, e_kj, e_js, e_jq, e_jn, e_cs, e_cq, e_jc, e_kc, e_js', e_jcq, e_icj, e_kcj, or_true, true_or, or_false, false_or, and_true, true_and, not_true_eq_false, not_false_eq_true, e9, d1, b_X12_in_43]
    · have j1 := j_isIn_f (T := m_si T m 0 (nI 0)) (i := i2) (n := 2) hb (by omega)
      have j1 : f_X12_isIn (m_si T m 0 (nI 0)) i2 (0 : Int32) (1 : Int32) = some (nI 0, m_si T m 0 (nI 0)) := j1
      refine Or.inr ⟨?_, nI 0, ?_⟩
      · rw [f_X11_in, g, e_call, if_neg (by decide)]
        rcases hb with hb | ⟨hb, hb2⟩
        · rw [if_pos (show i2 < (0 : Int32) from hb)]; rfl
        · have hb3 : (1 : Int32) < i2 := e_pr (n := 2) (by omega) hb2
          rw [if_neg (show ¬ i2 < (0 : Int32) from hb), if_neg (show ¬ i2 ≤ (1 : Int32) from Int32.not_le.mpr hb3)]; rfl
      · rw [f_X12_in, e_let, show m_si T m 0 (0 : Int32) = m_si T m 0 (nI 0) from rfl, g', e_call, if_neg (by decide), j1, e_call, if_pos (by decide)]
        rfl
  · have g := k_hasCell_f hM hB h
    have g' := j_isCell_f hN h
    refine Or.inr ⟨?_, nI 0, ?_⟩
    · simp (disch := omega) only [e_let, e_call, e_cal0, e_bind, e_lit, e_ofN, e_neg, nI_add, pk_mul, e_sub, e_ldi, e_sti, e_ldj, e_stj, e_le_t, e_le_f, e_lt_t, e_lt_f, e_eq_t, e_eq_f, e_no_eq, e_no_eq', e_no_rfl, e_no_lt, e_no_le, e_le_no, e_lt_no, if_true, if_false, ↓reduceIte, e_rs, e_rq, e_rn, e_ji, e_ki, e_ij, e_kj, e_js, e_jq, e_jn, e_cs, e_cq, e_jc, e_kc, e_js', e_jcq, e_icj, e_kcj, or_true, true_or, or_false, false_or, and_true, true_and, not_true_eq_false, not_false_eq_true, f_X11_in, g, b_X11_in_23]
    · rw [f_X12_in, e_let, show (0 : Int32) = nI 0 from rfl, g']
      simp (disch := omega) only [e_let, e_call, e_cal0, e_bind, e_lit, e_ofN, e_neg, nI_add, pk_mul, e_sub, e_ldi, e_sti, e_ldj, e_stj, e_le_t, e_le_f, e_lt_t, e_lt_f, e_eq_t, e_eq_f, e_no_eq, e_no_eq', e_no_rfl, e_no_lt, e_no_le, e_le_no, e_lt_no, if_true, if_false, ↓reduceIte, e_rs, e_rq, e_rn, e_ji, e_ki, e_ij, e_kj, e_js, e_jq, e_jn, e_cs, e_cq, e_jc, e_kc, e_js', e_jcq, e_icj, e_kcj, or_true, true_or, or_false, false_or, and_true, true_and, not_true_eq_false, not_false_eq_true, b_X12_in_39, f_X12_refuse, b_X12_in_43]
theorem e_ask6 (i : Int32) : i = nI 0 ∨ i = nI 1 ∨ i = nI 2 ∨ i = nI 3 ∨ i = nI 4 ∨ i = nI 5 ∨ (¬ i = nI 0 ∧ ¬ i = nI 1 ∧ ¬ i = nI 2 ∧ ¬ i = nI 3 ∧ ¬ i = nI 4 ∧ ¬ i = nI 5) := by
  by_cases h0 : i = nI 0 <;> by_cases h1 : i = nI 1 <;> by_cases h2 : i = nI 2 <;> by_cases h3 : i = nI 3 <;> by_cases h4 : i = nI 4 <;> by_cases h5 : i = nI 5 <;> simp [h0, h1, h2, h3, h4, h5]
theorem sx_fun (hV : s_V s) (hC : s_C S x s) (hR : s_R T m s) : s_XK S T m (f_X11_fun x S i1 i2) (f_X12_fun m T i1 i2) := by
  have hfu := m_fu_ge
  have hW := hV.2.2.2.1.1
  have hP : p_R S (x + 48) (w_p (s_w s)) := hC.2.2.1.1.1
  have hX : d_XX S (x + 56) (w_p (s_w s)) := hC.2.2.1.1.2.1
  have hR1 := s_th (v := nI 0) hR
  have hQ : r_P (m_ri (m_si T m 0 (nI 0)) (m + 2)) (w_p (s_w s)) := hR1.2.2.1.1.1
  have hD : d_TX (m_si T m 0 (nI 0)) m (w_p (s_w s)) := hR1.2.2.1.2.1
  have C := s_qP hV hC
  have C' := s_rC hV hR1
  generalize hU : m_si T m 0 (nI 0) = U at *
  generalize w_p (s_w s) = P at *
  have h5 := hW.1
  have w2 := hW.2.1
  rcases e_arg i1 (p_fu P) (by omega) with ⟨f, hf, rfl⟩ | hb
  · have g := k_hasFun_t (S := S) (p := x + 48) hP.1 (by omega) hf
    have g' := j_isFun_t hQ h5 hf
    have w3 := hW.2.2.1 f hf
    rw [f_X11_fun, g, e_call, if_neg (show ¬ nI 1 = (0 : Int32) by decide), f_X12_fun, e_let, show m_si T m 0 (0 : Int32) = U from hU, g', e_call, if_neg (show ¬ nI 1 = (0 : Int32) by decide), s_XK, hU]
    have o1 : m_ri S (x + 64) f = m_ri U (m + 18) f := e_bs_eq (hX.2.2.1.2.1 f hf).1 (hD.2.2.1 f hf).1
    have o2 : m_ri S (x + 65) f = m_ri U (m + 19) f := e_bs_eq (hX.2.2.1.2.1 f hf).2 (hD.2.2.1 f hf).2.1
    have o3 := hQ.2.2.1 f hf
    have q1 : m_ri S (x + 50) f = nI (p_pa P f) := hP.2.2.1 f hf
    have q2 : m_ri S (x + 52) f = nI (p_ct P f) := hP.2.2.2.2.1 f hf
    rcases e_ask6 i2 with rfl | rfl | rfl | rfl | rfl | rfl | hn
    · refine Or.inl ⟨nI (p_pa P f), ?_, ?_⟩
      · simp (disch := omega) only [e_let, e_call, e_cal0, e_bind, e_lit, e_ofN, e_neg, nI_add, pk_mul, e_sub, e_ldi, e_sti, e_ldj, e_stj, e_le_t, e_le_f, e_lt_t, e_lt_f, e_eq_t, e_eq_f, e_no_eq, e_no_eq', e_no_rfl, e_no_lt, e_no_le, e_le_no, e_lt_no, if_true, if_false, ↓reduceIte, e_rs, e_rq, e_rn, e_ji, e_ki, e_ij, e_kj, e_js, e_jq, e_jn, e_cs, e_cq, e_jc, e_kc, e_js', e_jcq, e_icj, e_kcj, or_true, true_or, or_false, false_or, and_true, true_and, not_true_eq_false, not_false_eq_true, q1]
      · simp (disch := omega) only [e_let, e_call, e_cal0, e_bind, e_lit, e_ofN, e_neg, nI_add, pk_mul, e_sub, e_ldi, e_sti, e_ldj, e_stj, e_le_t, e_le_f, e_lt_t, e_lt_f, e_eq_t, e_eq_f, e_no_eq, e_no_eq', e_no_rfl, e_no_lt, e_no_le, e_le_no, e_lt_no, if_true, if_false, ↓reduceIte, e_rs, e_rq, e_rn, e_ji, e_ki, e_ij, e_kj, e_js, e_jq, e_jn, e_cs, e_cq, e_jc, e_kc, e_js', e_jcq, e_icj, e_kcj, or_true, true_or, or_false, false_or, and_true, true_and, not_true_eq_false, not_false_eq_true, o3.1]
    · refine Or.inl ⟨nI (p_ct P f), ?_, ?_⟩
      · simp (disch := omega) only [e_let, e_call, e_cal0, e_bind, e_lit, e_ofN, e_neg, nI_add, pk_mul, e_sub, e_ldi, e_sti, e_ldj, e_stj, e_le_t, e_le_f, e_lt_t, e_lt_f, e_eq_t, e_eq_f, e_no_eq, e_no_eq', e_no_rfl, e_no_lt, e_no_le, e_le_no, e_lt_no, if_true, if_false, ↓reduceIte, e_rs, e_rq, e_rn, e_ji, e_ki, e_ij, e_kj, e_js, e_jq, e_jn, e_cs, e_cq, e_jc, e_kc, e_js', e_jcq, e_icj, e_kcj, or_true, true_or, or_false, false_or, and_true, true_and, not_true_eq_false, not_false_eq_true, q2]
      · simp (disch := omega) only [e_let, e_call, e_cal0, e_bind, e_lit, e_ofN, e_neg, nI_add, pk_mul, e_sub, e_ldi, e_sti, e_ldj, e_stj, e_le_t, e_le_f, e_lt_t, e_lt_f, e_eq_t, e_eq_f, e_no_eq, e_no_eq', e_no_rfl, e_no_lt, e_no_le, e_le_no, e_lt_no, if_true, if_false, ↓reduceIte, e_rs, e_rq, e_rn, e_ji, e_ki, e_ij, e_kj, e_js, e_jq, e_jn, e_cs, e_cq, e_jc, e_kc, e_js', e_jcq, e_icj, e_kcj, or_true, true_or, or_false, false_or, and_true, true_and, not_true_eq_false, not_false_eq_true, o3.2.2]
    · have k1 := k_cby hW hP hf (p_ct P f) 0 m_fu (by omega) (by omega)
      have j1 := j_cby hW hQ hf (p_ct P f) 0 m_fu (by omega) (by omega)
      have kk : f_X3_calledBy (x + 48) S (nI f) = some (c_by P f (p_ct P f), S) := by rw [f_X3_calledBy, e_ldi (by omega) (by omega), e_bind, hP.2.2.2.1 f hf]; exact k1
      have jj : f_X12_calledBy m U (nI f) = some (c_by P f (p_ct P f), U) := by rw [f_X12_calledBy]; exact j1
      refine Or.inl ⟨c_by P f (p_ct P f), ?_, ?_⟩
      · simp (disch := omega) only [e_let, e_call, e_cal0, e_bind, e_lit, e_ofN, e_neg, nI_add, pk_mul, e_sub, e_ldi, e_sti, e_ldj, e_stj, e_le_t, e_le_f, e_lt_t, e_lt_f, e_eq_t, e_eq_f, e_no_eq, e_no_eq', e_no_rfl, e_no_lt, e_no_le, e_le_no, e_lt_no, if_true, if_false, ↓reduceIte, e_rs, e_rq, e_rn, e_ji, e_ki, e_ij, e_kj, e_js, e_jq, e_jn, e_cs, e_cq, e_jc, e_kc, e_js', e_jcq, e_icj, e_kcj, or_true, true_or, or_false, false_or, and_true, true_and, not_true_eq_false, not_false_eq_true, kk]
      · simp (disch := omega) only [e_let, e_call, e_cal0, e_bind, e_lit, e_ofN, e_neg, nI_add, pk_mul, e_sub, e_ldi, e_sti, e_ldj, e_stj, e_le_t, e_le_f, e_lt_t, e_lt_f, e_eq_t, e_eq_f, e_no_eq, e_no_eq', e_no_rfl, e_no_lt, e_no_le, e_le_no, e_lt_no, if_true, if_false, ↓reduceIte, e_rs, e_rq, e_rn, e_ji, e_ki, e_ij, e_kj, e_js, e_jq, e_jn, e_cs, e_cq, e_jc, e_kc, e_js', e_jcq, e_icj, e_kcj, or_true, true_or, or_false, false_or, and_true, true_and, not_true_eq_false, not_false_eq_true, jj]
    · refine Or.inl ⟨m_ri U (m + 18) f, ?_, ?_⟩
      · simp (disch := omega) only [e_let, e_call, e_cal0, e_bind, e_lit, e_ofN, e_neg, nI_add, pk_mul, e_sub, e_ldi, e_sti, e_ldj, e_stj, e_le_t, e_le_f, e_lt_t, e_lt_f, e_eq_t, e_eq_f, e_no_eq, e_no_eq', e_no_rfl, e_no_lt, e_no_le, e_le_no, e_lt_no, if_true, if_false, ↓reduceIte, e_rs, e_rq, e_rn, e_ji, e_ki, e_ij, e_kj, e_js, e_jq, e_jn, e_cs, e_cq, e_jc, e_kc, e_js', e_jcq, e_icj, e_kcj, or_true, true_or, or_false, false_or, and_true, true_and, not_true_eq_false, not_false_eq_true, o1]
      · simp (disch := omega) only [e_let, e_call, e_cal0, e_bind, e_lit, e_ofN, e_neg, nI_add, pk_mul, e_sub, e_ldi, e_sti, e_ldj, e_stj, e_le_t, e_le_f, e_lt_t, e_lt_f, e_eq_t, e_eq_f, e_no_eq, e_no_eq', e_no_rfl, e_no_lt, e_no_le, e_le_no, e_lt_no, if_true, if_false, ↓reduceIte, e_rs, e_rq, e_rn, e_ji, e_ki, e_ij, e_kj, e_js, e_jq, e_jn, e_cs, e_cq, e_jc, e_kc, e_js', e_jcq, e_icj, e_kcj, or_true, true_or, or_false, false_or, and_true, true_and, not_true_eq_false, not_false_eq_true]
    · refine Or.inl ⟨m_ri U (m + 19) f, ?_, ?_⟩
      · simp (disch := omega) only [e_let, e_call, e_cal0, e_bind, e_lit, e_ofN, e_neg, nI_add, pk_mul, e_sub, e_ldi, e_sti, e_ldj, e_stj, e_le_t, e_le_f, e_lt_t, e_lt_f, e_eq_t, e_eq_f, e_no_eq, e_no_eq', e_no_rfl, e_no_lt, e_no_le, e_le_no, e_lt_no, if_true, if_false, ↓reduceIte, e_rs, e_rq, e_rn, e_ji, e_ki, e_ij, e_kj, e_js, e_jq, e_jn, e_cs, e_cq, e_jc, e_kc, e_js', e_jcq, e_icj, e_kcj, or_true, true_or, or_false, false_or, and_true, true_and, not_true_eq_false, not_false_eq_true, o2]
      · simp (disch := omega) only [e_let, e_call, e_cal0, e_bind, e_lit, e_ofN, e_neg, nI_add, pk_mul, e_sub, e_ldi, e_sti, e_ldj, e_stj, e_le_t, e_le_f, e_lt_t, e_lt_f, e_eq_t, e_eq_f, e_no_eq, e_no_eq', e_no_rfl, e_no_lt, e_no_le, e_le_no, e_lt_no, if_true, if_false, ↓reduceIte, e_rs, e_rq, e_rn, e_ji, e_ki, e_ij, e_kj, e_js, e_jq, e_jn, e_cs, e_cq, e_jc, e_kc, e_js', e_jcq, e_icj, e_kcj, or_true, true_or, or_false, false_or, and_true, true_and, not_true_eq_false, not_false_eq_true]
    · obtain ⟨i, hi⟩ : ∃ i, i + 1 = p_ct P f := ⟨p_ct P f - 1, by omega⟩
      have kl := k_left C hf hi
      by_cases ho : 8 ≤ p_op P (p_fi P f + i)
      · have jl := j_isLeft C' hf hi ho
        by_cases hq : q_lv P (d_of P) f i = true
        · rw [if_pos ⟨ho, hq⟩] at kl
          rw [if_pos hq] at jl
          refine Or.inl ⟨nI 1, ?_, ?_⟩
          · simp (disch := omega) only [e_let, e_call, e_cal0, e_bind, e_lit, e_ofN, e_neg, nI_add, pk_mul, e_sub, e_ldi, e_sti, e_ldj, e_stj, e_le_t, e_le_f, e_lt_t, e_lt_f, e_eq_t, e_eq_f, e_no_eq, e_no_eq', e_no_rfl, e_no_lt, e_no_le, e_le_no, e_lt_no, if_true, if_false, ↓reduceIte, e_rs, e_rq, e_rn, e_ji, e_ki, e_ij, e_kj, e_js, e_jq, e_jn, e_cs, e_cq, e_jc, e_kc, e_js', e_jcq, e_icj, e_kcj, or_true, true_or, or_false, false_or, and_true, true_and, not_true_eq_false, not_false_eq_true, kl, b_X11_fun_117]
          · simp (disch := omega) only [e_let, e_call, e_cal0, e_bind, e_lit, e_ofN, e_neg, nI_add, pk_mul, e_sub, e_ldi, e_sti, e_ldj, e_stj, e_le_t, e_le_f, e_lt_t, e_lt_f, e_eq_t, e_eq_f, e_no_eq, e_no_eq', e_no_rfl, e_no_lt, e_no_le, e_le_no, e_lt_no, if_true, if_false, ↓reduceIte, e_rs, e_rq, e_rn, e_ji, e_ki, e_ij, e_kj, e_js, e_jq, e_jn, e_cs, e_cq, e_jc, e_kc, e_js', e_jcq, e_icj, e_kcj, or_true, true_or, or_false, false_or, and_true, true_and, not_true_eq_false, not_false_eq_true, jl, b_X12_fun_108]
        · rw [if_neg (fun z => hq z.2)] at kl
          rw [if_neg hq] at jl
          refine Or.inl ⟨nI 0, ?_, ?_⟩
          · simp (disch := omega) only [e_let, e_call, e_cal0, e_bind, e_lit, e_ofN, e_neg, nI_add, pk_mul, e_sub, e_ldi, e_sti, e_ldj, e_stj, e_le_t, e_le_f, e_lt_t, e_lt_f, e_eq_t, e_eq_f, e_no_eq, e_no_eq', e_no_rfl, e_no_lt, e_no_le, e_le_no, e_lt_no, if_true, if_false, ↓reduceIte, e_rs, e_rq, e_rn, e_ji, e_ki, e_ij, e_kj, e_js, e_jq, e_jn, e_cs, e_cq, e_jc, e_kc, e_js', e_jcq, e_icj, e_kcj, or_true, true_or, or_false, false_or, and_true, true_and, not_true_eq_false, not_false_eq_true, kl, b_X11_fun_117]
          · simp (disch := omega) only [e_let, e_call, e_cal0, e_bind, e_lit, e_ofN, e_neg, nI_add, pk_mul, e_sub, e_ldi, e_sti, e_ldj, e_stj, e_le_t, e_le_f, e_lt_t, e_lt_f, e_eq_t, e_eq_f, e_no_eq, e_no_eq', e_no_rfl, e_no_lt, e_no_le, e_le_no, e_lt_no, if_true, if_false, ↓reduceIte, e_rs, e_rq, e_rn, e_ji, e_ki, e_ij, e_kj, e_js, e_jq, e_jn, e_cs, e_cq, e_jc, e_kc, e_js', e_jcq, e_icj, e_kcj, or_true, true_or, or_false, false_or, and_true, true_and, not_true_eq_false, not_false_eq_true, jl, b_X12_fun_108]
      · have jl := j_left0 hW hQ hf hi ho
        rw [if_neg (fun z => ho z.1)] at kl
        refine Or.inl ⟨nI 0, ?_, ?_⟩
        · simp (disch := omega) only [e_let, e_call, e_cal0, e_bind, e_lit, e_ofN, e_neg, nI_add, pk_mul, e_sub, e_ldi, e_sti, e_ldj, e_stj, e_le_t, e_le_f, e_lt_t, e_lt_f, e_eq_t, e_eq_f, e_no_eq, e_no_eq', e_no_rfl, e_no_lt, e_no_le, e_le_no, e_lt_no, if_true, if_false, ↓reduceIte, e_rs, e_rq, e_rn, e_ji, e_ki, e_ij, e_kj, e_js, e_jq, e_jn, e_cs, e_cq, e_jc, e_kc, e_js', e_jcq, e_icj, e_kcj, or_true, true_or, or_false, false_or, and_true, true_and, not_true_eq_false, not_false_eq_true, kl, b_X11_fun_117]
        · simp (disch := omega) only [e_let, e_call, e_cal0, e_bind, e_lit, e_ofN, e_neg, nI_add, pk_mul, e_sub, e_ldi, e_sti, e_ldj, e_stj, e_le_t, e_le_f, e_lt_t, e_lt_f, e_eq_t, e_eq_f, e_no_eq, e_no_eq', e_no_rfl, e_no_lt, e_no_le, e_le_no, e_lt_no, if_true, if_false, ↓reduceIte, e_rs, e_rq, e_rn, e_ji, e_ki, e_ij, e_kj, e_js, e_jq, e_jn, e_cs, e_cq, e_jc, e_kc, e_js', e_jcq, e_icj, e_kcj, or_true, true_or, or_false, false_or, and_true, true_and, not_true_eq_false, not_false_eq_true, jl, b_X12_fun_108]
    · obtain ⟨n0, n1, n2, n3, n4, n5⟩ := hn
      have n0 : ¬ i2 = (0 : Int32) := n0
      have n1 : ¬ i2 = (1 : Int32) := n1
      have n2 : ¬ i2 = (2 : Int32) := n2
      have n3 : ¬ i2 = (3 : Int32) := n3
      have n4 : ¬ i2 = (4 : Int32) := n4
      have n5 : ¬ i2 = (5 : Int32) := n5
      rw [if_neg n0, if_neg n1, if_neg n2, if_neg n3, if_neg n4, if_neg n5, if_neg n0, if_neg n1, if_neg n2, if_neg n3, if_neg n4, if_neg n5]
      exact Or.inr ⟨rfl, nI 0, rfl⟩
  · have g := k_hasFun_f (S := S) (p := x + 48) hP.1 (by omega) hb
    have g' := j_isFun_f hQ h5 hb
    rw [f_X11_fun, g, e_call, if_pos (show nI 0 = (0 : Int32) by decide), f_X12_fun, e_let, show m_si T m 0 (0 : Int32) = U from hU, g', e_call, if_pos (show nI 0 = (0 : Int32) by decide), s_XK, hU]
    exact Or.inr ⟨rfl, nI 0, rfl⟩
end XQ
