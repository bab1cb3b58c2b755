/-! a line more, both sides -/
def v_nl (P : pP) : pP := fun a b => if a = 3 ∧ b = p_fu P - 1 then P 3 b + 1 else if a = 0 ∧ b = 1 then P 0 1 + 1 else P a b
section VL
variable {S S' S'' T T' T'' : m_M} {x m l : Nat} {t : Nat → Nat} {N L p : Nat} {P : pP} {n w : Nat → Int64} {o c u : Nat} {va : Nat → Nat}
theorem v_nl_o {a b : Nat} (h : a ≠ 3) (h' : a ≠ 0) : v_nl P a b = P a b := by simp only [v_nl]; rw [if_neg (by omega), if_neg (by omega)]
theorem v_nl_fu : p_fu (v_nl P) = p_fu P := by simp [p_fu, v_nl]
theorem v_nl_ln : p_ln (v_nl P) = p_ln P + 1 := by simp [p_ln, v_nl]
theorem v_nl_pa {f : Nat} : p_pa (v_nl P) f = p_pa P f := v_nl_o (by omega) (by omega)
theorem v_nl_fi {f : Nat} : p_fi (v_nl P) f = p_fi P f := v_nl_o (by omega) (by omega)
theorem v_nl_op {j : Nat} : p_op (v_nl P) j = p_op P j := v_nl_o (by omega) (by omega)
theorem v_nl_ca {j : Nat} : p_ca (v_nl P) j = p_ca P j := v_nl_o (by omega) (by omega)
theorem v_nl_nu {j : Nat} : p_nu (v_nl P) j = p_nu P j := v_nl_o (by omega) (by omega)
theorem v_nl_va {j k : Nat} : p_va (v_nl P) j k = p_va P j k := v_nl_o (by omega) (by omega)
theorem v_nl_us {j k : Nat} : p_us (v_nl P) j k = p_us P j k := by simp only [p_us, v_nl_op, v_nl_ca, v_nl_pa]
theorem v_nl_sl {j s : Nat} : p_sl (v_nl P) j s = p_sl P j s := by simp only [p_sl, v_nl_op, v_nl_ca, v_nl_pa]
theorem v_nl_ct {f : Nat} : p_ct (v_nl P) f = if f = p_fu P - 1 then p_ct P f + 1 else p_ct P f := by
  by_cases h : f = p_fu P - 1
  · rw [if_pos h]; simp [p_ct, v_nl, h]
  · rw [if_neg h]; simp [p_ct, v_nl, h]
theorem v_eo {j : Nat} (h : j ≠ l) : p_op (v_ed P l o c u va) j = p_op P j ∧ p_ca (v_ed P l o c u va) j = p_ca P j ∧ p_nu (v_ed P l o c u va) j = p_nu P j ∧ (∀ k, k < 5 → p_va (v_ed P l o c u va) j k = p_va P j k) ∧ (∀ k, p_us (v_ed P l o c u va) j k = p_us P j k) ∧ ∀ s, p_sl (v_ed P l o c u va) j s = p_sl P j s := by
  have h1 : p_op (v_ed P l o c u va) j = p_op P j := v_ed_l h (by omega)
  have h2 : p_ca (v_ed P l o c u va) j = p_ca P j := v_ed_l h (by omega)
  refine ⟨h1, h2, v_ed_l h (by omega), fun k hk => ?_, fun k => ?_, fun s => ?_⟩
  · simp only [p_va, v_ed]
    rw [if_neg (by omega), if_neg (by omega), if_neg (by omega), if_neg (by omega)]
  · simp only [p_us, h1, h2, v_ed_pa]
  · simp only [p_sl, h1, h2, v_ed_pa]
theorem v_us5 (hW : v_W P) {f i k : Nat} (hf : f < p_fu P) (hi : i < p_ct P f) (hu : p_us P (p_fi P f + i) k) : k < 5 := by
  obtain ⟨h9, _, hc, _⟩ := hW.2.2.2.2.1 f i hf hi
  have h : p_op P (p_fi P f + i) = 0 ∨ (1 ≤ p_op P (p_fi P f + i) ∧ p_op P (p_fi P f + i) ≤ 7) ∨ p_op P (p_fi P f + i) = 8 ∨ p_op P (p_fi P f + i) = 9 := by omega
  rcases h with h | h | h | h
  · simp only [p_us, h] at hu
  · rw [v_us_v h.1 h.2] at hu
    have : v_ar (p_op P (p_fi P f + i)) ≤ 3 := by simp only [v_ar]; repeat (first | omega | split)
    omega
  · have := (hW.2.2.1 _ (hc (by omega))).1
    simp only [p_us, h] at hu; omega
  · have := (hW.2.2.1 _ (hc (by omega))).1
    simp only [p_us, h] at hu; omega
/-- the new line is the last one of the last fun -/
theorem v_ix_n (hW : v_W P) (hf : 0 < p_fu P) {f i : Nat} (h1 : f < p_fu P) (h2 : i < p_ct (v_nl (v_ed P (p_ln P) o c u va)) f) : (f = p_fu P - 1 ∧ i = p_ct P f ∧ p_fi P f + i = p_ln P) ∨ (i < p_ct P f ∧ p_fi P f + i ≠ p_ln P) := by
  obtain ⟨_, _, w3, w4⟩ := hW.2.2.1 f h1
  rw [v_nl_ct, v_ed_fu, show p_ct (v_ed P (p_ln P) o c u va) f = p_ct P f from v_ed_h (by omega)] at h2
  by_cases h : f = p_fu P - 1
  · rw [if_pos h] at h2
    have := w4 (by omega)
    rcases Nat.lt_or_ge i (p_ct P f) with g | g
    · exact Or.inr ⟨g, by omega⟩
    · exact Or.inl ⟨h, by omega, by omega⟩
  · rw [if_neg h] at h2
    exact Or.inr ⟨h2, by omega⟩
theorem v_W_nl (hW : v_W P) (hf : 0 < p_fu P) (hl : p_ln P < 24) (hL : p_op (v_ed P (p_ln P) o c u va) (p_ln P) ≤ 9 ∧ p_nu (v_ed P (p_ln P) o c u va) (p_ln P) ≤ 999 ∧ (8 ≤ p_op (v_ed P (p_ln P) o c u va) (p_ln P) → p_ca (v_ed P (p_ln P) o c u va) (p_ln P) < p_fu (v_ed P (p_ln P) o c u va)) ∧ ∀ k, p_us (v_ed P (p_ln P) o c u va) (p_ln P) k → k < 5 ∧ p_va (v_ed P (p_ln P) o c u va) (p_ln P) k < v_n (v_ed P (p_ln P) o c u va)) : v_W (v_nl (v_ed P (p_ln P) o c u va)) := by
  have hct : ∀ f, p_ct (v_nl (v_ed P (p_ln P) o c u va)) f = if f = p_fu P - 1 then p_ct P f + 1 else p_ct P f := fun f => by
    rw [v_nl_ct, v_ed_fu, show p_ct (v_ed P (p_ln P) o c u va) f = p_ct P f from v_ed_h (by omega)]
  have hfi : ∀ f, p_fi (v_nl (v_ed P (p_ln P) o c u va)) f = p_fi P f := fun f => by rw [v_nl_fi]; exact v_ed_h (by omega)
  have hln : p_ln (v_nl (v_ed P (p_ln P) o c u va)) = p_ln P + 1 := by rw [v_nl_ln]; rw [show p_ln (v_ed P (p_ln P) o c u va) = p_ln P from v_ed_h (by omega)]
  have hpa : ∀ f, p_pa (v_nl (v_ed P (p_ln P) o c u va)) f = p_pa P f := fun f => by rw [v_nl_pa, v_ed_pa]
  have hvn : v_n (v_ed P (p_ln P) o c u va) = p_pa P (p_fu P - 1) + p_ct P (p_fu P - 1) := by
    rw [v_ed_n, v_n, if_neg (by omega)]; rfl
  refine ⟨?_, ?_, fun f h1 => ?_, fun f g h1 h2 => ?_, fun f i h1 h2 => ?_, fun h => ?_, fun f i h1 h2 h8 => ?_⟩
  · rw [v_nl_fu, v_ed_fu]; exact hW.1
  · rw [hln]; omega
  · rw [v_nl_fu, v_ed_fu] at h1
    obtain ⟨w1, w2, w3, w4⟩ := hW.2.2.1 f h1
    rw [hpa, hct, hfi, hln, v_nl_fu, v_ed_fu]
    refine ⟨w1, fun h => ?_, ?_, fun h => ?_⟩
    · rw [if_neg (by omega)]; exact w2 h
    · split <;> omega
    · rw [if_pos (by omega)]; have := w4 h; omega
  · rw [v_nl_fu, v_ed_fu] at h2
    rw [hfi, hfi, hct, if_neg (by omega)]
    exact hW.2.2.2.1 f g h1 h2
  · rw [v_nl_fu, v_ed_fu] at h1
    rw [hfi, hpa]
    rcases v_ix_n hW hf h1 h2 with ⟨e1, e2, e3⟩ | ⟨e1, e2⟩
    · rw [e3, v_nl_op, v_nl_nu, v_nl_ca, v_nl_fu]
      refine ⟨hL.1, hL.2.1, hL.2.2.1, fun k hk => ?_⟩
      rw [v_nl_us] at hk
      rw [v_nl_va]
      have := (hL.2.2.2 k hk).2
      rw [hvn, ← e1] at this
      omega
    · obtain ⟨q1, q2, q3, q4, q5, q6⟩ := v_eo (P := P) (l := p_ln P) (o := o) (c := c) (u := u) (va := va) e2
      obtain ⟨g1, g2, g3, g4⟩ := hW.2.2.2.2.1 f i h1 e1
      rw [v_nl_op, v_nl_nu, v_nl_ca, v_nl_fu, q1, q2, q3, v_ed_fu]
      refine ⟨g1, g2, g3, fun k hk => ?_⟩
      rw [v_nl_us, q5] at hk
      rw [v_nl_va, q4 k (v_us5 hW h1 e1 hk)]
      exact g4 k hk
  · rw [v_nl_fu, v_ed_fu] at h; omega
  · rw [v_nl_fu, v_ed_fu] at h1
    rw [hfi, v_nl_op] at h8
    rw [hfi, v_nl_ca]
    rcases v_ix_n hW hf h1 h2 with ⟨e1, e2, e3⟩ | ⟨e1, e2⟩
    · rw [e3] at h8 ⊢
      have := hL.2.2.1 h8
      rw [v_ed_fu] at this
      omega
    · obtain ⟨q1, q2, _⟩ := v_eo (P := P) (l := p_ln P) (o := o) (c := c) (u := u) (va := va) e2
      rw [q1] at h8
      rw [q2]
      exact hW.2.2.2.2.2.2 f i h1 e1 h8
/-- what the reader of a program writes but for its Tokens -/
def v_pf (x : Nat) (S S' : m_M) : Prop := (∀ q, q < x + 2 ∨ (x + 25 ≤ q ∧ q < x + 30) ∨ x + 31 ≤ q → m_ri S' q = m_ri S q ∧ m_rj S' q = m_rj S q) ∧ m_rr S' = m_rr S
theorem v_pf.rf {x : Nat} {S : m_M} : v_pf x S S := ⟨fun _ _ => ⟨rfl, rfl⟩, rfl⟩
theorem v_pf.si {x q i : Nat} {S S' : m_M} {v : Int32} (h : v_pf x S S') (h1 : x + 2 ≤ q) (h2 : q < x + 25 ∨ q = x + 30) : v_pf x S (m_si S' q i v) := ⟨fun q' hq => ⟨by rw [e_rq (by omega)]; exact (h.1 q' hq).1, (h.1 q' hq).2⟩, h.2⟩
theorem v_pf.sj {x q i : Nat} {S S' : m_M} {v : Int64} (h : v_pf x S S') (h1 : x + 2 ≤ q) (h2 : q < x + 25 ∨ q = x + 30) : v_pf x S (m_sj S' q i v) := ⟨fun q' hq => ⟨(h.1 q' hq).1, by rw [e_jq (by omega)]; exact (h.1 q' hq).2⟩, h.2⟩
/-- the var's name is added, and the line is closed -/
theorem v_add {W : Int64} (hW : v_W P) (hf : 0 < p_fu P) (hl : p_ln P < 24) (hS : v_QS S x P n w) (hT : v_QT T m P n w) (hL : v_LL S T x m (v_ed P (p_ln P) o c u va) (p_ln P)) :
    ∃ S' T', (m_cal0 (f_X4_addVar x S W) fun S15 => f_X3_closeLine (x + 3) S15) = some S' ∧ (m_call (f_X12_varsOf m (m + 3) 210 T (nI (p_fu P - 1))) fun v7 S6 => (m_stj S6 (m + 10) 135 (((27 : Int32) * nI (p_fu P - 1)) + v7) W).bind fun S8 => (m_ldi S8 (m + 3) 210 ((13 : Int32) + nI (p_fu P - 1))).bind fun v9 => (m_sti S8 (m + 3) 210 ((13 : Int32) + nI (p_fu P - 1)) (v9 + (1 : Int32))).bind fun S10 => (m_ldi S10 (m + 3) 210 (1 : Int32)).bind fun v11 => (m_sti S10 (m + 3) 210 (1 : Int32) (v11 + (1 : Int32))).bind fun S12 => if (1 : Int32) = 0 ∨ (1 : Int32) = 1 then some ((1 : Int32), S12) else none) = some (nI 1, T') ∧
      v_QS S' x (v_nl (v_ed P (p_ln P) o c u va)) n (fun v => if v = v_n P then W else w v) ∧ v_QT T' m (v_nl (v_ed P (p_ln P) o c u va)) n (fun v => if v = v_n P then W else w v) ∧ v_pf x S S' ∧ (∀ q, q ≠ m + 3 → m_ri T' q = m_ri T q) ∧ (∀ q, q ≠ m + 10 → m_rj T' q = m_rj T q) ∧ m_rr T' = m_rr T := by
  have hf5 := hW.1
  have h27 := v_n_le hW
  have hS0 := hS
  have hT0 := hT
  obtain ⟨⟨r1, r2, r3, r4, r5, r6⟩, h2, h3, h4⟩ := hS
  obtain ⟨⟨s1, s2, s3, s4⟩, z2, z3, z4⟩ := hT
  obtain ⟨w1, _, w3, w4⟩ := hW.2.2.1 (p_fu P - 1) (by omega)
  have w4 := w4 (by omega)
  obtain ⟨l1, l2, l3⟩ := hL
  have hvn : v_n P = p_pa P (p_fu P - 1) + p_ct P (p_fu P - 1) := by rw [v_n, if_neg (by omega)]; rfl
  have hct : ∀ f, p_ct (v_nl (v_ed P (p_ln P) o c u va)) f = if f = p_fu P - 1 then p_ct P f + 1 else p_ct P f := fun f => by
    rw [v_nl_ct, v_ed_fu, show p_ct (v_ed P (p_ln P) o c u va) f = p_ct P f from v_ed_h (by omega)]
  have hfi : ∀ f, p_fi (v_nl (v_ed P (p_ln P) o c u va)) f = p_fi P f := fun f => by rw [v_nl_fi]; exact v_ed_h (by omega)
  have hln : p_ln (v_nl (v_ed P (p_ln P) o c u va)) = p_ln P + 1 := by rw [v_nl_ln]; rw [show p_ln (v_ed P (p_ln P) o c u va) = p_ln P from v_ed_h (by omega)]
  have hpa : ∀ f, p_pa (v_nl (v_ed P (p_ln P) o c u va)) f = p_pa P f := fun f => by rw [v_nl_pa, v_ed_pa]
  have hfu' : p_fu (v_nl (v_ed P (p_ln P) o c u va)) = p_fu P := by rw [v_nl_fu, v_ed_fu]
  have hvn' : v_n (v_nl (v_ed P (p_ln P) o c u va)) = v_n P + 1 := by
    rw [v_n, hfu', if_neg (by omega)]
    simp only [p_vs]
    rw [hpa, hct, if_pos rfl, hvn]; omega
  have r5' := r5 (p_fu P - 1) (by omega)
  obtain ⟨s31, s32, s33⟩ := s3 (p_fu P - 1) (by omega)
  refine ⟨m_si (m_si (m_si (m_sj S (x + 30) (v_n P) W) (x + 2) 3 (nI (v_n P + 1))) (x + 7) (p_fu P - 1) (nI (p_ct P (p_fu P - 1) + 1))) (x + 3) 1 (nI (p_ln P + 1)), m_si (m_si (m_sj T (m + 10) (27 * (p_fu P - 1) + v_n P) W) (m + 3) (13 + (p_fu P - 1)) (nI (p_ct P (p_fu P - 1) + 1))) (m + 3) 1 (nI (p_ln P + 1)), ?_, ?_, ⟨⟨?_, ?_, fun f h => ?_, fun f h => ?_, fun f h => ?_, fun f i h hi => ?_⟩, fun f h => ?_, ?_, fun v hv => ?_⟩, ⟨⟨?_, ?_, fun f h => ?_, fun f i h hi => ?_⟩, fun f h h' => ?_, fun f h => ?_, fun v hv => ?_⟩, ?_, ?_, ?_, rfl⟩
  · simp (disch := omega) only [e_let, e_call, e_cal0, e_bind, e_lit, e_ofN, e_neg, nI_add, pk_mul, e_sub, e_ldi, e_sti, e_ldj, e_stj, e_le_t, e_le_f, e_lt_t, e_lt_f, e_eq_t, e_eq_f, e_no_eq, e_no_eq', e_no_rfl, e_no_lt, e_no_le, e_le_no, e_lt_no, if_true, if_false, ↓reduceIte, e_rs, e_rq, e_rn, e_ji, e_ki, e_ij, e_kj, e_js, e_jq, e_jn, e_cs, e_cq, e_jc, e_kc, e_js', e_jcq, e_icj, e_kcj, or_true, true_or, or_false, false_or, and_true, true_and, not_true_eq_false, not_false_eq_true, f_X4_addVar, h3, b_X4_addVar_29, f_X3_closeLine, r1, r2, r5', show x + 3 + 4 = x + 7 from rfl]
  · rw [hvn]
    simp (disch := omega) only [e_let, e_call, e_cal0, e_bind, e_lit, e_ofN, e_neg, nI_add, pk_mul, e_sub, e_ldi, e_sti, e_ldj, e_stj, e_le_t, e_le_f, e_lt_t, e_lt_f, e_eq_t, e_eq_f, e_no_eq, e_no_eq', e_no_rfl, e_no_lt, e_no_le, e_le_no, e_lt_no, if_true, if_false, ↓reduceIte, e_rs, e_rq, e_rn, e_ji, e_ki, e_ij, e_kj, e_js, e_jq, e_jn, e_cs, e_cq, e_jc, e_kc, e_js', e_jcq, e_icj, e_kcj, or_true, true_or, or_false, false_or, and_true, true_and, not_true_eq_false, not_false_eq_true, f_X12_varsOf, s31, s33, s2]
  · rw [hfu']; simp (disch := omega) only [e_let, e_call, e_cal0, e_bind, e_lit, e_ofN, e_neg, nI_add, pk_mul, e_sub, e_ldi, e_sti, e_ldj, e_stj, e_le_t, e_le_f, e_lt_t, e_lt_f, e_eq_t, e_eq_f, e_no_eq, e_no_eq', e_no_rfl, e_no_lt, e_no_le, e_le_no, e_lt_no, if_true, if_false, ↓reduceIte, e_rs, e_rq, e_rn, e_ji, e_ki, e_ij, e_kj, e_js, e_jq, e_jn, e_cs, e_cq, e_jc, e_kc, e_js', e_jcq, e_icj, e_kcj, or_true, true_or, or_false, false_or, and_true, true_and, not_true_eq_false, not_false_eq_true, r1]
  · rw [hln]; simp (disch := omega) only [e_let, e_call, e_cal0, e_bind, e_lit, e_ofN, e_neg, nI_add, pk_mul, e_sub, e_ldi, e_sti, e_ldj, e_stj, e_le_t, e_le_f, e_lt_t, e_lt_f, e_eq_t, e_eq_f, e_no_eq, e_no_eq', e_no_rfl, e_no_lt, e_no_le, e_le_no, e_lt_no, if_true, if_false, ↓reduceIte, e_rs, e_rq, e_rn, e_ji, e_ki, e_ij, e_kj, e_js, e_jq, e_jn, e_cs, e_cq, e_jc, e_kc, e_js', e_jcq, e_icj, e_kcj, or_true, true_or, or_false, false_or, and_true, true_and, not_true_eq_false, not_false_eq_true]
  · rw [hfu'] at h; rw [hpa]; simp (disch := omega) only [e_let, e_call, e_cal0, e_bind, e_lit, e_ofN, e_neg, nI_add, pk_mul, e_sub, e_ldi, e_sti, e_ldj, e_stj, e_le_t, e_le_f, e_lt_t, e_lt_f, e_eq_t, e_eq_f, e_no_eq, e_no_eq', e_no_rfl, e_no_lt, e_no_le, e_le_no, e_lt_no, if_true, if_false, ↓reduceIte, e_rs, e_rq, e_rn, e_ji, e_ki, e_ij, e_kj, e_js, e_jq, e_jn, e_cs, e_cq, e_jc, e_kc, e_js', e_jcq, e_icj, e_kcj, or_true, true_or, or_false, false_or, and_true, true_and, not_true_eq_false, not_false_eq_true, r3 f h]
  · rw [hfu'] at h; rw [hfi]; simp (disch := omega) only [e_let, e_call, e_cal0, e_bind, e_lit, e_ofN, e_neg, nI_add, pk_mul, e_sub, e_ldi, e_sti, e_ldj, e_stj, e_le_t, e_le_f, e_lt_t, e_lt_f, e_eq_t, e_eq_f, e_no_eq, e_no_eq', e_no_rfl, e_no_lt, e_no_le, e_le_no, e_lt_no, if_true, if_false, ↓reduceIte, e_rs, e_rq, e_rn, e_ji, e_ki, e_ij, e_kj, e_js, e_jq, e_jn, e_cs, e_cq, e_jc, e_kc, e_js', e_jcq, e_icj, e_kcj, or_true, true_or, or_false, false_or, and_true, true_and, not_true_eq_false, not_false_eq_true, r4 f h]
  · rw [hfu'] at h
    rw [hct, show x + 3 + 4 = x + 7 from rfl, e_rq (by omega), e_rif]
    by_cases e : f = p_fu P - 1
    · rw [if_pos e, if_pos e, e]
    · rw [if_neg e, if_neg e, e_rq (by omega)]; exact r5 f h
  · rw [hfu'] at h
    rw [hfi, v_nl_op, v_nl_ca, v_nl_nu]
    simp only [v_nl_us, v_nl_sl, v_nl_va]
    rw [show x + 3 + 5 = x + 8 from rfl, show x + 3 + 6 = x + 9 from rfl, show x + 3 + 7 = x + 10 from rfl, e_rq (by omega), e_rq (by omega), e_rq (by omega), e_rq (by omega), e_rq (by omega), e_rq (by omega), e_rq (by omega), e_rq (by omega), e_rq (by omega), e_ij]
    rcases v_ix_n hW hf h hi with ⟨e1, e2, e3⟩ | ⟨e1, e2⟩
    · rw [e3]; exact l1
    · obtain ⟨q1, q2, q3, q4, q5, q6⟩ := v_eo (P := P) (l := p_ln P) (o := o) (c := c) (u := u) (va := va) e2
      obtain ⟨g1, g2, g3, g4⟩ := r6 f i h e1
      rw [q1, q2, q3]
      refine ⟨g1, g2, g3, fun s hs hu => ?_⟩
      rw [q5, q6] at hu
      rw [q6, q4 _ (v_us5 hW h e1 hu)]
      exact g4 s hs hu
  · rw [hfu'] at h; simp (disch := omega) only [e_let, e_call, e_cal0, e_bind, e_lit, e_ofN, e_neg, nI_add, pk_mul, e_sub, e_ldi, e_sti, e_ldj, e_stj, e_le_t, e_le_f, e_lt_t, e_lt_f, e_eq_t, e_eq_f, e_no_eq, e_no_eq', e_no_rfl, e_no_lt, e_no_le, e_le_no, e_lt_no, if_true, if_false, ↓reduceIte, e_rs, e_rq, e_rn, e_ji, e_ki, e_ij, e_kj, e_js, e_jq, e_jn, e_cs, e_cq, e_jc, e_kc, e_js', e_jcq, e_icj, e_kcj, or_true, true_or, or_false, false_or, and_true, true_and, not_true_eq_false, not_false_eq_true, h2 f h]
  · rw [hvn']; simp (disch := omega) only [e_let, e_call, e_cal0, e_bind, e_lit, e_ofN, e_neg, nI_add, pk_mul, e_sub, e_ldi, e_sti, e_ldj, e_stj, e_le_t, e_le_f, e_lt_t, e_lt_f, e_eq_t, e_eq_f, e_no_eq, e_no_eq', e_no_rfl, e_no_lt, e_no_le, e_le_no, e_lt_no, if_true, if_false, ↓reduceIte, e_rs, e_rq, e_rn, e_ji, e_ki, e_ij, e_kj, e_js, e_jq, e_jn, e_cs, e_cq, e_jc, e_kc, e_js', e_jcq, e_icj, e_kcj, or_true, true_or, or_false, false_or, and_true, true_and, not_true_eq_false, not_false_eq_true]
  · rw [hvn'] at hv
    dsimp only
    by_cases e : v = v_n P
    · rw [if_pos e, e]; simp (disch := omega) only [e_let, e_call, e_cal0, e_bind, e_lit, e_ofN, e_neg, nI_add, pk_mul, e_sub, e_ldi, e_sti, e_ldj, e_stj, e_le_t, e_le_f, e_lt_t, e_lt_f, e_eq_t, e_eq_f, e_no_eq, e_no_eq', e_no_rfl, e_no_lt, e_no_le, e_le_no, e_lt_no, if_true, if_false, ↓reduceIte, e_rs, e_rq, e_rn, e_ji, e_ki, e_ij, e_kj, e_js, e_jq, e_jn, e_cs, e_cq, e_jc, e_kc, e_js', e_jcq, e_icj, e_kcj, or_true, true_or, or_false, false_or, and_true, true_and, not_true_eq_false, not_false_eq_true]
    · rw [if_neg e]; simp (disch := omega) only [e_let, e_call, e_cal0, e_bind, e_lit, e_ofN, e_neg, nI_add, pk_mul, e_sub, e_ldi, e_sti, e_ldj, e_stj, e_le_t, e_le_f, e_lt_t, e_lt_f, e_eq_t, e_eq_f, e_no_eq, e_no_eq', e_no_rfl, e_no_lt, e_no_le, e_le_no, e_lt_no, if_true, if_false, ↓reduceIte, e_rs, e_rq, e_rn, e_ji, e_ki, e_ij, e_kj, e_js, e_jq, e_jn, e_cs, e_cq, e_jc, e_kc, e_js', e_jcq, e_icj, e_kcj, or_true, true_or, or_false, false_or, and_true, true_and, not_true_eq_false, not_false_eq_true]; exact h4 v (by omega)
  · rw [hfu']; simp (disch := omega) only [e_let, e_call, e_cal0, e_bind, e_lit, e_ofN, e_neg, nI_add, pk_mul, e_sub, e_ldi, e_sti, e_ldj, e_stj, e_le_t, e_le_f, e_lt_t, e_lt_f, e_eq_t, e_eq_f, e_no_eq, e_no_eq', e_no_rfl, e_no_lt, e_no_le, e_le_no, e_lt_no, if_true, if_false, ↓reduceIte, e_rs, e_rq, e_rn, e_ji, e_ki, e_ij, e_kj, e_js, e_jq, e_jn, e_cs, e_cq, e_jc, e_kc, e_js', e_jcq, e_icj, e_kcj, or_true, true_or, or_false, false_or, and_true, true_and, not_true_eq_false, not_false_eq_true, s1]
  · rw [hln]; simp (disch := omega) only [e_let, e_call, e_cal0, e_bind, e_lit, e_ofN, e_neg, nI_add, pk_mul, e_sub, e_ldi, e_sti, e_ldj, e_stj, e_le_t, e_le_f, e_lt_t, e_lt_f, e_eq_t, e_eq_f, e_no_eq, e_no_eq', e_no_rfl, e_no_lt, e_no_le, e_le_no, e_lt_no, if_true, if_false, ↓reduceIte, e_rs, e_rq, e_rn, e_ji, e_ki, e_ij, e_kj, e_js, e_jq, e_jn, e_cs, e_cq, e_jc, e_kc, e_js', e_jcq, e_icj, e_kcj, or_true, true_or, or_false, false_or, and_true, true_and, not_true_eq_false, not_false_eq_true]
  · rw [hfu'] at h
    obtain ⟨a1, a2, a3⟩ := s3 f h
    rw [hpa, hfi, hct]
    refine ⟨?_, ?_, ?_⟩
    · simp (disch := omega) only [e_let, e_call, e_cal0, e_bind, e_lit, e_ofN, e_neg, nI_add, pk_mul, e_sub, e_ldi, e_sti, e_ldj, e_stj, e_le_t, e_le_f, e_lt_t, e_lt_f, e_eq_t, e_eq_f, e_no_eq, e_no_eq', e_no_rfl, e_no_lt, e_no_le, e_le_no, e_lt_no, if_true, if_false, ↓reduceIte, e_rs, e_rq, e_rn, e_ji, e_ki, e_ij, e_kj, e_js, e_jq, e_jn, e_cs, e_cq, e_jc, e_kc, e_js', e_jcq, e_icj, e_kcj, or_true, true_or, or_false, false_or, and_true, true_and, not_true_eq_false, not_false_eq_true, a1]
    · simp (disch := omega) only [e_let, e_call, e_cal0, e_bind, e_lit, e_ofN, e_neg, nI_add, pk_mul, e_sub, e_ldi, e_sti, e_ldj, e_stj, e_le_t, e_le_f, e_lt_t, e_lt_f, e_eq_t, e_eq_f, e_no_eq, e_no_eq', e_no_rfl, e_no_lt, e_no_le, e_le_no, e_lt_no, if_true, if_false, ↓reduceIte, e_rs, e_rq, e_rn, e_ji, e_ki, e_ij, e_kj, e_js, e_jq, e_jn, e_cs, e_cq, e_jc, e_kc, e_js', e_jcq, e_icj, e_kcj, or_true, true_or, or_false, false_or, and_true, true_and, not_true_eq_false, not_false_eq_true, a2]
    · rw [e_rn (by omega), e_rif]
      by_cases e : f = p_fu P - 1
      · rw [if_pos (by omega), if_pos e, e]
      · rw [if_neg (by omega), if_neg e]; exact a3
  · rw [hfu'] at h
    have hi' := v_ix_n hW hf h hi
    obtain ⟨_, _, w3', _⟩ := hW.2.2.1 f h
    have hb : p_fi P f + i ≤ p_ln P := by rcases hi' with e | e <;> omega
    rw [hfi, v_nl_op, v_nl_ca, v_nl_nu]
    simp only [v_nl_us, v_nl_va]
    rw [e_rn (by omega), e_rn (by omega), e_rn (by omega), e_rn (by omega), e_rn (by omega), e_rn (by omega), e_ij]
    have hk5 : ∀ k, m_ri (m_si (m_si (m_sj T (m + 10) (27 * (p_fu P - 1) + v_n P) W) (m + 3) (13 + (p_fu P - 1)) (nI (p_ct P (p_fu P - 1) + 1))) (m + 3) 1 (nI (p_ln P + 1))) (m + 3) (66 + 5 * (p_fi P f + i) + k) = m_ri T (m + 3) (66 + 5 * (p_fi P f + i) + k) := fun k => by
      rw [e_rn (by omega), e_rn (by omega)]; rfl
    simp only [hk5]
    rcases hi' with ⟨e1, e2, e3⟩ | ⟨e1, e2⟩
    · rw [e3]; exact l2
    · obtain ⟨q1, q2, q3, q4, q5, q6⟩ := v_eo (P := P) (l := p_ln P) (o := o) (c := c) (u := u) (va := va) e2
      obtain ⟨g1, g2, g3, g4⟩ := s4 f i h e1
      rw [q1, q2, q3]
      refine ⟨g1, g2, g3, fun k hk => ?_⟩
      rw [q5, q4 k hk]
      exact g4 k hk
  · rw [hfu'] at h
    obtain ⟨a1, a2⟩ := z2 f h h'
    refine ⟨?_, ?_⟩
    · simp (disch := omega) only [e_let, e_call, e_cal0, e_bind, e_lit, e_ofN, e_neg, nI_add, pk_mul, e_sub, e_ldi, e_sti, e_ldj, e_stj, e_le_t, e_le_f, e_lt_t, e_lt_f, e_eq_t, e_eq_f, e_no_eq, e_no_eq', e_no_rfl, e_no_lt, e_no_le, e_le_no, e_lt_no, if_true, if_false, ↓reduceIte, e_rs, e_rq, e_rn, e_ji, e_ki, e_ij, e_kj, e_js, e_jq, e_jn, e_cs, e_cq, e_jc, e_kc, e_js', e_jcq, e_icj, e_kcj, or_true, true_or, or_false, false_or, and_true, true_and, not_true_eq_false, not_false_eq_true, a1]
    · simp (disch := omega) only [e_let, e_call, e_cal0, e_bind, e_lit, e_ofN, e_neg, nI_add, pk_mul, e_sub, e_ldi, e_sti, e_ldj, e_stj, e_le_t, e_le_f, e_lt_t, e_lt_f, e_eq_t, e_eq_f, e_no_eq, e_no_eq', e_no_rfl, e_no_lt, e_no_le, e_le_no, e_lt_no, if_true, if_false, ↓reduceIte, e_rs, e_rq, e_rn, e_ji, e_ki, e_ij, e_kj, e_js, e_jq, e_jn, e_cs, e_cq, e_jc, e_kc, e_js', e_jcq, e_icj, e_kcj, or_true, true_or, or_false, false_or, and_true, true_and, not_true_eq_false, not_false_eq_true, a2]
  · rw [hfu'] at h; simp (disch := omega) only [e_let, e_call, e_cal0, e_bind, e_lit, e_ofN, e_neg, nI_add, pk_mul, e_sub, e_ldi, e_sti, e_ldj, e_stj, e_le_t, e_le_f, e_lt_t, e_lt_f, e_eq_t, e_eq_f, e_no_eq, e_no_eq', e_no_rfl, e_no_lt, e_no_le, e_le_no, e_lt_no, if_true, if_false, ↓reduceIte, e_rs, e_rq, e_rn, e_ji, e_ki, e_ij, e_kj, e_js, e_jq, e_jn, e_cs, e_cq, e_jc, e_kc, e_js', e_jcq, e_icj, e_kcj, or_true, true_or, or_false, false_or, and_true, true_and, not_true_eq_false, not_false_eq_true, z3 f h]
  · rw [hvn'] at hv
    rw [hfu']
    dsimp only
    by_cases e : v = v_n P
    · rw [if_pos e, e]; simp (disch := omega) only [e_let, e_call, e_cal0, e_bind, e_lit, e_ofN, e_neg, nI_add, pk_mul, e_sub, e_ldi, e_sti, e_ldj, e_stj, e_le_t, e_le_f, e_lt_t, e_lt_f, e_eq_t, e_eq_f, e_no_eq, e_no_eq', e_no_rfl, e_no_lt, e_no_le, e_le_no, e_lt_no, if_true, if_false, ↓reduceIte, e_rs, e_rq, e_rn, e_ji, e_ki, e_ij, e_kj, e_js, e_jq, e_jn, e_cs, e_cq, e_jc, e_kc, e_js', e_jcq, e_icj, e_kcj, or_true, true_or, or_false, false_or, and_true, true_and, not_true_eq_false, not_false_eq_true]
    · rw [if_neg e]; simp (disch := omega) only [e_let, e_call, e_cal0, e_bind, e_lit, e_ofN, e_neg, nI_add, pk_mul, e_sub, e_ldi, e_sti, e_ldj, e_stj, e_le_t, e_le_f, e_lt_t, e_lt_f, e_eq_t, e_eq_f, e_no_eq, e_no_eq', e_no_rfl, e_no_lt, e_no_le, e_le_no, e_lt_no, if_true, if_false, ↓reduceIte, e_rs, e_rq, e_rn, e_ji, e_ki, e_ij, e_kj, e_js, e_jq, e_jn, e_cs, e_cq, e_jc, e_kc, e_js', e_jcq, e_icj, e_kcj, or_true, true_or, or_false, false_or, and_true, true_and, not_true_eq_false, not_false_eq_true]; exact z4 v (by omega)
  · exact (((v_pf.rf.sj (by omega) (by omega)).si (by omega) (by omega)).si (by omega) (by omega)).si (by omega) (by omega)
  · intro q hq; rw [e_rq hq, e_rq hq]; rfl
  · intro q hq; rw [e_ji, e_ji, e_jq hq]
end VL
