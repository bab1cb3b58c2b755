/-! filled, spans: the one side -/
def d_fil (P : pP) (f c r : Nat) : Prop := ∃ i, i < c ∧ p_op P (p_fi P f + i) = 2 ∧ d_p P f (p_pa P f + i) = r + 1
def p_oc (P : pP) (l : Nat) : Nat := match p_op P l with
  | 0 => 0
  | 1 => 1
  | 2 => 2
  | 3 => 1
  | 4 => 1
  | 5 => 2
  | 6 => 2
  | 7 => 3
  | 8 => p_pa P (p_ca P l)
  | _ => p_pa P (p_ca P l) + 2
/-- the first, the last line (one more; 0: none) -/
noncomputable def d_fs (P : pP) (f r : Nat) : Nat → Nat
  | 0 => 0
  | n + 1 => if d_dec (d_lr P (d_of P) f n r) = true then (if d_fs P f r n = 0 then n + 1 else d_fs P f r n) else d_fs P f r n
noncomputable def d_ls (P : pP) (f r : Nat) : Nat → Nat
  | 0 => 0
  | n + 1 => if d_dec (d_lr P (d_of P) f n r) = true then n + 1 else d_ls P f r n
section DD
variable {S : m_M} {A p : Nat} {P : pP} {f i : Nat}
theorem p_oc_ok {l : Nat} (h9 : p_op P l ≤ 9) : (∀ s, s < p_oc P l → p_us P l (p_sl P l s)) ∧ ∀ k, p_us P l k → ∃ s, s < p_oc P l ∧ p_sl P l s = k := by
  have hop : p_op P l = 0 ∨ p_op P l = 1 ∨ p_op P l = 2 ∨ p_op P l = 3 ∨ p_op P l = 4 ∨ p_op P l = 5 ∨ p_op P l = 6 ∨ p_op P l = 7 ∨ p_op P l = 8 ∨ p_op P l = 9 := by omega
  rcases hop with h | h | h | h | h | h | h | h | h | h
  · simp only [p_oc, p_us, h]; exact ⟨fun s hs => by omega, fun k hk => hk.elim⟩
  · simp only [p_oc, p_us, h]; exact ⟨fun s hs => by rw [p_sl_ne (by omega)]; omega, fun k hk => ⟨k, by omega, p_sl_ne (by omega)⟩⟩
  · simp only [p_oc, p_us, h]; exact ⟨fun s hs => by rw [p_sl_ne (by omega)]; omega, fun k hk => ⟨k, by omega, p_sl_ne (by omega)⟩⟩
  · simp only [p_oc, p_us, h]; exact ⟨fun s hs => by rw [p_sl_ne (by omega)]; omega, fun k hk => ⟨k, by omega, p_sl_ne (by omega)⟩⟩
  · simp only [p_oc, p_us, h]; exact ⟨fun s hs => by rw [p_sl_ne (by omega)]; omega, fun k hk => ⟨k, by omega, p_sl_ne (by omega)⟩⟩
  · simp only [p_oc, p_us, h]; exact ⟨fun s hs => by rw [p_sl_ne (by omega)]; omega, fun k hk => ⟨k, by omega, p_sl_ne (by omega)⟩⟩
  · simp only [p_oc, p_us, h]; exact ⟨fun s hs => by rw [p_sl_ne (by omega)]; omega, fun k hk => ⟨k, by omega, p_sl_ne (by omega)⟩⟩
  · simp only [p_oc, p_us, h]; exact ⟨fun s hs => by rw [p_sl_ne (by omega)]; omega, fun k hk => ⟨k, by omega, p_sl_ne (by omega)⟩⟩
  · simp only [p_oc, p_us, h]; exact ⟨fun s hs => by rw [p_sl_ne (by omega)]; omega, fun k hk => ⟨k, by omega, p_sl_ne (by omega)⟩⟩
  · have e : p_oc P l = p_pa P (p_ca P l) + 2 := by simp only [p_oc, h]
    rw [e]
    refine ⟨fun s hs => ?_, fun k hk => ?_⟩
    · by_cases h1 : s < p_pa P (p_ca P l)
      · rw [p_sl_a h h1]; exact p_us_a h h1
      · by_cases h2 : s = p_pa P (p_ca P l)
        · rw [h2, p_sl_c h]; exact p_us_c h
        · rw [show s = p_pa P (p_ca P l) + 1 by omega, p_sl_e h]; exact p_us_e h
    · simp only [p_us, h] at hk
      rcases hk with h1 | h1 | h1
      · exact ⟨p_pa P (p_ca P l), by omega, by rw [p_sl_c h, h1]⟩
      · exact ⟨k - 1, by omega, by rw [p_sl_a h (by omega)]; omega⟩
      · exact ⟨p_pa P (p_ca P l) + 1, by omega, by rw [p_sl_e h, h1]⟩
theorem k_oc (hW : p_W P) (hP : p_R S p P) (hf : f < p_fu P) (hi : i < p_ct P f) : f_X3_operandCount p S (nI (p_fi P f + i)) = some (nI (p_oc P (p_fi P f + i)), S) := by
  have hl := hW.line hf hi
  have h5 := hW.1
  have h9 := (hW.2.2.2.2 f i hf hi).1
  have p5 := (hP.2.2.2.2.2 f i hf hi).1
  have hop : p_op P (p_fi P f + i) = 0 ∨ p_op P (p_fi P f + i) = 1 ∨ p_op P (p_fi P f + i) = 2 ∨ p_op P (p_fi P f + i) = 3 ∨ p_op P (p_fi P f + i) = 4 ∨ p_op P (p_fi P f + i) = 5 ∨ p_op P (p_fi P f + i) = 6 ∨ p_op P (p_fi P f + i) = 7 ∨ p_op P (p_fi P f + i) = 8 ∨ p_op P (p_fi P f + i) = 9 := by omega
  have hac : 8 ≤ p_op P (p_fi P f + i) → f_X3_argumentCount p S (nI (p_fi P f + i)) = some (nI (p_pa P (p_ca P (p_fi P f + i))), S) := fun h8 => by
    have h6 := (hP.2.2.2.2.2 f i hf hi).2.1 h8
    have hca := (hW.2.2.2.2 f i hf hi).2.2.1 h8
    have h7 := hP.2.2.1 _ hca
    simp (disch := omega) only [e_let, e_call, e_cal0, e_bind, e_lit, e_ofN, e_neg, nI_add, pk_mul, e_sub, e_ldi, e_sti, e_ldj, e_stj, e_le_t, e_le_f, e_lt_t, e_lt_f, e_eq_t, e_eq_f, e_no_eq, e_no_eq', e_no_rfl, e_no_lt, e_no_le, e_le_no, e_lt_no, if_true, if_false, ↓reduceIte, e_rs, e_rq, e_rn, e_ji, e_ki, e_ij, e_kj, e_js, e_jq, e_jn, e_cs, e_cq, e_jc, e_kc, e_js', e_jcq, e_icj, e_kcj, or_true, true_or, or_false, false_or, and_true, true_and, not_true_eq_false, not_false_eq_true, f_X3_argumentCount, h6, h7]
  rcases hop with h | h | h | h | h | h | h | h | h | h
  · rw [h] at p5; have p5 : m_ri S (p + 5) (p_fi P f + i) = nI 22 := p5; simp only [p_oc, h]; rw [f_X3_operandCount, e_ldi (by omega) (by omega), e_bind, p5]; simp (disch := omega) only [e_let, e_call, e_cal0, e_bind, e_lit, e_ofN, e_neg, nI_add, pk_mul, e_sub, e_ldi, e_sti, e_ldj, e_stj, e_le_t, e_le_f, e_lt_t, e_lt_f, e_eq_t, e_eq_f, e_no_eq, e_no_eq', e_no_rfl, e_no_lt, e_no_le, e_le_no, e_lt_no, if_true, if_false, ↓reduceIte, e_rs, e_rq, e_rn, e_ji, e_ki, e_ij, e_kj, e_js, e_jq, e_jn, e_cs, e_cq, e_jc, e_kc, e_js', e_jcq, e_icj, e_kcj, or_true, true_or, or_false, false_or, and_true, true_and, not_true_eq_false, not_false_eq_true]
  · rw [h] at p5; have p5 : m_ri S (p + 5) (p_fi P f + i) = nI 23 := p5; simp only [p_oc, h]; rw [f_X3_operandCount, e_ldi (by omega) (by omega), e_bind, p5]; simp (disch := omega) only [e_let, e_call, e_cal0, e_bind, e_lit, e_ofN, e_neg, nI_add, pk_mul, e_sub, e_ldi, e_sti, e_ldj, e_stj, e_le_t, e_le_f, e_lt_t, e_lt_f, e_eq_t, e_eq_f, e_no_eq, e_no_eq', e_no_rfl, e_no_lt, e_no_le, e_le_no, e_lt_no, if_true, if_false, ↓reduceIte, e_rs, e_rq, e_rn, e_ji, e_ki, e_ij, e_kj, e_js, e_jq, e_jn, e_cs, e_cq, e_jc, e_kc, e_js', e_jcq, e_icj, e_kcj, or_true, true_or, or_false, false_or, and_true, true_and, not_true_eq_false, not_false_eq_true, b_X3_operandCount_106]
  · rw [h] at p5; have p5 : m_ri S (p + 5) (p_fi P f + i) = nI 2 := p5; simp only [p_oc, h]; rw [f_X3_operandCount, e_ldi (by omega) (by omega), e_bind, p5]; simp (disch := omega) only [e_let, e_call, e_cal0, e_bind, e_lit, e_ofN, e_neg, nI_add, pk_mul, e_sub, e_ldi, e_sti, e_ldj, e_stj, e_le_t, e_le_f, e_lt_t, e_lt_f, e_eq_t, e_eq_f, e_no_eq, e_no_eq', e_no_rfl, e_no_lt, e_no_le, e_le_no, e_lt_no, if_true, if_false, ↓reduceIte, e_rs, e_rq, e_rn, e_ji, e_ki, e_ij, e_kj, e_js, e_jq, e_jn, e_cs, e_cq, e_jc, e_kc, e_js', e_jcq, e_icj, e_kcj, or_true, true_or, or_false, false_or, and_true, true_and, not_true_eq_false, not_false_eq_true, b_X3_operandCount_124]
  · rw [h] at p5; have p5 : m_ri S (p + 5) (p_fi P f + i) = nI 3 := p5; simp only [p_oc, h]; rw [f_X3_operandCount, e_ldi (by omega) (by omega), e_bind, p5]; simp (disch := omega) only [e_let, e_call, e_cal0, e_bind, e_lit, e_ofN, e_neg, nI_add, pk_mul, e_sub, e_ldi, e_sti, e_ldj, e_stj, e_le_t, e_le_f, e_lt_t, e_lt_f, e_eq_t, e_eq_f, e_no_eq, e_no_eq', e_no_rfl, e_no_lt, e_no_le, e_le_no, e_lt_no, if_true, if_false, ↓reduceIte, e_rs, e_rq, e_rn, e_ji, e_ki, e_ij, e_kj, e_js, e_jq, e_jn, e_cs, e_cq, e_jc, e_kc, e_js', e_jcq, e_icj, e_kcj, or_true, true_or, or_false, false_or, and_true, true_and, not_true_eq_false, not_false_eq_true, b_X3_operandCount_106]
  · rw [h] at p5; have p5 : m_ri S (p + 5) (p_fi P f + i) = nI 4 := p5; simp only [p_oc, h]; rw [f_X3_operandCount, e_ldi (by omega) (by omega), e_bind, p5]; simp (disch := omega) only [e_let, e_call, e_cal0, e_bind, e_lit, e_ofN, e_neg, nI_add, pk_mul, e_sub, e_ldi, e_sti, e_ldj, e_stj, e_le_t, e_le_f, e_lt_t, e_lt_f, e_eq_t, e_eq_f, e_no_eq, e_no_eq', e_no_rfl, e_no_lt, e_no_le, e_le_no, e_lt_no, if_true, if_false, ↓reduceIte, e_rs, e_rq, e_rn, e_ji, e_ki, e_ij, e_kj, e_js, e_jq, e_jn, e_cs, e_cq, e_jc, e_kc, e_js', e_jcq, e_icj, e_kcj, or_true, true_or, or_false, false_or, and_true, true_and, not_true_eq_false, not_false_eq_true, b_X3_operandCount_106]
  · rw [h] at p5; have p5 : m_ri S (p + 5) (p_fi P f + i) = nI 5 := p5; simp only [p_oc, h]; rw [f_X3_operandCount, e_ldi (by omega) (by omega), e_bind, p5]; simp (disch := omega) only [e_let, e_call, e_cal0, e_bind, e_lit, e_ofN, e_neg, nI_add, pk_mul, e_sub, e_ldi, e_sti, e_ldj, e_stj, e_le_t, e_le_f, e_lt_t, e_lt_f, e_eq_t, e_eq_f, e_no_eq, e_no_eq', e_no_rfl, e_no_lt, e_no_le, e_le_no, e_lt_no, if_true, if_false, ↓reduceIte, e_rs, e_rq, e_rn, e_ji, e_ki, e_ij, e_kj, e_js, e_jq, e_jn, e_cs, e_cq, e_jc, e_kc, e_js', e_jcq, e_icj, e_kcj, or_true, true_or, or_false, false_or, and_true, true_and, not_true_eq_false, not_false_eq_true, b_X3_operandCount_124]
  · rw [h] at p5; have p5 : m_ri S (p + 5) (p_fi P f + i) = nI 6 := p5; simp only [p_oc, h]; rw [f_X3_operandCount, e_ldi (by omega) (by omega), e_bind, p5]; simp (disch := omega) only [e_let, e_call, e_cal0, e_bind, e_lit, e_ofN, e_neg, nI_add, pk_mul, e_sub, e_ldi, e_sti, e_ldj, e_stj, e_le_t, e_le_f, e_lt_t, e_lt_f, e_eq_t, e_eq_f, e_no_eq, e_no_eq', e_no_rfl, e_no_lt, e_no_le, e_le_no, e_lt_no, if_true, if_false, ↓reduceIte, e_rs, e_rq, e_rn, e_ji, e_ki, e_ij, e_kj, e_js, e_jq, e_jn, e_cs, e_cq, e_jc, e_kc, e_js', e_jcq, e_icj, e_kcj, or_true, true_or, or_false, false_or, and_true, true_and, not_true_eq_false, not_false_eq_true, b_X3_operandCount_124]
  · rw [h] at p5; have p5 : m_ri S (p + 5) (p_fi P f + i) = nI 7 := p5; simp only [p_oc, h]; rw [f_X3_operandCount, e_ldi (by omega) (by omega), e_bind, p5]; simp (disch := omega) only [e_let, e_call, e_cal0, e_bind, e_lit, e_ofN, e_neg, nI_add, pk_mul, e_sub, e_ldi, e_sti, e_ldj, e_stj, e_le_t, e_le_f, e_lt_t, e_lt_f, e_eq_t, e_eq_f, e_no_eq, e_no_eq', e_no_rfl, e_no_lt, e_no_le, e_le_no, e_lt_no, if_true, if_false, ↓reduceIte, e_rs, e_rq, e_rn, e_ji, e_ki, e_ij, e_kj, e_js, e_jq, e_jn, e_cs, e_cq, e_jc, e_kc, e_js', e_jcq, e_icj, e_kcj, or_true, true_or, or_false, false_or, and_true, true_and, not_true_eq_false, not_false_eq_true]
  · have ha := hac (by omega)
    rw [h] at p5; have p5 : m_ri S (p + 5) (p_fi P f + i) = nI 8 := p5; simp only [p_oc, h]; rw [f_X3_operandCount, e_ldi (by omega) (by omega), e_bind, p5]; simp (disch := omega) only [e_let, e_call, e_cal0, e_bind, e_lit, e_ofN, e_neg, nI_add, pk_mul, e_sub, e_ldi, e_sti, e_ldj, e_stj, e_le_t, e_le_f, e_lt_t, e_lt_f, e_eq_t, e_eq_f, e_no_eq, e_no_eq', e_no_rfl, e_no_lt, e_no_le, e_le_no, e_lt_no, if_true, if_false, ↓reduceIte, e_rs, e_rq, e_rn, e_ji, e_ki, e_ij, e_kj, e_js, e_jq, e_jn, e_cs, e_cq, e_jc, e_kc, e_js', e_jcq, e_icj, e_kcj, or_true, true_or, or_false, false_or, and_true, true_and, not_true_eq_false, not_false_eq_true, ha]
  · have ha := hac (by omega)
    rw [h] at p5; have p5 : m_ri S (p + 5) (p_fi P f + i) = nI 9 := p5; simp only [p_oc, h]; rw [f_X3_operandCount, e_ldi (by omega) (by omega), e_bind, p5]; simp (disch := omega) only [e_let, e_call, e_cal0, e_bind, e_lit, e_ofN, e_neg, nI_add, pk_mul, e_sub, e_ldi, e_sti, e_ldj, e_stj, e_le_t, e_le_f, e_lt_t, e_lt_f, e_eq_t, e_eq_f, e_no_eq, e_no_eq', e_no_rfl, e_no_lt, e_no_le, e_le_no, e_lt_no, if_true, if_false, ↓reduceIte, e_rs, e_rq, e_rn, e_ji, e_ki, e_ij, e_kj, e_js, e_jq, e_jn, e_cs, e_cq, e_jc, e_kc, e_js', e_jcq, e_icj, e_kcj, or_true, true_or, or_false, false_or, and_true, true_and, not_true_eq_false, not_false_eq_true, ha]
/-- what a line reaches -/
theorem k_rol (hW : p_W P) (hA : A = p + 8) (hP : p_R S p P) (hf : f < p_fu P) (hi : i < p_ct P f) (hv : ∀ w, w < p_vs P f → e_bs (m_ri S (A + 2) (f * 27 + w)) (d_rc (d_of P) f w)) : ∃ x, f_X6_reachOfLine A p S (nI f) (nI (p_fi P f + i)) = some (x, S) ∧ ∀ r, r < 32 → (bt x r = true ↔ d_lr P (d_of P) f i r) := by
  subst hA
  have hfu := m_fu_ge
  have hl := hW.line hf hi
  have h9 := (hW.2.2.2.2 f i hf hi).1
  obtain ⟨o1, o2⟩ := p_oc_ok (P := P) (l := p_fi P f + i) h9
  have hoc := k_oc hW hP hf hi
  have h5 : p_oc P (p_fi P f + i) ≤ 5 := by
    by_cases h8 : 8 ≤ p_op P (p_fi P f + i)
    · have hca := (hW.2.2.2.2 f i hf hi).2.2.1 h8
      have := hW.2.2.1 _ hca
      rcases (by omega : p_op P (p_fi P f + i) = 8 ∨ p_op P (p_fi P f + i) = 9) with h | h
      · have e : p_oc P (p_fi P f + i) = p_pa P (p_ca P (p_fi P f + i)) := by simp only [p_oc, h]
        omega
      · have e : p_oc P (p_fi P f + i) = p_pa P (p_ca P (p_fi P f + i)) + 2 := by simp only [p_oc, h]
        omega
    · rcases (by omega : p_op P (p_fi P f + i) = 0 ∨ p_op P (p_fi P f + i) = 1 ∨ p_op P (p_fi P f + i) = 2 ∨ p_op P (p_fi P f + i) = 3 ∨ p_op P (p_fi P f + i) = 4 ∨ p_op P (p_fi P f + i) = 5 ∨ p_op P (p_fi P f + i) = 6 ∨ p_op P (p_fi P f + i) = 7) with h | h | h | h | h | h | h | h
      · have e : p_oc P (p_fi P f + i) = 0 := by simp only [p_oc, h]
        omega
      · have e : p_oc P (p_fi P f + i) = 1 := by simp only [p_oc, h]
        omega
      · have e : p_oc P (p_fi P f + i) = 2 := by simp only [p_oc, h]
        omega
      · have e : p_oc P (p_fi P f + i) = 1 := by simp only [p_oc, h]
        omega
      · have e : p_oc P (p_fi P f + i) = 1 := by simp only [p_oc, h]
        omega
      · have e : p_oc P (p_fi P f + i) = 2 := by simp only [p_oc, h]
        omega
      · have e : p_oc P (p_fi P f + i) = 2 := by simp only [p_oc, h]
        omega
      · have e : p_oc P (p_fi P f + i) = 3 := by simp only [p_oc, h]
        omega
  have hop := fun s (hs : s < p_oc P (p_fi P f + i)) => (hP.2.2.2.2.2 f i hf hi).2.2.2 s (by omega) (o1 s hs)
  have hva := fun s (hs : s < p_oc P (p_fi P f + i)) => (hW.2.2.2.2 f i hf hi).2.2.2 _ (o1 s hs)
  have key : ∀ (c s fu : Nat) (x : Int32), s + c = p_oc P (p_fi P f + i) → c < fu → (∀ r, r < 32 → (bt x r = true ↔ d_rc (d_of P) f (p_pa P f + i) r = true ∨ ∃ t, t < s ∧ d_rc (d_of P) f (p_va P (p_fi P f + i) (p_sl P (p_fi P f + i) t)) r = true)) →
      ∃ x', b_X6_reachOfLine_16 (p + 8) p fu S (nI f) (nI (p_fi P f + i)) x (nI s) = some (x', S) ∧ ∀ r, r < 32 → (bt x' r = true ↔ d_rc (d_of P) f (p_pa P f + i) r = true ∨ ∃ t, t < p_oc P (p_fi P f + i) ∧ d_rc (d_of P) f (p_va P (p_fi P f + i) (p_sl P (p_fi P f + i) t)) r = true) := by
    intro c
    induction c with
    | zero =>
      intro s fu x hs hfu' hx
      obtain ⟨fu, rfl⟩ : ∃ f, fu = f + 1 := ⟨fu - 1, by omega⟩
      have hs : s = p_oc P (p_fi P f + i) := hs
      refine ⟨x, ?_, by rw [← hs]; exact hx⟩
      simp (disch := omega) only [e_let, e_call, e_cal0, e_bind, e_lit, e_ofN, e_neg, nI_add, pk_mul, e_sub, e_ldi, e_sti, e_ldj, e_stj, e_le_t, e_le_f, e_lt_t, e_lt_f, e_eq_t, e_eq_f, e_no_eq, e_no_eq', e_no_rfl, e_no_lt, e_no_le, e_le_no, e_lt_no, if_true, if_false, ↓reduceIte, e_rs, e_rq, e_rn, e_ji, e_ki, e_ij, e_kj, e_js, e_jq, e_jn, e_cs, e_cq, e_jc, e_kc, e_js', e_jcq, e_icj, e_kcj, or_true, true_or, or_false, false_or, and_true, true_and, not_true_eq_false, not_false_eq_true, b_X6_reachOfLine_16, hoc]
    | succ c ih =>
      intro s fu x hs hfu' hx
      obtain ⟨fu, rfl⟩ : ∃ f, fu = f + 1 := ⟨fu - 1, by omega⟩
      have h1 := hop s (by omega)
      have h2 := hva s (by omega)
      have h3 := hv (p_va P (p_fi P f + i) (p_sl P (p_fi P f + i) s)) (by simp only [p_vs]; omega)
      obtain ⟨x', g1, g2⟩ := ih (s + 1) fu (x ||| m_ri S (p + 8 + 2) (f * 27 + p_va P (p_fi P f + i) (p_sl P (p_fi P f + i) s))) (by omega) (by omega) (fun r hr => by
        rw [b_or, Bool.or_eq_true, hx r hr, h3 r hr]
        constructor
        · rintro ((h | ⟨t, t1, t2⟩) | h)
          · exact Or.inl h
          · exact Or.inr ⟨t, by omega, t2⟩
          · exact Or.inr ⟨s, by omega, h⟩
        · rintro (h | ⟨t, t1, t2⟩)
          · exact Or.inl (Or.inl h)
          · by_cases e : t = s
            · subst e; exact Or.inr t2
            · exact Or.inl (Or.inr ⟨t, by omega, t2⟩))
      refine ⟨x', ?_, g2⟩
      rw [← g1]
      simp (disch := omega) only [e_let, e_call, e_cal0, e_bind, e_lit, e_ofN, e_neg, nI_add, pk_mul, e_sub, e_ldi, e_sti, e_ldj, e_stj, e_le_t, e_le_f, e_lt_t, e_lt_f, e_eq_t, e_eq_f, e_no_eq, e_no_eq', e_no_rfl, e_no_lt, e_no_le, e_le_no, e_lt_no, if_true, if_false, ↓reduceIte, e_rs, e_rq, e_rn, e_ji, e_ki, e_ij, e_kj, e_js, e_jq, e_jn, e_cs, e_cq, e_jc, e_kc, e_js', e_jcq, e_icj, e_kcj, or_true, true_or, or_false, false_or, and_true, true_and, not_true_eq_false, not_false_eq_true, b_X6_reachOfLine_16, hoc, f_X3_operandAt, h1, f_X6_reachOfVar]
  have hvx := hv (p_pa P f + i) (by simp only [p_vs]; omega)
  obtain ⟨x', g1, g2⟩ := key (p_oc P (p_fi P f + i)) 0 m_fu (m_ri S (p + 8 + 2) (f * 27 + (p_pa P f + i))) (by omega) (by omega) (fun r hr => by
    rw [hvx r hr]
    exact ⟨fun h => Or.inl h, fun h => by
      rcases h with h | ⟨t, t1, -⟩
      · exact h
      · omega⟩)
  refine ⟨x', ?_, fun r hr => (g2 r hr).trans ?_⟩
  · rw [← g1]
    have p2 := hP.2.2.1 f hf
    have p3 := hP.2.2.2.1 f hf
    have ev : p_pa P f + (p_fi P f + i) - p_fi P f = p_pa P f + i := by omega
    simp (disch := omega) only [e_let, e_call, e_cal0, e_bind, e_lit, e_ofN, e_neg, nI_add, pk_mul, e_sub, e_ldi, e_sti, e_ldj, e_stj, e_le_t, e_le_f, e_lt_t, e_lt_f, e_eq_t, e_eq_f, e_no_eq, e_no_eq', e_no_rfl, e_no_lt, e_no_le, e_le_no, e_lt_no, if_true, if_false, ↓reduceIte, e_rs, e_rq, e_rn, e_ji, e_ki, e_ij, e_kj, e_js, e_jq, e_jn, e_cs, e_cq, e_jc, e_kc, e_js', e_jcq, e_icj, e_kcj, or_true, true_or, or_false, false_or, and_true, true_and, not_true_eq_false, not_false_eq_true, f_X6_reachOfLine, f_X3_varOfLine, p2, p3, ev, f_X6_reachOfVar]
  · constructor
    · rintro (h | ⟨t, t1, t2⟩)
      · exact Or.inl h
      · refine Or.inr ⟨_, ?_, o1 t t1, t2⟩
        have := o1 t t1
        by_cases e9 : p_op P (p_fi P f + i) = 9
        · have hca := (hW.2.2.2.2 f i hf hi).2.2.1 (by omega)
          have := hW.2.2.1 _ hca
          have t1' : t < p_pa P (p_ca P (p_fi P f + i)) + 2 := by simp only [p_oc, e9] at t1; exact t1
          rcases (by omega : t < p_pa P (p_ca P (p_fi P f + i)) ∨ t = p_pa P (p_ca P (p_fi P f + i)) ∨ t = p_pa P (p_ca P (p_fi P f + i)) + 1) with g | g | g
          · rw [p_sl_a e9 g]; omega
          · rw [g, p_sl_c e9]; omega
          · rw [g, p_sl_e e9]; omega
        · rw [p_sl_ne e9]; omega
    · rintro (h | ⟨k, k1, k2, k3⟩)
      · exact Or.inl h
      · obtain ⟨s, s1, s2⟩ := o2 k k2
        exact Or.inr ⟨s, s1, by rw [s2]; exact k3⟩
theorem d_fs_ok {r : Nat} : ∀ n, (d_fs P f r n = 0 ↔ ∀ j, j < n → ¬ d_lr P (d_of P) f j r) ∧ (∀ j, d_fs P f r n = j + 1 ↔ j < n ∧ d_lr P (d_of P) f j r ∧ ∀ k, k < j → ¬ d_lr P (d_of P) f k r) ∧ (d_ls P f r n = 0 ↔ ∀ j, j < n → ¬ d_lr P (d_of P) f j r) ∧ (∀ j, d_ls P f r n = j + 1 ↔ j < n ∧ d_lr P (d_of P) f j r ∧ ∀ k, j < k → k < n → ¬ d_lr P (d_of P) f k r) := by
  intro n
  induction n with
  | zero =>
    refine ⟨⟨fun _ j hj => by omega, fun _ => rfl⟩, fun j => ⟨fun h => ?_, fun h => by omega⟩, ⟨fun _ j hj => by omega, fun _ => rfl⟩, fun j => ⟨fun h => ?_, fun h => by omega⟩⟩
    · have h : 0 = j + 1 := h
      omega
    · have h : 0 = j + 1 := h
      omega
  | succ n ih =>
    obtain ⟨i1, i2, i3, i4⟩ := ih
    by_cases hl : d_lr P (d_of P) f n r
    · have e1 : d_fs P f r (n + 1) = if d_fs P f r n = 0 then n + 1 else d_fs P f r n := by rw [d_fs, if_pos (d_dec_t.mpr hl)]
      have e2 : d_ls P f r (n + 1) = n + 1 := by rw [d_ls, if_pos (d_dec_t.mpr hl)]
      rw [e1, e2]
      refine ⟨⟨fun h => ?_, fun h => absurd hl (h n (by omega))⟩, fun j => ?_, ⟨fun h => by omega, fun h => absurd hl (h n (by omega))⟩, fun j => ⟨fun h => ?_, fun h => ?_⟩⟩
      · split at h <;> omega
      · by_cases h0 : d_fs P f r n = 0
        · rw [if_pos h0]
          constructor
          · intro h
            have : j = n := by omega
            subst this
            exact ⟨by omega, hl, i1.mp h0⟩
          · rintro ⟨h1, h2, h3⟩
            by_cases e : j = n
            · omega
            · exact absurd h2 (i1.mp h0 j (by omega))
        · rw [if_neg h0, i2 j]
          constructor
          · rintro ⟨h1, h2, h3⟩; exact ⟨by omega, h2, h3⟩
          · rintro ⟨h1, h2, h3⟩
            refine ⟨?_, h2, h3⟩
            by_cases e : j = n
            · subst e; exact absurd (i1.mpr h3) h0
            · omega
      · have : j = n := by omega
        subst this
        exact ⟨by omega, hl, fun k h1 h2 => by omega⟩
      · obtain ⟨h1, h2, h3⟩ := h
        by_cases e : j = n
        · omega
        · exact absurd hl (h3 n (by omega) (by omega))
    · have e1 : d_fs P f r (n + 1) = d_fs P f r n := by rw [d_fs, if_neg (fun q => hl (d_dec_t.mp q))]
      have e2 : d_ls P f r (n + 1) = d_ls P f r n := by rw [d_ls, if_neg (fun q => hl (d_dec_t.mp q))]
      rw [e1, e2]
      refine ⟨⟨fun h j hj => ?_, fun h => i1.mpr (fun j hj => h j (by omega))⟩, fun j => ⟨fun h => ?_, fun h => ?_⟩, ⟨fun h j hj => ?_, fun h => i3.mpr (fun j hj => h j (by omega))⟩, fun j => ⟨fun h => ?_, fun h => ?_⟩⟩
      · by_cases e : j = n
        · rw [e]; exact hl
        · exact i1.mp h j (by omega)
      · obtain ⟨h1, h2, h3⟩ := (i2 j).mp h
        exact ⟨by omega, h2, h3⟩
      · obtain ⟨h1, h2, h3⟩ := h
        exact (i2 j).mpr ⟨by by_cases e : j = n; · rw [e] at h2; exact absurd h2 hl
                             · omega, h2, h3⟩
      · by_cases e : j = n
        · rw [e]; exact hl
        · exact i3.mp h j (by omega)
      · obtain ⟨h1, h2, h3⟩ := (i4 j).mp h
        refine ⟨by omega, h2, fun k k1 k2 => ?_⟩
        by_cases e : k = n
        · rw [e]; exact hl
        · exact h3 k k1 (by omega)
      · obtain ⟨h1, h2, h3⟩ := h
        exact (i4 j).mpr ⟨by by_cases e : j = n; · rw [e] at h2; exact absurd h2 hl
                             · omega, h2, fun k k1 k2 => h3 k k1 (by omega)⟩
/-- who owns a region has lines that reach it -/
theorem d_fs_pos (hW : p_W P) (hf : f < p_fu P) {r : Nat} (h : d_ow (d_of P) f r = true) : d_fs P f r (p_ct P f) ≠ 0 ∧ d_ls P f r (p_ct P f) ≠ 0 := by
  have hG := d_G_of hW
  obtain ⟨⟨v, v1, v2⟩, h2⟩ := (hG.2.2.2.2.1 f r hf).mp h
  have hno : ¬ v < p_pa P f := fun q => by
    have := (hG.2.2.2.1 f r hf).mpr ⟨v, v1, Or.inl q, v2⟩
    rw [h2] at this; cases this
  simp only [p_vs] at v1
  have hlr : d_lr P (d_of P) f (v - p_pa P f) r := Or.inl (by rw [show p_pa P f + (v - p_pa P f) = v by omega]; exact v2)
  obtain ⟨i1, -, i3, -⟩ := d_fs_ok (P := P) (f := f) (r := r) (p_ct P f)
  exact ⟨fun q => i1.mp q _ (by omega) hlr, fun q => i3.mp q _ (by omega) hlr⟩
theorem d_fs_le {r : Nat} (n : Nat) : d_fs P f r n ≤ n ∧ d_ls P f r n ≤ n := by
  obtain ⟨-, i2, -, i4⟩ := d_fs_ok (P := P) (f := f) (r := r) n
  refine ⟨?_, ?_⟩
  · rcases Nat.eq_zero_or_pos (d_fs P f r n) with h | h
    · omega
    · have := ((i2 (d_fs P f r n - 1)).mp (by omega)).1; omega
  · rcases Nat.eq_zero_or_pos (d_ls P f r n) with h | h
    · omega
    · have := ((i4 (d_ls P f r n - 1)).mp (by omega)).1; omega
/-- a line's number, from its place in the fun (0: none) -/
def nL (b n : Nat) : Int32 := if n = 0 then m_no else nI (b + (n - 1))
theorem k_span {r : Nat} (hW : p_W P) (hA : A = p + 8) (hf : f < p_fu P) (hr : r < 24) (hP : p_R S p P) (hv : ∀ w, w < p_vs P f → e_bs (m_ri S (A + 2) (f * 27 + w)) (d_rc (d_of P) f w)) (how : d_ow (d_of P) f r = true) :
    f_X6_tellSpan A p S (nI f) (nI r) = some (m_si (m_si (m_si (m_si S (A + 12) (p_fi P f + (d_fs P f r (p_ct P f) - 1)) (m_ri S (A + 12) (p_fi P f + (d_fs P f r (p_ct P f) - 1)) ||| (nI 1 <<< (nI r &&& nI 31)))) (A + 13) (p_fi P f + (d_ls P f r (p_ct P f) - 1)) (m_ri S (A + 13) (p_fi P f + (d_ls P f r (p_ct P f) - 1)) ||| (nI 1 <<< (nI r &&& nI 31)))) (A + 10) (f * 24 + r) (nI (d_fs P f r (p_ct P f) - 1))) (A + 11) (f * 24 + r) (nI (d_ls P f r (p_ct P f) - 1))) := by
  have hA' := hA
  subst hA
  have hfu := m_fu_ge
  have h5 := hW.1
  have h24 := hW.2.1
  have hl := hW.2.2.1 f hf
  have p3 := hP.2.2.2.1 f hf
  have p4 := hP.2.2.2.2.1 f hf
  obtain ⟨q1, q2⟩ := d_fs_pos hW hf how
  obtain ⟨w1, w2⟩ := d_fs_le (P := P) (f := f) (r := r) (p_ct P f)
  have key : ∀ (c i fu : Nat), i + c = p_ct P f → c < fu → b_X6_tellSpan_14 (p + 8) p fu S (nI f) (nI r) (nL (p_fi P f) (d_fs P f r i)) (nL (p_fi P f) (d_ls P f r i)) (nI (p_fi P f + i)) = some (m_si (m_si (m_si (m_si S (p + 8 + 12) (p_fi P f + (d_fs P f r (p_ct P f) - 1)) (m_ri S (p + 8 + 12) (p_fi P f + (d_fs P f r (p_ct P f) - 1)) ||| (nI 1 <<< (nI r &&& nI 31)))) (p + 8 + 13) (p_fi P f + (d_ls P f r (p_ct P f) - 1)) (m_ri S (p + 8 + 13) (p_fi P f + (d_ls P f r (p_ct P f) - 1)) ||| (nI 1 <<< (nI r &&& nI 31)))) (p + 8 + 10) (f * 24 + r) (nI (d_fs P f r (p_ct P f) - 1))) (p + 8 + 11) (f * 24 + r) (nI (d_ls P f r (p_ct P f) - 1))) := by
    intro c
    induction c with
    | zero =>
      intro i fu hi hfu'
      obtain ⟨fu, rfl⟩ : ∃ f, fu = f + 1 := ⟨fu - 1, by omega⟩
      have hi : i = p_ct P f := hi
      subst hi
      have e1 : nL (p_fi P f) (d_fs P f r (p_ct P f)) = nI (p_fi P f + (d_fs P f r (p_ct P f) - 1)) := if_neg q1
      have e2 : nL (p_fi P f) (d_ls P f r (p_ct P f)) = nI (p_fi P f + (d_ls P f r (p_ct P f) - 1)) := if_neg q2
      rw [e1, e2]
      generalize d_fs P f r (p_ct P f) = a at *
      generalize d_ls P f r (p_ct P f) = b at *
      have g1 : p_fi P f + (a - 1) - p_fi P f = a - 1 := by omega
      have g2 : p_fi P f + (b - 1) - p_fi P f = b - 1 := by omega
      simp (disch := omega) only [e_let, e_call, e_cal0, e_bind, e_lit, e_ofN, e_neg, nI_add, pk_mul, e_sub, e_ldi, e_sti, e_ldj, e_stj, e_le_t, e_le_f, e_lt_t, e_lt_f, e_eq_t, e_eq_f, e_no_eq, e_no_eq', e_no_rfl, e_no_lt, e_no_le, e_le_no, e_lt_no, if_true, if_false, ↓reduceIte, e_rs, e_rq, e_rn, e_ji, e_ki, e_ij, e_kj, e_js, e_jq, e_jn, e_cs, e_cq, e_jc, e_kc, e_js', e_jcq, e_icj, e_kcj, or_true, true_or, or_false, false_or, and_true, true_and, not_true_eq_false, not_false_eq_true, b_X6_tellSpan_14, p3, p4, g1, g2]
    | succ c ih =>
      intro i fu hi hfu'
      obtain ⟨fu, rfl⟩ : ∃ f, fu = f + 1 := ⟨fu - 1, by omega⟩
      obtain ⟨x, x1, x2⟩ := k_rol hW hA' hP hf (show i < p_ct P f by omega) hv
      have hbt := e_bt (x := x) (r := r) (by omega)
      rw [← ih (i + 1) fu (by omega) (by omega)]
      have ei : p_fi P f + i + 1 = p_fi P f + (i + 1) := by omega
      by_cases hlr : d_lr P (d_of P) f i r
      · have hb : bt x r = true := (x2 r (by omega)).mpr hlr
        have e2 : d_ls P f r (i + 1) = i + 1 := by rw [d_ls, if_pos (d_dec_t.mpr hlr)]
        have e1 : d_fs P f r (i + 1) = if d_fs P f r i = 0 then i + 1 else d_fs P f r i := by rw [d_fs, if_pos (d_dec_t.mpr hlr)]
        have hne : ¬ ((x >>> (nI r &&& nI 31)) &&& nI 1 = nI 0) := by rw [hbt, hb]; exact fun h => by cases h
        have el : nL (p_fi P f) (i + 1) = nI (p_fi P f + i) := rfl
        rw [e1, e2, el]
        by_cases h0 : d_fs P f r i = 0
        · rw [if_pos h0, h0, el]
          show b_X6_tellSpan_14 (p + 8) p (fu + 1) S (nI f) (nI r) m_no _ _ = _
          simp (disch := omega) only [e_let, e_call, e_cal0, e_bind, e_lit, e_ofN, e_neg, nI_add, pk_mul, e_sub, e_ldi, e_sti, e_ldj, e_stj, e_le_t, e_le_f, e_lt_t, e_lt_f, e_eq_t, e_eq_f, e_no_eq, e_no_eq', e_no_rfl, e_no_lt, e_no_le, e_le_no, e_lt_no, if_true, if_false, ↓reduceIte, e_rs, e_rq, e_rn, e_ji, e_ki, e_ij, e_kj, e_js, e_jq, e_jn, e_cs, e_cq, e_jc, e_kc, e_js', e_jcq, e_icj, e_kcj, or_true, true_or, or_false, false_or, and_true, true_and, not_true_eq_false, not_false_eq_true, b_X6_tellSpan_14, p3, p4, x1, hne, b_X6_tellSpan_60, b_X6_tellSpan_66, ei]
        · rw [if_neg h0]
          have hfi := (d_fs_le (P := P) (f := f) (r := r) i).1
          have e3 : nL (p_fi P f) (d_fs P f r i) = nI (p_fi P f + (d_fs P f r i - 1)) := if_neg h0
          rw [e3]
          simp (disch := omega) only [e_let, e_call, e_cal0, e_bind, e_lit, e_ofN, e_neg, nI_add, pk_mul, e_sub, e_ldi, e_sti, e_ldj, e_stj, e_le_t, e_le_f, e_lt_t, e_lt_f, e_eq_t, e_eq_f, e_no_eq, e_no_eq', e_no_rfl, e_no_lt, e_no_le, e_le_no, e_lt_no, if_true, if_false, ↓reduceIte, e_rs, e_rq, e_rn, e_ji, e_ki, e_ij, e_kj, e_js, e_jq, e_jn, e_cs, e_cq, e_jc, e_kc, e_js', e_jcq, e_icj, e_kcj, or_true, true_or, or_false, false_or, and_true, true_and, not_true_eq_false, not_false_eq_true, b_X6_tellSpan_14, p3, p4, x1, hne, b_X6_tellSpan_60, b_X6_tellSpan_66, ei]
      · have hb : bt x r = false := Bool.eq_false_iff.mpr (fun q => hlr ((x2 r (by omega)).mp q))
        have e1 : d_fs P f r (i + 1) = d_fs P f r i := by rw [d_fs, if_neg (fun q => hlr (d_dec_t.mp q))]
        have e2 : d_ls P f r (i + 1) = d_ls P f r i := by rw [d_ls, if_neg (fun q => hlr (d_dec_t.mp q))]
        have hz : ((x >>> (nI r &&& nI 31)) &&& nI 1 = nI 0) := by rw [hbt]; exact hb
        rw [e1, e2]
        simp (disch := omega) only [e_let, e_call, e_cal0, e_bind, e_lit, e_ofN, e_neg, nI_add, pk_mul, e_sub, e_ldi, e_sti, e_ldj, e_stj, e_le_t, e_le_f, e_lt_t, e_lt_f, e_eq_t, e_eq_f, e_no_eq, e_no_eq', e_no_rfl, e_no_lt, e_no_le, e_le_no, e_lt_no, if_true, if_false, ↓reduceIte, e_rs, e_rq, e_rn, e_ji, e_ki, e_ij, e_kj, e_js, e_jq, e_jn, e_cs, e_cq, e_jc, e_kc, e_js', e_jcq, e_icj, e_kcj, or_true, true_or, or_false, false_or, and_true, true_and, not_true_eq_false, not_false_eq_true, b_X6_tellSpan_14, p3, p4, x1, hz, b_X6_tellSpan_66, ei]
  rw [← key (p_ct P f) 0 m_fu (by omega) (by omega)]
  show _ = b_X6_tellSpan_14 (p + 8) p m_fu S (nI f) (nI r) m_no m_no (nI (p_fi P f))
  simp (disch := omega) only [e_let, e_call, e_cal0, e_bind, e_lit, e_ofN, e_neg, nI_add, pk_mul, e_sub, e_ldi, e_sti, e_ldj, e_stj, e_le_t, e_le_f, e_lt_t, e_lt_f, e_eq_t, e_eq_f, e_no_eq, e_no_eq', e_no_rfl, e_no_lt, e_no_le, e_le_no, e_lt_no, if_true, if_false, ↓reduceIte, e_rs, e_rq, e_rn, e_ji, e_ki, e_ij, e_kj, e_js, e_jq, e_jn, e_cs, e_cq, e_jc, e_kc, e_js', e_jcq, e_icj, e_kcj, or_true, true_or, or_false, false_or, and_true, true_and, not_true_eq_false, not_false_eq_true, f_X6_tellSpan, p3]
end DD
