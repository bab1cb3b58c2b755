/-! all of the regions: the other side -/
noncomputable def d_sf (P : pP) (f r n : Nat) : Nat := if d_ow (d_of P) f r = true then d_fs P f r n else 0
noncomputable def d_st (P : pP) (f r n : Nat) : Nat := if d_ow (d_of P) f r = true then d_ls P f r n else 0
section DI
variable {T : m_M} {m : Nat} {P : pP} {f i : Nat}
theorem j_rin (hW : p_W P) (hP : r_P (m_ri T (m + 2)) P) (hf : f < p_fu P) (hi : i < p_ct P f) (hT : d_T1 T m P (p_fu P) 0) : ∃ x, f_X12_reachIn m T (nI f) (nI (p_fi P f + i)) = some (x, T) ∧ ∀ r, r < 32 → (bt x r = true ↔ d_lr P (d_of P) f i r) := by
  have hfu := m_fu_ge
  have hl := hW.line hf hi
  obtain ⟨p1, p2, p3⟩ := hP.2.2.1 f hf
  have ev : p_pa P f + (p_fi P f + i) - p_fi P f = p_pa P f + i := by omega
  have hvl : f_X12_madeBy m T (nI f) (nI (p_fi P f + i)) = some (nI (p_pa P f + i), T) := by simp (disch := omega) only [e_let, e_call, e_cal0, e_bind, e_lit, e_ofN, e_neg, nI_add, pk_mul, e_sub, e_ldi, e_sti, e_ldj, e_stj, e_le_t, e_le_f, e_lt_t, e_lt_f, e_eq_t, e_eq_f, e_no_eq, e_no_eq', e_no_rfl, e_no_lt, e_no_le, e_le_no, e_lt_no, if_true, if_false, ↓reduceIte, e_rs, e_rq, e_rn, e_ji, e_ki, e_ij, e_kj, e_js, e_jq, e_jn, e_cs, e_cq, e_jc, e_kc, e_js', e_jcq, e_icj, e_kcj, or_true, true_or, or_false, false_or, and_true, true_and, not_true_eq_false, not_false_eq_true, f_X12_madeBy, p1, p2, ev]
  have hx := (hT f (p_pa P f + i) hf (by simp only [p_vs]; omega) (Or.inl hf)).2
  have key : ∀ (c s fu : Nat) (x : Int32), s + c = 5 → c < fu → (∀ r, r < 32 → (bt x r = true ↔ d_rc (d_of P) f (p_pa P f + i) r = true ∨ ∃ k, k < s ∧ p_us P (p_fi P f + i) k ∧ d_rc (d_of P) f (p_va P (p_fi P f + i) k) r = true)) →
      ∃ x', b_X12_reachIn_20 m fu T (nI f) (nI (p_fi P f + i)) x (nI s) = some (x', T) ∧ ∀ r, r < 32 → (bt x' r = true ↔ d_lr P (d_of P) f i r) := by
    intro c
    induction c with
    | zero =>
      intro s fu x hs hfu' hx
      obtain ⟨fu, rfl⟩ : ∃ f, fu = f + 1 := ⟨fu - 1, by omega⟩
      have hs : s = 5 := hs
      subst hs
      refine ⟨x, ?_, hx⟩
      simp (disch := omega) only [e_let, e_call, e_cal0, e_bind, e_lit, e_ofN, e_neg, nI_add, pk_mul, e_sub, e_ldi, e_sti, e_ldj, e_stj, e_le_t, e_le_f, e_lt_t, e_lt_f, e_eq_t, e_eq_f, e_no_eq, e_no_eq', e_no_rfl, e_no_lt, e_no_le, e_le_no, e_lt_no, if_true, if_false, ↓reduceIte, e_rs, e_rq, e_rn, e_ji, e_ki, e_ij, e_kj, e_js, e_jq, e_jn, e_cs, e_cq, e_jc, e_kc, e_js', e_jcq, e_icj, e_kcj, or_true, true_or, or_false, false_or, and_true, true_and, not_true_eq_false, not_false_eq_true, b_X12_reachIn_20]
    | succ c ih =>
      intro s fu x hs hfu' hx
      obtain ⟨fu, rfl⟩ : ∃ f, fu = f + 1 := ⟨fu - 1, by omega⟩
      obtain ⟨v1, v2⟩ := (hP.2.2.2 f i hf hi).2.2.2 s (by omega)
      by_cases hu : p_us P (p_fi P f + i) s
      · have hv := v1 hu
        have hvs := (hW.2.2.2.2 f i hf hi).2.2.2 s hu
        have hvar : f_X12_var m T (nI (p_fi P f + i)) (nI s) = some (nI (p_va P (p_fi P f + i) s), T) := by simp (disch := omega) only [e_let, e_call, e_cal0, e_bind, e_lit, e_ofN, e_neg, nI_add, pk_mul, e_sub, e_ldi, e_sti, e_ldj, e_stj, e_le_t, e_le_f, e_lt_t, e_lt_f, e_eq_t, e_eq_f, e_no_eq, e_no_eq', e_no_rfl, e_no_lt, e_no_le, e_le_no, e_lt_no, if_true, if_false, ↓reduceIte, e_rs, e_rq, e_rn, e_ji, e_ki, e_ij, e_kj, e_js, e_jq, e_jn, e_cs, e_cq, e_jc, e_kc, e_js', e_jcq, e_icj, e_kcj, or_true, true_or, or_false, false_or, and_true, true_and, not_true_eq_false, not_false_eq_true, f_X12_var, hv]
        have hrc := (hT f (p_va P (p_fi P f + i) s) hf (by simp only [p_vs]; omega) (Or.inl hf)).2
        obtain ⟨x', g1, g2⟩ := ih (s + 1) fu (x ||| m_ri T (m + 16) (27 * f + p_va P (p_fi P f + i) s)) (by omega) (by omega) (fun r hr => by
          rw [b_or, Bool.or_eq_true, hx r hr, hrc r hr]
          constructor
          · rintro ((h | ⟨k, k1, k2, k3⟩) | h)
            · exact Or.inl h
            · exact Or.inr ⟨k, by omega, k2, k3⟩
            · exact Or.inr ⟨s, by omega, hu, h⟩
          · rintro (h | ⟨k, k1, k2, k3⟩)
            · exact Or.inl (Or.inl h)
            · by_cases e : k = s
              · subst e; exact Or.inr k3
              · exact Or.inl (Or.inr ⟨k, by omega, k2, k3⟩))
        refine ⟨x', ?_, g2⟩
        rw [← g1]
        simp (disch := omega) only [e_let, e_call, e_cal0, e_bind, e_lit, e_ofN, e_neg, nI_add, pk_mul, e_sub, e_ldi, e_sti, e_ldj, e_stj, e_le_t, e_le_f, e_lt_t, e_lt_f, e_eq_t, e_eq_f, e_no_eq, e_no_eq', e_no_rfl, e_no_lt, e_no_le, e_le_no, e_lt_no, if_true, if_false, ↓reduceIte, e_rs, e_rq, e_rn, e_ji, e_ki, e_ij, e_kj, e_js, e_jq, e_jn, e_cs, e_cq, e_jc, e_kc, e_js', e_jcq, e_icj, e_kcj, or_true, true_or, or_false, false_or, and_true, true_and, not_true_eq_false, not_false_eq_true, b_X12_reachIn_20, hvar, f_X12_node, b_X12_reachIn_57]
      · have hv := v2 hu
        have hvar : f_X12_var m T (nI (p_fi P f + i)) (nI s) = some (m_no, T) := by simp (disch := omega) only [e_let, e_call, e_cal0, e_bind, e_lit, e_ofN, e_neg, nI_add, pk_mul, e_sub, e_ldi, e_sti, e_ldj, e_stj, e_le_t, e_le_f, e_lt_t, e_lt_f, e_eq_t, e_eq_f, e_no_eq, e_no_eq', e_no_rfl, e_no_lt, e_no_le, e_le_no, e_lt_no, if_true, if_false, ↓reduceIte, e_rs, e_rq, e_rn, e_ji, e_ki, e_ij, e_kj, e_js, e_jq, e_jn, e_cs, e_cq, e_jc, e_kc, e_js', e_jcq, e_icj, e_kcj, or_true, true_or, or_false, false_or, and_true, true_and, not_true_eq_false, not_false_eq_true, f_X12_var, hv]
        obtain ⟨x', g1, g2⟩ := ih (s + 1) fu x (by omega) (by omega) (fun r hr => by
          rw [hx r hr]
          constructor
          · rintro (h | ⟨k, k1, k2, k3⟩)
            · exact Or.inl h
            · exact Or.inr ⟨k, by omega, k2, k3⟩
          · rintro (h | ⟨k, k1, k2, k3⟩)
            · exact Or.inl h
            · by_cases e : k = s
              · subst e; exact absurd k2 hu
              · exact Or.inr ⟨k, by omega, k2, k3⟩)
        refine ⟨x', ?_, g2⟩
        rw [← g1]
        simp (disch := omega) only [e_let, e_call, e_cal0, e_bind, e_lit, e_ofN, e_neg, nI_add, pk_mul, e_sub, e_ldi, e_sti, e_ldj, e_stj, e_le_t, e_le_f, e_lt_t, e_lt_f, e_eq_t, e_eq_f, e_no_eq, e_no_eq', e_no_rfl, e_no_lt, e_no_le, e_le_no, e_lt_no, if_true, if_false, ↓reduceIte, e_rs, e_rq, e_rn, e_ji, e_ki, e_ij, e_kj, e_js, e_jq, e_jn, e_cs, e_cq, e_jc, e_kc, e_js', e_jcq, e_icj, e_kcj, or_true, true_or, or_false, false_or, and_true, true_and, not_true_eq_false, not_false_eq_true, b_X12_reachIn_20, hvar, b_X12_reachIn_57]
  obtain ⟨x', g1, g2⟩ := key 5 0 m_fu (m_ri T (m + 16) (27 * f + (p_pa P f + i))) (by omega) (by omega) (fun r hr => by
    rw [hx r hr]
    exact ⟨fun h => Or.inl h, fun h => by
      rcases h with h | ⟨k, k1, -⟩
      · exact h
      · omega⟩)
  refine ⟨x', ?_, g2⟩
  rw [← g1]
  simp (disch := omega) only [e_let, e_call, e_cal0, e_bind, e_lit, e_ofN, e_neg, nI_add, pk_mul, e_sub, e_ldi, e_sti, e_ldj, e_stj, e_le_t, e_le_f, e_lt_t, e_lt_f, e_eq_t, e_eq_f, e_no_eq, e_no_eq', e_no_rfl, e_no_lt, e_no_le, e_le_no, e_lt_no, if_true, if_false, ↓reduceIte, e_rs, e_rq, e_rn, e_ji, e_ki, e_ij, e_kj, e_js, e_jq, e_jn, e_cs, e_cq, e_jc, e_kc, e_js', e_jcq, e_icj, e_kcj, or_true, true_or, or_false, false_or, and_true, true_and, not_true_eq_false, not_false_eq_true, f_X12_reachIn, hvl, f_X12_node]
/-- spans of a fun: regions below j with i + 1 lines, the others with i -/
def d_Sp (T : m_M) (m : Nat) (P : pP) (f i j : Nat) : Prop := ∀ r, r < d_z P → m_ri T (m + 20) (24 * f + r) = nO (d_sf P f r (if r < j then i + 1 else i)) ∧ m_ri T (m + 21) (24 * f + r) = nO (d_st P f r (if r < j then i + 1 else i))
theorem j_sp80 {x : Int32} {K : m_M → Int32 → Int32 → Option m_M} (hW : p_W P) (hf : f < p_fu P) (hi : i < p_ct P f) (hx : ∀ r, r < 32 → (bt x r = true ↔ d_lr P (d_of P) f i r ∧ d_ow (d_of P) f r = true)) : ∀ (c j fu : Nat) (T : m_M), j + c = d_z P → c < fu → m_ri T (m + 2) 2 = nI (d_z P) → d_Sp T m P f i j →
    ∃ T', b_X12_laySpans_80 m K fu T (nI f) (nI i) x (nI j) = K T' (nI f) (nI (i + 1)) ∧ d_Sp T' m P f (i + 1) 0 ∧ e_O (m + 20) (m + 22) T T' ∧ (∀ g r, g ≠ f → r < 24 → m_ri T' (m + 20) (24 * g + r) = m_ri T (m + 20) (24 * g + r) ∧ m_ri T' (m + 21) (24 * g + r) = m_ri T (m + 21) (24 * g + r)) := by
  have hz := d_z_le hW
  have h5 := hW.1
  have hl := hW.line hf hi
  intro c
  induction c with
  | zero =>
    intro j fu T hj hfu h2 hS
    obtain ⟨fu, rfl⟩ : ∃ f, fu = f + 1 := ⟨fu - 1, by omega⟩
    have hj : j = d_z P := hj
    refine ⟨T, ?_, fun r hr => ?_, e_O.rf, fun g r _ _ => ⟨rfl, rfl⟩⟩
    · simp (disch := omega) only [e_let, e_call, e_cal0, e_bind, e_lit, e_ofN, e_neg, nI_add, pk_mul, e_sub, e_ldi, e_sti, e_ldj, e_stj, e_le_t, e_le_f, e_lt_t, e_lt_f, e_eq_t, e_eq_f, e_no_eq, e_no_eq', e_no_rfl, e_no_lt, e_no_le, e_le_no, e_lt_no, if_true, if_false, ↓reduceIte, e_rs, e_rq, e_rn, e_ji, e_ki, e_ij, e_kj, e_js, e_jq, e_jn, e_cs, e_cq, e_jc, e_kc, e_js', e_jcq, e_icj, e_kcj, or_true, true_or, or_false, false_or, and_true, true_and, not_true_eq_false, not_false_eq_true, b_X12_laySpans_80, h2]
    · have := hS r hr
      rw [if_pos (by omega)] at this
      rw [if_neg (by omega)]; exact this
  | succ c ih =>
    intro j fu T hj hfu h2 hS
    obtain ⟨fu, rfl⟩ : ∃ f, fu = f + 1 := ⟨fu - 1, by omega⟩
    have hh := e_has (T := T) (x := x) (r := j) (by omega)
    obtain ⟨s1, s2⟩ := hS j (by omega)
    rw [if_neg (by omega)] at s1 s2
    by_cases hb : bt x j = true
    · rw [if_pos hb] at hh
      obtain ⟨hlr, how⟩ := (hx j (by omega)).mp hb
      have e1 : d_fs P f j (i + 1) = if d_fs P f j i = 0 then i + 1 else d_fs P f j i := by rw [d_fs, if_pos (d_dec_t.mpr hlr)]
      have e2 : d_ls P f j (i + 1) = i + 1 := by rw [d_ls, if_pos (d_dec_t.mpr hlr)]
      rw [d_sf, if_pos how] at s1
      rw [d_st, if_pos how] at s2
      by_cases h0 : d_fs P f j i = 0
      · rw [h0] at s1
        have s1 : m_ri T (m + 20) (24 * f + j) = m_no := s1
        obtain ⟨T', g1, g2, g3, g4⟩ := ih (j + 1) fu (m_si (m_si T (m + 20) (24 * f + j) (nI i)) (m + 21) (24 * f + j) (nI i)) (by omega) (by omega) (by rw [e_rq (by omega), e_rq (by omega)]; exact h2) (fun r hr => by
          rw [e_rq (by omega), e_rif, e_rif, e_rq (by omega)]
          by_cases e : r = j
          · subst e
            rw [if_pos rfl, if_pos rfl, if_pos (by omega), d_sf, if_pos how, d_st, if_pos how, e1, e2, if_pos h0]; exact ⟨rfl, rfl⟩
          · rw [if_neg (show ¬ 24 * f + r = 24 * f + j by omega), if_neg (show ¬ 24 * f + r = 24 * f + j by omega)]
            have := hS r hr
            by_cases hlt : r < j
            · rw [if_pos hlt] at this; rw [if_pos (by omega)]; exact this
            · rw [if_neg hlt] at this; rw [if_neg (by omega)]; exact this)
        refine ⟨T', ?_, g2, ((e_O.rf.si (by omega) (by omega)).si (by omega) (by omega)).tr g3, fun g r hg hr => ?_⟩
        · rw [← g1]
          simp (disch := omega) only [e_let, e_call, e_cal0, e_bind, e_lit, e_ofN, e_neg, nI_add, pk_mul, e_sub, e_ldi, e_sti, e_ldj, e_stj, e_le_t, e_le_f, e_lt_t, e_lt_f, e_eq_t, e_eq_f, e_no_eq, e_no_eq', e_no_rfl, e_no_lt, e_no_le, e_le_no, e_lt_no, if_true, if_false, ↓reduceIte, e_rs, e_rq, e_rn, e_ji, e_ki, e_ij, e_kj, e_js, e_jq, e_jn, e_cs, e_cq, e_jc, e_kc, e_js', e_jcq, e_icj, e_kcj, or_true, true_or, or_false, false_or, and_true, true_and, not_true_eq_false, not_false_eq_true, b_X12_laySpans_80, h2, hh, s1, b_X12_laySpans_132, b_X12_laySpans_145]
        · rw [(g4 g r hg hr).1, (g4 g r hg hr).2, e_rq (by omega), e_rn (by omega), e_rn (by omega), e_rq (by omega)]; exact ⟨rfl, rfl⟩
      · have hfl := (d_fs_le (P := P) (f := f) (r := j) i).1
        rw [nO_pos (by omega)] at s1
        obtain ⟨T', g1, g2, g3, g4⟩ := ih (j + 1) fu (m_si T (m + 21) (24 * f + j) (nI i)) (by omega) (by omega) (by rw [e_rq (by omega)]; exact h2) (fun r hr => by
          rw [e_rq (by omega), e_rif]
          by_cases e : r = j
          · subst e
            rw [if_pos rfl, if_pos (by omega), d_sf, if_pos how, d_st, if_pos how, e1, e2, if_neg h0, s1, nO_pos (by omega)]; exact ⟨rfl, rfl⟩
          · rw [if_neg (show ¬ 24 * f + r = 24 * f + j by omega)]
            have := hS r hr
            by_cases hlt : r < j
            · rw [if_pos hlt] at this; rw [if_pos (by omega)]; exact this
            · rw [if_neg hlt] at this; rw [if_neg (by omega)]; exact this)
        refine ⟨T', ?_, g2, (e_O.rf.si (by omega) (by omega)).tr g3, fun g r hg hr => ?_⟩
        · rw [← g1]
          simp (disch := omega) only [e_let, e_call, e_cal0, e_bind, e_lit, e_ofN, e_neg, nI_add, pk_mul, e_sub, e_ldi, e_sti, e_ldj, e_stj, e_le_t, e_le_f, e_lt_t, e_lt_f, e_eq_t, e_eq_f, e_no_eq, e_no_eq', e_no_rfl, e_no_lt, e_no_le, e_le_no, e_lt_no, if_true, if_false, ↓reduceIte, e_rs, e_rq, e_rn, e_ji, e_ki, e_ij, e_kj, e_js, e_jq, e_jn, e_cs, e_cq, e_jc, e_kc, e_js', e_jcq, e_icj, e_kcj, or_true, true_or, or_false, false_or, and_true, true_and, not_true_eq_false, not_false_eq_true, b_X12_laySpans_80, h2, hh, s1, b_X12_laySpans_132, b_X12_laySpans_145]
        · rw [(g4 g r hg hr).1, (g4 g r hg hr).2, e_rq (by omega), e_rn (by omega)]; exact ⟨rfl, rfl⟩
    · rw [if_neg hb] at hh
      have hno : d_sf P f j (i + 1) = d_sf P f j i ∧ d_st P f j (i + 1) = d_st P f j i := by
        by_cases how : d_ow (d_of P) f j = true
        · have hlr : ¬ d_lr P (d_of P) f i j := fun q => hb ((hx j (by omega)).mpr ⟨q, how⟩)
          rw [d_sf, d_sf, d_st, d_st, if_pos how, if_pos how, if_pos how, if_pos how, d_fs, d_ls, if_neg (fun q => hlr (d_dec_t.mp q)), if_neg (fun q => hlr (d_dec_t.mp q))]; exact ⟨rfl, rfl⟩
        · rw [d_sf, d_sf, d_st, d_st, if_neg how, if_neg how, if_neg how, if_neg how]; exact ⟨rfl, rfl⟩
      obtain ⟨T', g1, g2, g3, g4⟩ := ih (j + 1) fu T (by omega) (by omega) h2 (fun r hr => by
        by_cases e : r = j
        · subst e
          rw [if_pos (by omega), hno.1, hno.2]; exact ⟨s1, s2⟩
        · have := hS r hr
          by_cases hlt : r < j
          · rw [if_pos hlt] at this; rw [if_pos (by omega)]; exact this
          · rw [if_neg hlt] at this; rw [if_neg (by omega)]; exact this)
      refine ⟨T', ?_, g2, g3, g4⟩
      rw [← g1]
      simp (disch := omega) only [e_let, e_call, e_cal0, e_bind, e_lit, e_ofN, e_neg, nI_add, pk_mul, e_sub, e_ldi, e_sti, e_ldj, e_stj, e_le_t, e_le_f, e_lt_t, e_lt_f, e_eq_t, e_eq_f, e_no_eq, e_no_eq', e_no_rfl, e_no_lt, e_no_le, e_le_no, e_lt_no, if_true, if_false, ↓reduceIte, e_rs, e_rq, e_rn, e_ji, e_ki, e_ij, e_kj, e_js, e_jq, e_jn, e_cs, e_cq, e_jc, e_kc, e_js', e_jcq, e_icj, e_kcj, or_true, true_or, or_false, false_or, and_true, true_and, not_true_eq_false, not_false_eq_true, b_X12_laySpans_80, h2, hh, b_X12_laySpans_145]
theorem j_sp40 (hW : p_W P) (hf : f < p_fu P) : ∀ (c i fu : Nat) (T : m_M), i + c = p_ct P f → c < fu → r_P (m_ri T (m + 2)) P → m_ri T (m + 2) 2 = nI (d_z P) → d_T1 T m P (p_fu P) 0 → e_bs (m_ri T (m + 19) f) (d_ow (d_of P) f) → d_Sp T m P f i 0 →
    ∃ T', b_X12_laySpans_40 m fu T (nI f) (nI i) = some T' ∧ d_Sp T' m P f (p_ct P f) 0 ∧ e_O (m + 20) (m + 22) T T' ∧ (∀ g r, g ≠ f → r < 24 → m_ri T' (m + 20) (24 * g + r) = m_ri T (m + 20) (24 * g + r) ∧ m_ri T' (m + 21) (24 * g + r) = m_ri T (m + 21) (24 * g + r)) := by
  have hfu := m_fu_ge
  have hz := d_z_le hW
  have h5 := hW.1
  have h24 := hW.2.1
  have hl := hW.2.2.1 f hf
  intro c
  induction c with
  | zero =>
    intro i fu T hi hfu' hP h2 hT ho hS
    obtain ⟨fu, rfl⟩ : ∃ f, fu = f + 1 := ⟨fu - 1, by omega⟩
    have hi : i = p_ct P f := hi
    obtain ⟨p1, p2, p3⟩ := hP.2.2.1 f hf
    refine ⟨T, ?_, hi ▸ hS, e_O.rf, fun g r _ _ => ⟨rfl, rfl⟩⟩
    simp (disch := omega) only [e_let, e_call, e_cal0, e_bind, e_lit, e_ofN, e_neg, nI_add, pk_mul, e_sub, e_ldi, e_sti, e_ldj, e_stj, e_le_t, e_le_f, e_lt_t, e_lt_f, e_eq_t, e_eq_f, e_no_eq, e_no_eq', e_no_rfl, e_no_lt, e_no_le, e_le_no, e_lt_no, if_true, if_false, ↓reduceIte, e_rs, e_rq, e_rn, e_ji, e_ki, e_ij, e_kj, e_js, e_jq, e_jn, e_cs, e_cq, e_jc, e_kc, e_js', e_jcq, e_icj, e_kcj, or_true, true_or, or_false, false_or, and_true, true_and, not_true_eq_false, not_false_eq_true, b_X12_laySpans_40, p3]
  | succ c ih =>
    intro i fu T hi hfu' hP h2 hT ho hS
    obtain ⟨fu, rfl⟩ : ∃ f, fu = f + 1 := ⟨fu - 1, by omega⟩
    obtain ⟨p1, p2, p3⟩ := hP.2.2.1 f hf
    obtain ⟨x, x1, x2⟩ := j_rin hW hP hf (show i < p_ct P f by omega) hT
    obtain ⟨T1, f1, f2, f3, f4⟩ := j_sp80 (x := x &&& m_ri T (m + 19) f) (K := b_X12_laySpans_40 m fu) hW hf (show i < p_ct P f by omega) (fun r hr => by rw [b_and, Bool.and_eq_true, x2 r hr, ho r hr]) (d_z P) 0 m_fu T (by omega) (by omega) h2 hS
    have k : ∀ q, q < m + 20 ∨ m + 22 ≤ q → m_ri T1 q = m_ri T q := f3.1
    obtain ⟨T', g1, g2, g3, g4⟩ := ih (i + 1) fu T1 (by omega) (by omega) (by rw [k _ (by omega)]; exact hP) (by rw [k _ (by omega)]; exact h2) (by simp only [d_T1, k (m + 15) (by omega), k (m + 16) (by omega)]; exact hT) (by rw [k _ (by omega)]; exact ho) f2
    refine ⟨T', ?_, g2, f3.tr g3, fun g r hg hr => by rw [(g4 g r hg hr).1, (g4 g r hg hr).2]; exact f4 g r hg hr⟩
    rw [← g1, ← f1, b_X12_laySpans_40]
    simp (disch := omega) only [e_let, e_call, e_cal0, e_bind, e_lit, e_ofN, e_neg, nI_add, pk_mul, e_sub, e_ldi, e_sti, e_ldj, e_stj, e_le_t, e_le_f, e_lt_t, e_lt_f, e_eq_t, e_eq_f, e_no_eq, e_no_eq', e_no_rfl, e_no_lt, e_no_le, e_le_no, e_lt_no, if_true, if_false, ↓reduceIte, e_rs, e_rq, e_rn, e_ji, e_ki, e_ij, e_kj, e_js, e_jq, e_jn, e_cs, e_cq, e_jc, e_kc, e_js', e_jcq, e_icj, e_kcj, or_true, true_or, or_false, false_or, and_true, true_and, not_true_eq_false, not_false_eq_true, p3, p2, x1]
theorem j_spans (hW : p_W P) (hf : f < p_fu P) (hP : r_P (m_ri T (m + 2)) P) (h2 : m_ri T (m + 2) 2 = nI (d_z P)) (hT : d_T1 T m P (p_fu P) 0) (ho : e_bs (m_ri T (m + 19) f) (d_ow (d_of P) f)) : ∃ T', f_X12_laySpans m T (nI f) = some T' ∧ d_Sp T' m P f (p_ct P f) 0 ∧ e_O (m + 20) (m + 22) T T' ∧ (∀ g r, g ≠ f → r < 24 → m_ri T' (m + 20) (24 * g + r) = m_ri T (m + 20) (24 * g + r) ∧ m_ri T' (m + 21) (24 * g + r) = m_ri T (m + 21) (24 * g + r)) := by
  have hfu := m_fu_ge
  have hz := d_z_le hW
  have h5 := hW.1
  have h24 := hW.2.1
  have hl := hW.2.2.1 f hf
  have key : ∀ (c j fu : Nat) (T' : m_M), j + c = 24 → c < fu → e_O (m + 20) (m + 22) T T' → (∀ r, r < j → m_ri T' (m + 20) (24 * f + r) = m_no ∧ m_ri T' (m + 21) (24 * f + r) = m_no) → (∀ g r, g ≠ f → r < 24 → m_ri T' (m + 20) (24 * g + r) = m_ri T (m + 20) (24 * g + r) ∧ m_ri T' (m + 21) (24 * g + r) = m_ri T (m + 21) (24 * g + r)) →
      ∃ T'', b_X12_laySpans_2 m fu T' (nI f) (nI j) = some T'' ∧ d_Sp T'' m P f (p_ct P f) 0 ∧ e_O (m + 20) (m + 22) T T'' ∧ (∀ g r, g ≠ f → r < 24 → m_ri T'' (m + 20) (24 * g + r) = m_ri T (m + 20) (24 * g + r) ∧ m_ri T'' (m + 21) (24 * g + r) = m_ri T (m + 21) (24 * g + r)) := by
    intro c
    induction c with
    | zero =>
      intro j fu T' hj hfu' hO h1 h3
      obtain ⟨fu, rfl⟩ : ∃ f, fu = f + 1 := ⟨fu - 1, by omega⟩
      have hj : j = 24 := hj
      subst hj
      have k : ∀ q, q < m + 20 ∨ m + 22 ≤ q → m_ri T' q = m_ri T q := hO.1
      obtain ⟨T'', g1, g2, g3, g4⟩ := j_sp40 (m := m) hW hf (p_ct P f) 0 m_fu T' (by omega) (by omega) (by rw [k _ (by omega)]; exact hP) (by rw [k _ (by omega)]; exact h2) (by simp only [d_T1, k (m + 15) (by omega), k (m + 16) (by omega)]; exact hT) (by rw [k _ (by omega)]; exact ho) (fun r hr => by
        rw [if_neg (by omega), (h1 r (by omega)).1, (h1 r (by omega)).2]
        have e1 : d_sf P f r 0 = 0 := by rw [d_sf]; split <;> rfl
        have e2 : d_st P f r 0 = 0 := by rw [d_st]; split <;> rfl
        rw [e1, e2]; exact ⟨rfl, rfl⟩)
      refine ⟨T'', ?_, g2, hO.tr g3, fun g r hg hr => by rw [(g4 g r hg hr).1, (g4 g r hg hr).2]; exact h3 g r hg hr⟩
      rw [← g1]
      simp (disch := omega) only [e_let, e_call, e_cal0, e_bind, e_lit, e_ofN, e_neg, nI_add, pk_mul, e_sub, e_ldi, e_sti, e_ldj, e_stj, e_le_t, e_le_f, e_lt_t, e_lt_f, e_eq_t, e_eq_f, e_no_eq, e_no_eq', e_no_rfl, e_no_lt, e_no_le, e_le_no, e_lt_no, if_true, if_false, ↓reduceIte, e_rs, e_rq, e_rn, e_ji, e_ki, e_ij, e_kj, e_js, e_jq, e_jn, e_cs, e_cq, e_jc, e_kc, e_js', e_jcq, e_icj, e_kcj, or_true, true_or, or_false, false_or, and_true, true_and, not_true_eq_false, not_false_eq_true, b_X12_laySpans_2]
    | succ c ih =>
      intro j fu T' hj hfu' hO h1 h3
      obtain ⟨fu, rfl⟩ : ∃ f, fu = f + 1 := ⟨fu - 1, by omega⟩
      obtain ⟨T'', g1, g2⟩ := ih (j + 1) fu (m_si (m_si T' (m + 20) (24 * f + j) m_no) (m + 21) (24 * f + j) m_no) (by omega) (by omega) ((hO.si (by omega) (by omega)).si (by omega) (by omega)) (fun r hr => by
        rw [e_rq (by omega), e_rif, e_rif, e_rq (by omega)]
        by_cases e : r = j
        · rw [if_pos (by omega), if_pos (by omega)]; exact ⟨rfl, rfl⟩
        · rw [if_neg (by omega), if_neg (by omega)]; exact h1 r (by omega)) (fun g r hg hr => by
        rw [e_rq (by omega), e_rn (by omega), e_rn (by omega), e_rq (by omega)]; exact h3 g r hg hr)
      refine ⟨T'', ?_, g2⟩
      rw [← g1]
      simp (disch := omega) only [e_let, e_call, e_cal0, e_bind, e_lit, e_ofN, e_neg, nI_add, pk_mul, e_sub, e_ldi, e_sti, e_ldj, e_stj, e_le_t, e_le_f, e_lt_t, e_lt_f, e_eq_t, e_eq_f, e_no_eq, e_no_eq', e_no_rfl, e_no_lt, e_no_le, e_le_no, e_lt_no, if_true, if_false, ↓reduceIte, e_rs, e_rq, e_rn, e_ji, e_ki, e_ij, e_kj, e_js, e_jq, e_jn, e_cs, e_cq, e_jc, e_kc, e_js', e_jcq, e_icj, e_kcj, or_true, true_or, or_false, false_or, and_true, true_and, not_true_eq_false, not_false_eq_true, b_X12_laySpans_2]
  obtain ⟨T'', g1, g2⟩ := key 24 0 m_fu T (by omega) (by omega) e_O.rf (fun r hr => by omega) (fun g r _ _ => ⟨rfl, rfl⟩)
  exact ⟨T'', by rw [f_X12_laySpans]; exact g1, g2⟩
end DI
