/-! the other side: a value is given further -/
section RN
variable {T : m_M} {m z : Nat} {P : pP} {D : pD} {M : qM} {f i : Nat}
theorem q_frs_no {e : Nat → Bool} {n : Nat} (he : ∀ r, e r = false) : ∀ (d r : Nat) (M : qM), q_frs e n d r M = M := by
  intro d
  induction d with
  | zero => intro r M; rfl
  | succ d ih => intro r M; simp only [q_frs]; rw [he r, if_neg (by decide)]; exact ih (r + 1) M
theorem j_frees (C : r_C T m P D z) (hM : r_R (m_ri T (m + 2)) M) (hB : q_B P M) (H : q_top P M f i) (hlev : ∀ y, y ∈ q_F M → y.1 ≤ q_sc M 2) (hin : ∀ r, r < 24 → d_en D f i r = true → (q_sc M 2, r) ∈ q_F M) :
    ∃ T', f_X12_frees m T (nI (q_sc M 2 - 1)) = some T' ∧ r_R (m_ri T' (m + 2)) (q_free P D M (q_sc M 2 - 1) f (d_en D f i)) ∧ r_O m T T' := by
  have hfu := m_fu_ge
  have hf := j_funOf hM H
  have H' := H
  obtain ⟨t1, t2, t3, t4, t5, t6, t7⟩ := H
  have hz := C.2.2.1.1
  have hez : ∀ r, z ≤ r → d_en D f i r = false := fun r hr => (C.2.2.1.2.2.2.2.2.2.2 f i r hr).2.1
  have hn1 : q_sc M 2 - 1 + 1 = q_sc M 2 := by omega
  have key : ∀ M', r_R (m_ri T (m + 2)) M' → q_B P M' → q_sc M' 2 = q_sc M 2 → q_fl M' = q_fl M → q_F M' = q_F M → ∃ T', f_X12_frees m T (nI (q_sc M 2 - 1)) = some T' ∧ r_R (m_ri T' (m + 2)) (q_clr D (q_frs (d_en D f i) (q_sc M 2) 24 0 M') (q_sc M 2 - 1) f (d_en D f i) (p_vs P f)) ∧ r_O m T T' := by
    intro M' hM' hB' h2 hfl hF
    obtain ⟨T', g1, g2, g3⟩ := j_freesl (n := q_sc M 2) (k := q_sc M 2 - 1) t5 t6 (by omega) z 0 m_fu T M' (by omega) (by omega) C hM' hB' (by omega) (by rw [hfl]; exact t4) (by rw [hF]; exact hlev) (fun r' _ h2 h3 => by rw [hF]; exact hin r' h2 h3)
    have e1 := q_frz_z (D := D) (f := f) (e := d_en D f i) (n := q_sc M 2) (k := q_sc M 2 - 1) (w := p_vs P f) z 0 (24 - z) M' (fun x hx => hez x (by omega))
    rw [show z + (24 - z) = 24 by omega] at e1
    rw [← e1, q_frz_eq] at g2
    have e2 : (fun x => d_en D f i x && decide (0 ≤ x ∧ x < 0 + 24)) = d_en D f i := by
      funext x
      by_cases hx : x < 24
      · rw [decide_eq_true (by omega), Bool.and_true]
      · rw [hez x (by omega)]; rfl
    rw [e2] at g2
    refine ⟨T', ?_, g2, g3⟩
    simp (disch := omega) only [e_let, e_call, e_cal0, e_bind, e_lit, e_ofN, e_neg, nI_add, pk_mul, e_sub, e_ldi, e_sti, e_ldj, e_stj, e_le_t, e_le_f, e_lt_t, e_lt_f, e_eq_t, e_eq_f, e_no_eq, e_no_eq', e_no_rfl, e_no_lt, e_no_le, e_le_no, e_lt_no, if_true, if_false, ↓reduceIte, e_rs, e_rq, e_rn, e_ji, e_ki, e_ij, e_kj, e_js, e_jq, e_jn, e_cs, e_cq, e_jc, e_kc, e_js', e_jcq, e_icj, e_kcj, or_true, true_or, or_false, false_or, and_true, true_and, not_true_eq_false, not_false_eq_true, f_X12_frees, hf]
    exact g1
  by_cases h0 : (List.range 24).all (fun r => !d_en D f i r) = true
  · obtain ⟨T', g1, g2, g3⟩ := key M hM hB rfl rfl rfl
    have he : ∀ r, d_en D f i r = false := fun r => by
      rcases Nat.lt_or_ge r 24 with h | h
      · have := List.all_eq_true.mp h0 r (List.mem_range.mpr h); simpa using this
      · exact hez r (by omega)
    rw [q_frs_no he, q_clr_none (fun v => q_hit_false he)] at g2
    exact ⟨T', g1, by rw [q_free, if_pos h0]; exact g2, g3⟩
  · obtain ⟨T', g1, g2, g3⟩ := key (q_s M 11 1) hM.lost (hB.s (by omega) (by omega) (by omega) (by omega) (by omega) (by omega) (by omega) (by omega)) (q_sc_ne (by omega)) rfl rfl
    exact ⟨T', g1, by rw [q_free, if_neg h0, hn1]; exact g2, g3⟩
theorem q_fin_last (hh : q_hit D (d_en D (q_ff M (q_sc M 2 - 1)) (q_fl M (q_sc M 2 - 1))) (q_ff M (q_sc M 2 - 1)) (p_pa P (q_ff M (q_sc M 2 - 1)) + q_fl M (q_sc M 2 - 1)) = false) :
    q_kd (q_fin P D M) (q_sc M 2 - 1) (p_pa P (q_ff M (q_sc M 2 - 1)) + q_fl M (q_sc M 2 - 1)) = q_sc M 9 ∧ q_vl (q_fin P D M) (q_sc M 2 - 1) (p_pa P (q_ff M (q_sc M 2 - 1)) + q_fl M (q_sc M 2 - 1)) = q_gv M := by
  show q_kd (q_free P D _ _ _ _) _ _ = _ ∧ q_vl (q_free P D _ _ _ _) _ _ = _
  rw [q_free]
  split
  · show va_up (q_kd M) _ (va_up (q_kd M _) _ _) _ _ = _ ∧ va_up (q_vl M) _ (va_up (q_vl M _) _ _) _ _ = _
    rw [q_kvar, q_vvar, if_pos ⟨rfl, rfl⟩, if_pos ⟨rfl, rfl⟩]; exact ⟨rfl, rfl⟩
  · have hfr := q_frs_ff (e := d_en D (q_ff M (q_sc M 2 - 1)) (q_fl M (q_sc M 2 - 1))) (n := q_sc M 2 - 1 + 1) 24 0 (q_s (q_var M (q_sc M 2 - 1) (p_pa P (q_ff M (q_sc M 2 - 1)) + q_fl M (q_sc M 2 - 1)) (q_sc M 9) (q_gv M)) 11 1)
    have hk : q_kd (q_frs (d_en D (q_ff M (q_sc M 2 - 1)) (q_fl M (q_sc M 2 - 1))) (q_sc M 2 - 1 + 1) 24 0 (q_s (q_var M (q_sc M 2 - 1) (p_pa P (q_ff M (q_sc M 2 - 1)) + q_fl M (q_sc M 2 - 1)) (q_sc M 9) (q_gv M)) 11 1)) = va_up (q_kd M) (q_sc M 2 - 1) (va_up (q_kd M (q_sc M 2 - 1)) (p_pa P (q_ff M (q_sc M 2 - 1)) + q_fl M (q_sc M 2 - 1)) (q_sc M 9)) := hfr.2.2.1
    have hv : q_vl (q_frs (d_en D (q_ff M (q_sc M 2 - 1)) (q_fl M (q_sc M 2 - 1))) (q_sc M 2 - 1 + 1) 24 0 (q_s (q_var M (q_sc M 2 - 1) (p_pa P (q_ff M (q_sc M 2 - 1)) + q_fl M (q_sc M 2 - 1)) (q_sc M 9) (q_gv M)) 11 1)) = va_up (q_vl M) (q_sc M 2 - 1) (va_up (q_vl M (q_sc M 2 - 1)) (p_pa P (q_ff M (q_sc M 2 - 1)) + q_fl M (q_sc M 2 - 1)) (q_gv M)) := hfr.2.2.2.1
    constructor
    · show va_up (q_kd _) _ (fun v => if v < _ ∧ q_hit D _ _ v = true then 0 else q_kd _ _ v) _ _ = _
      rw [va_up_self, hh, if_neg (by rintro ⟨-, h⟩; cases h), hk, q_kvar, if_pos ⟨rfl, rfl⟩]
    · show va_up (q_vl _) _ (fun v => if v < _ ∧ q_hit D _ _ v = true then nI 0 else q_vl _ _ v) _ _ = _
      rw [va_up_self, hh, if_neg (by rintro ⟨-, h⟩; cases h), hv, q_vvar, if_pos ⟨rfl, rfl⟩]
theorem q_fin_sc {j : Nat} (h4 : j ≠ 4) (h11 : j ≠ 11) : q_sc (q_fin P D M) j = q_sc M j := q_free_ff.2.2.2 j h4 h11
theorem q_fin_gv : q_gv (q_fin P D M) = q_gv M := q_free_ff.2.2.1
theorem q_nxt_2 : q_sc (q_nxt P D M) 2 = q_sc M 2 - 1 := by simp only [q_nxt]; rw [q_sc_ne (by omega), q_sc_eq]
theorem q_nxt_sc {j : Nat} (h2 : j ≠ 2) (h4 : j ≠ 4) (h11 : j ≠ 11) : q_sc (q_nxt P D M) j = q_sc M j := by simp only [q_nxt]; rw [q_sc_ne h11, q_sc_ne h2, q_fin_sc h4 h11]
theorem q_nxt_gv : q_gv (q_nxt P D M) = q_gv M := q_fin_gv
theorem j_gives : ∀ (j fu : Nat) (T : m_M) (M : qM), j < fu → r_C T m P D z → r_R (m_ri T (m + 2)) M → q_sc M 0 ≠ 2 → 1 ≤ q_sc M 2 → q_sc M 2 ≤ j → q_oks P D j M →
    ∃ T', b_X12_gives_5 m fu T (nI (q_sc M 9)) (q_gv M) = some T' ∧ r_R (m_ri T' (m + 2)) (q_set P D j M) ∧ r_O m T T' := by
  intro j
  induction j with
  | zero => intro fu T M hf C hM h0 h1 h2 _; omega
  | succ j ih =>
    intro fu T M hf C hM h0 h1 h2 hk
    obtain ⟨fu, rfl⟩ : ∃ f, fu = f + 1 := ⟨fu - 1, by omega⟩
    rcases hk with hk | ⟨⟨hB, hlev, hin, hlast⟩, hk⟩
    · omega
    have H := hB.top h1
    have hfun := j_funOf hM H
    have hline := j_lineOf C hM H
    have hfinl := q_fin_last (P := P) (D := D) (M := M)
    have s2 := hM.2.2.1
    generalize hff : q_ff M (q_sc M 2 - 1) = f at *
    generalize hii : q_fl M (q_sc M 2 - 1) = i at *
    have H' := H
    obtain ⟨t1, t2, t3, t4, t5, t6, t7⟩ := H
    have hl := C.1.line t5 t6
    have h3 := C.2.1.2.2.1 f t5
    have hpl : p_pa P f + (p_fi P f + i) - p_fi P f = p_pa P f + i := by omega
    have hR := hM.var (kk := q_sc M 2 - 1) (w := p_pa P f + i) (x := q_sc M 9) (y := q_gv M) (by omega) (by omega)
    have hO1 : r_O m T (m_si (m_si T (m + 2) (245 + (27 * (q_sc M 2 - 1) + (p_pa P f + i))) (nI (q_sc M 9))) (m + 2) (569 + (27 * (q_sc M 2 - 1) + (p_pa P f + i))) (q_gv M)) := (r_O.rf.now (by omega) (by omega)).now (by omega) (by omega)
    have hBv := hB.var (k := q_sc M 2 - 1) (v := p_pa P f + i) (x := q_sc M 9) (y := q_gv M) hB.2.2.2.2.2.2.2.2.2.2.2.1
    have Hv : q_top P (q_var M (q_sc M 2 - 1) (p_pa P f + i) (q_sc M 9) (q_gv M)) f i := ⟨t1, t2, t3, t4, t5, t6, fun v => (hBv.2.2.2.2.1 (q_sc M 2 - 1) (show q_sc M 2 - 1 < q_sc M 2 by omega)).2.2 v⟩
    obtain ⟨T1, g1, g2, g3⟩ := j_frees (T := m_si (m_si T (m + 2) (245 + (27 * (q_sc M 2 - 1) + (p_pa P f + i))) (nI (q_sc M 9))) (m + 2) (569 + (27 * (q_sc M 2 - 1) + (p_pa P f + i))) (q_gv M)) (C.kept hO1) (by rw [e_row, e_row]; exact hR) hBv Hv hlev hin
    have g1 : f_X12_frees m (m_si (m_si T (m + 2) (245 + (27 * (q_sc M 2 - 1) + (p_pa P f + i))) (nI (q_sc M 9))) (m + 2) (569 + (27 * (q_sc M 2 - 1) + (p_pa P f + i))) (q_gv M)) (nI (q_sc M 2 - 1)) = some T1 := g1
    have g2 : r_R (m_ri T1 (m + 2)) (q_free P D (q_var M (q_sc M 2 - 1) (p_pa P f + i) (q_sc M 9) (q_gv M)) (q_sc M 2 - 1) f (d_en D f i)) := g2
    have hO2 := hO1.tr g3
    have hff2 := q_free_ff (P := P) (D := D) (M := q_var M (q_sc M 2 - 1) (p_pa P f + i) (q_sc M 9) (q_gv M)) (k := q_sc M 2 - 1) (f := f) (e := d_en D f i)
    have hl1 : m_ri T1 (m + 2) (233 + (q_sc M 2 - 1)) = nI i := by
      have := g2.2.2.2.2.2.2.2.2.2.2.2.2.1 (q_sc M 2 - 1) (by rw [hff2.2.2.2 2 (by omega) (by omega)]; show q_sc M 2 - 1 < q_sc M 2; omega) (by omega)
      have e : q_fl (q_free P D (q_var M (q_sc M 2 - 1) (p_pa P f + i) (q_sc M 9) (q_gv M)) (q_sc M 2 - 1) f (d_en D f i)) (q_sc M 2 - 1) = i := by rw [hff2.2.1]; exact hii
      rw [← e]; exact this
    have hfin : q_fin P D M = q_lin (q_free P D (q_var M (q_sc M 2 - 1) (p_pa P f + i) (q_sc M 9) (q_gv M)) (q_sc M 2 - 1) f (d_en D f i)) (q_sc M 2 - 1) (i + 1) := by simp only [q_fin, hff, hii]
    have g4 : r_R (m_ri (m_si T1 (m + 2) (233 + (q_sc M 2 - 1)) (nI (i + 1))) (m + 2)) (q_fin P D M) := by rw [e_row, hfin]; exact g2.lin (by omega)
    have hO3 : r_O m T (m_si T1 (m + 2) (233 + (q_sc M 2 - 1)) (nI (i + 1))) := hO2.now (by omega) (by omega)
    have h3' := (C.kept hO3).2.1.2.2.1 f t5
    have hct2 : m_ri T1 (m + 2) (13 + f) = nI (p_ct P f) := by have := h3'.2.2; rw [e_rn (by omega)] at this; exact this
    have hpa2 : m_ri T1 (m + 2) (3 + f) = nI (p_pa P f) := by have := h3'.1; rw [e_rn (by omega)] at this; exact this
    by_cases hlt : i + 1 < p_ct P f
    · refine ⟨_, ?_, by rw [q_set, if_neg (by omega), hff, hii, if_pos hlt]; exact g4, hO3⟩
      simp (disch := omega) only [e_let, e_call, e_cal0, e_bind, e_lit, e_ofN, e_neg, nI_add, pk_mul, e_sub, e_ldi, e_sti, e_ldj, e_stj, e_le_t, e_le_f, e_lt_t, e_lt_f, e_eq_t, e_eq_f, e_no_eq, e_no_eq', e_no_rfl, e_no_lt, e_no_le, e_le_no, e_lt_no, if_true, if_false, ↓reduceIte, e_rs, e_rq, e_rn, e_ji, e_ki, e_ij, e_kj, e_js, e_jq, e_jn, e_cs, e_cq, e_jc, e_kc, e_js', e_jcq, e_icj, e_kcj, or_true, true_or, or_false, false_or, and_true, true_and, not_true_eq_false, not_false_eq_true, b_X12_gives_5, s2, hfun, hline, f_X12_madeBy, h3.1, h3.2.1, hpl, f_X12_setVar, f_X12_slot, g1, hl1, hct2]
    · have hcte : i + 1 = p_ct P f := by omega
      obtain ⟨hkd, hvl⟩ := hfinl (hlast hcte)
      have hvs1 : p_pa P f + p_ct P f - 1 = p_pa P f + i := by omega
      have s2b : m_ri T1 (m + 2) 212 = nI (q_sc M 2) := by
        have := g4.2.2.1; rw [e_rn (by omega), q_fin_2] at this; exact this
      have k1 : m_ri T1 (m + 2) (245 + (27 * (q_sc M 2 - 1) + (p_pa P f + i))) = nI (q_sc M 9) := by
        have := g4.2.2.2.2.2.2.2.2.2.2.2.2.2.1 (q_sc M 2 - 1) (p_pa P f + i) (by rw [q_fin_2]; omega) (by omega) (by omega)
        rw [e_rn (by omega), hkd] at this; exact this
      have v1 : m_ri T1 (m + 2) (569 + (27 * (q_sc M 2 - 1) + (p_pa P f + i))) = q_gv M := by
        have := g4.2.2.2.2.2.2.2.2.2.2.2.2.2.2.1 (q_sc M 2 - 1) (p_pa P f + i) (by rw [q_fin_2]; omega) (by omega) (by omega)
        rw [e_rn (by omega), hvl] at this; exact this
      have g5 : r_R (m_ri (m_si (m_si T1 (m + 2) (233 + (q_sc M 2 - 1)) (nI (i + 1))) (m + 2) 212 (nI (q_sc M 2 - 1))) (m + 2)) (q_nxt P D M) := by
        rw [e_row]; exact (g4.pop (by rw [q_fin_2]; omega)).lost
      have hO4 : r_O m T (m_si (m_si T1 (m + 2) (233 + (q_sc M 2 - 1)) (nI (i + 1))) (m + 2) 212 (nI (q_sc M 2 - 1))) := hO3.now (by omega) (by omega)
      by_cases hn1 : q_sc M 2 = 1
      · refine ⟨m_si (m_si (m_si (m_si (m_si T1 (m + 2) (233 + (q_sc M 2 - 1)) (nI (i + 1))) (m + 2) 212 (nI (q_sc M 2 - 1))) (m + 2) 210 (nI 2)) (m + 2) 219 (nI (q_sc M 9))) (m + 2) 220 (q_gv M), ?_, ?_, ((hO4.now (by omega) (by omega)).now (by omega) (by omega)).now (by omega) (by omega)⟩
        · simp (disch := omega) only [e_let, e_call, e_cal0, e_bind, e_lit, e_ofN, e_neg, nI_add, pk_mul, e_sub, e_ldi, e_sti, e_ldj, e_stj, e_le_t, e_le_f, e_lt_t, e_lt_f, e_eq_t, e_eq_f, e_no_eq, e_no_eq', e_no_rfl, e_no_lt, e_no_le, e_le_no, e_lt_no, if_true, if_false, ↓reduceIte, e_rs, e_rq, e_rn, e_ji, e_ki, e_ij, e_kj, e_js, e_jq, e_jn, e_cs, e_cq, e_jc, e_kc, e_js', e_jcq, e_icj, e_kcj, or_true, true_or, or_false, false_or, and_true, true_and, not_true_eq_false, not_false_eq_true, b_X12_gives_5, s2, hfun, hline, f_X12_madeBy, h3.1, h3.2.1, hpl, f_X12_setVar, f_X12_slot, g1, hl1, hct2, f_X12_varsOf, hpa2, hvs1, s2b, k1, v1]
        · have g6 := g5.ended
          rw [q_nxt_sc (by omega) (by omega) (by omega), q_nxt_gv] at g6
          have e : q_set P D (j + 1) M = q_s (q_nxt P D M) 0 2 := by
            rw [q_set, if_neg (by omega), hff, hii, if_neg hlt]
            cases j with
            | zero => rfl
            | succ j => rw [q_set, if_pos (by rw [q_nxt_2]; omega)]
          rw [e, e_row, e_row, e_row]; exact g6
      · have hk2 : q_oks P D j (q_nxt P D M) := by rcases hk with h | h; exact absurd h hlt; exact h
        obtain ⟨T', f1, f2, f3⟩ := ih fu _ _ (by omega) (C.kept hO4) g5 (by rw [q_nxt_sc (by omega) (by omega) (by omega)]; exact h0) (by rw [q_nxt_2]; omega) (by rw [q_nxt_2]; omega) hk2
        rw [q_nxt_sc (by omega) (by omega) (by omega), q_nxt_gv] at f1
        refine ⟨T', ?_, by rw [q_set, if_neg (by omega), hff, hii, if_neg hlt]; exact f2, hO4.tr f3⟩
        rw [← f1]
        simp (disch := omega) only [e_let, e_call, e_cal0, e_bind, e_lit, e_ofN, e_neg, nI_add, pk_mul, e_sub, e_ldi, e_sti, e_ldj, e_stj, e_le_t, e_le_f, e_lt_t, e_lt_f, e_eq_t, e_eq_f, e_no_eq, e_no_eq', e_no_rfl, e_no_lt, e_no_le, e_le_no, e_lt_no, if_true, if_false, ↓reduceIte, e_rs, e_rq, e_rn, e_ji, e_ki, e_ij, e_kj, e_js, e_jq, e_jn, e_cs, e_cq, e_jc, e_kc, e_js', e_jcq, e_icj, e_kcj, or_true, true_or, or_false, false_or, and_true, true_and, not_true_eq_false, not_false_eq_true, b_X12_gives_5, s2, hfun, hline, f_X12_madeBy, h3.1, h3.2.1, hpl, f_X12_setVar, f_X12_slot, g1, hl1, hct2, f_X12_varsOf, hpa2, hvs1, s2b, k1, v1]
end RN
