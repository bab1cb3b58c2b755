/-! a line that opens a fun: both sides -/
section VF
variable {S S' T T' : m_M} {x m : Nat} {P : pP} {n w : Nat → Int64} {f i j k s : Nat} {W : Int64} {t : Nat → Nat} {N L p : Nat}
theorem v_RF.r01 {a b r : Nat} (h : v_RF S T S' T' x m t N L a b r) : r = 0 ∨ r = 1 := by
  rcases h.2.2 with h | h
  · exact Or.inl h.1
  · exact Or.inr h.1
theorem e_01 {r : Nat} (h : r = 0 ∨ r = 1) : (if nI r = 0 ∨ nI r = 1 then some (nI r, S) else none) = some (nI r, S) := by
  rcases h with h | h <;> rw [h] <;> rfl
def v_br (P : pP) : Prop := 0 < p_fu P ∧ p_ct P (p_fu P - 1) = 0
theorem k_bare_t (hW : v_W P) (hS : v_QS S x P n w) (hb : v_br P) : f_X4_latestFunIsBare x S = some (nI 1, S) := by
  have h5 := hW.1
  have hp1 := hS.1.1
  have h0 := hb.1
  have a5 : m_ri S (x + 7) (p_fu P - 1) = nI (p_ct P (p_fu P - 1)) := hS.1.2.2.2.2.1 _ (by omega)
  rw [hb.2] at a5
  simp (disch := omega) only [e_let, e_call, e_cal0, e_bind, e_lit, e_ofN, e_neg, nI_add, pk_mul, e_sub, e_ldi, e_sti, e_ldj, e_stj, e_le_t, e_le_f, e_lt_t, e_lt_f, e_eq_t, e_eq_f, e_no_eq, e_no_eq', e_no_rfl, e_no_lt, e_no_le, e_le_no, e_lt_no, if_true, if_false, ↓reduceIte, e_rs, e_rq, e_rn, e_ji, e_ki, e_ij, e_kj, e_js, e_jq, e_jn, e_cs, e_cq, e_jc, e_kc, e_js', e_jcq, e_icj, e_kcj, or_true, true_or, or_false, false_or, and_true, true_and, not_true_eq_false, not_false_eq_true, f_X4_latestFunIsBare, b_X4_latestFunIsBare_35, hp1, a5]
theorem k_bare_f (hW : v_W P) (hS : v_QS S x P n w) (hb : ¬ v_br P) : f_X4_latestFunIsBare x S = some (nI 0, S) := by
  have h5 := hW.1
  have hp1 := hS.1.1
  by_cases h0 : p_fu P = 0
  · rw [h0] at hp1
    simp (disch := omega) only [e_let, e_call, e_cal0, e_bind, e_lit, e_ofN, e_neg, nI_add, pk_mul, e_sub, e_ldi, e_sti, e_ldj, e_stj, e_le_t, e_le_f, e_lt_t, e_lt_f, e_eq_t, e_eq_f, e_no_eq, e_no_eq', e_no_rfl, e_no_lt, e_no_le, e_le_no, e_lt_no, if_true, if_false, ↓reduceIte, e_rs, e_rq, e_rn, e_ji, e_ki, e_ij, e_kj, e_js, e_jq, e_jn, e_cs, e_cq, e_jc, e_kc, e_js', e_jcq, e_icj, e_kcj, or_true, true_or, or_false, false_or, and_true, true_and, not_true_eq_false, not_false_eq_true, f_X4_latestFunIsBare, b_X4_latestFunIsBare_35, b_X4_latestFunIsBare_34, hp1]
  · have a5 : m_ri S (x + 7) (p_fu P - 1) = nI (p_ct P (p_fu P - 1)) := hS.1.2.2.2.2.1 _ (by omega)
    have h2 : p_ct P (p_fu P - 1) ≠ 0 := fun e => hb ⟨by omega, e⟩
    have h3 := (hW.2.2.1 (p_fu P - 1) (by omega)).2.2.1
    have h4 := hW.2.1
    simp (disch := omega) only [e_let, e_call, e_cal0, e_bind, e_lit, e_ofN, e_neg, nI_add, pk_mul, e_sub, e_ldi, e_sti, e_ldj, e_stj, e_le_t, e_le_f, e_lt_t, e_lt_f, e_eq_t, e_eq_f, e_no_eq, e_no_eq', e_no_rfl, e_no_lt, e_no_le, e_le_no, e_lt_no, if_true, if_false, ↓reduceIte, e_rs, e_rq, e_rn, e_ji, e_ki, e_ij, e_kj, e_js, e_jq, e_jn, e_cs, e_cq, e_jc, e_kc, e_js', e_jcq, e_icj, e_kcj, or_true, true_or, or_false, false_or, and_true, true_and, not_true_eq_false, not_false_eq_true, f_X4_latestFunIsBare, b_X4_latestFunIsBare_35, b_X4_latestFunIsBare_34, hp1, a5]
theorem j_bare_t (hW : v_W P) (hT : v_QT T m P n w) (hb : v_br P) : f_X12_isBare m T = some (nI 1, T) := by
  have h5 := hW.1
  have hr1 := hT.1.1
  have h0 := hb.1
  have a5 := (hT.1.2.2.1 (p_fu P - 1) (by omega)).2.2
  rw [hb.2] at a5
  simp (disch := omega) only [e_let, e_call, e_cal0, e_bind, e_lit, e_ofN, e_neg, nI_add, pk_mul, e_sub, e_ldi, e_sti, e_ldj, e_stj, e_le_t, e_le_f, e_lt_t, e_lt_f, e_eq_t, e_eq_f, e_no_eq, e_no_eq', e_no_rfl, e_no_lt, e_no_le, e_le_no, e_lt_no, if_true, if_false, ↓reduceIte, e_rs, e_rq, e_rn, e_ji, e_ki, e_ij, e_kj, e_js, e_jq, e_jn, e_cs, e_cq, e_jc, e_kc, e_js', e_jcq, e_icj, e_kcj, or_true, true_or, or_false, false_or, and_true, true_and, not_true_eq_false, not_false_eq_true, f_X12_isBare, b_X12_isBare_29, f_X12_funNow, hr1, a5]
theorem j_bare_f (hW : v_W P) (hT : v_QT T m P n w) (hb : ¬ v_br P) : f_X12_isBare m T = some (nI 0, T) := by
  have h5 := hW.1
  have hr1 := hT.1.1
  by_cases h0 : p_fu P = 0
  · rw [h0] at hr1
    simp (disch := omega) only [e_let, e_call, e_cal0, e_bind, e_lit, e_ofN, e_neg, nI_add, pk_mul, e_sub, e_ldi, e_sti, e_ldj, e_stj, e_le_t, e_le_f, e_lt_t, e_lt_f, e_eq_t, e_eq_f, e_no_eq, e_no_eq', e_no_rfl, e_no_lt, e_no_le, e_le_no, e_lt_no, if_true, if_false, ↓reduceIte, e_rs, e_rq, e_rn, e_ji, e_ki, e_ij, e_kj, e_js, e_jq, e_jn, e_cs, e_cq, e_jc, e_kc, e_js', e_jcq, e_icj, e_kcj, or_true, true_or, or_false, false_or, and_true, true_and, not_true_eq_false, not_false_eq_true, f_X12_isBare, b_X12_isBare_29, b_X12_isBare_28, hr1]
  · have a5 := (hT.1.2.2.1 (p_fu P - 1) (by omega)).2.2
    have h2 : p_ct P (p_fu P - 1) ≠ 0 := fun e => hb ⟨by omega, e⟩
    have h3 := (hW.2.2.1 (p_fu P - 1) (by omega)).2.2.1
    have h4 := hW.2.1
    simp (disch := omega) only [e_let, e_call, e_cal0, e_bind, e_lit, e_ofN, e_neg, nI_add, pk_mul, e_sub, e_ldi, e_sti, e_ldj, e_stj, e_le_t, e_le_f, e_lt_t, e_lt_f, e_eq_t, e_eq_f, e_no_eq, e_no_eq', e_no_rfl, e_no_lt, e_no_le, e_le_no, e_lt_no, if_true, if_false, ↓reduceIte, e_rs, e_rq, e_rn, e_ji, e_ki, e_ij, e_kj, e_js, e_jq, e_jn, e_cs, e_cq, e_jc, e_kc, e_js', e_jcq, e_icj, e_kcj, or_true, true_or, or_false, false_or, and_true, true_and, not_true_eq_false, not_false_eq_true, f_X12_isBare, b_X12_isBare_29, b_X12_isBare_28, f_X12_funNow, hr1, a5]
theorem v_fun (hW : v_W P) (hJ : v_J S T x m t N L p) (h3 : t_K t N L p = 3) (hS : v_QS S x P n w) (hT : v_QT T m P n w) :
    ∃ S' T' r, f_X4_readsFun x S = some (nI r, S') ∧ f_X12_readFun m T = some (nI r, T') ∧ v_RF S T S' T' x m t N L (p_fu P + 1) (p_ln P) r := by
  have hfu := m_fu_ge
  have h5 := hW.1
  have hp1 := hS.1.1
  have hr1 := hT.1.1
  have hr2 := hT.1.2.1
  have n10 : ¬ (nI 1 = (0 : Int32)) := by decide
  have y00 : nI 0 = (0 : Int32) := rfl
  have e2 : nI 2 = (2 : Int32) := rfl
  have em : m_no = (-1 : Int32) := rfl
  have z0 : (0 : Int32) = nI 0 := rfl
  by_cases hb : v_br P
  · obtain ⟨S', T', a1, a2, a3⟩ := v_RF.fail (κ := 3) (a := p_fu P + 1) (b := p_ln P) hJ (fun q => by omega) (by omega) (by omega)
    refine ⟨S', T', 0, ?_, ?_, a3⟩
    · rw [f_X4_readsFun, k_bare_t hW hS hb, e_call, if_neg n10, show (3 : Int32) = nI 3 from rfl, a1]
      rfl
    · rw [f_X12_readFun, j_bare_t hW hT hb, e_call, if_neg n10, show (3 : Int32) = nI 3 from rfl, a2]
      rfl
  · by_cases h55 : p_fu P = 5
    · obtain ⟨S', T', a1, a2, a3⟩ := v_RF.fail (κ := 4) (a := p_fu P + 1) (b := p_ln P) hJ (fun q => by omega) (by omega) (by omega)
      have hp5 := hp1
      have hr5 := hr1
      rw [h55] at hp5 hr5
      refine ⟨S', T', 0, ?_, ?_, a3⟩
      · rw [f_X4_readsFun, k_bare_f hW hS hb, e_call, if_pos y00, hp5, if_neg (show ¬ nI 5 < (5 : Int32) by decide), show (4 : Int32) = nI 4 from rfl, a1]
        rfl
      · rw [f_X12_readFun, j_bare_f hW hT hb, e_call, if_pos y00, z0, e_ldi (by omega) (by omega), e_bind, hr5, if_pos (show nI 5 = (5 : Int32) from rfl), show (4 : Int32) = nI 4 from rfl, a2]
        rfl
    · have hl5 : p_fu P < 5 := by omega
      have c5 : nI (p_fu P) < (5 : Int32) := by rw [show (5 : Int32) = nI 5 from rfl, e_lt (by omega) (by omega)]; exact hl5
      have r5 : ¬ nI (p_fu P) = (5 : Int32) := fun q => (e_eq_f (a := p_fu P) (b := 5) h55 (by omega) (by omega)).mp q
      obtain ⟨S1, a1, a2, a3, a4⟩ := k_go2 hJ.1 (by omega)
      obtain ⟨T1, b1, b2, b3⟩ := j_go2 hJ.2 (by omega)
      have hJ1 : v_J S1 T1 x m t N L (t_E t N p) := ⟨a2, b2⟩
      have hQ1 := hS.kept hW (v_fs.of a4)
      have hR1 := hT.kn (T' := T1) (b3.2.2.1 (m + 3) (by omega)).1 (b3.2.2.1 (m + 8) (by omega)).2 (b3.2.2.1 (m + 10) (by omega)).2
      have o1 : v_oS x S S1 := v_oS.of3 a4
      have o2 : v_FT m T T1 := v_FT.of (v_ft.of (l := 0) b3)
      generalize t_E t N p = p1 at *
      obtain ⟨k9, _, _, _, _, k14⟩ := hJ1.1.tk
      have hK5 := t_K_5 (t := t) (N := N) (L := L) (p := p1)
      have hnm := j_isName hJ1.2
      have hr11 := hR1.1.1
      by_cases g : t_K t N L p1 = 2
      · rw [if_pos g] at hnm k14
        rw [g] at k9
        have h12 := hJ1.2.2.1.2.2.2.1 (Or.inl g)
        have hv := k_funOf (W := t_W t N p1) hQ1 hW
        have hfi := j_findIn (T := T1) (o := m + 8) (n0 := 5) (b := 0) (h := p_fu P) (w := n) (W := t_W t N p1) (by omega) (by omega) (fun i hi => by rw [Nat.zero_add]; exact hR1.2.2.1 i hi)
        by_cases e : v_lk n (t_W t N p1) (p_fu P) < p_fu P
        · have ean : v_an n (t_W t N p1) (p_fu P) = nI (v_lk n (t_W t N p1) (p_fu P)) := by rw [v_an, if_pos e]
          rw [ean] at hv hfi
          have nn : ¬ (nI (v_lk n (t_W t N p1) (p_fu P)) = (-1 : Int32)) := fun q => (e_no_eq (a := v_lk n (t_W t N p1) (p_fu P)) (by omega)).mp q
          obtain ⟨S', T', c1, c2, c3, c4, c5'⟩ := v_RF.fail (κ := 3) (a := p_fu P + 1) (b := p_ln P) hJ1 (fun q => by omega) (by omega) (by omega)
          refine ⟨S', T', 0, ?_, ?_, o1.tr c3, o2.tr c4, c5'⟩
          · rw [f_X4_readsFun, k_bare_f hW hS hb, e_call, if_pos y00, hp1, if_pos c5, a1, e_cal0, k9, if_pos e2, k14, hv, e_call, if_neg nn, show (3 : Int32) = nI 3 from rfl, c1]
            rfl
          · rw [f_X12_readFun, j_bare_f hW hT hb, e_call, if_pos y00, z0, e_ldi (by omega) (by omega), e_bind, hr1, if_neg r5, b1, e_cal0, hnm, e_call, if_neg (show ¬ nI 1 = nI 0 from n10), e_ldi (by omega) (by omega), e_bind, hr11, h12, hfi, e_call, if_neg nn, show (3 : Int32) = nI 3 from rfl, c2]
            rfl
        · have ean : v_an n (t_W t N p1) (p_fu P) = m_no := by rw [v_an, if_neg e]
          rw [ean] at hv hfi
          obtain ⟨S2, d1, d2, d3⟩ := v_QS_of (W := t_W t N p1) hW hl5 hQ1
          have d4 := v_QT_of (W := t_W t N p1) hW hl5 hR1
          have hW2 := v_W_of hW hl5 (fun h => by
            have : p_ct P (p_fu P - 1) ≠ 0 := fun e => hb ⟨h, e⟩
            omega)
          have hJ2 : v_J (m_si S2 (x + 2) 3 (nI 0)) (m_si (m_si (m_sj T1 (m + 8) (p_fu P) (t_W t N p1)) (m + 3) (8 + p_fu P) (nI (p_ln P))) (m + 3) 0 (nI (p_fu P + 1))) x m t N L p1 :=
            ⟨hJ1.1.kept fun q h1 h2 => d3.1 q (by omega), hJ1.2.kept (fun i _ _ => by simp (disch := omega) only [e_let, e_call, e_cal0, e_bind, e_lit, e_ofN, e_neg, nI_add, pk_mul, e_sub, e_ldi, e_sti, e_ldj, e_stj, e_le_t, e_le_f, e_lt_t, e_lt_f, e_eq_t, e_eq_f, e_no_eq, e_no_eq', e_no_rfl, e_no_lt, e_no_le, e_le_no, e_lt_no, if_true, if_false, ↓reduceIte, e_rs, e_rq, e_rn, e_ji, e_ki, e_ij, e_kj, e_js, e_jq, e_jn, e_cs, e_cq, e_jc, e_kc, e_js', e_jcq, e_icj, e_kcj, or_true, true_or, or_false, false_or, and_true, true_and, not_true_eq_false, not_false_eq_true]) (by simp (disch := omega) only [e_let, e_call, e_cal0, e_bind, e_lit, e_ofN, e_neg, nI_add, pk_mul, e_sub, e_ldi, e_sti, e_ldj, e_stj, e_le_t, e_le_f, e_lt_t, e_lt_f, e_eq_t, e_eq_f, e_no_eq, e_no_eq', e_no_rfl, e_no_lt, e_no_le, e_le_no, e_lt_no, if_true, if_false, ↓reduceIte, e_rs, e_rq, e_rn, e_ji, e_ki, e_ij, e_kj, e_js, e_jq, e_jn, e_cs, e_cq, e_jc, e_kc, e_js', e_jcq, e_icj, e_kcj, or_true, true_or, or_false, false_or, and_true, true_and, not_true_eq_false, not_false_eq_true]) (by simp (disch := omega) only [e_let, e_call, e_cal0, e_bind, e_lit, e_ofN, e_neg, nI_add, pk_mul, e_sub, e_ldi, e_sti, e_ldj, e_stj, e_le_t, e_le_f, e_lt_t, e_lt_f, e_eq_t, e_eq_f, e_no_eq, e_no_eq', e_no_rfl, e_no_lt, e_no_le, e_le_no, e_lt_no, if_true, if_false, ↓reduceIte, e_rs, e_rq, e_rn, e_ji, e_ki, e_ij, e_kj, e_js, e_jq, e_jn, e_cs, e_cq, e_jc, e_kc, e_js', e_jcq, e_icj, e_kcj, or_true, true_or, or_false, false_or, and_true, true_and, not_true_eq_false, not_false_eq_true])⟩
          obtain ⟨S3, f1, f2, f3, f4⟩ := k_go2 hJ2.1 (by omega)
          obtain ⟨T3, g1, g2, g3⟩ := j_go2 hJ2.2 (by omega)
          have hQ3 := d2.kept hW2 (v_fs.of f4)
          have hR3 := d4.kn (T' := T3) (g3.2.2.1 (m + 3) (by omega)).1 (g3.2.2.1 (m + 8) (by omega)).2 (g3.2.2.1 (m + 10) (by omega)).2
          obtain ⟨S4, T4, r, i1, i2, i3⟩ := v_par 4 0 m_fu m_fu _ S3 T3 (v_of P) w (by omega) (by omega) (by omega) (by omega) (by rw [v_of_fu]; omega) (by rw [v_of_fu, v_of_ct, if_pos (by omega)]) (by rw [v_of_fu, v_of_pa, if_pos (by omega)]) hW2 ⟨f2, g2⟩ hQ3 hR3
          have h01 := i3.r01
          rw [v_of_fu, v_of_ln] at i3
          have hr12 : m_ri T1 (m + 3) 1 = nI (p_ln P) := hR1.1.2.1
          refine ⟨S4, T4, r, ?_, ?_, o1.tr ((v_oS.of d3).tr ((v_oS.of3 f4).tr i3.1)), o2.tr (v_FT.tr ?_ ((v_FT.of (v_ft.of (l := 0) g3)).tr i3.2.1)), i3.2.2⟩
          · rw [f_X4_readsFun, k_bare_f hW hS hb, e_call, if_pos y00, hp1, if_pos c5, a1, e_cal0, k9, if_pos e2, k14, hv, e_call, if_pos em, k14, d1, e_cal0, e_let, z0, f1, e_cal0, f_X4_readsParameters, z0, i1, e_call]
            exact e_01 h01
          · rw [f_X12_readFun, j_bare_f hW hT hb, e_call, if_pos y00, z0, e_ldi (by omega) (by omega), e_bind, hr1, if_neg r5, b1, e_cal0, hnm, e_call, if_neg (show ¬ nI 1 = nI 0 from n10), e_ldi (by omega) (by omega), e_bind, hr11, h12, hfi, e_call, if_pos em, ← i2, h12]
            simp (disch := omega) only [e_let, e_call, e_cal0, e_bind, e_lit, e_ofN, e_neg, nI_add, pk_mul, e_sub, e_ldi, e_sti, e_ldj, e_stj, e_le_t, e_le_f, e_lt_t, e_lt_f, e_eq_t, e_eq_f, e_no_eq, e_no_eq', e_no_rfl, e_no_lt, e_no_le, e_le_no, e_lt_no, if_true, if_false, ↓reduceIte, e_rs, e_rq, e_rn, e_ji, e_ki, e_ij, e_kj, e_js, e_jq, e_jn, e_cs, e_cq, e_jc, e_kc, e_js', e_jcq, e_icj, e_kcj, or_true, true_or, or_false, false_or, and_true, true_and, not_true_eq_false, not_false_eq_true, hr11, hr12, g1]
          · exact ⟨fun i _ => by simp (disch := omega) only [e_let, e_call, e_cal0, e_bind, e_lit, e_ofN, e_neg, nI_add, pk_mul, e_sub, e_ldi, e_sti, e_ldj, e_stj, e_le_t, e_le_f, e_lt_t, e_lt_f, e_eq_t, e_eq_f, e_no_eq, e_no_eq', e_no_rfl, e_no_lt, e_no_le, e_le_no, e_lt_no, if_true, if_false, ↓reduceIte, e_rs, e_rq, e_rn, e_ji, e_ki, e_ij, e_kj, e_js, e_jq, e_jn, e_cs, e_cq, e_jc, e_kc, e_js', e_jcq, e_icj, e_kcj, or_true, true_or, or_false, false_or, and_true, true_and, not_true_eq_false, not_false_eq_true], fun i _ => by simp (disch := omega) only [e_let, e_call, e_cal0, e_bind, e_lit, e_ofN, e_neg, nI_add, pk_mul, e_sub, e_ldi, e_sti, e_ldj, e_stj, e_le_t, e_le_f, e_lt_t, e_lt_f, e_eq_t, e_eq_f, e_no_eq, e_no_eq', e_no_rfl, e_no_lt, e_no_le, e_le_no, e_lt_no, if_true, if_false, ↓reduceIte, e_rs, e_rq, e_rn, e_ji, e_ki, e_ij, e_kj, e_js, e_jq, e_jn, e_cs, e_cq, e_jc, e_kc, e_js', e_jcq, e_icj, e_kcj, or_true, true_or, or_false, false_or, and_true, true_and, not_true_eq_false, not_false_eq_true], fun q _ h => by simp (disch := omega) only [e_let, e_call, e_cal0, e_bind, e_lit, e_ofN, e_neg, nI_add, pk_mul, e_sub, e_ldi, e_sti, e_ldj, e_stj, e_le_t, e_le_f, e_lt_t, e_lt_f, e_eq_t, e_eq_f, e_no_eq, e_no_eq', e_no_rfl, e_no_lt, e_no_le, e_le_no, e_lt_no, if_true, if_false, ↓reduceIte, e_rs, e_rq, e_rn, e_ji, e_ki, e_ij, e_kj, e_js, e_jq, e_jn, e_cs, e_cq, e_jc, e_kc, e_js', e_jcq, e_icj, e_kcj, or_true, true_or, or_false, false_or, and_true, true_and, not_true_eq_false, not_false_eq_true], fun q _ h _ => by simp (disch := omega) only [e_let, e_call, e_cal0, e_bind, e_lit, e_ofN, e_neg, nI_add, pk_mul, e_sub, e_ldi, e_sti, e_ldj, e_stj, e_le_t, e_le_f, e_lt_t, e_lt_f, e_eq_t, e_eq_f, e_no_eq, e_no_eq', e_no_rfl, e_no_lt, e_no_le, e_le_no, e_lt_no, if_true, if_false, ↓reduceIte, e_rs, e_rq, e_rn, e_ji, e_ki, e_ij, e_kj, e_js, e_jq, e_jn, e_cs, e_cq, e_jc, e_kc, e_js', e_jcq, e_icj, e_kcj, or_true, true_or, or_false, false_or, and_true, true_and, not_true_eq_false, not_false_eq_true], rfl⟩
      · rw [if_neg g] at hnm
        have h92 : ¬ (nI (t_K t N L p1) = (2 : Int32)) := fun q => (e_eq_f (a := t_K t N L p1) (b := 2) g (by omega) (by omega)).mp q
        obtain ⟨S', T', c1, c2, c3, c4, c5'⟩ := v_RF.fail (κ := 1) (a := p_fu P + 1) (b := p_ln P) hJ1 (fun q => rfl) (by omega) (by omega)
        refine ⟨S', T', 0, ?_, ?_, o1.tr c3, o2.tr c4, c5'⟩
        · rw [f_X4_readsFun, k_bare_f hW hS hb, e_call, if_pos y00, hp1, if_pos c5, a1, e_cal0, k9, if_neg h92, show (1 : Int32) = nI 1 from rfl, c1]
          rfl
        · rw [f_X12_readFun, j_bare_f hW hT hb, e_call, if_pos y00, z0, e_ldi (by omega) (by omega), e_bind, hr1, if_neg r5, b1, e_cal0, hnm, e_call, if_pos rfl, show (1 : Int32) = nI 1 from rfl, c2]
          rfl
end VF
