/-! more calls that only ask -/
section AL
variable {S T : m_M} {x m : Nat} {s : sT} {i j k : Int32}
theorem s_qP (hV : s_V s) (hC : s_C S x s) : q_P S (x + 70) (x + 48) (w_p (s_w s)) (d_of (w_p (s_w s))) := by
  have hW := hV.2.2.2.1.1
  exact ⟨Or.inr (by omega), hW, hC.2.2.1.1.1, d_XX.R hW hC.2.2.1.1.2.1, d_S_of hW⟩
theorem s_rC (hV : s_V s) (hR : s_R T m s) : r_C T m (w_p (s_w s)) (d_of (w_p (s_w s))) (d_z (w_p (s_w s))) :=
  d_TX.C hV.2.2.2.1.1 hR.2.2.1.1.1 hR.2.2.1.2.1
/-- the other side at a call's beginning -/
theorem s_th {v : Int32} (hR : s_R T m s) : s_R (m_si T m 0 v) m s := hR.kept y_K.th
theorem s_roomful (hV : s_V s) (hC : s_C S x s) (hR : s_R T m s) : s_OK S T x m (f_X11_roomful x S i) (f_X12_roomful m T i) := by
  have hfu := m_fu_ge
  have hM : q_R S (x + 70) (w_m (s_w s)) := hC.2.2.1.2.1
  have hN : r_R (m_ri (m_si T m 0 (nI 0)) (m + 2)) (w_m (s_w s)) := (s_th hR).2.2.1.1.2.1
  have hB := hV.2.2.2.1.2.1.b
  generalize w_m (s_w s) = M at *
  have h312 := hB.2.1
  have d5 := hN.2.2.2.2.1
  rcases e_arg i (q_F M).length (by omega) with ⟨k, hk, rfl⟩ | h
  · have g := k_hasRoom_t (k := k) hM.2.1 (by omega) hk
    have g2 := k_cellsIn (r := k) hM (by omega)
    have g3 := j_rf29 (r := k) hN hB (by omega) 200 0 m_fu (by omega) (by omega)
    refine s_OK.ask0 (v := nI (fb_ct (q_ci M k) 200)) hV hC hR ?_ ?_
    · simp (disch := omega) only [e_let, e_call, e_cal0, e_bind, e_lit, e_ofN, e_neg, nI_add, pk_mul, e_sub, e_ldi, e_sti, e_ldj, e_stj, e_le_t, e_le_f, e_lt_t, e_lt_f, e_eq_t, e_eq_f, e_no_eq, e_no_eq', e_no_rfl, e_no_lt, e_no_le, e_le_no, e_lt_no, if_true, if_false, ↓reduceIte, e_rs, e_rq, e_rn, e_ji, e_ki, e_ij, e_kj, e_js, e_jq, e_jn, e_cs, e_cq, e_jc, e_kc, e_js', e_jcq, e_icj, e_kcj, or_true, true_or, or_false, false_or, and_true, true_and, not_true_eq_false, not_false_eq_true, f_X11_roomful, g, b_X11_roomful_29, g2]
    · rw [f_X12_roomful, e_let, show (0 : Int32) = nI 0 from rfl, show (214 : Int32) = nI 214 from rfl, e_ldi (by omega) (by omega), e_bind, d5, show nI 0 = (0 : Int32) from rfl, j_isIn_t hk (by omega), e_call, if_neg (by decide)]
      exact g3
  · have g := k_hasRoom_f hM.2.1 (by omega) h
    refine s_OK.ask0 (v := m_no) hV hC hR ?_ ?_
    · simp (disch := omega) only [e_let, e_call, e_cal0, e_bind, e_lit, e_ofN, e_neg, nI_add, pk_mul, e_sub, e_ldi, e_sti, e_ldj, e_stj, e_le_t, e_le_f, e_lt_t, e_lt_f, e_eq_t, e_eq_f, e_no_eq, e_no_eq', e_no_rfl, e_no_lt, e_no_le, e_le_no, e_lt_no, if_true, if_false, ↓reduceIte, e_rs, e_rq, e_rn, e_ji, e_ki, e_ij, e_kj, e_js, e_jq, e_jn, e_cs, e_cq, e_jc, e_kc, e_js', e_jcq, e_icj, e_kcj, or_true, true_or, or_false, false_or, and_true, true_and, not_true_eq_false, not_false_eq_true, f_X11_roomful, g, b_X11_roomful_29]
    · rw [f_X12_roomful, e_let, show (0 : Int32) = nI 0 from rfl, show (214 : Int32) = nI 214 from rfl, e_ldi (by omega) (by omega), e_bind, d5, show nI 0 = (0 : Int32) from rfl, j_isIn_f h (by omega)]
      rfl
theorem s_cell (hV : s_V s) (hC : s_C S x s) (hR : s_R T m s) : s_OK S T x m (f_X11_cell x S i j) (f_X12_cell m T i j) := by
  have hM : q_R S (x + 70) (w_m (s_w s)) := hC.2.2.1.2.1
  have hN : r_R (m_ri (m_si T m 0 (nI 0)) (m + 2)) (w_m (s_w s)) := (s_th hR).2.2.1.1.2.1
  have hB := hV.2.2.2.1.2.1.b
  generalize w_m (s_w s) = M at *
  rcases e_cell M i with ⟨c, hc, rfl, hl⟩ | h
  · obtain ⟨y, hy⟩ : ∃ y, q_ce M c = some y := by
      cases h : q_ce M c with
      | none => exact absurd h hl
      | some y => exact ⟨y, rfl⟩
    have g := k_hasCell_t hM hB hc hl
    have g' := j_isCell_t hN hB hc hl
    have g2 := k_regionOf hM hB hc hy
    have d2 : m_ri (m_si T m 0 (nI 0)) (m + 2) (893 + c) = nI y.2 := by
      rw [hN.2.2.2.2.2.2.2.2.2.2.2.2.2.2.2.2.1 c hc, hy]; rfl
    have c0 : m_ri S (x + 77) (2 * c) = nI (q_sk M c 0) := hM.2.2.2.2.2.2.2.2.2.1 c 0 hc (by omega) hl
    have c1 : m_ri S (x + 77) (2 * c + 1) = nI (q_sk M c 1) := hM.2.2.2.2.2.2.2.2.2.1 c 1 hc (by omega) hl
    have d0 : m_ri (m_si T m 0 (nI 0)) (m + 2) (1293 + 2 * c) = nI (q_sk M c 0) := hN.2.2.2.2.2.2.2.2.2.2.2.2.2.2.2.2.2.2.1 c 0 hc (by omega) hl
    have d1 := hN.2.2.2.2.2.2.2.2.2.2.2.2.2.2.2.2.2.2.1 c 1 hc (by omega) hl
    have n10 : ¬ (nI 1 = (0 : Int32)) := by decide
    have er : f_X12_cell m T (nI c) j = if j = (0 : Int32) then ((m_ldi (m_si T m 0 (nI 0)) (m + 2) 2647 ((893 : Int32) + nI c)).bind fun v6 => some (v6, m_si T m 0 (nI 0))) else (if j = (1 : Int32) then b_X12_cell_55 m (m_si T m 0 (nI 0)) (nI c) j else (if j = (2 : Int32) then b_X12_cell_55 m (m_si T m 0 (nI 0)) (nI c) j else some ((-1 : Int32), m_si T m 0 (nI 0)))) := by
      rw [f_X12_cell, e_let, show m_si T m 0 (0 : Int32) = m_si T m 0 (nI 0) from rfl, g', e_call, if_neg n10]
    have ec : f_X11_cell x S (nI c) j = if j = (0 : Int32) then (m_call (f_X2_regionOfCell (x + 70) S (nI c)) fun v6 S5 => some (v6, S5)) else (if j = (1 : Int32) then ((m_ldi S (x + 77) 400 ((2 : Int32) * nI c)).bind fun v8 => some (v8, S)) else (if j = (2 : Int32) then ((m_ldi S (x + 77) 400 (((2 : Int32) * nI c) + (1 : Int32))).bind fun v10 => some (v10, S)) else some ((-1 : Int32), S))) := by
      rw [f_X11_cell, g, e_call, if_neg n10]
    rw [ec, er]
    by_cases j0 : j = (0 : Int32)
    · rw [if_pos j0, if_pos j0]
      exact s_OK.ask0 (v := nI y.2) hV hC hR (by simp (disch := omega) only [e_let, e_call, e_cal0, e_bind, e_lit, e_ofN, e_neg, nI_add, pk_mul, e_sub, e_ldi, e_sti, e_ldj, e_stj, e_le_t, e_le_f, e_lt_t, e_lt_f, e_eq_t, e_eq_f, e_no_eq, e_no_eq', e_no_rfl, e_no_lt, e_no_le, e_le_no, e_lt_no, if_true, if_false, ↓reduceIte, e_rs, e_rq, e_rn, e_ji, e_ki, e_ij, e_kj, e_js, e_jq, e_jn, e_cs, e_cq, e_jc, e_kc, e_js', e_jcq, e_icj, e_kcj, or_true, true_or, or_false, false_or, and_true, true_and, not_true_eq_false, not_false_eq_true, g2]) (by rw [show (893 : Int32) = nI 893 from rfl, nI_add, e_ldi (by omega) (by omega), e_bind, d2])
    · rw [if_neg j0, if_neg j0]
      by_cases j1 : j = (1 : Int32)
      · rw [if_pos j1, if_pos j1, j1]
        exact s_OK.ask0 (v := nI (q_sk M c 0)) hV hC hR (by simp (disch := omega) only [e_let, e_call, e_cal0, e_bind, e_lit, e_ofN, e_neg, nI_add, pk_mul, e_sub, e_ldi, e_sti, e_ldj, e_stj, e_le_t, e_le_f, e_lt_t, e_lt_f, e_eq_t, e_eq_f, e_no_eq, e_no_eq', e_no_rfl, e_no_lt, e_no_le, e_le_no, e_lt_no, if_true, if_false, ↓reduceIte, e_rs, e_rq, e_rn, e_ji, e_ki, e_ij, e_kj, e_js, e_jq, e_jn, e_cs, e_cq, e_jc, e_kc, e_js', e_jcq, e_icj, e_kcj, or_true, true_or, or_false, false_or, and_true, true_and, not_true_eq_false, not_false_eq_true, c0]) (by
          rw [b_X12_cell_55, show (((1293 : Int32) + ((2 : Int32) * nI c)) + (1 : Int32)) - (1 : Int32) = nI (1293 + 2 * c) by simp (disch := omega) only [e_let, e_call, e_cal0, e_bind, e_lit, e_ofN, e_neg, nI_add, pk_mul, e_sub, e_ldi, e_sti, e_ldj, e_stj, e_le_t, e_le_f, e_lt_t, e_lt_f, e_eq_t, e_eq_f, e_no_eq, e_no_eq', e_no_rfl, e_no_lt, e_no_le, e_le_no, e_lt_no, if_true, if_false, ↓reduceIte, e_rs, e_rq, e_rn, e_ji, e_ki, e_ij, e_kj, e_js, e_jq, e_jn, e_cs, e_cq, e_jc, e_kc, e_js', e_jcq, e_icj, e_kcj, or_true, true_or, or_false, false_or, and_true, true_and, not_true_eq_false, not_false_eq_true], e_ldi (by omega) (by omega), e_bind, d0])
      · rw [if_neg j1, if_neg j1]
        by_cases j2 : j = (2 : Int32)
        · rw [if_pos j2, if_pos j2, j2]
          exact s_OK.ask0 (v := nI (q_sk M c 1)) hV hC hR (by simp (disch := omega) only [e_let, e_call, e_cal0, e_bind, e_lit, e_ofN, e_neg, nI_add, pk_mul, e_sub, e_ldi, e_sti, e_ldj, e_stj, e_le_t, e_le_f, e_lt_t, e_lt_f, e_eq_t, e_eq_f, e_no_eq, e_no_eq', e_no_rfl, e_no_lt, e_no_le, e_le_no, e_lt_no, if_true, if_false, ↓reduceIte, e_rs, e_rq, e_rn, e_ji, e_ki, e_ij, e_kj, e_js, e_jq, e_jn, e_cs, e_cq, e_jc, e_kc, e_js', e_jcq, e_icj, e_kcj, or_true, true_or, or_false, false_or, and_true, true_and, not_true_eq_false, not_false_eq_true, c1]) (by
            rw [b_X12_cell_55, show (((1293 : Int32) + ((2 : Int32) * nI c)) + (2 : Int32)) - (1 : Int32) = nI (1293 + (2 * c + 1)) by simp (disch := omega) only [e_let, e_call, e_cal0, e_bind, e_lit, e_ofN, e_neg, nI_add, pk_mul, e_sub, e_ldi, e_sti, e_ldj, e_stj, e_le_t, e_le_f, e_lt_t, e_lt_f, e_eq_t, e_eq_f, e_no_eq, e_no_eq', e_no_rfl, e_no_lt, e_no_le, e_le_no, e_lt_no, if_true, if_false, ↓reduceIte, e_rs, e_rq, e_rn, e_ji, e_ki, e_ij, e_kj, e_js, e_jq, e_jn, e_cs, e_cq, e_jc, e_kc, e_js', e_jcq, e_icj, e_kcj, or_true, true_or, or_false, false_or, and_true, true_and, not_true_eq_false, not_false_eq_true], e_ldi (by omega) (by omega), e_bind, d1])
        · rw [if_neg j2, if_neg j2]
          exact s_OK.ask0 (v := m_no) hV hC hR rfl rfl
  · have g := k_hasCell_f hM hB h
    have g' := j_isCell_f hN h
    exact s_OK.ask0 (v := m_no) hV hC hR (by simp (disch := omega) only [e_let, e_call, e_cal0, e_bind, e_lit, e_ofN, e_neg, nI_add, pk_mul, e_sub, e_ldi, e_sti, e_ldj, e_stj, e_le_t, e_le_f, e_lt_t, e_lt_f, e_eq_t, e_eq_f, e_no_eq, e_no_eq', e_no_rfl, e_no_lt, e_no_le, e_le_no, e_lt_no, if_true, if_false, ↓reduceIte, e_rs, e_rq, e_rn, e_ji, e_ki, e_ij, e_kj, e_js, e_jq, e_jn, e_cs, e_cq, e_jc, e_kc, e_js', e_jcq, e_icj, e_kcj, or_true, true_or, or_false, false_or, and_true, true_and, not_true_eq_false, not_false_eq_true, f_X11_cell, g]) (by
      rw [f_X12_cell, e_let, show m_si T m 0 (0 : Int32) = m_si T m 0 (nI 0) from rfl, g']; rfl)
theorem s_span (hV : s_V s) (hC : s_C S x s) (hR : s_R T m s) : s_OK S T x m (f_X11_span x S i j k) (f_X12_span m T i j k) := by
  have hW := hV.2.2.2.1.1
  have hP : p_R S (x + 48) (w_p (s_w s)) := hC.2.2.1.1.1
  have hX : d_XX S (x + 56) (w_p (s_w s)) := hC.2.2.1.1.2.1
  have hQ : r_P (m_ri (m_si T m 0 (nI 0)) (m + 2)) (w_p (s_w s)) := (s_th hR).2.2.1.1.1
  have hD : d_TX (m_si T m 0 (nI 0)) m (w_p (s_w s)) := (s_th hR).2.2.1.2.1
  generalize w_p (s_w s) = P at *
  have h5 := hW.1
  have hz := d_z_le hW
  have n10 : ¬ (nI 1 = (0 : Int32)) := by decide
  have et : m_si T m 0 (0 : Int32) = m_si T m 0 (nI 0) := rfl
  rcases e_arg i (p_fu P) (by omega) with ⟨f, hf, rfl⟩ | h
  · have gf := k_hasFun_t hP.1 (by omega) hf
    have gf' := j_isFun_t hQ h5 hf
    rcases e_arg j (d_z P) (by omega) with ⟨r, hr, rfl⟩ | h
    · have gr := k_has_t hX.1.1 (by omega) hr
      have gr' := j_isRegion_t hD.1.1 hz hr
      have go := k_isOwned (r := r) hX h5 hf (by omega)
      obtain ⟨sp1, sp2⟩ := (hD.2.2.1 f hf).2.2 r hr
      rw [if_neg (by omega)] at sp1 sp2
      have er : f_X12_span m T (nI f) (nI r) k = if k = 0 then ((m_ldi (m_si T m 0 (nI 0)) (m + 20) 120 (((24 : Int32) * nI f) + nI r)).bind fun v11 => b_X12_span_61 m (m_si T m 0 (nI 0)) v11) else (if k = (1 : Int32) then ((m_ldi (m_si T m 0 (nI 0)) (m + 21) 120 (((24 : Int32) * nI f) + nI r)).bind fun v10 => b_X12_span_61 m (m_si T m 0 (nI 0)) v10) else b_X12_span_61 m (m_si T m 0 (nI 0)) (-1 : Int32)) := by
        rw [f_X12_span, e_let, et, gf', e_call, if_neg n10, gr', e_call, if_neg n10]
      rw [er]
      by_cases e : d_ow (d_of P) f r = true
      · rw [if_pos e] at go
        obtain ⟨x1, x2⟩ := hX.2.2.1.2.2.2.2 f r hf hr e
        obtain ⟨p1, p2⟩ := d_fs_pos hW hf e
        have l1 := d_fs_le (P := P) (f := f) (r := r) (p_ct P f)
        rw [d_sf, if_pos e, nO_pos (by omega)] at sp1
        rw [d_st, if_pos e, nO_pos (by omega)] at sp2
        have ec : f_X11_span x S (nI f) (nI r) k = if k = (0 : Int32) then ((m_ldi S (x + 66) 120 ((nI f * (24 : Int32)) + nI r)).bind fun v11 => some (v11, S)) else (if k = (1 : Int32) then ((m_ldi S (x + 67) 120 ((nI f * (24 : Int32)) + nI r)).bind fun v13 => some (v13, S)) else some ((-1 : Int32), S)) := by
          rw [f_X11_span, gf, e_call, if_neg n10, gr, e_call, if_neg n10, go, e_call, if_neg n10]
        rw [ec]
        by_cases k0 : k = (0 : Int32)
        · rw [if_pos k0, if_pos k0]
          have x1 : m_ri S (x + 66) (f * 24 + r) = _ := x1
          exact s_OK.ask0 (v := nI (d_fs P f r (p_ct P f) - 1)) hV hC hR (by simp (disch := omega) only [e_let, e_call, e_cal0, e_bind, e_lit, e_ofN, e_neg, nI_add, pk_mul, e_sub, e_ldi, e_sti, e_ldj, e_stj, e_le_t, e_le_f, e_lt_t, e_lt_f, e_eq_t, e_eq_f, e_no_eq, e_no_eq', e_no_rfl, e_no_lt, e_no_le, e_le_no, e_lt_no, if_true, if_false, ↓reduceIte, e_rs, e_rq, e_rn, e_ji, e_ki, e_ij, e_kj, e_js, e_jq, e_jn, e_cs, e_cq, e_jc, e_kc, e_js', e_jcq, e_icj, e_kcj, or_true, true_or, or_false, false_or, and_true, true_and, not_true_eq_false, not_false_eq_true, x1]) (by
            rw [show (24 : Int32) = nI 24 from rfl, pk_mul, nI_add, e_ldi (by omega) (by omega), e_bind, sp1]; rfl)
        · rw [if_neg k0, if_neg k0]
          by_cases k1 : k = (1 : Int32)
          · rw [if_pos k1, if_pos k1]
            have x2 : m_ri S (x + 67) (f * 24 + r) = _ := x2
            exact s_OK.ask0 (v := nI (d_ls P f r (p_ct P f) - 1)) hV hC hR (by simp (disch := omega) only [e_let, e_call, e_cal0, e_bind, e_lit, e_ofN, e_neg, nI_add, pk_mul, e_sub, e_ldi, e_sti, e_ldj, e_stj, e_le_t, e_le_f, e_lt_t, e_lt_f, e_eq_t, e_eq_f, e_no_eq, e_no_eq', e_no_rfl, e_no_lt, e_no_le, e_le_no, e_lt_no, if_true, if_false, ↓reduceIte, e_rs, e_rq, e_rn, e_ji, e_ki, e_ij, e_kj, e_js, e_jq, e_jn, e_cs, e_cq, e_jc, e_kc, e_js', e_jcq, e_icj, e_kcj, or_true, true_or, or_false, false_or, and_true, true_and, not_true_eq_false, not_false_eq_true, x2]) (by
              rw [show (24 : Int32) = nI 24 from rfl, pk_mul, nI_add, e_ldi (by omega) (by omega), e_bind, sp2]; rfl)
          · rw [if_neg k1, if_neg k1]
            exact s_OK.ask0 (v := m_no) hV hC hR rfl rfl
      · rw [if_neg e] at go
        rw [d_sf, if_neg e] at sp1
        rw [d_st, if_neg e] at sp2
        have ec : f_X11_span x S (nI f) (nI r) k = some (m_no, S) := by
          rw [f_X11_span, gf, e_call, if_neg n10, gr, e_call, if_neg n10, go]; rfl
        refine s_OK.ask0 (v := m_no) hV hC hR ec ?_
        rw [show (24 : Int32) = nI 24 from rfl, pk_mul, nI_add, e_ldi (by omega) (by omega), e_bind, e_ldi (by omega) (by omega), e_bind, sp1, sp2]
        by_cases k0 : k = (0 : Int32)
        · rw [if_pos k0]; rfl
        · rw [if_neg k0]
          by_cases k1 : k = (1 : Int32)
          · rw [if_pos k1]; rfl
          · rw [if_neg k1]; rfl
    · have gr := k_has_f hX.1.1 (by omega) h
      have gr' := j_isRegion_f hD.1.1 hz h
      refine s_OK.ask0 (v := m_no) hV hC hR ?_ ?_
      · rw [f_X11_span, gf, e_call, if_neg n10, gr]; rfl
      · rw [f_X12_span, e_let, et, gf', e_call, if_neg n10, gr']; rfl
  · have gf := k_hasFun_f hP.1 (by omega) h
    have gf' := j_isFun_f hQ h5 h
    refine s_OK.ask0 (v := m_no) hV hC hR ?_ ?_
    · rw [f_X11_span, gf]; rfl
    · rw [f_X12_span, e_let, et, gf']; rfl
theorem s_region (hV : s_V s) (hC : s_C S x s) (hR : s_R T m s) : s_OK S T x m (f_X11_region x S i j) (f_X12_region m T i j) := by
  have hW := hV.2.2.2.1.1
  have hX : d_XX S (x + 56) (w_p (s_w s)) := hC.2.2.1.1.2.1
  have hQ : r_P (m_ri (m_si T m 0 (nI 0)) (m + 2)) (w_p (s_w s)) := (s_th hR).2.2.1.1.1
  have hD : d_TX (m_si T m 0 (nI 0)) m (w_p (s_w s)) := (s_th hR).2.2.1.2.1
  have hM : q_R S (x + 70) (w_m (s_w s)) := hC.2.2.1.2.1
  have hN : r_R (m_ri (m_si T m 0 (nI 0)) (m + 2)) (w_m (s_w s)) := (s_th hR).2.2.1.1.2.1
  have hB := hV.2.2.2.1.2.1.b
  generalize w_p (s_w s) = P at *
  generalize w_m (s_w s) = M at *
  have h5 := hW.1
  have hz := d_z_le hW
  have n10 : ¬ (nI 1 = (0 : Int32)) := by decide
  have et : m_si T m 0 (0 : Int32) = m_si T m 0 (nI 0) := rfl
  rcases e_arg i (d_z P) (by omega) with ⟨r, hr, rfl⟩ | h
  · have gr := k_has_t hX.1.1 (by omega) hr
    have gr' := j_isRegion_t hD.1.1 hz hr
    rcases e_sw j 7 with ⟨k, hk, rfl⟩ | h
    · have ek : k = 0 ∨ k = 1 ∨ k = 2 ∨ k = 3 ∨ k = 4 ∨ k = 5 ∨ k = 6 := by omega
      rcases ek with rfl | rfl | rfl | rfl | rfl | rfl | rfl
      · have c : m_ri S (x + 59) r = nO (d_s P r 0) := (hX.1.2 r hr).1
        have d : m_ri (m_si T m 0 (nI 0)) (m + 17) (2 * r) = nO (d_s P r 0) := hD.1.2 r 0 hr (by omega)
        exact s_OK.ask0 (v := nO (d_s P r 0)) hV hC hR (by simp (disch := omega) only [e_let, e_call, e_cal0, e_bind, e_lit, e_ofN, e_neg, nI_add, pk_mul, e_sub, e_ldi, e_sti, e_ldj, e_stj, e_le_t, e_le_f, e_lt_t, e_lt_f, e_eq_t, e_eq_f, e_no_eq, e_no_eq', e_no_rfl, e_no_lt, e_no_le, e_le_no, e_lt_no, if_true, if_false, ↓reduceIte, e_rs, e_rq, e_rn, e_ji, e_ki, e_ij, e_kj, e_js, e_jq, e_jn, e_cs, e_cq, e_jc, e_kc, e_js', e_jcq, e_icj, e_kcj, or_true, true_or, or_false, false_or, and_true, true_and, not_true_eq_false, not_false_eq_true, f_X11_region, gr, c]) (by
          rw [f_X12_region, e_let, et, gr', e_call, if_neg n10, if_pos (show nI 0 = (0 : Int32) from rfl), b_X12_region_60, show ((2 : Int32) * nI r) + nI 0 = nI (2 * r) by simp (disch := omega) only [e_let, e_call, e_cal0, e_bind, e_lit, e_ofN, e_neg, nI_add, pk_mul, e_sub, e_ldi, e_sti, e_ldj, e_stj, e_le_t, e_le_f, e_lt_t, e_lt_f, e_eq_t, e_eq_f, e_no_eq, e_no_eq', e_no_rfl, e_no_lt, e_no_le, e_le_no, e_lt_no, if_true, if_false, ↓reduceIte, e_rs, e_rq, e_rn, e_ji, e_ki, e_ij, e_kj, e_js, e_jq, e_jn, e_cs, e_cq, e_jc, e_kc, e_js', e_jcq, e_icj, e_kcj, or_true, true_or, or_false, false_or, and_true, true_and, not_true_eq_false, not_false_eq_true], e_ldi (by omega) (by omega), e_bind, d])
      · have c : m_ri S (x + 60) r = nO (d_s P r 1) := (hX.1.2 r hr).2
        have d := hD.1.2 r 1 hr (by omega)
        exact s_OK.ask0 (v := nO (d_s P r 1)) hV hC hR (by simp (disch := omega) only [e_let, e_call, e_cal0, e_bind, e_lit, e_ofN, e_neg, nI_add, pk_mul, e_sub, e_ldi, e_sti, e_ldj, e_stj, e_le_t, e_le_f, e_lt_t, e_lt_f, e_eq_t, e_eq_f, e_no_eq, e_no_eq', e_no_rfl, e_no_lt, e_no_le, e_le_no, e_lt_no, if_true, if_false, ↓reduceIte, e_rs, e_rq, e_rn, e_ji, e_ki, e_ij, e_kj, e_js, e_jq, e_jn, e_cs, e_cq, e_jc, e_kc, e_js', e_jcq, e_icj, e_kcj, or_true, true_or, or_false, false_or, and_true, true_and, not_true_eq_false, not_false_eq_true, f_X11_region, gr, c]) (by
          rw [f_X12_region, e_let, et, gr', e_call, if_neg n10, if_neg (by decide), if_pos (show nI 1 = (1 : Int32) from rfl), b_X12_region_60, show ((2 : Int32) * nI r) + nI 1 = nI (2 * r + 1) by simp (disch := omega) only [e_let, e_call, e_cal0, e_bind, e_lit, e_ofN, e_neg, nI_add, pk_mul, e_sub, e_ldi, e_sti, e_ldj, e_stj, e_le_t, e_le_f, e_lt_t, e_lt_f, e_eq_t, e_eq_f, e_no_eq, e_no_eq', e_no_rfl, e_no_lt, e_no_le, e_le_no, e_lt_no, if_true, if_false, ↓reduceIte, e_rs, e_rq, e_rn, e_ji, e_ki, e_ij, e_kj, e_js, e_jq, e_jn, e_cs, e_cq, e_jc, e_kc, e_js', e_jcq, e_icj, e_kcj, or_true, true_or, or_false, false_or, and_true, true_and, not_true_eq_false, not_false_eq_true], e_ldi (by omega) (by omega), e_bind, d])
      · obtain ⟨y, y1, y2⟩ := j_owners hW hQ hD.2.2 (show r < 24 by omega)
        have c : m_ri S (x + 62) r = y := e_bs_eq (hX.2.2.1.2.2.1 r hr).1 y2
        exact s_OK.ask0 (v := y) hV hC hR (by simp (disch := omega) only [e_let, e_call, e_cal0, e_bind, e_lit, e_ofN, e_neg, nI_add, pk_mul, e_sub, e_ldi, e_sti, e_ldj, e_stj, e_le_t, e_le_f, e_lt_t, e_lt_f, e_eq_t, e_eq_f, e_no_eq, e_no_eq', e_no_rfl, e_no_lt, e_no_le, e_le_no, e_lt_no, if_true, if_false, ↓reduceIte, e_rs, e_rq, e_rn, e_ji, e_ki, e_ij, e_kj, e_js, e_jq, e_jn, e_cs, e_cq, e_jc, e_kc, e_js', e_jcq, e_icj, e_kcj, or_true, true_or, or_false, false_or, and_true, true_and, not_true_eq_false, not_false_eq_true, f_X11_region, gr, c]) (by
          rw [f_X12_region, e_let, et, gr', e_call, if_neg n10, if_neg (by decide), if_neg (by decide), if_pos (show nI 2 = (2 : Int32) from rfl), y1]; rfl)
      · have c : m_ri S (x + 63) r = m_ri (m_si T m 0 (nI 0)) (m + 22) r := e_bs_eq (hX.2.2.1.2.2.1 r hr).2 (hD.2.2.2 r hr)
        exact s_OK.ask0 (v := m_ri S (x + 63) r) hV hC hR (by simp (disch := omega) only [e_let, e_call, e_cal0, e_bind, e_lit, e_ofN, e_neg, nI_add, pk_mul, e_sub, e_ldi, e_sti, e_ldj, e_stj, e_le_t, e_le_f, e_lt_t, e_lt_f, e_eq_t, e_eq_f, e_no_eq, e_no_eq', e_no_rfl, e_no_lt, e_no_le, e_le_no, e_lt_no, if_true, if_false, ↓reduceIte, e_rs, e_rq, e_rn, e_ji, e_ki, e_ij, e_kj, e_js, e_jq, e_jn, e_cs, e_cq, e_jc, e_kc, e_js', e_jcq, e_icj, e_kcj, or_true, true_or, or_false, false_or, and_true, true_and, not_true_eq_false, not_false_eq_true, f_X11_region, gr]) (by
          rw [c, f_X12_region, e_let, et, gr', e_call, if_neg n10, if_neg (by decide), if_neg (by decide), if_neg (by decide), if_pos (show nI 3 = (3 : Int32) from rfl), e_ldi (by omega) (by omega)]; rfl)
      · have g1 := k_isFinite hX hr hz
        have g2 := j_isFinite hW hQ hD hr
        by_cases e : d_dec (d_fin P r) = true
        · rw [if_pos e] at g1 g2
          exact s_OK.ask0 (v := nI 1) hV hC hR (by simp (disch := omega) only [e_let, e_call, e_cal0, e_bind, e_lit, e_ofN, e_neg, nI_add, pk_mul, e_sub, e_ldi, e_sti, e_ldj, e_stj, e_le_t, e_le_f, e_lt_t, e_lt_f, e_eq_t, e_eq_f, e_no_eq, e_no_eq', e_no_rfl, e_no_lt, e_no_le, e_le_no, e_lt_no, if_true, if_false, ↓reduceIte, e_rs, e_rq, e_rn, e_ji, e_ki, e_ij, e_kj, e_js, e_jq, e_jn, e_cs, e_cq, e_jc, e_kc, e_js', e_jcq, e_icj, e_kcj, or_true, true_or, or_false, false_or, and_true, true_and, not_true_eq_false, not_false_eq_true, f_X11_region, gr, g1, b_X11_region_105]) (by
            rw [f_X12_region, e_let, et, gr', e_call, if_neg n10, if_neg (by decide), if_neg (by decide), if_neg (by decide), if_neg (by decide), if_pos (show nI 4 = (4 : Int32) from rfl), g2]; rfl)
        · rw [if_neg e] at g1 g2
          exact s_OK.ask0 (v := nI 0) hV hC hR (by simp (disch := omega) only [e_let, e_call, e_cal0, e_bind, e_lit, e_ofN, e_neg, nI_add, pk_mul, e_sub, e_ldi, e_sti, e_ldj, e_stj, e_le_t, e_le_f, e_lt_t, e_lt_f, e_eq_t, e_eq_f, e_no_eq, e_no_eq', e_no_rfl, e_no_lt, e_no_le, e_le_no, e_lt_no, if_true, if_false, ↓reduceIte, e_rs, e_rq, e_rn, e_ji, e_ki, e_ij, e_kj, e_js, e_jq, e_jn, e_cs, e_cq, e_jc, e_kc, e_js', e_jcq, e_icj, e_kcj, or_true, true_or, or_false, false_or, and_true, true_and, not_true_eq_false, not_false_eq_true, f_X11_region, gr, g1, b_X11_region_105]) (by
            rw [f_X12_region, e_let, et, gr', e_call, if_neg n10, if_neg (by decide), if_neg (by decide), if_neg (by decide), if_neg (by decide), if_pos (show nI 4 = (4 : Int32) from rfl), g2]; rfl)
      · have g1 := k_roomsOf (r := r) hM hB (by omega)
        have g2 := j_roomsOf (r := r) hN hB (by omega)
        exact s_OK.ask0 (v := nI (fb_ct (q_ro M r) (q_F M).length)) hV hC hR (by simp (disch := omega) only [e_let, e_call, e_cal0, e_bind, e_lit, e_ofN, e_neg, nI_add, pk_mul, e_sub, e_ldi, e_sti, e_ldj, e_stj, e_le_t, e_le_f, e_lt_t, e_lt_f, e_eq_t, e_eq_f, e_no_eq, e_no_eq', e_no_rfl, e_no_lt, e_no_le, e_le_no, e_lt_no, if_true, if_false, ↓reduceIte, e_rs, e_rq, e_rn, e_ji, e_ki, e_ij, e_kj, e_js, e_jq, e_jn, e_cs, e_cq, e_jc, e_kc, e_js', e_jcq, e_icj, e_kcj, or_true, true_or, or_false, false_or, and_true, true_and, not_true_eq_false, not_false_eq_true, f_X11_region, gr, g1]) (by
          rw [f_X12_region, e_let, et, gr', e_call, if_neg n10, if_neg (by decide), if_neg (by decide), if_neg (by decide), if_neg (by decide), if_neg (by decide), if_pos (show nI 5 = (5 : Int32) from rfl), g2]; rfl)
      · have g1 := k_cellsOf (r := r) hM hB (by omega)
        have g2 := j_cellsOf (r := r) hN hB (by omega)
        exact s_OK.ask0 (v := nI (fb_ct (q_co M r) 200)) hV hC hR (by simp (disch := omega) only [e_let, e_call, e_cal0, e_bind, e_lit, e_ofN, e_neg, nI_add, pk_mul, e_sub, e_ldi, e_sti, e_ldj, e_stj, e_le_t, e_le_f, e_lt_t, e_lt_f, e_eq_t, e_eq_f, e_no_eq, e_no_eq', e_no_rfl, e_no_lt, e_no_le, e_le_no, e_lt_no, if_true, if_false, ↓reduceIte, e_rs, e_rq, e_rn, e_ji, e_ki, e_ij, e_kj, e_js, e_jq, e_jn, e_cs, e_cq, e_jc, e_kc, e_js', e_jcq, e_icj, e_kcj, or_true, true_or, or_false, false_or, and_true, true_and, not_true_eq_false, not_false_eq_true, f_X11_region, gr, g1]) (by
          rw [f_X12_region, e_let, et, gr', e_call, if_neg n10, if_neg (by decide), if_neg (by decide), if_neg (by decide), if_neg (by decide), if_neg (by decide), if_neg (by decide), if_pos (show nI 6 = (6 : Int32) from rfl), g2]; rfl)
    · have h0 := h 0 (by omega)
      have h1 := h 1 (by omega)
      have h2 := h 2 (by omega)
      have h3 := h 3 (by omega)
      have h4 := h 4 (by omega)
      have h5 := h 5 (by omega)
      have h6 := h 6 (by omega)
      refine s_OK.ask0 (v := m_no) hV hC hR (by simp (disch := omega) only [e_let, e_call, e_cal0, e_bind, e_lit, e_ofN, e_neg, nI_add, pk_mul, e_sub, e_ldi, e_sti, e_ldj, e_stj, e_le_t, e_le_f, e_lt_t, e_lt_f, e_eq_t, e_eq_f, e_no_eq, e_no_eq', e_no_rfl, e_no_lt, e_no_le, e_le_no, e_lt_no, if_true, if_false, ↓reduceIte, e_rs, e_rq, e_rn, e_ji, e_ki, e_ij, e_kj, e_js, e_jq, e_jn, e_cs, e_cq, e_jc, e_kc, e_js', e_jcq, e_icj, e_kcj, or_true, true_or, or_false, false_or, and_true, true_and, not_true_eq_false, not_false_eq_true, f_X11_region, gr, h0, h1, h2, h3, h4, h5, h6]) ?_
      rw [f_X12_region, e_let, et, gr', e_call, if_neg n10, if_neg (show ¬ j = (0 : Int32) from h0), if_neg (show ¬ j = (1 : Int32) from h1), if_neg (show ¬ j = (2 : Int32) from h2), if_neg (show ¬ j = (3 : Int32) from h3), if_neg (show ¬ j = (4 : Int32) from h4), if_neg (show ¬ j = (5 : Int32) from h5), if_neg (show ¬ j = (6 : Int32) from h6)]; rfl
  · have gr := k_has_f hX.1.1 (by omega) h
    have gr' := j_isRegion_f hD.1.1 hz h
    refine s_OK.ask0 (v := m_no) hV hC hR (by simp (disch := omega) only [e_let, e_call, e_cal0, e_bind, e_lit, e_ofN, e_neg, nI_add, pk_mul, e_sub, e_ldi, e_sti, e_ldj, e_stj, e_le_t, e_le_f, e_lt_t, e_lt_f, e_eq_t, e_eq_f, e_no_eq, e_no_eq', e_no_rfl, e_no_lt, e_no_le, e_le_no, e_lt_no, if_true, if_false, ↓reduceIte, e_rs, e_rq, e_rn, e_ji, e_ki, e_ij, e_kj, e_js, e_jq, e_jn, e_cs, e_cq, e_jc, e_kc, e_js', e_jcq, e_icj, e_kcj, or_true, true_or, or_false, false_or, and_true, true_and, not_true_eq_false, not_false_eq_true, f_X11_region, gr]) ?_
    rw [f_X12_region, e_let, et, gr']; rfl
end AL
