/-! numbers are given and told: the other side -/
section UK
variable {T : m_M} {m mk : Nat} {P : pP} {U W : u2} {o : Nat → Nat} {G : u_GT} {f i : Nat}
theorem u_NV.sim (h : u_NV mk o U G) (hS : u_Sim mk o U W) : u_NV mk o W G := by
  obtain ⟨a1, a2, a3, a4, a5⟩ := h
  refine ⟨fun n m hn hm e => a1 n m hn hm ((hS.2.2.2.2 n m hn hm).mpr e), fun n hn hq => a2 n hn ?_, a3, a4, fun n m hn hm hg e => (hS.2.2.2.2 n m hn hm).mp (a5 n m hn hm hg e)⟩
  refine Classical.byContradiction fun q => ?_
  exact (hS.has hn q).1 hq
theorem j_l98 : ∀ (d k fu : Nat) (T : m_M), k + d = 24 → d < fu → (∀ j, j < k → m_ri T (m + 14) j = m_no ∧ m_ri T (m + 22) j = nI 0) →
    ∃ T', b_X12_layRegions_98 m fu T (nI k) = b_X12_layRegions_126 m m_fu T' (nI 0) ∧ (∀ j, j < 24 → m_ri T' (m + 14) j = m_no ∧ m_ri T' (m + 22) j = nI 0) ∧ (∀ q, q ≠ m + 14 → q ≠ m + 22 → m_ri T' q = m_ri T q) ∧ m_rj T' = m_rj T ∧ m_rr T' = m_rr T := by
  intro d
  induction d with
  | zero =>
    intro k fu T hk hf h
    obtain ⟨fu, rfl⟩ : ∃ f, fu = f + 1 := ⟨fu - 1, by omega⟩
    refine ⟨T, ?_, fun j hj => h j (by omega), fun _ _ _ => rfl, rfl, rfl⟩
    simp (disch := omega) only [e_let, e_call, e_cal0, e_bind, e_lit, e_ofN, e_neg, nI_add, pk_mul, e_sub, e_ldi, e_sti, e_ldj, e_stj, e_le_t, e_le_f, e_lt_t, e_lt_f, e_eq_t, e_eq_f, e_no_eq, e_no_eq', e_no_rfl, e_no_lt, e_no_le, e_le_no, e_lt_no, if_true, if_false, ↓reduceIte, e_rs, e_rq, e_rn, e_ji, e_ki, e_ij, e_kj, e_js, e_jq, e_jn, e_cs, e_cq, e_jc, e_kc, e_js', e_jcq, e_icj, e_kcj, or_true, true_or, or_false, false_or, and_true, true_and, not_true_eq_false, not_false_eq_true, b_X12_layRegions_98]
  | succ d ih =>
    intro k fu T hk hf h
    obtain ⟨fu, rfl⟩ : ∃ f, fu = f + 1 := ⟨fu - 1, by omega⟩
    obtain ⟨T', g1, g2, g3, g4, g5⟩ := ih (k + 1) fu (m_si (m_si T (m + 14) k m_no) (m + 22) k (nI 0)) (by omega) (by omega) (fun j hj => by
      rw [e_rq (by omega), e_rif, e_rif, e_rq (by omega)]
      by_cases hjk : j = k
      · rw [if_pos hjk, if_pos hjk]; exact ⟨rfl, rfl⟩
      · rw [if_neg hjk, if_neg hjk]; exact h j (by omega))
    refine ⟨T', ?_, g2, fun q h1 h2 => by rw [g3 q h1 h2, e_rq h2, e_rq h1], g4, g5⟩
    rw [← g1]
    simp (disch := omega) only [e_let, e_call, e_cal0, e_bind, e_lit, e_ofN, e_neg, nI_add, pk_mul, e_sub, e_ldi, e_sti, e_ldj, e_stj, e_le_t, e_le_f, e_lt_t, e_lt_f, e_eq_t, e_eq_f, e_no_eq, e_no_eq', e_no_rfl, e_no_lt, e_no_le, e_le_no, e_lt_no, if_true, if_false, ↓reduceIte, e_rs, e_rq, e_rn, e_ji, e_ki, e_ij, e_kj, e_js, e_jq, e_jn, e_cs, e_cq, e_jc, e_kc, e_js', e_jcq, e_icj, e_kcj, or_true, true_or, or_false, false_or, and_true, true_and, not_true_eq_false, not_false_eq_true, b_X12_layRegions_98]
theorem j_numv {K : m_M → Int32 → Option m_M} (hV : u_V mk o U) (hW : p_W P) (hf : f < p_fu P) : ∀ (c v fu : Nat) (T : m_M) (G : u_GT), v + c = p_vs P f → c < fu → u_NV mk o U G → u_R2 T m U mk → u_Q2 T m mk o U G → r_P (m_ri T (m + 2)) P →
    ∃ T', b_X12_layRegions_138 m K fu T (nI f) (nI v) = K T' (nI (f + 1)) ∧ u_Q2 T' m mk o U (u_nv 60 U f c v G) ∧ u_NV mk o U (u_nv 60 U f c v G) ∧ u_O2 m T T' := by
  have h5 := hW.1
  have h24 := hW.2.1
  have hl := hW.2.2.1 f hf
  intro c
  induction c with
  | zero =>
    intro v fu T G hv hfu hN hR hQ hP
    obtain ⟨fu, rfl⟩ : ∃ f, fu = f + 1 := ⟨fu - 1, by omega⟩
    obtain ⟨p1, p2, p3⟩ := hP.2.2.1 f hf
    refine ⟨T, ?_, hQ, hN, u_O2.rf⟩
    simp only [p_vs] at hv
    simp (disch := omega) only [e_let, e_call, e_cal0, e_bind, e_lit, e_ofN, e_neg, nI_add, pk_mul, e_sub, e_ldi, e_sti, e_ldj, e_stj, e_le_t, e_le_f, e_lt_t, e_lt_f, e_eq_t, e_eq_f, e_no_eq, e_no_eq', e_no_rfl, e_no_lt, e_no_le, e_le_no, e_lt_no, if_true, if_false, ↓reduceIte, e_rs, e_rq, e_rn, e_ji, e_ki, e_ij, e_kj, e_js, e_jq, e_jn, e_cs, e_cq, e_jc, e_kc, e_js', e_jcq, e_icj, e_kcj, or_true, true_or, or_false, false_or, and_true, true_and, not_true_eq_false, not_false_eq_true, b_X12_layRegions_138, f_X12_varsOf, p1, p3]
  | succ c ih =>
    intro v fu T G hv hfu hN hR hQ hP
    obtain ⟨fu, rfl⟩ : ∃ f, fu = f + 1 := ⟨fu - 1, by omega⟩
    obtain ⟨p1, p2, p3⟩ := hP.2.2.1 f hf
    have hv' := hv
    simp only [p_vs] at hv'
    have hn : u_nd f v < 183 := by simp only [u_nd]; omega
    obtain ⟨T1, f1, f2, f3⟩ := j_num hV 60 (u_nd f v) T G (by omega) hn hN hR hQ
    obtain ⟨a1, a2, a3, a4⟩ := u_nr_ok hV 60 (u_nd f v) G (by omega) hn hN
    obtain ⟨T', g1, g2, g3, g4⟩ := ih (v + 1) fu T1 _ (by omega) (by omega) a1 (hR.kep f3) f2 (hP.kep2 hW f3.2.1)
    refine ⟨T', ?_, g2, g3, f3.tr g4⟩
    rw [← g1]
    have hn : f_X12_node m T (nI f) (nI v) = some (nI (u_nd f v), T) := j_nodeq
    simp (disch := omega) only [e_let, e_call, e_cal0, e_bind, e_lit, e_ofN, e_neg, nI_add, pk_mul, e_sub, e_ldi, e_sti, e_ldj, e_stj, e_le_t, e_le_f, e_lt_t, e_lt_f, e_eq_t, e_eq_f, e_no_eq, e_no_eq', e_no_rfl, e_no_lt, e_no_le, e_le_no, e_lt_no, if_true, if_false, ↓reduceIte, e_rs, e_rq, e_rn, e_ji, e_ki, e_ij, e_kj, e_js, e_jq, e_jn, e_cs, e_cq, e_jc, e_kc, e_js', e_jcq, e_icj, e_kcj, or_true, true_or, or_false, false_or, and_true, true_and, not_true_eq_false, not_false_eq_true, b_X12_layRegions_138, f_X12_varsOf, p1, p3, hn, f1]
theorem j_numf (hV : u_V mk o U) (hW : p_W P) : ∀ (c f fu : Nat) (T : m_M) (G : u_GT), f + c = p_fu P → c < fu → u_NV mk o U G → u_R2 T m U mk → u_Q2 T m mk o U G → r_P (m_ri T (m + 2)) P →
    ∃ T', b_X12_layRegions_126 m fu T (nI f) = b_X12_layRegions_175 m m_fu T' (nI 0) ∧ u_Q2 T' m mk o U (u_na 60 U P c f G) ∧ u_NV mk o U (u_na 60 U P c f G) ∧ u_O2 m T T' := by
  have hfu := m_fu_ge
  have h5 := hW.1
  have h24 := hW.2.1
  intro c
  induction c with
  | zero =>
    intro f fu T G hf hfu' hN hR hQ hP
    obtain ⟨fu, rfl⟩ : ∃ f, fu = f + 1 := ⟨fu - 1, by omega⟩
    have hf : f = p_fu P := hf
    have p0 := hP.1
    refine ⟨T, ?_, hQ, hN, u_O2.rf⟩
    simp (disch := omega) only [e_let, e_call, e_cal0, e_bind, e_lit, e_ofN, e_neg, nI_add, pk_mul, e_sub, e_ldi, e_sti, e_ldj, e_stj, e_le_t, e_le_f, e_lt_t, e_lt_f, e_eq_t, e_eq_f, e_no_eq, e_no_eq', e_no_rfl, e_no_lt, e_no_le, e_le_no, e_lt_no, if_true, if_false, ↓reduceIte, e_rs, e_rq, e_rn, e_ji, e_ki, e_ij, e_kj, e_js, e_jq, e_jn, e_cs, e_cq, e_jc, e_kc, e_js', e_jcq, e_icj, e_kcj, or_true, true_or, or_false, false_or, and_true, true_and, not_true_eq_false, not_false_eq_true, b_X12_layRegions_126, p0, hf]
  | succ c ih =>
    intro f fu T G hf hfu' hN hR hQ hP
    obtain ⟨fu, rfl⟩ : ∃ f, fu = f + 1 := ⟨fu - 1, by omega⟩
    have p0 := hP.1
    have hl := hW.2.2.1 f (by omega)
    obtain ⟨T1, f1, f2, f3, f4⟩ := j_numv (K := b_X12_layRegions_126 m fu) hV hW (show f < p_fu P by omega) (p_vs P f) 0 m_fu T G (by omega) (by simp only [p_vs]; omega) hN hR hQ hP
    obtain ⟨T', g1, g2, g3, g4⟩ := ih (f + 1) fu T1 _ (by omega) (by omega) f3 (hR.kep f4) f2 (hP.kep2 hW f4.2.1)
    refine ⟨T', ?_, g2, g3, f4.tr g4⟩
    rw [← g1, ← f1, b_X12_layRegions_126]
    simp (disch := omega) only [e_let, e_call, e_cal0, e_bind, e_lit, e_ofN, e_neg, nI_add, pk_mul, e_sub, e_ldi, e_sti, e_ldj, e_stj, e_le_t, e_le_f, e_lt_t, e_lt_f, e_eq_t, e_eq_f, e_no_eq, e_no_eq', e_no_rfl, e_no_lt, e_no_le, e_le_no, e_lt_no, if_true, if_false, ↓reduceIte, e_rs, e_rq, e_rn, e_ji, e_ki, e_ij, e_kj, e_js, e_jq, e_jn, e_cs, e_cq, e_jc, e_kc, e_js', e_jcq, e_icj, e_kcj, or_true, true_or, or_false, false_or, and_true, true_and, not_true_eq_false, not_false_eq_true, p0]
theorem j_numbered {n : Nat} (hV : u_V mk o U) (hN : u_NV mk o U G) (hR : u_R2 T m U mk) (hQ : u_Q2 T m mk o U G) (hn : n < 183) : f_X12_numbered m T (nI n) = some (nO (G.1 n), T) := by
  have m24 := hV.2.1
  have ri := j_topOf hR.1 hn
  obtain ⟨t1, t2⟩ := hV.1 n hn
  have lx := hR.2.1 _ t1
  have hk := hV.2.2.2.1 _ t1
  by_cases hq : U.2 (U.1 n) = 0
  · rw [hN.2.1 n hn hq]
    rw [hq] at lx
    have lx : m_ri T (m + 13) (U.1 n) = m_no := lx
    simp (disch := omega) only [e_let, e_call, e_cal0, e_bind, e_lit, e_ofN, e_neg, nI_add, pk_mul, e_sub, e_ldi, e_sti, e_ldj, e_stj, e_le_t, e_le_f, e_lt_t, e_lt_f, e_eq_t, e_eq_f, e_no_eq, e_no_eq', e_no_rfl, e_no_lt, e_no_le, e_le_no, e_lt_no, if_true, if_false, ↓reduceIte, e_rs, e_rq, e_rn, e_ji, e_ki, e_ij, e_kj, e_js, e_jq, e_jn, e_cs, e_cq, e_jc, e_kc, e_js', e_jcq, e_icj, e_kcj, or_true, true_or, or_false, false_or, and_true, true_and, not_true_eq_false, not_false_eq_true, f_X12_numbered, ri, lx, b_X12_numbered_26]
    rfl
  · rw [nO_pos (by omega)] at lx
    have ho := hV.2.2.2.2.1 _ t1 t2 hq
    have ho2 := hV.2.2.1 (U.2 (U.1 n) - 1) (by omega)
    have hq4 := hQ.1 (U.2 (U.1 n) - 1) (by omega)
    rw [if_pos ⟨by omega, by rw [ho]; omega⟩, hN.1 _ n (by omega) hn ho] at hq4
    simp (disch := omega) only [e_let, e_call, e_cal0, e_bind, e_lit, e_ofN, e_neg, nI_add, pk_mul, e_sub, e_ldi, e_sti, e_ldj, e_stj, e_le_t, e_le_f, e_lt_t, e_lt_f, e_eq_t, e_eq_f, e_no_eq, e_no_eq', e_no_rfl, e_no_lt, e_no_le, e_le_no, e_lt_no, if_true, if_false, ↓reduceIte, e_rs, e_rq, e_rn, e_ji, e_ki, e_ij, e_kj, e_js, e_jq, e_jn, e_cs, e_cq, e_jc, e_kc, e_js', e_jcq, e_icj, e_kcj, or_true, true_or, or_false, false_or, and_true, true_and, not_true_eq_false, not_false_eq_true, f_X12_numbered, ri, lx, hq4, b_X12_numbered_26]
theorem j_tells (hV : u_V mk o U) (hN : u_NV mk o U G) : ∀ (c n fu : Nat) (T : m_M), n + c = mk → c < fu → u_R2 T m U mk → u_Q2 T m mk o U G → (∀ k s, k < n → s < 2 → U.2 (U.1 (o k)) = k + 1 → G.1 (o k) ≠ 0 → m_ri T (m + 17) (2 * (G.1 (o k) - 1) + s) = nO (G.1 (u_sd k s))) →
    ∃ T', b_X12_layRegions_175 m fu T (nI n) = b_X12_layRegions_242 m m_fu T' (nI 0) ∧ (∀ k s, k < mk → s < 2 → U.2 (U.1 (o k)) = k + 1 → G.1 (o k) ≠ 0 → m_ri T' (m + 17) (2 * (G.1 (o k) - 1) + s) = nO (G.1 (u_sd k s))) ∧ e_O (m + 17) (m + 18) T T' := by
  have hfu := m_fu_ge
  have m24 := hV.2.1
  have hle := hN.le m24
  intro c
  induction c with
  | zero =>
    intro n fu T hn hf hR hQ hT
    obtain ⟨fu, rfl⟩ : ∃ f, fu = f + 1 := ⟨fu - 1, by omega⟩
    have hn : n = mk := hn
    have h36 := hR.2.2
    refine ⟨T, ?_, fun k s hk => hT k s (by omega), e_O.rf⟩
    simp (disch := omega) only [e_let, e_call, e_cal0, e_bind, e_lit, e_ofN, e_neg, nI_add, pk_mul, e_sub, e_ldi, e_sti, e_ldj, e_stj, e_le_t, e_le_f, e_lt_t, e_lt_f, e_eq_t, e_eq_f, e_no_eq, e_no_eq', e_no_rfl, e_no_lt, e_no_le, e_le_no, e_lt_no, if_true, if_false, ↓reduceIte, e_rs, e_rq, e_rn, e_ji, e_ki, e_ij, e_kj, e_js, e_jq, e_jn, e_cs, e_cq, e_jc, e_kc, e_js', e_jcq, e_icj, e_kcj, or_true, true_or, or_false, false_or, and_true, true_and, not_true_eq_false, not_false_eq_true, b_X12_layRegions_175, h36]
  | succ c ih =>
    intro n fu T hn hf hR hQ hT
    obtain ⟨fu, rfl⟩ : ∃ f, fu = f + 1 := ⟨fu - 1, by omega⟩
    have h36 := hR.2.2
    have hq4 := hQ.1 n (by omega)
    have hon := hV.2.2.1 n (by omega)
    have hgl := hN.2.2.1 (o n) (by omega)
    by_cases hc : U.2 (U.1 (o n)) = n + 1 ∧ G.1 (o n) ≠ 0
    · obtain ⟨c1, c2⟩ := hc
      rw [if_pos ⟨by omega, c1⟩, nO_pos (by omega)] at hq4
      have s0 := u_sd_lt (k := n) (s := 0) (by omega) (by omega)
      have s1 := u_sd_lt (k := n) (s := 1) (by omega) (by omega)
      have n0 := j_numbered hV hN hR hQ s0
      have kp : ∀ q, q ≠ m + 17 → m_ri (m_si T (m + 17) (2 * (G.1 (o n) - 1) + 0) (nO (G.1 (u_sd n 0)))) q = m_ri T q := fun q hq => e_rq hq
      have hR1 : u_R2 (m_si T (m + 17) (2 * (G.1 (o n) - 1) + 0) (nO (G.1 (u_sd n 0)))) m U mk := by
        simp only [u_R2, kp m (by omega), kp (m + 12) (by omega), kp (m + 13) (by omega)]; exact hR
      have hQ1 : u_Q2 (m_si T (m + 17) (2 * (G.1 (o n) - 1) + 0) (nO (G.1 (u_sd n 0)))) m mk o U G := by
        simp only [u_Q2, kp (m + 14) (by omega), kp (m + 2) (by omega)]; exact hQ
      have n1 := j_numbered hV hN hR1 hQ1 s1
      have kp2 : ∀ q, q ≠ m + 17 → m_ri (m_si (m_si T (m + 17) (2 * (G.1 (o n) - 1) + 0) (nO (G.1 (u_sd n 0)))) (m + 17) (2 * (G.1 (o n) - 1) + 1) (nO (G.1 (u_sd n 1)))) q = m_ri T q := fun q hq => by rw [e_rq hq, e_rq hq]
      have hR2 : u_R2 (m_si (m_si T (m + 17) (2 * (G.1 (o n) - 1) + 0) (nO (G.1 (u_sd n 0)))) (m + 17) (2 * (G.1 (o n) - 1) + 1) (nO (G.1 (u_sd n 1)))) m U mk := by
        simp only [u_R2, kp2 m (by omega), kp2 (m + 12) (by omega), kp2 (m + 13) (by omega)]; exact hR
      have hQ2 : u_Q2 (m_si (m_si T (m + 17) (2 * (G.1 (o n) - 1) + 0) (nO (G.1 (u_sd n 0)))) (m + 17) (2 * (G.1 (o n) - 1) + 1) (nO (G.1 (u_sd n 1)))) m mk o U G := by
        simp only [u_Q2, kp2 (m + 14) (by omega), kp2 (m + 2) (by omega)]; exact hQ
      obtain ⟨T', g1, g2, g3⟩ := ih (n + 1) fu _ (by omega) (by omega) hR2 hQ2 (fun k s hk hs hr hg => by
        rw [e_rif, e_rif]
        by_cases hkn : k = n
        · rw [hkn]
          rcases (by omega : s = 0 ∨ s = 1) with q | q
          · subst q; rw [if_neg (by omega), if_pos rfl]
          · subst q; rw [if_pos rfl]
        · have hne : G.1 (o k) ≠ G.1 (o n) := fun q => hkn (by
            have := hN.2.2.2.2 (o k) (o n) (by have := hV.2.2.1 k (by omega); omega) (by omega) hg q
            rw [this, c1] at hr; omega)
          rw [if_neg (by omega), if_neg (by omega)]; exact hT k s (by omega) hs hr hg)
      refine ⟨T', ?_, g2, ((e_O.rf.si (by omega) (by omega)).si (by omega) (by omega)).tr g3⟩
      rw [← g1]
      obtain ⟨u, hu⟩ : ∃ u, m_fu = u + 3 := ⟨m_fu - 3, by omega⟩
      have e0 : f_X12_sideNode m T (nI n) (nI 0) = some (nI (u_sd n 0), T) := by simp (disch := omega) only [e_let, e_call, e_cal0, e_bind, e_lit, e_ofN, e_neg, nI_add, pk_mul, e_sub, e_ldi, e_sti, e_ldj, e_stj, e_le_t, e_le_f, e_lt_t, e_lt_f, e_eq_t, e_eq_f, e_no_eq, e_no_eq', e_no_rfl, e_no_lt, e_no_le, e_le_no, e_lt_no, if_true, if_false, ↓reduceIte, e_rs, e_rq, e_rn, e_ji, e_ki, e_ij, e_kj, e_js, e_jq, e_jn, e_cs, e_cq, e_jc, e_kc, e_js', e_jcq, e_icj, e_kcj, or_true, true_or, or_false, false_or, and_true, true_and, not_true_eq_false, not_false_eq_true, f_X12_sideNode, u_sd]
      have e1 : f_X12_sideNode m (m_si T (m + 17) (2 * (G.1 (o n) - 1) + 0) (nO (G.1 (u_sd n 0)))) (nI n) (nI 1) = some (nI (u_sd n 1), (m_si T (m + 17) (2 * (G.1 (o n) - 1) + 0) (nO (G.1 (u_sd n 0))))) := by simp (disch := omega) only [e_let, e_call, e_cal0, e_bind, e_lit, e_ofN, e_neg, nI_add, pk_mul, e_sub, e_ldi, e_sti, e_ldj, e_stj, e_le_t, e_le_f, e_lt_t, e_lt_f, e_eq_t, e_eq_f, e_no_eq, e_no_eq', e_no_rfl, e_no_lt, e_no_le, e_le_no, e_lt_no, if_true, if_false, ↓reduceIte, e_rs, e_rq, e_rn, e_ji, e_ki, e_ij, e_kj, e_js, e_jq, e_jn, e_cs, e_cq, e_jc, e_kc, e_js', e_jcq, e_icj, e_kcj, or_true, true_or, or_false, false_or, and_true, true_and, not_true_eq_false, not_false_eq_true, f_X12_sideNode, u_sd]
      rw [b_X12_layRegions_175, hu]
      simp (disch := omega) only [e_let, e_call, e_cal0, e_bind, e_lit, e_ofN, e_neg, nI_add, pk_mul, e_sub, e_ldi, e_sti, e_ldj, e_stj, e_le_t, e_le_f, e_lt_t, e_lt_f, e_eq_t, e_eq_f, e_no_eq, e_no_eq', e_no_rfl, e_no_lt, e_no_le, e_le_no, e_lt_no, if_true, if_false, ↓reduceIte, e_rs, e_rq, e_rn, e_ji, e_ki, e_ij, e_kj, e_js, e_jq, e_jn, e_cs, e_cq, e_jc, e_kc, e_js', e_jcq, e_icj, e_kcj, or_true, true_or, or_false, false_or, and_true, true_and, not_true_eq_false, not_false_eq_true, h36, hq4, b_X12_layRegions_198, e0, n0, e1, n1, b_X12_layRegions_234]
    · have hz : m_ri T (m + 14) n = m_no := by
        rw [hq4]
        by_cases hr : U.2 (U.1 (o n)) = n + 1
        · rw [if_pos ⟨by omega, hr⟩, Classical.byContradiction (fun q => hc ⟨hr, q⟩ : ¬ G.1 (o n) = 0 → False)]; rfl
        · rw [if_neg (fun q => hr q.2)]; rfl
      obtain ⟨T', g1, g2, g3⟩ := ih (n + 1) fu T (by omega) (by omega) hR hQ (fun k s hk hs hr hg => by
        by_cases hkn : k = n
        · rw [hkn] at hr hg; exact absurd ⟨hr, hg⟩ hc
        · exact hT k s (by omega) hs hr hg)
      refine ⟨T', ?_, g2, g3⟩
      rw [← g1]
      simp (disch := omega) only [e_let, e_call, e_cal0, e_bind, e_lit, e_ofN, e_neg, nI_add, pk_mul, e_sub, e_ldi, e_sti, e_ldj, e_stj, e_le_t, e_le_f, e_lt_t, e_lt_f, e_eq_t, e_eq_f, e_no_eq, e_no_eq', e_no_rfl, e_no_lt, e_no_le, e_le_no, e_lt_no, if_true, if_false, ↓reduceIte, e_rs, e_rq, e_rn, e_ji, e_ki, e_ij, e_kj, e_js, e_jq, e_jn, e_cs, e_cq, e_jc, e_kc, e_js', e_jcq, e_icj, e_kcj, or_true, true_or, or_false, false_or, and_true, true_and, not_true_eq_false, not_false_eq_true, b_X12_layRegions_175, h36, hz, b_X12_layRegions_234]
end UK
