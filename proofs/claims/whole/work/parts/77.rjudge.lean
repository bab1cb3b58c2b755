/-! the other side's judge -/
section WC
variable {T : m_M} {m z : Nat} {P : pP} {D : pD} {M : qM} {L : List Nat}
def w_O (m : Nat) (T T' : m_M) : Prop := (∀ q, q ≠ m → q ≠ m + 25 → q ≠ m + 26 → m_ri T' q = m_ri T q) ∧ (∀ j, j ≠ 41 → m_ri T' m j = m_ri T m j) ∧ m_rj T' = m_rj T ∧ m_rr T' = m_rr T
theorem w_O.rf : w_O m T T := ⟨fun _ _ _ _ => rfl, fun _ _ => rfl, rfl, rfl⟩
theorem w_O.tr {T' T'' : m_M} (h : w_O m T T') (h' : w_O m T' T'') : w_O m T T'' := ⟨fun q h1 h2 h3 => (h'.1 q h1 h2 h3).trans (h.1 q h1 h2 h3), fun j hj => (h'.2.1 j hj).trans (h.2.1 j hj), h'.2.2.1.trans h.2.2.1, h'.2.2.2.trans h.2.2.2⟩
theorem w_O.arr {T' : m_M} {q j : Nat} {v : Int32} (h : w_O m T T') (hq : q = m + 25 ∨ q = m + 26) : w_O m T (m_si T' q j v) := ⟨fun q' g1 g2 g3 => by rw [e_rq (by omega)]; exact h.1 q' g1 g2 g3, fun t ht => by rw [e_rq (by omega)]; exact h.2.1 t ht, h.2.2.1, h.2.2.2⟩
theorem w_O.fld {T' : m_M} {v : Int32} (h : w_O m T T') : w_O m T (m_si T' m 41 v) := ⟨fun q' g1 g2 g3 => by rw [e_rq g1]; exact h.1 q' g1 g2 g3, fun t ht => by rw [e_rn ht]; exact h.2.1 t ht, h.2.2.1, h.2.2.2⟩
theorem w_O.now {T' : m_M} (h : w_O m T T') : m_ri T' (m + 2) = m_ri T (m + 2) := h.1 (m + 2) (by omega) (by omega) (by omega)
theorem j_come {x : Nat} {y : Int32} (hL : w_R T m 41 (m + 25) (m + 26) L) (hk : w_ok M L) (hx : x ≤ 2) (hl : x = 2 → i_live M y) : ∃ T', f_X12_comesTo m T (nI x) y = some T' ∧ w_R T' m 41 (m + 25) (m + 26) (w_cm L x y) ∧ w_O m T T' := by
  by_cases h2 : x = 2
  · obtain ⟨c, hc, hy, hce⟩ := hl h2
    subst hy
    have hcc : (nI c).toNatClampNeg = c := nI_clamp (by omega)
    have hs := hL.2.1 c hc
    simp only [w_cm, hcc]
    by_cases hm : c ∈ L
    · rw [if_pos hm] at hs
      refine ⟨T, ?_, by rw [if_neg (fun q => q.2 hm)]; exact hL, w_O.rf⟩
      simp (disch := omega) only [e_let, e_call, e_cal0, e_bind, e_lit, e_ofN, e_neg, nI_add, pk_mul, e_sub, e_ldi, e_sti, e_ldj, e_stj, e_le_t, e_le_f, e_lt_t, e_lt_f, e_eq_t, e_eq_f, e_no_eq, e_no_eq', e_no_rfl, e_no_lt, e_no_le, e_le_no, e_lt_no, if_true, if_false, ↓reduceIte, e_rs, e_rq, e_rn, e_ji, e_ki, e_ij, e_kj, e_js, e_jq, e_jn, e_cs, e_cq, e_jc, e_kc, e_js', e_jcq, e_icj, e_kcj, or_true, true_or, or_false, false_or, and_true, true_and, not_true_eq_false, not_false_eq_true, f_X12_comesTo, h2, hs, b_X12_comesTo_14]
    · rw [if_neg hm] at hs
      have hlen := hk.lt hc hm hce
      have hz := hL.1
      refine ⟨_, ?_, by rw [if_pos ⟨h2, hm⟩]; exact hL.put (by omega) hm, ((w_O.rf.arr (by omega)).arr (by omega)).fld⟩
      simp (disch := omega) only [e_let, e_call, e_cal0, e_bind, e_lit, e_ofN, e_neg, nI_add, pk_mul, e_sub, e_ldi, e_sti, e_ldj, e_stj, e_le_t, e_le_f, e_lt_t, e_lt_f, e_eq_t, e_eq_f, e_no_eq, e_no_eq', e_no_rfl, e_no_lt, e_no_le, e_le_no, e_lt_no, if_true, if_false, ↓reduceIte, e_rs, e_rq, e_rn, e_ji, e_ki, e_ij, e_kj, e_js, e_jq, e_jn, e_cs, e_cq, e_jc, e_kc, e_js', e_jcq, e_icj, e_kcj, or_true, true_or, or_false, false_or, and_true, true_and, not_true_eq_false, not_false_eq_true, f_X12_comesTo, h2, hs, b_X12_comesTo_14, e_nz1, hz]
  · refine ⟨T, ?_, by rw [w_cm, if_neg (fun q => h2 q.1)]; exact hL, w_O.rf⟩
    simp (disch := omega) only [e_let, e_call, e_cal0, e_bind, e_lit, e_ofN, e_neg, nI_add, pk_mul, e_sub, e_ldi, e_sti, e_ldj, e_stj, e_le_t, e_le_f, e_lt_t, e_lt_f, e_eq_t, e_eq_f, e_no_eq, e_no_eq', e_no_rfl, e_no_lt, e_no_le, e_le_no, e_lt_no, if_true, if_false, ↓reduceIte, e_rs, e_rq, e_rn, e_ji, e_ki, e_ij, e_kj, e_js, e_jq, e_jn, e_cs, e_cq, e_jc, e_kc, e_js', e_jcq, e_icj, e_kcj, or_true, true_or, or_false, false_or, and_true, true_and, not_true_eq_false, not_false_eq_true, f_X12_comesTo, h2, b_X12_comesTo_14]
theorem j_cv {k : Nat} {K : m_M → Int32 → Option (Int32 × m_M)} (hW : p_W P) (hB : q_B P M) (hLv : q_L P M) (hk : k < q_sc M 2) : ∀ (d v fu : Nat) (T : m_M) (L : List Nat), v + d = p_vs P (q_ff M k) → d < fu → r_P (m_ri T (m + 2)) P → r_R (m_ri T (m + 2)) M → w_R T m 41 (m + 25) (m + 26) L → w_ok M L →
    ∃ T', b_X12_markReached_43 m K fu T (nI k) (nI v) = K T' (nI (k + 1)) ∧ w_R T' m 41 (m + 25) (m + 26) (w_fv M k d v L) ∧ w_O m T T' := by
  obtain ⟨b1, b2, b3⟩ := hB.2.2.2.2.1 k hk
  have hvs := (hW.line b1 b2).2.2.2.1
  have h12 := hB.1
  have h5 := hW.1
  have hvs : p_vs P (q_ff M k) ≤ 27 := hvs
  intro d
  induction d with
  | zero =>
    intro v fu T L hv hf hP hM hL hok
    obtain ⟨fu, rfl⟩ : ∃ f, fu = f + 1 := ⟨fu - 1, by omega⟩
    have hff := hM.2.2.2.2.2.2.2.2.2.2.2.1 k hk (by omega)
    obtain ⟨p1, -, p3⟩ := hP.2.2.1 _ b1
    refine ⟨T, ?_, hL, w_O.rf⟩
    have hv : v = p_pa P (q_ff M k) + p_ct P (q_ff M k) := hv
    simp (disch := omega) only [e_let, e_call, e_cal0, e_bind, e_lit, e_ofN, e_neg, nI_add, pk_mul, e_sub, e_ldi, e_sti, e_ldj, e_stj, e_le_t, e_le_f, e_lt_t, e_lt_f, e_eq_t, e_eq_f, e_no_eq, e_no_eq', e_no_rfl, e_no_lt, e_no_le, e_le_no, e_lt_no, if_true, if_false, ↓reduceIte, e_rs, e_rq, e_rn, e_ji, e_ki, e_ij, e_kj, e_js, e_jq, e_jn, e_cs, e_cq, e_jc, e_kc, e_js', e_jcq, e_icj, e_kcj, or_true, true_or, or_false, false_or, and_true, true_and, not_true_eq_false, not_false_eq_true, b_X12_markReached_43, f_X12_funOf, f_X12_varsOf, hff, p1, p3]
  | succ d ih =>
    intro v fu T L hv hf hP hM hL hok
    obtain ⟨fu, rfl⟩ : ∃ f, fu = f + 1 := ⟨fu - 1, by omega⟩
    have hff := hM.2.2.2.2.2.2.2.2.2.2.2.1 k hk (by omega)
    obtain ⟨p1, -, p3⟩ := hP.2.2.1 _ b1
    have h3 := hM.2.2.2.2.2.2.2.2.2.2.2.2.2.1 k v hk (by omega) (by omega)
    have h4 := hM.2.2.2.2.2.2.2.2.2.2.2.2.2.2.1 k v hk (by omega) (by omega)
    have hlive := hLv.1 k v hk (by omega)
    obtain ⟨T1, f1, f2, f3⟩ := j_come (x := q_kd M k v) (y := q_vl M k v) hL hok (b3 v) hlive
    obtain ⟨T', g1, g2, g3⟩ := ih (v + 1) fu T1 _ (by omega) (by omega) (by rw [f3.now]; exact hP) (by rw [f3.now]; exact hM) f2 (w_cm_ok hok hlive).1
    refine ⟨T', ?_, g2, f3.tr g3⟩
    rw [← g1]
    have hv : v < p_pa P (q_ff M k) + p_ct P (q_ff M k) := by simp only [p_vs] at hv; omega
    have hvs : p_pa P (q_ff M k) + p_ct P (q_ff M k) ≤ 27 := hvs
    simp (disch := omega) only [e_let, e_call, e_cal0, e_bind, e_lit, e_ofN, e_neg, nI_add, pk_mul, e_sub, e_ldi, e_sti, e_ldj, e_stj, e_le_t, e_le_f, e_lt_t, e_lt_f, e_eq_t, e_eq_f, e_no_eq, e_no_eq', e_no_rfl, e_no_lt, e_no_le, e_le_no, e_lt_no, if_true, if_false, ↓reduceIte, e_rs, e_rq, e_rn, e_ji, e_ki, e_ij, e_kj, e_js, e_jq, e_jn, e_cs, e_cq, e_jc, e_kc, e_js', e_jcq, e_icj, e_kcj, or_true, true_or, or_false, false_or, and_true, true_and, not_true_eq_false, not_false_eq_true, b_X12_markReached_43, f_X12_funOf, f_X12_varsOf, f_X12_slot, hff, p1, p3, h3, h4, f1]
theorem j_cf (hW : p_W P) (hB : q_B P M) (hLv : q_L P M) : ∀ (d k fu : Nat) (T : m_M) (L : List Nat), k + d = q_sc M 2 → d < fu → r_P (m_ri T (m + 2)) P → r_R (m_ri T (m + 2)) M → w_R T m 41 (m + 25) (m + 26) L → w_ok M L →
    ∃ T' fu', b_X12_markReached_29 m fu T (nI k) = b_X12_markReached_29 m (fu' + 1) T' (nI (q_sc M 2)) ∧ w_R T' m 41 (m + 25) (m + 26) (w_fr P M d k L) ∧ w_O m T T' := by
  have hfu := m_fu_ge
  have h12 := hB.1
  intro d
  induction d with
  | zero =>
    intro k fu T L hk hf C hM hL hok
    obtain ⟨fu, rfl⟩ : ∃ f, fu = f + 1 := ⟨fu - 1, by omega⟩
    have hk : k = q_sc M 2 := hk
    subst hk
    exact ⟨T, fu, rfl, hL, w_O.rf⟩
  | succ d ih =>
    intro k fu T L hk hf C hM hL hok
    obtain ⟨fu, rfl⟩ : ∃ f, fu = f + 1 := ⟨fu - 1, by omega⟩
    have s2 := hM.2.2.1
    obtain ⟨b1, b2, b3⟩ := hB.2.2.2.2.1 k (by omega)
    have hvs : p_vs P (q_ff M k) ≤ 27 := (hW.line b1 b2).2.2.2.1
    obtain ⟨T1, f1, f2, f3⟩ := j_cv (K := b_X12_markReached_29 m fu) hW hB hLv (k := k) (by omega) (p_vs P (q_ff M k)) 0 m_fu T L (by omega) (by omega) C hM hL hok
    obtain ⟨T', fu', g1, g2, g3⟩ := ih (k + 1) fu T1 _ (by omega) (by omega) (by rw [f3.now]; exact C) (by rw [f3.now]; exact hM) f2 (w_fv_ok _ 0 L hok (fun w _ h2 => hLv.1 k w (by omega) (by omega))).1
    refine ⟨T', fu', ?_, g2, f3.tr g3⟩
    rw [← g1, ← f1, b_X12_markReached_29]
    simp (disch := omega) only [e_let, e_call, e_cal0, e_bind, e_lit, e_ofN, e_neg, nI_add, pk_mul, e_sub, e_ldi, e_sti, e_ldj, e_stj, e_le_t, e_le_f, e_lt_t, e_lt_f, e_eq_t, e_eq_f, e_no_eq, e_no_eq', e_no_rfl, e_no_lt, e_no_le, e_le_no, e_lt_no, if_true, if_false, ↓reduceIte, e_rs, e_rq, e_rn, e_ji, e_ki, e_ij, e_kj, e_js, e_jq, e_jn, e_cs, e_cq, e_jc, e_kc, e_js', e_jcq, e_icj, e_kcj, or_true, true_or, or_false, false_or, and_true, true_and, not_true_eq_false, not_false_eq_true, s2]
theorem j_cc (hB : q_B P M) (hLv : q_L P M) : ∀ (n i fu : Nat) (T : m_M) (L : List Nat), 200 < n + i → i ≤ 200 → n < fu → r_R (m_ri T (m + 2)) M → w_R T m 41 (m + 25) (m + 26) L → w_ok M L →
    ∃ T', b_X12_markReached_140 m fu T (nI i) = some (nI (w_cl M n i L).length, T') ∧ w_R T' m 41 (m + 25) (m + 26) (w_cl M n i L) ∧ w_O m T T' := by
  have hfu := m_fu_ge
  intro n
  induction n with
  | zero => intro i fu T L hn; omega
  | succ n ih =>
    intro i fu T L hn hi2 hf hM hL hok
    obtain ⟨fu, rfl⟩ : ∃ f, fu = f + 1 := ⟨fu - 1, by omega⟩
    obtain ⟨u, hu⟩ : ∃ u, m_fu = u + 3 := ⟨m_fu - 3, by omega⟩
    have hlen := hok.len
    have hz := hL.1
    rw [w_cl]
    by_cases hi : i < L.length
    · rw [if_pos hi]
      obtain ⟨g1, g2⟩ := w_get hi
      obtain ⟨l1, l2⟩ := hok.2 _ g2
      have hfd := hL.2.2 _ _ g1
      have hgi := g1
      generalize L.getD i 0 = c at *
      have hsl := hLv.2.1 c l1 l2
      have e0 := hM.2.2.2.2.2.2.2.2.2.2.2.2.2.2.2.2.2.2.1 c 0 l1 (by omega) l2
      have v0 := hM.2.2.2.2.2.2.2.2.2.2.2.2.2.2.2.2.2.2.2 c 0 l1 (by omega) l2
      obtain ⟨T1, f1, f2, f3⟩ := j_come (x := q_sk M c 0) (y := q_sv M c 0) hL hok (by have := (hsl 0 (by omega)).1; omega) (hsl 0 (by omega)).2
      obtain ⟨hok1, -, Y, hY⟩ := w_cm_ok hok (hsl 0 (by omega)).2
      have hM1 : r_R (m_ri T1 (m + 2)) M := by rw [f3.now]; exact hM
      have e1 := hM1.2.2.2.2.2.2.2.2.2.2.2.2.2.2.2.2.2.2.1 c 1 l1 (by omega) l2
      have v1 := hM1.2.2.2.2.2.2.2.2.2.2.2.2.2.2.2.2.2.2.2 c 1 l1 (by omega) l2
      have hfd1 : m_ri T1 (m + 26) i = nI c := f2.2.2 i c (by rw [hY, List.getElem?_append_left hi]; exact hgi)
      obtain ⟨T2, h1, h2, h3⟩ := j_come (x := q_sk M c 1) (y := q_sv M c 1) f2 hok1 (by have := (hsl 1 (by omega)).1; omega) (hsl 1 (by omega)).2
      have hok2 := (w_cm_ok hok1 (hsl 1 (by omega)).2).1
      obtain ⟨T', k1, k2, k3⟩ := ih (i + 1) fu T2 _ (by omega) (by omega) (by omega) (by rw [h3.now]; exact hM1) h2 hok2
      refine ⟨T', ?_, k2, (f3.tr h3).tr k3⟩
      rw [← w_sd] at k1
      rw [← k1, b_X12_markReached_140, hu]
      rw [show 1293 + (2 * c + 0) = 1293 + 2 * c + 0 by omega] at e0
      rw [show 1693 + (2 * c + 0) = 1693 + 2 * c + 0 by omega] at v0
      rw [show 1293 + (2 * c + 1) = 1293 + 2 * c + 1 by omega] at e1
      rw [show 1693 + (2 * c + 1) = 1693 + 2 * c + 1 by omega] at v1
      simp (disch := omega) only [e_let, e_call, e_cal0, e_bind, e_lit, e_ofN, e_neg, nI_add, pk_mul, e_sub, e_ldi, e_sti, e_ldj, e_stj, e_le_t, e_le_f, e_lt_t, e_lt_f, e_eq_t, e_eq_f, e_no_eq, e_no_eq', e_no_rfl, e_no_lt, e_no_le, e_le_no, e_lt_no, if_true, if_false, ↓reduceIte, e_rs, e_rq, e_rn, e_ji, e_ki, e_ij, e_kj, e_js, e_jq, e_jn, e_cs, e_cq, e_jc, e_kc, e_js', e_jcq, e_icj, e_kcj, or_true, true_or, or_false, false_or, and_true, true_and, not_true_eq_false, not_false_eq_true, b_X12_markReached_150, hz, hfd, e0, v0, f1, hfd1, e1, v1, h1]
    · rw [if_neg hi]
      refine ⟨T, ?_, hL, w_O.rf⟩
      simp (disch := omega) only [e_let, e_call, e_cal0, e_bind, e_lit, e_ofN, e_neg, nI_add, pk_mul, e_sub, e_ldi, e_sti, e_ldj, e_stj, e_le_t, e_le_f, e_lt_t, e_lt_f, e_eq_t, e_eq_f, e_no_eq, e_no_eq', e_no_rfl, e_no_lt, e_no_le, e_le_no, e_lt_no, if_true, if_false, ↓reduceIte, e_rs, e_rq, e_rn, e_ji, e_ki, e_ij, e_kj, e_js, e_jq, e_jn, e_cs, e_cq, e_jc, e_kc, e_js', e_jcq, e_icj, e_kcj, or_true, true_or, or_false, false_or, and_true, true_and, not_true_eq_false, not_false_eq_true, b_X12_markReached_140, hz]
theorem j_c0 : ∀ (d i fu : Nat) (T : m_M), i + d = 200 → d < fu → (∀ c, c < i → m_ri T (m + 25) c = nI 0) →
    ∃ T', b_X12_markReached_2 m fu T (nI i) = b_X12_markReached_29 m m_fu T' (nI 0) ∧ w_R T' m 41 (m + 25) (m + 26) [] ∧ w_O m T T' := by
  intro d
  induction d with
  | zero =>
    intro i fu T hi hf h0
    obtain ⟨fu, rfl⟩ : ∃ f, fu = f + 1 := ⟨fu - 1, by omega⟩
    refine ⟨m_si T m 41 (nI 0), ?_, ⟨e_rs, fun c hc => ?_, fun i c h => by cases h⟩, w_O.rf.fld⟩
    · simp (disch := omega) only [e_let, e_call, e_cal0, e_bind, e_lit, e_ofN, e_neg, nI_add, pk_mul, e_sub, e_ldi, e_sti, e_ldj, e_stj, e_le_t, e_le_f, e_lt_t, e_lt_f, e_eq_t, e_eq_f, e_no_eq, e_no_eq', e_no_rfl, e_no_lt, e_no_le, e_le_no, e_lt_no, if_true, if_false, ↓reduceIte, e_rs, e_rq, e_rn, e_ji, e_ki, e_ij, e_kj, e_js, e_jq, e_jn, e_cs, e_cq, e_jc, e_kc, e_js', e_jcq, e_icj, e_kcj, or_true, true_or, or_false, false_or, and_true, true_and, not_true_eq_false, not_false_eq_true, b_X12_markReached_2]
    · rw [e_rq (by omega), h0 c (by omega), if_neg (fun h => by cases h)]
  | succ d ih =>
    intro i fu T hi hf h0
    obtain ⟨fu, rfl⟩ : ∃ f, fu = f + 1 := ⟨fu - 1, by omega⟩
    obtain ⟨T', g1, g2, g3⟩ := ih (i + 1) fu (m_si T (m + 25) i (nI 0)) (by omega) (by omega) (fun c hc => by
      rw [e_rif]
      by_cases h : c = i
      · rw [if_pos h]
      · rw [if_neg h]; exact h0 c (by omega))
    refine ⟨T', ?_, g2, (w_O.rf.arr (by omega)).tr g3⟩
    rw [← g1]
    simp (disch := omega) only [e_let, e_call, e_cal0, e_bind, e_lit, e_ofN, e_neg, nI_add, pk_mul, e_sub, e_ldi, e_sti, e_ldj, e_stj, e_le_t, e_le_f, e_lt_t, e_lt_f, e_eq_t, e_eq_f, e_no_eq, e_no_eq', e_no_rfl, e_no_lt, e_no_le, e_le_no, e_lt_no, if_true, if_false, ↓reduceIte, e_rs, e_rq, e_rn, e_ji, e_ki, e_ij, e_kj, e_js, e_jq, e_jn, e_cs, e_cq, e_jc, e_kc, e_js', e_jcq, e_icj, e_kcj, or_true, true_or, or_false, false_or, and_true, true_and, not_true_eq_false, not_false_eq_true, b_X12_markReached_2, e_nz0]
theorem j_mark (hW : p_W P) (hP : r_P (m_ri T (m + 2)) P) (hM : r_R (m_ri T (m + 2)) M) (hB : q_B P M) (hLv : q_L P M) : ∃ T', f_X12_markReached m T = some (nI (w_all P M).length, T') ∧ w_R T' m 41 (m + 25) (m + 26) (w_all P M) ∧ w_O m T T' := by
  have hfu := m_fu_ge
  have h12 := hB.1
  obtain ⟨S0, z1, z2, z3⟩ := j_c0 (m := m) 200 0 m_fu T (by omega) (by omega) (fun c h => by omega)
  have h0 : w_ok M [] := ⟨List.nodup_nil, fun c h => by cases h⟩
  have hM0 : r_R (m_ri S0 (m + 2)) M := by rw [z3.now]; exact hM
  obtain ⟨S1, fu', f1, f2, f3⟩ := j_cf hW hB hLv (q_sc M 2) 0 m_fu S0 [] (by omega) (by omega) (by rw [z3.now]; exact hP) hM0 z2 h0
  have hM1 : r_R (m_ri S1 (m + 2)) M := by rw [f3.now]; exact hM0
  have ok1 := (w_fr_ok (P := P) (q_sc M 2) 0 [] h0 (fun k _ hk w hw => hLv.1 k w (by omega) hw)).1
  have s2 := hM1.2.2.1
  have s0 := hM1.1
  have s9 := hM1.2.2.2.2.2.2.2.2.2.1
  have h04 := hB.2.2.2.2.2.2.2.2.2.2.2.2.1
  have hle := hB.2.2.2.2.2.2.2.2.2.2.2.1
  rw [w_all, w_rt]
  by_cases h : q_sc M 0 = 2
  · have s10 := hM1.2.2.2.2.2.2.2.2.2.2.1 h
    rw [if_pos h] at s9
    have hlg : q_sc M 9 = 2 → i_live M (q_gv M) := fun h9 => (hLv.2.2 h).2.2 h9
    obtain ⟨S2, g1, g2, g3⟩ := j_come (x := q_sc M 9) (y := q_gv M) f2 ok1 hle hlg
    have ok2 := (w_cm_ok ok1 hlg).1
    obtain ⟨S3, h1, h2, h3⟩ := j_cc hB hLv 201 0 m_fu S2 _ (by omega) (by omega) (by omega) (by rw [g3.now]; exact hM1) g2 ok2
    rw [if_pos h]
    rw [h] at s0
    refine ⟨S3, ?_, h2, ((z3.tr f3).tr g3).tr h3⟩
    rw [← h1, f_X12_markReached, e_lit]
    show b_X12_markReached_2 m m_fu T (nI 0) = _
    rw [z1, f1, b_X12_markReached_29]
    simp (disch := omega) only [e_let, e_call, e_cal0, e_bind, e_lit, e_ofN, e_neg, nI_add, pk_mul, e_sub, e_ldi, e_sti, e_ldj, e_stj, e_le_t, e_le_f, e_lt_t, e_lt_f, e_eq_t, e_eq_f, e_no_eq, e_no_eq', e_no_rfl, e_no_lt, e_no_le, e_le_no, e_lt_no, if_true, if_false, ↓reduceIte, e_rs, e_rq, e_rn, e_ji, e_ki, e_ij, e_kj, e_js, e_jq, e_jn, e_cs, e_cq, e_jc, e_kc, e_js', e_jcq, e_icj, e_kcj, or_true, true_or, or_false, false_or, and_true, true_and, not_true_eq_false, not_false_eq_true, s2, s0, s9, s10, g1, b_X12_markReached_138]
  · have hno : ∀ L, w_cm L 0 (q_gv M) = L := fun L => if_neg (fun q => by omega)
    obtain ⟨S3, h1, h2, h3⟩ := j_cc hB hLv 201 0 m_fu S1 _ (by omega) (by omega) (by omega) hM1 f2 ok1
    rw [if_neg h, hno]
    refine ⟨S3, ?_, h2, (z3.tr f3).tr h3⟩
    rw [← h1, f_X12_markReached, e_lit]
    show b_X12_markReached_2 m m_fu T (nI 0) = _
    rw [z1, f1, b_X12_markReached_29]
    simp (disch := omega) only [e_let, e_call, e_cal0, e_bind, e_lit, e_ofN, e_neg, nI_add, pk_mul, e_sub, e_ldi, e_sti, e_ldj, e_stj, e_le_t, e_le_f, e_lt_t, e_lt_f, e_eq_t, e_eq_f, e_no_eq, e_no_eq', e_no_rfl, e_no_lt, e_no_le, e_le_no, e_lt_no, if_true, if_false, ↓reduceIte, e_rs, e_rq, e_rn, e_ji, e_ki, e_ij, e_kj, e_js, e_jq, e_jn, e_cs, e_cq, e_jc, e_kc, e_js', e_jcq, e_icj, e_kcj, or_true, true_or, or_false, false_or, and_true, true_and, not_true_eq_false, not_false_eq_true, s2, s0, h, b_X12_markReached_138]
end WC
