/-! the other side: a fun is called, a step -/
section RS
variable {T : m_M} {m z : Nat} {P : pP} {D : pD} {M : qM} {f i : Nat}
/-- the row k of frames is laid anew -/
def r_row (N : Nat → Int32) (k : Nat) (N' : Nat → Int32) : Prop := ∀ t, t ≠ 221 + k → t ≠ 233 + k → (t < 245 + 27 * k ∨ 245 + 27 * k + 27 ≤ t) → (t < 569 + 27 * k ∨ 569 + 27 * k + 27 ≤ t) → t ≠ 212 → N' t = N t
theorem j_pushl {k : Nat} (hk : k < 12) (h212 : m_ri T (m + 2) 212 = nI k) : ∀ (d v fu : Nat) (T' : m_M), v + d = 27 → d < fu → m_ri T' (m + 2) 212 = nI k → (∀ t, (t < 245 + 27 * k ∨ 245 + 27 * k + 27 ≤ t) → (t < 569 + 27 * k ∨ 569 + 27 * k + 27 ≤ t) → m_ri T' (m + 2) t = m_ri T (m + 2) t) → (∀ w, w < v → m_ri T' (m + 2) (245 + (27 * k + w)) = nI 0 ∧ m_ri T' (m + 2) (569 + (27 * k + w)) = nI 0) → r_O m T T' → (∀ q, q ≠ m + 2 → m_ri T' q = m_ri T q) →
    ∃ T'', b_X12_pushFrame_33 m fu T' (nI k) (nI v) = some T'' ∧ (∀ t, (t < 245 + 27 * k ∨ 245 + 27 * k + 27 ≤ t) → (t < 569 + 27 * k ∨ 569 + 27 * k + 27 ≤ t) → t ≠ 212 → m_ri T'' (m + 2) t = m_ri T (m + 2) t) ∧ m_ri T'' (m + 2) 212 = nI (k + 1) ∧ (∀ w, w < 27 → m_ri T'' (m + 2) (245 + (27 * k + w)) = nI 0 ∧ m_ri T'' (m + 2) (569 + (27 * k + w)) = nI 0) ∧ r_O m T T'' ∧ (∀ q, q ≠ m + 2 → m_ri T'' q = m_ri T q) := by
  intro d
  induction d with
  | zero =>
    intro v fu T' hv hf h1 h2 h3 hO hQ
    obtain ⟨fu, rfl⟩ : ∃ f, fu = f + 1 := ⟨fu - 1, by omega⟩
    refine ⟨m_si T' (m + 2) 212 (nI (k + 1)), ?_, fun t g1 g2 g3 => by rw [e_rn g3]; exact h2 t g1 g2, by rw [e_rs], fun w hw => by rw [e_rn (by omega), e_rn (by omega)]; exact h3 w (by omega), hO.now (by omega) (by omega), fun q hq => by rw [e_rq hq]; exact hQ q hq⟩
    simp (disch := omega) only [e_let, e_call, e_cal0, e_bind, e_lit, e_ofN, e_neg, nI_add, pk_mul, e_sub, e_ldi, e_sti, e_ldj, e_stj, e_le_t, e_le_f, e_lt_t, e_lt_f, e_eq_t, e_eq_f, e_no_eq, e_no_eq', e_no_rfl, e_no_lt, e_no_le, e_le_no, e_lt_no, if_true, if_false, ↓reduceIte, e_rs, e_rq, e_rn, e_ji, e_ki, e_ij, e_kj, e_js, e_jq, e_jn, e_cs, e_cq, e_jc, e_kc, e_js', e_jcq, e_icj, e_kcj, or_true, true_or, or_false, false_or, and_true, true_and, not_true_eq_false, not_false_eq_true, b_X12_pushFrame_33, h1]
  | succ d ih =>
    intro v fu T' hv hf h1 h2 h3 hO hQ
    obtain ⟨fu, rfl⟩ : ∃ f, fu = f + 1 := ⟨fu - 1, by omega⟩
    obtain ⟨T'', g1, g2, g3, g4, g5, g6⟩ := ih (v + 1) fu (m_si (m_si T' (m + 2) (245 + (27 * k + v)) (nI 0)) (m + 2) (569 + (27 * k + v)) (nI 0)) (by omega) (by omega) (by rw [e_rn (by omega), e_rn (by omega)]; exact h1) (fun t g1 g2 => by rw [e_rn (by omega), e_rn (by omega)]; exact h2 t g1 g2) (fun w hw => by
      by_cases hwv : w = v
      · subst hwv; rw [e_rn (by omega), e_rs, e_rs]; exact ⟨rfl, rfl⟩
      · rw [e_rn (by omega), e_rn (by omega), e_rn (by omega), e_rn (by omega)]; exact h3 w (by omega)) ((hO.now (by omega) (by omega)).now (by omega) (by omega)) (fun q hq => by rw [e_rq hq, e_rq hq]; exact hQ q hq)
    refine ⟨T'', ?_, g2, g3, g4, g5, g6⟩
    rw [← g1]
    simp (disch := omega) only [e_let, e_call, e_cal0, e_bind, e_lit, e_ofN, e_neg, nI_add, pk_mul, e_sub, e_ldi, e_sti, e_ldj, e_stj, e_le_t, e_le_f, e_lt_t, e_lt_f, e_eq_t, e_eq_f, e_no_eq, e_no_eq', e_no_rfl, e_no_lt, e_no_le, e_le_no, e_lt_no, if_true, if_false, ↓reduceIte, e_rs, e_rq, e_rn, e_ji, e_ki, e_ij, e_kj, e_js, e_jq, e_jn, e_cs, e_cq, e_jc, e_kc, e_js', e_jcq, e_icj, e_kcj, or_true, true_or, or_false, false_or, and_true, true_and, not_true_eq_false, not_false_eq_true, b_X12_pushFrame_33, f_X12_setVar, f_X12_slot]
theorem j_push {k g : Nat} (hk : k < 12) (h212 : m_ri T (m + 2) 212 = nI k) : ∃ T', f_X12_pushFrame m T (nI g) = some T' ∧ r_row (m_ri T (m + 2)) k (m_ri T' (m + 2)) ∧ m_ri T' (m + 2) 212 = nI (k + 1) ∧ m_ri T' (m + 2) (221 + k) = nI g ∧ m_ri T' (m + 2) (233 + k) = nI 0 ∧ (∀ w, w < 27 → m_ri T' (m + 2) (245 + (27 * k + w)) = nI 0 ∧ m_ri T' (m + 2) (569 + (27 * k + w)) = nI 0) ∧ r_O m T T' ∧ (∀ q, q ≠ m + 2 → m_ri T' q = m_ri T q) := by
  have hfu := m_fu_ge
  have hO : r_O m T (m_si (m_si T (m + 2) (221 + k) (nI g)) (m + 2) (233 + k) (nI 0)) := (r_O.rf.now (by omega) (by omega)).now (by omega) (by omega)
  obtain ⟨T', g1, g2, g3, g4, g5, g6⟩ := j_pushl (T := m_si (m_si T (m + 2) (221 + k) (nI g)) (m + 2) (233 + k) (nI 0)) (m := m) hk (by rw [e_rn (by omega), e_rn (by omega)]; exact h212) 27 0 m_fu _ (by omega) (by omega) (by rw [e_rn (by omega), e_rn (by omega)]; exact h212) (fun _ _ _ => rfl) (fun w hw => by omega) r_O.rf (fun _ _ => rfl)
  refine ⟨T', ?_, fun t h1 h2 h3 h4 h5 => by rw [g2 t h3 h4 h5, e_rn h2, e_rn h1], g3, by rw [g2 _ (by omega) (by omega) (by omega), e_rn (by omega), e_rs], by rw [g2 _ (by omega) (by omega) (by omega), e_rs], g4, hO.tr g5, fun q hq => by rw [g6 q hq, e_rq hq, e_rq hq]⟩
  simp (disch := omega) only [e_let, e_call, e_cal0, e_bind, e_lit, e_ofN, e_neg, nI_add, pk_mul, e_sub, e_ldi, e_sti, e_ldj, e_stj, e_le_t, e_le_f, e_lt_t, e_lt_f, e_eq_t, e_eq_f, e_no_eq, e_no_eq', e_no_rfl, e_no_lt, e_no_le, e_le_no, e_lt_no, if_true, if_false, ↓reduceIte, e_rs, e_rq, e_rn, e_ji, e_ki, e_ij, e_kj, e_js, e_jq, e_jn, e_cs, e_cq, e_jc, e_kc, e_js', e_jcq, e_icj, e_kcj, or_true, true_or, or_false, false_or, and_true, true_and, not_true_eq_false, not_false_eq_true, f_X12_pushFrame, h212]
  exact g1
theorem j_put {g n : Nat} {ck : Nat → Nat} {cv : Nat → Int32} (C : r_C T m P D z) (hg : g < p_fu P) (hn : 1 ≤ n) (hn2 : n ≤ 12) (h212 : m_ri T (m + 2) 212 = nI n) (hk : ∀ j, j < p_pa P g → m_ri T (m + 23) j = nI (ck j)) (hv : ∀ j, j < p_pa P g → m_ri T (m + 24) j = cv j) : ∀ (d j fu : Nat) (T' : m_M), j + d = p_pa P g → d < fu → r_O m T T' → (∀ t, (t < 245 + 27 * (n - 1) ∨ 245 + 27 * (n - 1) + 27 ≤ t) → (t < 569 + 27 * (n - 1) ∨ 569 + 27 * (n - 1) + 27 ≤ t) → m_ri T' (m + 2) t = m_ri T (m + 2) t) → m_ri T' (m + 23) = m_ri T (m + 23) → m_ri T' (m + 24) = m_ri T (m + 24) →
    (∀ w, w < 27 → m_ri T' (m + 2) (245 + (27 * (n - 1) + w)) = (if w < j then nI (ck w) else m_ri T (m + 2) (245 + (27 * (n - 1) + w))) ∧ m_ri T' (m + 2) (569 + (27 * (n - 1) + w)) = (if w < j then cv w else m_ri T (m + 2) (569 + (27 * (n - 1) + w)))) →
    ∃ T'', b_X12_callsFun_133 m fu T' (nI g) (nI j) = some T'' ∧ r_O m T T'' ∧ (∀ t, (t < 245 + 27 * (n - 1) ∨ 245 + 27 * (n - 1) + 27 ≤ t) → (t < 569 + 27 * (n - 1) ∨ 569 + 27 * (n - 1) + 27 ≤ t) → m_ri T'' (m + 2) t = m_ri T (m + 2) t) ∧
      (∀ w, w < 27 → m_ri T'' (m + 2) (245 + (27 * (n - 1) + w)) = (if w < p_pa P g then nI (ck w) else m_ri T (m + 2) (245 + (27 * (n - 1) + w))) ∧ m_ri T'' (m + 2) (569 + (27 * (n - 1) + w)) = (if w < p_pa P g then cv w else m_ri T (m + 2) (569 + (27 * (n - 1) + w)))) := by
  have hp3 := C.1.2.2.1 g hg
  have hf5 := C.1.1
  intro d
  induction d with
  | zero =>
    intro j fu T' hj hf hO h1 h2 h3 h4
    obtain ⟨fu, rfl⟩ : ∃ f, fu = f + 1 := ⟨fu - 1, by omega⟩
    have hj : j = p_pa P g := hj
    subst hj
    have hpa := ((C.kept hO).2.1.2.2.1 g hg).1
    refine ⟨T', ?_, hO, h1, h4⟩
    simp (disch := omega) only [e_let, e_call, e_cal0, e_bind, e_lit, e_ofN, e_neg, nI_add, pk_mul, e_sub, e_ldi, e_sti, e_ldj, e_stj, e_le_t, e_le_f, e_lt_t, e_lt_f, e_eq_t, e_eq_f, e_no_eq, e_no_eq', e_no_rfl, e_no_lt, e_no_le, e_le_no, e_lt_no, if_true, if_false, ↓reduceIte, e_rs, e_rq, e_rn, e_ji, e_ki, e_ij, e_kj, e_js, e_jq, e_jn, e_cs, e_cq, e_jc, e_kc, e_js', e_jcq, e_icj, e_kcj, or_true, true_or, or_false, false_or, and_true, true_and, not_true_eq_false, not_false_eq_true, b_X12_callsFun_133, hpa]
  | succ d ih =>
    intro j fu T' hj hf hO h1 h2 h3 h4
    obtain ⟨fu, rfl⟩ : ∃ f, fu = f + 1 := ⟨fu - 1, by omega⟩
    have hpa := ((C.kept hO).2.1.2.2.1 g hg).1
    have h212' : m_ri T' (m + 2) 212 = nI n := by rw [h1 212 (by omega) (by omega)]; exact h212
    have k1 := hk j (by omega)
    have v1 := hv j (by omega)
    rw [← h2] at k1
    rw [← h3] at v1
    obtain ⟨T'', g1, g2, g3, g4⟩ := ih (j + 1) fu (m_si (m_si T' (m + 2) (245 + (27 * (n - 1) + j)) (nI (ck j))) (m + 2) (569 + (27 * (n - 1) + j)) (cv j)) (by omega) (by omega) ((hO.now (by omega) (by omega)).now (by omega) (by omega)) (fun t a1 a2 => by rw [e_rn (by omega), e_rn (by omega)]; exact h1 t a1 a2) (by rw [e_rq (by omega), e_rq (by omega)]; exact h2) (by rw [e_rq (by omega), e_rq (by omega)]; exact h3) (fun w hw => by
      by_cases hwv : w = j
      · subst hwv; rw [e_rn (by omega), e_rs, e_rs, if_pos (by omega), if_pos (by omega)]; exact ⟨rfl, rfl⟩
      · rw [e_rn (by omega), e_rn (by omega), e_rn (by omega), e_rn (by omega)]
        have := h4 w hw
        by_cases hwj : w < j
        · rw [if_pos hwj, if_pos hwj] at this; rw [if_pos (by omega), if_pos (by omega)]; exact this
        · rw [if_neg hwj, if_neg hwj] at this; rw [if_neg (by omega), if_neg (by omega)]; exact this)
    refine ⟨T'', ?_, g2, g3, g4⟩
    rw [← g1]
    simp (disch := omega) only [e_let, e_call, e_cal0, e_bind, e_lit, e_ofN, e_neg, nI_add, pk_mul, e_sub, e_ldi, e_sti, e_ldj, e_stj, e_le_t, e_le_f, e_lt_t, e_lt_f, e_eq_t, e_eq_f, e_no_eq, e_no_eq', e_no_rfl, e_no_lt, e_no_le, e_le_no, e_lt_no, if_true, if_false, ↓reduceIte, e_rs, e_rq, e_rn, e_ji, e_ki, e_ij, e_kj, e_js, e_jq, e_jn, e_cs, e_cq, e_jc, e_kc, e_js', e_jcq, e_icj, e_kcj, or_true, true_or, or_false, false_or, and_true, true_and, not_true_eq_false, not_false_eq_true, b_X12_callsFun_133, hpa, h212', k1, v1, f_X12_setVar, f_X12_slot]
/-- push and put together -/
theorem j_125 {k g : Nat} {ck : Nat → Nat} {cv : Nat → Int32} (C : r_C T m P D z) (hg : g < p_fu P) (hk12 : k < 12) (h212 : m_ri T (m + 2) 212 = nI k) (hk : ∀ j, j < p_pa P g → m_ri T (m + 23) j = nI (ck j)) (hv : ∀ j, j < p_pa P g → m_ri T (m + 24) j = cv j) :
    ∃ T', b_X12_callsFun_125 m T (nI g) = some T' ∧ r_row (m_ri T (m + 2)) k (m_ri T' (m + 2)) ∧ m_ri T' (m + 2) 212 = nI (k + 1) ∧ m_ri T' (m + 2) (221 + k) = nI g ∧ m_ri T' (m + 2) (233 + k) = nI 0 ∧ (∀ w, w < 27 → m_ri T' (m + 2) (245 + (27 * k + w)) = nI (if w < p_pa P g then ck w else 0) ∧ m_ri T' (m + 2) (569 + (27 * k + w)) = if w < p_pa P g then cv w else nI 0) ∧ r_O m T T' := by
  have hfu := m_fu_ge
  obtain ⟨T1, g1, g2, g3, g4, g5, g6, g7, g8⟩ := j_push (T := T) (m := m) (g := g) hk12 h212
  have hp3 := C.1.2.2.1 g hg
  obtain ⟨T2, f1, f2, f3, f4⟩ := j_put (T := T1) (g := g) (n := k + 1) (ck := ck) (cv := cv) (C.kept g7) hg (by omega) (by omega) g3 (fun j hj => by rw [g8 _ (by omega)]; exact hk j hj) (fun j hj => by rw [g8 _ (by omega)]; exact hv j hj) (p_pa P g) 0 m_fu T1 (by omega) (by omega) r_O.rf (fun _ _ _ => rfl) rfl rfl (fun w hw => by rw [if_neg (by omega), if_neg (by omega)]; exact ⟨rfl, rfl⟩)
  rw [show k + 1 - 1 = k by omega] at f3 f4
  refine ⟨T2, ?_, fun t h1 h2 h3 h4 h5 => by rw [f3 t h3 h4]; exact g2 t h1 h2 h3 h4 h5, by rw [f3 _ (by omega) (by omega)]; exact g3, by rw [f3 _ (by omega) (by omega)]; exact g4, by rw [f3 _ (by omega) (by omega)]; exact g5, fun w hw => ?_, g7.tr f2⟩
  · simp (disch := omega) only [e_let, e_call, e_cal0, e_bind, e_lit, e_ofN, e_neg, nI_add, pk_mul, e_sub, e_ldi, e_sti, e_ldj, e_stj, e_le_t, e_le_f, e_lt_t, e_lt_f, e_eq_t, e_eq_f, e_no_eq, e_no_eq', e_no_rfl, e_no_lt, e_no_le, e_le_no, e_lt_no, if_true, if_false, ↓reduceIte, e_rs, e_rq, e_rn, e_ji, e_ki, e_ij, e_kj, e_js, e_jq, e_jn, e_cs, e_cq, e_jc, e_kc, e_js', e_jcq, e_icj, e_kcj, or_true, true_or, or_false, false_or, and_true, true_and, not_true_eq_false, not_false_eq_true, b_X12_callsFun_125, g1]
    exact f1
  · have h := f4 w hw
    have h0 := g6 w hw
    by_cases hwp : w < p_pa P g
    · rw [if_pos hwp, if_pos hwp] at h ⊢; exact h
    · rw [if_neg hwp, if_neg hwp] at h ⊢; rw [h.1, h.2]; exact h0
/-- what is handed on is kept aside -/
theorem j_aside (C : r_C T m P D z) (hM : r_R (m_ri T (m + 2)) M) (H : q_top P M f i) (ho : p_op P (p_fi P f + i) = 8 ∨ p_op P (p_fi P f + i) = 9) {x : Int32} {y : Nat} (hy : y = if p_op P (p_fi P f + i) = 8 then 0 else 1) : ∀ (d j fu : Nat) (T' : m_M), j + d = p_pa P (p_ca P (p_fi P f + i)) → d < fu → r_O m T T' → m_ri T' (m + 2) = m_ri T (m + 2) → (∀ w, w < j → m_ri T' (m + 23) w = nI (q_kk P M (p_fi P f + i) w) ∧ m_ri T' (m + 24) w = q_vv P M (p_fi P f + i) w) →
    ∃ T'', r_O m T T'' ∧ m_ri T'' (m + 2) = m_ri T (m + 2) ∧ (∀ w, w < p_pa P (p_ca P (p_fi P f + i)) → m_ri T'' (m + 23) w = nI (q_kk P M (p_fi P f + i) w) ∧ m_ri T'' (m + 24) w = q_vv P M (p_fi P f + i) w) ∧
      b_X12_callsFun_40 m fu T' (nI (q_sc M 2 - 1)) (nI (p_ca P (p_fi P f + i))) (nI y) (nI j) = b_X12_callsFun_40 m (fu - d) T'' (nI (q_sc M 2 - 1)) (nI (p_ca P (p_fi P f + i))) (nI y) (nI (p_pa P (p_ca P (p_fi P f + i)))) := by
  have hca := (C.1.2.2.2.2 f i H.2.2.2.2.1 H.2.2.2.2.2.1).2.2.1 (by omega)
  have hp3 := C.1.2.2.1 _ hca
  have hf5 := C.1.1
  intro d
  induction d with
  | zero =>
    intro j fu T' hj hf hO h1 h2
    have hj : j = _ := hj
    subst hj
    exact ⟨T', hO, h1, h2, rfl⟩
  | succ d ih =>
    intro j fu T' hj hf hO h1 h2
    obtain ⟨fu, rfl⟩ : ∃ f, fu = f + 1 := ⟨fu - 1, by omega⟩
    rw [show fu + 1 - (d + 1) = fu - d by omega]
    have C' := C.kept hO
    have hpa := (C'.2.1.2.2.1 _ hca).1
    have hyj : y + j = q_ar P (p_fi P f + i) j := by simp only [q_ar]; rw [hy]; split <;> omega
    have us := (p_sl_ar (P := P) (l := p_fi P f + i) (v := j) ho (by omega)).2
    have har : q_ar P (p_fi P f + i) j < 5 := by rw [← hyj, hy]; split <;> omega
    have hk := j_kindAt (k := q_ar P (p_fi P f + i) j) C' (by rw [h1]; exact hM) H har us
    have hO1 : r_O m T (m_si T' (m + 23) j (nI (q_kk P M (p_fi P f + i) j))) := hO.arg (Or.inl rfl)
    have hv := j_valueAt (T := m_si T' (m + 23) j (nI (q_kk P M (p_fi P f + i) j))) (k := q_ar P (p_fi P f + i) j) (C.kept hO1) (by rw [e_rq (by omega), h1]; exact hM) H har us
    have ek : q_K P M (p_fi P f + i) (q_ar P (p_fi P f + i) j) = q_kk P M (p_fi P f + i) j := by simp only [q_kk]; rw [if_pos (by omega)]
    have ev : q_V P M (p_fi P f + i) (q_ar P (p_fi P f + i) j) = q_vv P M (p_fi P f + i) j := by simp only [q_vv]; rw [if_pos (by omega)]
    rw [ek] at hk
    rw [ev] at hv
    obtain ⟨T'', g1, g2, g3, g4⟩ := ih (j + 1) fu (m_si (m_si T' (m + 23) j (nI (q_kk P M (p_fi P f + i) j))) (m + 24) j (q_vv P M (p_fi P f + i) j)) (by omega) (by omega) (hO1.arg (Or.inr rfl)) (by rw [e_rq (by omega), e_rq (by omega)]; exact h1) (fun w hw => by
      by_cases hwj : w = j
      · subst hwj; rw [e_rq (by omega), e_rs, e_rs]; exact ⟨rfl, rfl⟩
      · rw [e_rq (by omega), e_rn hwj, e_rn hwj, e_rq (by omega)]; exact h2 w (by omega))
    refine ⟨T'', g1, g2, g3, ?_⟩
    rw [← g4]
    simp (disch := omega) only [e_let, e_call, e_cal0, e_bind, e_lit, e_ofN, e_neg, nI_add, pk_mul, e_sub, e_ldi, e_sti, e_ldj, e_stj, e_le_t, e_le_f, e_lt_t, e_lt_f, e_eq_t, e_eq_f, e_no_eq, e_no_eq', e_no_rfl, e_no_lt, e_no_le, e_le_no, e_lt_no, if_true, if_false, ↓reduceIte, e_rs, e_rq, e_rn, e_ji, e_ki, e_ij, e_kj, e_js, e_jq, e_jn, e_cs, e_cq, e_jc, e_kc, e_js', e_jcq, e_icj, e_kcj, or_true, true_or, or_false, false_or, and_true, true_and, not_true_eq_false, not_false_eq_true, b_X12_callsFun_40, hpa, hyj, hk, hv]
theorem j_callsFun (C : r_C T m P D z) (hM : r_R (m_ri T (m + 2)) M) (H : q_top P M f i) (ho : p_op P (p_fi P f + i) = 8 ∨ p_op P (p_fi P f + i) = 9) (hlim : q_lv P D f i = false → q_sc M 2 < 12) (h8 : q_sc M 8 ≤ 5001) : ∃ T', f_X12_callsFun m T (nI (q_sc M 2 - 1)) = some T' ∧ r_R (m_ri T' (m + 2)) (q_call P D M f i) ∧ r_O m T T' := by
  have hfu := m_fu_ge
  have hline := j_lineOf C hM H
  have H' := H
  obtain ⟨t1, t2, t3, t4, t5, t6, t7⟩ := H
  have hl := C.1.line t5 t6
  have hop := (C.1.2.2.2.2 f i t5 t6).1
  have hca := (C.1.2.2.2.2 f i t5 t6).2.2.1 (by omega)
  have hp3 := C.1.2.2.1 _ hca
  have h42 := (C.2.1.2.2.2 f i t5 t6).2.1 (by omega)
  have h18 := (C.2.1.2.2.2 f i t5 t6).1
  have hf5 := C.1.1
  obtain ⟨T1, g1, g2, g3, g4⟩ := j_aside C hM H' ho (x := 0) rfl (p_pa P (p_ca P (p_fi P f + i))) 0 m_fu T (by omega) (by omega) r_O.rf rfl (fun w hw => by omega)
  obtain ⟨u, hu⟩ : ∃ u, m_fu - p_pa P (p_ca P (p_fi P f + i)) = u + 1 := ⟨m_fu - p_pa P (p_ca P (p_fi P f + i)) - 1, by omega⟩
  rw [hu] at g4
  have hgo : f_X12_callsFun m T (nI (q_sc M 2 - 1)) = b_X12_callsFun_40 m (u + 1) T1 (nI (q_sc M 2 - 1)) (nI (p_ca P (p_fi P f + i))) (nI (if p_op P (p_fi P f + i) = 8 then 0 else 1)) (nI (p_pa P (p_ca P (p_fi P f + i)))) := by
    rw [← g4]
    rcases ho with h | h
    · rw [h] at h18; rw [if_pos h]; simp (disch := omega) only [e_let, e_call, e_cal0, e_bind, e_lit, e_ofN, e_neg, nI_add, pk_mul, e_sub, e_ldi, e_sti, e_ldj, e_stj, e_le_t, e_le_f, e_lt_t, e_lt_f, e_eq_t, e_eq_f, e_no_eq, e_no_eq', e_no_rfl, e_no_lt, e_no_le, e_le_no, e_lt_no, if_true, if_false, ↓reduceIte, e_rs, e_rq, e_rn, e_ji, e_ki, e_ij, e_kj, e_js, e_jq, e_jn, e_cs, e_cq, e_jc, e_kc, e_js', e_jcq, e_icj, e_kcj, or_true, true_or, or_false, false_or, and_true, true_and, not_true_eq_false, not_false_eq_true, f_X12_callsFun, hline, h42, h18, b_X12_callsFun_35]
    · rw [h] at h18; rw [if_neg (by omega)]; simp (disch := omega) only [e_let, e_call, e_cal0, e_bind, e_lit, e_ofN, e_neg, nI_add, pk_mul, e_sub, e_ldi, e_sti, e_ldj, e_stj, e_le_t, e_le_f, e_lt_t, e_lt_f, e_eq_t, e_eq_f, e_no_eq, e_no_eq', e_no_rfl, e_no_lt, e_no_le, e_le_no, e_lt_no, if_true, if_false, ↓reduceIte, e_rs, e_rq, e_rn, e_ji, e_ki, e_ij, e_kj, e_js, e_jq, e_jn, e_cs, e_cq, e_jc, e_kc, e_js', e_jcq, e_icj, e_kcj, or_true, true_or, or_false, false_or, and_true, true_and, not_true_eq_false, not_false_eq_true, f_X12_callsFun, hline, h42, h18, b_X12_callsFun_35]
  have C1 := C.kept g1
  have hM1 : r_R (m_ri T1 (m + 2)) M := by rw [g2]; exact hM
  have hpa := (C1.2.1.2.2.1 _ hca).1
  have hga := j_goesAhead C1 hM1 H' (by omega)
  have s2 := hM1.2.2.1
  have s8 := hM1.2.2.2.2.2.2.2.2.1
  have kkz : ∀ w, (if w < p_pa P (p_ca P (p_fi P f + i)) then q_kk P M (p_fi P f + i) w else 0) = q_kk P M (p_fi P f + i) w := by
    intro v; split
    · rfl
    · rename_i h; simp only [q_kk]; rw [if_neg h]
  have vvz : ∀ w, (if w < p_pa P (p_ca P (p_fi P f + i)) then q_vv P M (p_fi P f + i) w else nI 0) = q_vv P M (p_fi P f + i) w := by
    intro v; split
    · rfl
    · rename_i h; simp only [q_vv]; rw [if_neg h]
  by_cases hq : q_lv P D f i = true
  · rw [if_pos hq] at hga
    have hO2 : r_O m T (m_si (m_si T1 (m + 2) 212 (nI (q_sc M 2 - 1))) (m + 2) 218 (nI (q_sc M 8 + 1))) := (g1.now (by omega) (by omega)).now (by omega) (by omega)
    obtain ⟨T2, f1, f2, f3, f4, f5, f6, f7⟩ := j_125 (T := m_si (m_si T1 (m + 2) 212 (nI (q_sc M 2 - 1))) (m + 2) 218 (nI (q_sc M 8 + 1))) (k := q_sc M 2 - 1) (g := p_ca P (p_fi P f + i)) (ck := q_kk P M (p_fi P f + i)) (cv := q_vv P M (p_fi P f + i)) (C.kept hO2) hca (by omega) (by rw [e_rn (by omega), e_rs]) (fun j hj => by rw [e_rq (by omega), e_rq (by omega)]; exact (g3 j hj).1) (fun j hj => by rw [e_rq (by omega), e_rq (by omega)]; exact (g3 j hj).2)
    simp only [kkz, vvz] at f6
    refine ⟨T2, ?_, ?_, hO2.tr f7⟩
    · rw [hgo]
      simp (disch := omega) only [e_let, e_call, e_cal0, e_bind, e_lit, e_ofN, e_neg, nI_add, pk_mul, e_sub, e_ldi, e_sti, e_ldj, e_stj, e_le_t, e_le_f, e_lt_t, e_lt_f, e_eq_t, e_eq_f, e_no_eq, e_no_eq', e_no_rfl, e_no_lt, e_no_le, e_le_no, e_lt_no, if_true, if_false, ↓reduceIte, e_rs, e_rq, e_rn, e_ji, e_ki, e_ij, e_kj, e_js, e_jq, e_jn, e_cs, e_cq, e_jc, e_kc, e_js', e_jcq, e_icj, e_kcj, or_true, true_or, or_false, false_or, and_true, true_and, not_true_eq_false, not_false_eq_true, b_X12_callsFun_40, hpa, hga, s2, s8]
      exact f1
    · have hR := r_R.push (N' := va_up (m_ri T2 (m + 2)) 218 (m_ri T1 (m + 2) 218)) (kk := q_sc M 2 - 1) (n := q_sc M 2) (g := p_ca P (p_fi P f + i)) (ck := q_kk P M (p_fi P f + i)) (cv := q_vv P M (p_fi P f + i)) hM1 (Or.inl (Nat.le_refl _)) (by omega) (fun t a1 a2 a3 a4 a5 => by
          by_cases ht : t = 218
          · rw [ht, e_up]
          · rw [e_un ht, f2 t a1 a2 a3 a4 a5, e_rn ht, e_rn a5]) (by rw [e_un (by omega), f3]; exact congrArg nI (by omega)) (by rw [e_un (by omega)]; exact f4) (by rw [e_un (by omega)]; exact f5) (fun v hv => by rw [e_un (by omega)]; exact (f6 v hv).1) (fun v hv => by rw [e_un (by omega)]; exact (f6 v hv).2)
      rw [q_call, if_pos hq]
      refine (hR.lost.left (v := q_sc M 8 + 1)).cong (fun t _ _ => ?_)
      by_cases ht : t = 218
      · rw [ht, e_up, f2 218 (by omega) (by omega) (by omega) (by omega) (by omega), e_rs]
      · rw [e_un ht, e_un ht]
  · have hq' : q_lv P D f i = false := Bool.eq_false_iff.mpr hq
    have h12 := hlim hq'
    rw [if_neg hq] at hga
    obtain ⟨T2, f1, f2, f3, f4, f5, f6, f7⟩ := j_125 (T := T1) (k := q_sc M 2) (g := p_ca P (p_fi P f + i)) (ck := q_kk P M (p_fi P f + i)) (cv := q_vv P M (p_fi P f + i)) C1 hca (by omega) s2 (fun j hj => (g3 j hj).1) (fun j hj => (g3 j hj).2)
    simp only [kkz, vvz] at f6
    refine ⟨T2, ?_, ?_, g1.tr f7⟩
    · rw [hgo]
      simp (disch := omega) only [e_let, e_call, e_cal0, e_bind, e_lit, e_ofN, e_neg, nI_add, pk_mul, e_sub, e_ldi, e_sti, e_ldj, e_stj, e_le_t, e_le_f, e_lt_t, e_lt_f, e_eq_t, e_eq_f, e_no_eq, e_no_eq', e_no_rfl, e_no_lt, e_no_le, e_le_no, e_lt_no, if_true, if_false, ↓reduceIte, e_rs, e_rq, e_rn, e_ji, e_ki, e_ij, e_kj, e_js, e_jq, e_jn, e_cs, e_cq, e_jc, e_kc, e_js', e_jcq, e_icj, e_kcj, or_true, true_or, or_false, false_or, and_true, true_and, not_true_eq_false, not_false_eq_true, b_X12_callsFun_40, hpa, hga]
      exact f1
    · rw [q_call, if_neg hq]
      exact hM1.push (Or.inr ⟨rfl, rfl⟩) h12 f2 f3 f4 f5 (fun v hv => (f6 v hv).1) (fun v hv => (f6 v hv).2)
end RS
