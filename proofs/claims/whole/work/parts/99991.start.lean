/-! the other side: what was read becomes the program -/
section JS
variable {T T' : m_M} {m : Nat} {P : pP} {n w : Nat → Int64}
theorem r_P.cong2 {N N' : Nat → Int32} {P : pP} (h : r_P N P) (hW : p_W P) (w : ∀ t, t < 210 → t ≠ 2 → N' t = N t) : r_P N' P := by
  obtain ⟨h1, h2, h3, h4⟩ := h
  obtain ⟨w1, w2, w3, w4, w5⟩ := hW
  refine ⟨by rw [w 0 (by omega) (by omega)]; exact h1, by rw [w 1 (by omega) (by omega)]; exact h2, fun f hf => ?_, fun f i hf hi => ?_⟩
  · rw [w _ (by omega) (by omega), w _ (by omega) (by omega), w _ (by omega) (by omega)]; exact h3 f hf
  · have := w3 f hf
    obtain ⟨g1, g2, g3, g4⟩ := h4 f i hf hi
    refine ⟨by rw [w _ (by omega) (by omega)]; exact g1, fun h => by rw [w _ (by omega) (by omega)]; exact g2 h, fun h => by rw [w _ (by omega) (by omega)]; exact g3 h, fun k hk => ?_⟩
    rw [w _ (by omega) (by omega)]; exact g4 k hk
theorem j_105 {l : Int32} : ∀ (c k fu : Nat) (T : m_M), k + c = 210 → c < fu →
    ∃ T', b_X12_program_105 m fu T l (nI k) = b_X12_program_132 m m_fu T' l (nI 0) ∧ (∀ t, k ≤ t → t < 210 → m_ri T' (m + 2) t = m_ri T (m + 3) t) ∧ (∀ t, t < k ∨ 210 ≤ t → m_ri T' (m + 2) t = m_ri T (m + 2) t) ∧ e_O (m + 2) (m + 3) T T' := by
  intro c
  induction c with
  | zero =>
    intro k fu T hk hf
    obtain ⟨fu, rfl⟩ : ∃ f, fu = f + 1 := ⟨fu - 1, by omega⟩
    obtain rfl : k = 210 := by omega
    refine ⟨T, ?_, fun t h1 h2 => by omega, fun _ _ => rfl, e_O.rf⟩
    rw [b_X12_program_105, if_pos (show (210 : Int32) ≤ nI 210 by decide)]
    rfl
  | succ c ih =>
    intro k fu T hk hf
    obtain ⟨fu, rfl⟩ : ∃ f, fu = f + 1 := ⟨fu - 1, by omega⟩
    obtain ⟨T', a1, a2, a3, a4⟩ := ih (k + 1) fu (m_si T (m + 2) k (m_ri T (m + 3) k)) (by omega) (by omega)
    refine ⟨T', ?_, fun t h1 h2 => ?_, fun t h => ?_, (e_O.rf.si (by omega) (by omega)).tr a4⟩
    · rw [← a1, b_X12_program_105, if_neg (by rw [show (210 : Int32) = nI 210 from rfl, e_le (by omega) (by omega)]; omega), e_ldi (by omega) (by omega), e_bind, e_sti (by omega) (by omega), e_bind, e_let, show (1 : Int32) = nI 1 from rfl, nI_add]
    · by_cases e : t = k
      · rw [a3 t (by omega), e, e_rs]
      · rw [a2 t (by omega) h2, e_rq (by omega)]
    · rw [a3 t (by omega), e_rn (by omega)]
theorem j_132 {l : Int32} : ∀ (c k fu : Nat) (T : m_M), k + c = 5 → c < fu →
    ∃ T', b_X12_program_132 m fu T l (nI k) = (m_cal0 (f_X12_startSo m T') fun S2 => m_let (m_si S2 m 24 (0 : Int32)) fun S3 => some (l, S3)) ∧ (∀ t, k ≤ t → t < 5 → m_rj T' (m + 7) t = m_rj T (m + 8) t) ∧ (∀ t, t < k → m_rj T' (m + 7) t = m_rj T (m + 7) t) ∧ m_ri T' = m_ri T ∧ m_rr T' = m_rr T ∧ ∀ q, q ≠ m + 7 → m_rj T' q = m_rj T q := by
  intro c
  induction c with
  | zero =>
    intro k fu T hk hf
    obtain ⟨fu, rfl⟩ : ∃ f, fu = f + 1 := ⟨fu - 1, by omega⟩
    obtain rfl : k = 5 := by omega
    refine ⟨T, ?_, fun t h1 h2 => by omega, fun _ _ => rfl, rfl, rfl, fun _ _ => rfl⟩
    rw [b_X12_program_132, if_pos (show (5 : Int32) ≤ nI 5 by decide)]
  | succ c ih =>
    intro k fu T hk hf
    obtain ⟨fu, rfl⟩ : ∃ f, fu = f + 1 := ⟨fu - 1, by omega⟩
    obtain ⟨T', a1, a2, a3, a4, a5, a6⟩ := ih (k + 1) fu (m_sj T (m + 7) k (m_rj T (m + 8) k)) (by omega) (by omega)
    refine ⟨T', ?_, fun t h1 h2 => ?_, fun t h => ?_, a4, a5, fun q hq => by rw [a6 q hq, e_jq hq]⟩
    · rw [← a1, b_X12_program_132, if_neg (by rw [show (5 : Int32) = nI 5 from rfl, e_le (by omega) (by omega)]; omega), e_ldj (by omega) (by omega), e_bind, e_stj (by omega) (by omega), e_bind, e_let, show (1 : Int32) = nI 1 from rfl, nI_add]
    · by_cases e : t = k
      · rw [a3 t (by omega), e, e_js]
      · rw [a2 t (by omega) h2, e_jq (by omega)]
    · rw [a3 t (by omega), e_jn (by omega)]
theorem j_so4 : ∀ (c k fu : Nat) (T : m_M), k + c = 2647 → c < fu →
    ∃ T', b_X12_startSo_4 m fu T (nI k) = b_X12_startSo_26 m m_fu T' (nI 0) ∧ (∀ t, k ≤ t → t < 2647 → m_ri T' (m + 2) t = nI 0) ∧ (∀ t, t < k → m_ri T' (m + 2) t = m_ri T (m + 2) t) ∧ e_O (m + 2) (m + 3) T T' := by
  intro c
  induction c with
  | zero =>
    intro k fu T hk hf
    obtain ⟨fu, rfl⟩ : ∃ f, fu = f + 1 := ⟨fu - 1, by omega⟩
    obtain rfl : k = 2647 := by omega
    refine ⟨T, ?_, fun t h1 h2 => by omega, fun _ _ => rfl, e_O.rf⟩
    rw [b_X12_startSo_4, if_pos (show (2647 : Int32) ≤ nI 2647 by decide)]
    rfl
  | succ c ih =>
    intro k fu T hk hf
    obtain ⟨fu, rfl⟩ : ∃ f, fu = f + 1 := ⟨fu - 1, by omega⟩
    obtain ⟨T', a1, a2, a3, a4⟩ := ih (k + 1) fu (m_si T (m + 2) k (nI 0)) (by omega) (by omega)
    refine ⟨T', ?_, fun t h1 h2 => ?_, fun t h => ?_, (e_O.rf.si (by omega) (by omega)).tr a4⟩
    · rw [← a1, b_X12_startSo_4, if_neg (by rw [show (2647 : Int32) = nI 2647 from rfl, e_le (by omega) (by omega)]; omega), e_sti (by omega) (by omega), e_bind, e_let, show (1 : Int32) = nI 1 from rfl, nI_add]
      rfl
    · by_cases e : t = k
      · rw [a3 t (by omega), e, e_rs]
      · exact a2 t (by omega) h2
    · rw [a3 t (by omega), e_rn (by omega)]
theorem j_so26 : ∀ (c k fu : Nat) (T : m_M), k + c = 200 → c < fu →
    ∃ T', b_X12_startSo_26 m fu T (nI k) = (m_cal0 (f_X12_layRegions m T') fun S2 => some S2) ∧ (∀ t, k ≤ t → t < 200 → m_ri T' (m + 2) (893 + t) = m_no) ∧ (∀ t, t < 893 + k ∨ 1093 ≤ t → m_ri T' (m + 2) t = m_ri T (m + 2) t) ∧ e_O (m + 2) (m + 3) T T' := by
  intro c
  induction c with
  | zero =>
    intro k fu T hk hf
    obtain ⟨fu, rfl⟩ : ∃ f, fu = f + 1 := ⟨fu - 1, by omega⟩
    obtain rfl : k = 200 := by omega
    refine ⟨T, ?_, fun t h1 h2 => by omega, fun _ _ => rfl, e_O.rf⟩
    rw [b_X12_startSo_26, if_pos (show (200 : Int32) ≤ nI 200 by decide)]
  | succ c ih =>
    intro k fu T hk hf
    obtain ⟨fu, rfl⟩ : ∃ f, fu = f + 1 := ⟨fu - 1, by omega⟩
    obtain ⟨T', a1, a2, a3, a4⟩ := ih (k + 1) fu (m_si T (m + 2) (893 + k) m_no) (by omega) (by omega)
    refine ⟨T', ?_, fun t h1 h2 => ?_, fun t h => ?_, (e_O.rf.si (by omega) (by omega)).tr a4⟩
    · rw [← a1, b_X12_startSo_26, if_neg (by rw [show (200 : Int32) = nI 200 from rfl, e_le (by omega) (by omega)]; omega), show (893 : Int32) = nI 893 from rfl, nI_add, e_sti (by omega) (by omega), e_bind, e_let, show (1 : Int32) = nI 1 from rfl, nI_add]
      rfl
    · by_cases e : t = k
      · rw [a3 _ (by omega), e, e_rs]
      · exact a2 t (by omega) h2
    · rw [a3 t (by omega), e_rn (by omega)]
/-- what a start may write -/
def r_OS (m : Nat) (T T' : m_M) : Prop := (∀ q, q ≠ m → q ≠ m + 2 → (q < m + 12 ∨ m + 23 ≤ q) → m_ri T' q = m_ri T q) ∧ (∀ j, j ≠ 36 → m_ri T' m j = m_ri T m j) ∧ m_rj T' = m_rj T ∧ m_rr T' = m_rr T
theorem j_start (hW : p_W P) (hP : r_P (m_ri T (m + 2)) P) : ∃ T', f_X12_startSo m T = some T' ∧ d_TX T' m P ∧ r_P (m_ri T' (m + 2)) P ∧ r_R (m_ri T' (m + 2)) q_emp ∧ (∀ t, 2405 ≤ t → t < 2647 → m_ri T' (m + 2) t = nI 0) ∧ r_OS m T T' := by
  have hfu := m_fu_ge
  obtain ⟨T1, a1, a2, a3, a4⟩ := j_so4 (m := m) 2437 210 m_fu T rfl (by omega)
  obtain ⟨T2, b1, b2, b3, b4⟩ := j_so26 (m := m) 200 0 m_fu T1 rfl (by omega)
  have hP2 : r_P (m_ri T2 (m + 2)) P := hP.cong2 hW (fun t ht _ => by rw [b3 t (by omega), a3 t (by omega)])
  obtain ⟨T3, c1, c2, c3⟩ := j_layRegions hW hP2
  have o := a4.tr b4
  refine ⟨T3, ?_, c2, hP2.cong2 hW (fun t _ ht => c3.2.2.1 t ht), ?_, fun t h1 h2 => ?_, fun q h1 h2 h3 => ?_, fun j hj => ?_, by rw [c3.2.2.2.1]; exact o.2.1, by rw [c3.2.2.2.2]; exact o.2.2⟩
  · rw [f_X12_startSo, show (210 : Int32) = nI 210 from rfl, a1, b1, c1]
    rfl
  · exact r_emp (fun t h1 h2 h3 => by rw [c3.2.2.1 t (by omega), b3 t (by omega), a2 t h1 (by omega)]) (fun c hc => by rw [c3.2.2.1 _ (by omega)]; exact b2 c (by omega) hc)
  · rw [c3.2.2.1 t (by omega), b3 t (by omega), a2 t (by omega) h2]
  · rw [c3.1 q h1 h2 h3, o.1 q (by omega)]
  · rw [c3.2.1 j hj, o.1 m (by omega)]
/-- what was read is the program now -/
theorem j_prog {l : Int32} (hW : p_W P) (hT : v_QT T m P n w) : ∃ T', b_X12_program_105 m m_fu T l (nI 0) = some (l, T') ∧ d_TX T' m P ∧ r_P (m_ri T' (m + 2)) P ∧ r_R (m_ri T' (m + 2)) q_emp ∧ (∀ t, 2405 ≤ t → t < 2647 → m_ri T' (m + 2) t = nI 0) ∧ (∀ f, f < p_fu P → m_rj T' (m + 7) f = n f) ∧ m_ri T' m 24 = nI 0 ∧
    (∀ q, q ≠ m → q ≠ m + 2 → (q < m + 12 ∨ m + 23 ≤ q) → m_ri T' q = m_ri T q) ∧ (∀ j, j ≠ 36 → j ≠ 24 → m_ri T' m j = m_ri T m j) ∧ (∀ q, q ≠ m + 7 → m_rj T' q = m_rj T q) ∧ m_rr T' = m_rr T := by
  have hfu := m_fu_ge
  have h5 := hW.1
  obtain ⟨T1, a1, a2, a3, a4⟩ := j_105 (m := m) (l := l) 210 0 m_fu T rfl (by omega)
  obtain ⟨T2, b1, b2, b3, b4, b5, b6⟩ := j_132 (m := m) (l := l) 5 0 m_fu T1 rfl (by omega)
  have hP2 : r_P (m_ri T2 (m + 2)) P := hT.1.cong2 hW (fun t ht _ => by rw [b4, a2 t (by omega) ht])
  obtain ⟨T3, c1, c2, c3, c4, c5, c6⟩ := j_start hW hP2
  refine ⟨m_si T3 m 24 (nI 0), ?_, ?_, ?_, ?_, fun t h1 h2 => ?_, fun f hf => ?_, ?_, fun q h1 h2 h3 => ?_, fun j h1 h2 => ?_, fun q hq => ?_, ?_⟩
  · rw [a1, b1, c1]
    rfl
  · obtain ⟨⟨x1, x2⟩, x3, x4, x5⟩ := c2
    simp only [d_TX, d_T0, d_T1, d_TF, d_Sp]
    simp (disch := omega) only [e_let, e_call, e_cal0, e_bind, e_lit, e_ofN, e_neg, nI_add, pk_mul, e_sub, e_ldi, e_sti, e_ldj, e_stj, e_le_t, e_le_f, e_lt_t, e_lt_f, e_eq_t, e_eq_f, e_no_eq, e_no_eq', e_no_rfl, e_no_lt, e_no_le, e_le_no, e_lt_no, if_true, if_false, ↓reduceIte, e_rs, e_rq, e_rn, e_ji, e_ki, e_ij, e_kj, e_js, e_jq, e_jn, e_cs, e_cq, e_jc, e_kc, e_js', e_jcq, e_icj, e_kcj, or_true, true_or, or_false, false_or, and_true, true_and, not_true_eq_false, not_false_eq_true]
    exact ⟨⟨x1, x2⟩, x3, x4, x5⟩
  · rw [e_rq (by omega)]; exact c3
  · rw [e_rq (by omega)]; exact c4
  · rw [e_rq (by omega)]; exact c5 t h1 h2
  · rw [e_ji, c6.2.2.1, b2 f (by omega) (by omega), a4.2.1]; exact hT.2.2.1 f hf
  · rw [e_rs]
  · rw [e_rq h1, c6.1 q h1 h2 h3, b4, a4.1 q (by omega)]
  · rw [e_rn h2, c6.2.1 j h1, b4, a4.1 m (by omega)]
  · rw [e_ji, c6.2.2.1, b6 q hq, a4.2.1]
  · rw [e_ki, c6.2.2.2, b5, a4.2.2]
end JS
