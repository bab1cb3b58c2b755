/-! what calls are asked with: in its place or not -/
def e_bad (i : Int32) (n : Nat) : Prop := i < nI 0 ∨ (¬ i < nI 0 ∧ nI n ≤ i)
theorem e_arg (i : Int32) (n : Nat) (hn : n < 2147483648) : (∃ k, k < n ∧ i = nI k) ∨ e_bad i n := by
  by_cases h : i < nI 0
  · exact Or.inr (Or.inl h)
  · by_cases h2 : nI n ≤ i
    · exact Or.inr (Or.inr ⟨h, h2⟩)
    · refine Or.inl ⟨i.toInt.toNat, ?_, ?_⟩
      · rw [Int32.lt_iff_toInt_lt, nI_toInt (by omega)] at h
        rw [Int32.le_iff_toInt_le, nI_toInt (by omega)] at h2
        omega
      · rw [Int32.lt_iff_toInt_lt, nI_toInt (by omega)] at h
        rw [Int32.le_iff_toInt_le, nI_toInt (by omega)] at h2
        apply Int32.toInt_inj.mp
        rw [nI_toInt (by omega)]
        omega
theorem e_sw (i : Int32) (n : Nat) : (∃ k, k < n ∧ i = nI k) ∨ ∀ k, k < n → ¬ i = nI k := by
  by_cases h : ∃ k, k < n ∧ i = nI k
  · exact Or.inl h
  · exact Or.inr fun k hk e => h ⟨k, hk, e⟩
theorem e_pr {i : Int32} {n : Nat} (hn : n < 2147483648) (h : nI n ≤ i) : nI n - nI 1 < i := by
  rw [Int32.le_iff_toInt_le, nI_toInt (by omega)] at h
  rcases Nat.eq_zero_or_pos n with e | e
  · subst e
    rw [e_dec0, Int32.lt_iff_toInt_lt, m_no_toInt]; omega
  · rw [e_sub (by omega), Int32.lt_iff_toInt_lt, nI_toInt (by omega)]; omega
section AR
variable {S T : m_M} {x m a p k n f v r : Nat} {i j : Int32} {P : pP} {D : pD} {M : qM} {nm : Nat → Int64}
theorem j_isIn_t (hk : k < n) (hn : n < 2147483648) : f_X12_isIn T (nI k) (0 : Int32) (nI n - (1 : Int32)) = some (nI 1, T) := by
  simp (disch := omega) only [e_let, e_call, e_cal0, e_bind, e_lit, e_ofN, e_neg, nI_add, pk_mul, e_sub, e_ldi, e_sti, e_ldj, e_stj, e_le_t, e_le_f, e_lt_t, e_lt_f, e_eq_t, e_eq_f, e_no_eq, e_no_eq', e_no_rfl, e_no_lt, e_no_le, e_le_no, e_lt_no, if_true, if_false, ↓reduceIte, e_rs, e_rq, e_rn, e_ji, e_ki, e_ij, e_kj, e_js, e_jq, e_jn, e_cs, e_cq, e_jc, e_kc, e_js', e_jcq, e_icj, e_kcj, or_true, true_or, or_false, false_or, and_true, true_and, not_true_eq_false, not_false_eq_true, f_X12_isIn, b_X12_isIn_15]
theorem j_isIn_f (h : e_bad i n) (hn : n < 2147483648) : f_X12_isIn T i (0 : Int32) (nI n - (1 : Int32)) = some (nI 0, T) := by
  rcases h with h | ⟨h1, h2⟩
  · rw [f_X12_isIn, if_pos (show i < (0 : Int32) from h)]; rfl
  · rw [f_X12_isIn, if_neg (show ¬ i < (0 : Int32) from h1), if_pos (show nI n - (1 : Int32) < i from e_pr hn h2)]; rfl
theorem j_isFun_t (hP : r_P (m_ri T (m + 2)) P) (h5 : p_fu P ≤ 5) (hf : f < p_fu P) : f_X12_isFun m T (nI f) = some (nI 1, T) := by
  rw [f_X12_isFun, show (0 : Int32) = nI 0 from rfl, e_ldi (by omega) (by omega), e_bind, hP.1, show nI 0 = (0 : Int32) from rfl, j_isIn_t hf (by omega)]; rfl
theorem j_isFun_f (hP : r_P (m_ri T (m + 2)) P) (h5 : p_fu P ≤ 5) (hf : e_bad i (p_fu P)) : f_X12_isFun m T i = some (nI 0, T) := by
  rw [f_X12_isFun, show (0 : Int32) = nI 0 from rfl, e_ldi (by omega) (by omega), e_bind, hP.1, show nI 0 = (0 : Int32) from rfl, j_isIn_f hf (by omega)]; rfl
theorem j_isRegion_t (h2 : m_ri T (m + 2) 2 = nI n) (h5 : n ≤ 24) (hf : r < n) : f_X12_isRegion m T (nI r) = some (nI 1, T) := by
  rw [f_X12_isRegion, show (2 : Int32) = nI 2 from rfl, e_ldi (by omega) (by omega), e_bind, h2, j_isIn_t hf (by omega)]; rfl
theorem j_isRegion_f (h2 : m_ri T (m + 2) 2 = nI n) (h5 : n ≤ 24) (hf : e_bad i n) : f_X12_isRegion m T i = some (nI 0, T) := by
  rw [f_X12_isRegion, show (2 : Int32) = nI 2 from rfl, e_ldi (by omega) (by omega), e_bind, h2, j_isIn_f hf (by omega)]; rfl
theorem j_vars (hP : r_P (m_ri T (m + 2)) P) (h5 : p_fu P ≤ 5) (hf : f < p_fu P) : f_X12_varsOf m (m + 2) 2647 T (nI f) = some (nI (p_vs P f), T) := by
  obtain ⟨a1, _, a3⟩ := hP.2.2.1 f hf
  simp (disch := omega) only [e_let, e_call, e_cal0, e_bind, e_lit, e_ofN, e_neg, nI_add, pk_mul, e_sub, e_ldi, e_sti, e_ldj, e_stj, e_le_t, e_le_f, e_lt_t, e_lt_f, e_eq_t, e_eq_f, e_no_eq, e_no_eq', e_no_rfl, e_no_lt, e_no_le, e_le_no, e_lt_no, if_true, if_false, ↓reduceIte, e_rs, e_rq, e_rn, e_ji, e_ki, e_ij, e_kj, e_js, e_jq, e_jn, e_cs, e_cq, e_jc, e_kc, e_js', e_jcq, e_icj, e_kcj, or_true, true_or, or_false, false_or, and_true, true_and, not_true_eq_false, not_false_eq_true, f_X12_varsOf, a1, a3, p_vs]
theorem k_hasFun_t (h0 : m_ri S p 0 = nI n) (hn : n < 1000) (hf : f < n) : f_X3_hasFun p S (nI f) = some (nI 1, S) := by
  simp (disch := omega) only [e_let, e_call, e_cal0, e_bind, e_lit, e_ofN, e_neg, nI_add, pk_mul, e_sub, e_ldi, e_sti, e_ldj, e_stj, e_le_t, e_le_f, e_lt_t, e_lt_f, e_eq_t, e_eq_f, e_no_eq, e_no_eq', e_no_rfl, e_no_lt, e_no_le, e_le_no, e_lt_no, if_true, if_false, ↓reduceIte, e_rs, e_rq, e_rn, e_ji, e_ki, e_ij, e_kj, e_js, e_jq, e_jn, e_cs, e_cq, e_jc, e_kc, e_js', e_jcq, e_icj, e_kcj, or_true, true_or, or_false, false_or, and_true, true_and, not_true_eq_false, not_false_eq_true, f_X3_hasFun, b_X3_hasFun_17, h0]
theorem k_hasFun_f (h0 : m_ri S p 0 = nI n) (hn : n < 1000) (hf : e_bad i n) : f_X3_hasFun p S i = some (nI 0, S) := by
  rcases hf with h | ⟨h1, h2⟩
  · rw [f_X3_hasFun, if_pos (show i < (0 : Int32) from h)]; rfl
  · rw [f_X3_hasFun, if_neg (show ¬ i < (0 : Int32) from h1), h0, if_pos h2]; rfl
theorem k_has_t (h0 : m_ri S p 0 = nI n) (hn : n < 1000) (hf : f < n) : f_X6_has p S (nI f) = some (nI 1, S) := by
  simp (disch := omega) only [e_let, e_call, e_cal0, e_bind, e_lit, e_ofN, e_neg, nI_add, pk_mul, e_sub, e_ldi, e_sti, e_ldj, e_stj, e_le_t, e_le_f, e_lt_t, e_lt_f, e_eq_t, e_eq_f, e_no_eq, e_no_eq', e_no_rfl, e_no_lt, e_no_le, e_le_no, e_lt_no, if_true, if_false, ↓reduceIte, e_rs, e_rq, e_rn, e_ji, e_ki, e_ij, e_kj, e_js, e_jq, e_jn, e_cs, e_cq, e_jc, e_kc, e_js', e_jcq, e_icj, e_kcj, or_true, true_or, or_false, false_or, and_true, true_and, not_true_eq_false, not_false_eq_true, f_X6_has, b_X6_has_17, h0]
theorem k_has_f (h0 : m_ri S p 0 = nI n) (hn : n < 1000) (hf : e_bad i n) : f_X6_has p S i = some (nI 0, S) := by
  rcases hf with h | ⟨h1, h2⟩
  · rw [f_X6_has, if_pos (show i < (0 : Int32) from h)]; rfl
  · rw [f_X6_has, if_neg (show ¬ i < (0 : Int32) from h1), h0, if_pos h2]; rfl
theorem p_W.vs (hW : p_W P) (hf : f < p_fu P) : p_vs P f ≤ 27 := by
  have := hW.2.2.1 f hf
  have := hW.2.1
  simp only [p_vs]; omega
theorem k_vars (hW : p_W P) (hP : p_R S p P) (hf : f < p_fu P) : f_X3_varCount p S (nI f) = some (nI (p_vs P f), S) := by
  have h5 := hW.1
  have a1 := hP.2.2.1 f hf
  have a3 := hP.2.2.2.2.1 f hf
  simp (disch := omega) only [e_let, e_call, e_cal0, e_bind, e_lit, e_ofN, e_neg, nI_add, pk_mul, e_sub, e_ldi, e_sti, e_ldj, e_stj, e_le_t, e_le_f, e_lt_t, e_lt_f, e_eq_t, e_eq_f, e_no_eq, e_no_eq', e_no_rfl, e_no_lt, e_no_le, e_le_no, e_lt_no, if_true, if_false, ↓reduceIte, e_rs, e_rq, e_rn, e_ji, e_ki, e_ij, e_kj, e_js, e_jq, e_jn, e_cs, e_cq, e_jc, e_kc, e_js', e_jcq, e_icj, e_kcj, or_true, true_or, or_false, false_or, and_true, true_and, not_true_eq_false, not_false_eq_true, f_X3_varCount, a1, a3, p_vs]
theorem k_hasVar_t (hW : p_W P) (hP : p_R S p P) (hf : f < p_fu P) (hv : v < p_vs P f) : f_X3_hasVar p S (nI f) (nI v) = some (nI 1, S) := by
  have h27 := hW.vs hf
  rw [f_X3_hasVar, k_hasFun_t hP.1 (by have := hW.1; omega) hf, e_call, if_neg (by decide), if_neg (show ¬ nI v < (0 : Int32) from nI_pos (n := v) (by omega)), k_vars hW hP hf, e_call, if_neg (by rw [e_le (by omega) (by omega)]; omega)]
  rfl
/-- no such var -/
def e_nv (P : pP) (i j : Int32) : Prop := e_bad i (p_fu P) ∨ ∃ f, f < p_fu P ∧ i = nI f ∧ e_bad j (p_vs P f)
theorem e_var (P : pP) (hW : p_W P) (i j : Int32) : (∃ f v, f < p_fu P ∧ v < p_vs P f ∧ i = nI f ∧ j = nI v) ∨ e_nv P i j := by
  rcases e_arg i (p_fu P) (by have := hW.1; omega) with ⟨f, hf, e⟩ | h
  · rcases e_arg j (p_vs P f) (by have := hW.vs hf; omega) with ⟨v, hv, e2⟩ | h
    · exact Or.inl ⟨f, v, hf, hv, e, e2⟩
    · exact Or.inr (Or.inr ⟨f, hf, e, h⟩)
  · exact Or.inr (Or.inl h)
theorem k_hasVar_f (hW : p_W P) (hP : p_R S p P) (h : e_nv P i j) : f_X3_hasVar p S i j = some (nI 0, S) := by
  rcases h with h | ⟨f, hf, rfl, h⟩
  · rw [f_X3_hasVar, k_hasFun_f hP.1 (by have := hW.1; omega) h]; rfl
  · rw [f_X3_hasVar, k_hasFun_t hP.1 (by have := hW.1; omega) hf, e_call, if_neg (by decide)]
    rcases h with h | ⟨h1, h2⟩
    · rw [if_pos (show j < (0 : Int32) from h)]; rfl
    · rw [if_neg (show ¬ j < (0 : Int32) from h1), k_vars hW hP hf, e_call, if_pos h2]; rfl
theorem k_hasRoom_t (h0 : m_ri S a 3 = nI n) (hn : n < 1000) (hf : k < n) : f_X2_hasRoom a S (nI k) = some (nI 1, S) := by
  simp (disch := omega) only [e_let, e_call, e_cal0, e_bind, e_lit, e_ofN, e_neg, nI_add, pk_mul, e_sub, e_ldi, e_sti, e_ldj, e_stj, e_le_t, e_le_f, e_lt_t, e_lt_f, e_eq_t, e_eq_f, e_no_eq, e_no_eq', e_no_rfl, e_no_lt, e_no_le, e_le_no, e_lt_no, if_true, if_false, ↓reduceIte, e_rs, e_rq, e_rn, e_ji, e_ki, e_ij, e_kj, e_js, e_jq, e_jn, e_cs, e_cq, e_jc, e_kc, e_js', e_jcq, e_icj, e_kcj, or_true, true_or, or_false, false_or, and_true, true_and, not_true_eq_false, not_false_eq_true, f_X2_hasRoom, b_X2_hasRoom_17, h0]
theorem k_hasRoom_f (h0 : m_ri S a 3 = nI n) (hn : n < 1000) (hf : e_bad i n) : f_X2_hasRoom a S i = some (nI 0, S) := by
  rcases hf with h | ⟨h1, h2⟩
  · rw [f_X2_hasRoom, if_pos (show i < (0 : Int32) from h)]; rfl
  · rw [f_X2_hasRoom, if_neg (show ¬ i < (0 : Int32) from h1), h0, if_pos h2]; rfl
/-- no such cell -/
def e_nc (M : qM) (i : Int32) : Prop := e_bad i 200 ∨ ∃ c, c < 200 ∧ i = nI c ∧ q_ce M c = none
theorem e_cell (M : qM) (i : Int32) : (∃ c, c < 200 ∧ i = nI c ∧ q_ce M c ≠ none) ∨ e_nc M i := by
  rcases e_arg i 200 (by omega) with ⟨c, hc, e⟩ | h
  · by_cases g : q_ce M c = none
    · exact Or.inr (Or.inr ⟨c, hc, e, g⟩)
    · exact Or.inl ⟨c, hc, e, g⟩
  · exact Or.inr (Or.inl h)
theorem k_hasCell_t (hM : q_R S a M) (hB : q_B P M) (hc : k < 200) (hl : q_ce M k ≠ none) : f_X2_hasCell a S (nI k) = some (nI 1, S) := by
  have := k_hasCell (c := k) hM hB.2.1 hB.2.2.2.2.2.1 hc
  rw [if_neg hl] at this; exact this
theorem k_hasCell_f (hM : q_R S a M) (hB : q_B P M) (h : e_nc M i) : f_X2_hasCell a S i = some (nI 0, S) := by
  rcases h with (h | ⟨h1, h2⟩) | ⟨c, hc, rfl, hl⟩
  · rw [f_X2_hasCell, if_pos (show i < (0 : Int32) from h)]; rfl
  · rw [f_X2_hasCell, if_neg (show ¬ i < (0 : Int32) from h1), if_pos (show (200 : Int32) ≤ i from h2)]; rfl
  · have := k_hasCell (c := c) hM hB.2.1 hB.2.2.2.2.2.1 hc
    rw [if_pos hl] at this; exact this
theorem j_isCell_t (hM : r_R (m_ri T (m + 2)) M) (hB : q_B P M) (hc : k < 200) (hl : q_ce M k ≠ none) : f_X12_isCell m T (nI k) = some (nI 1, T) := by
  obtain ⟨y, hy⟩ : ∃ y, q_ce M k = some y := by
    cases h : q_ce M k with
    | none => exact absurd h hl
    | some y => exact ⟨y, rfl⟩
  have h24 := hB.2.2.2.1 y (hB.2.2.2.2.2.1 k y hc hy)
  have h8 : m_ri T (m + 2) (893 + k) = nI y.2 := by
    have := hM.2.2.2.2.2.2.2.2.2.2.2.2.2.2.2.2.1 k hc
    rw [this, hy]; rfl
  simp (disch := omega) only [e_let, e_call, e_cal0, e_bind, e_lit, e_ofN, e_neg, nI_add, pk_mul, e_sub, e_ldi, e_sti, e_ldj, e_stj, e_le_t, e_le_f, e_lt_t, e_lt_f, e_eq_t, e_eq_f, e_no_eq, e_no_eq', e_no_rfl, e_no_lt, e_no_le, e_le_no, e_lt_no, if_true, if_false, ↓reduceIte, e_rs, e_rq, e_rn, e_ji, e_ki, e_ij, e_kj, e_js, e_jq, e_jn, e_cs, e_cq, e_jc, e_kc, e_js', e_jcq, e_icj, e_kcj, or_true, true_or, or_false, false_or, and_true, true_and, not_true_eq_false, not_false_eq_true, f_X12_isCell, f_X12_isIn, b_X12_isIn_15, b_X12_isCell_30, h8]
theorem j_isCell_f (hM : r_R (m_ri T (m + 2)) M) (h : e_nc M i) : f_X12_isCell m T i = some (nI 0, T) := by
  rcases h with h | ⟨c, hc, rfl, hl⟩
  · have := j_isIn_f (T := T) h (by omega)
    rw [f_X12_isCell, show (199 : Int32) = nI 200 - (1 : Int32) from rfl, this]; rfl
  · have h8 : m_ri T (m + 2) (893 + c) = m_no := by
      have := hM.2.2.2.2.2.2.2.2.2.2.2.2.2.2.2.2.1 c hc
      rw [this, hl]; rfl
    simp (disch := omega) only [e_let, e_call, e_cal0, e_bind, e_lit, e_ofN, e_neg, nI_add, pk_mul, e_sub, e_ldi, e_sti, e_ldj, e_stj, e_le_t, e_le_f, e_lt_t, e_lt_f, e_eq_t, e_eq_f, e_no_eq, e_no_eq', e_no_rfl, e_no_lt, e_no_le, e_le_no, e_lt_no, if_true, if_false, ↓reduceIte, e_rs, e_rq, e_rn, e_ji, e_ki, e_ij, e_kj, e_js, e_jq, e_jn, e_cs, e_cq, e_jc, e_kc, e_js', e_jcq, e_icj, e_kcj, or_true, true_or, or_false, false_or, and_true, true_and, not_true_eq_false, not_false_eq_true, f_X12_isCell, f_X12_isIn, b_X12_isIn_15, b_X12_isCell_30, b_X12_isCell_29, h8]
/-- no such var of a frame -/
def e_nf (P : pP) (M : qM) (i j : Int32) : Prop := e_bad i (q_sc M 2) ∨ ∃ k, k < q_sc M 2 ∧ i = nI k ∧ e_bad j (p_vs P (q_ff M k))
theorem e_fvar (hW : p_W P) (hB : q_B P M) (i j : Int32) : (∃ k v, k < q_sc M 2 ∧ v < p_vs P (q_ff M k) ∧ i = nI k ∧ j = nI v) ∨ e_nf P M i j := by
  have h12 := hB.1
  rcases e_arg i (q_sc M 2) (by omega) with ⟨f, hf, e⟩ | h
  · have := hW.vs (hB.2.2.2.2.1 f hf).1
    rcases e_arg j (p_vs P (q_ff M f)) (by omega) with ⟨v, hv, e2⟩ | h
    · exact Or.inl ⟨f, v, hf, hv, e, e2⟩
    · exact Or.inr (Or.inr ⟨f, hf, e, h⟩)
  · exact Or.inr (Or.inl h)
theorem k_fvar_t (hW : p_W P) (hP : p_R S p P) (hM : q_R S a M) (hB : q_B P M) (hk : k < q_sc M 2) (hv : v < p_vs P (q_ff M k)) : f_X2_hasVar a p S (nI k) (nI v) = some (nI 1, S) := by
  have h12 := hB.1
  have h2 := hM.1 2 (by omega) (by omega) (by omega)
  have h4 := hM.2.2.2.1 k hk
  have hv := k_hasVar_t hW hP (hB.2.2.2.2.1 k hk).1 hv
  simp (disch := omega) only [e_let, e_call, e_cal0, e_bind, e_lit, e_ofN, e_neg, nI_add, pk_mul, e_sub, e_ldi, e_sti, e_ldj, e_stj, e_le_t, e_le_f, e_lt_t, e_lt_f, e_eq_t, e_eq_f, e_no_eq, e_no_eq', e_no_rfl, e_no_lt, e_no_le, e_le_no, e_lt_no, if_true, if_false, ↓reduceIte, e_rs, e_rq, e_rn, e_ji, e_ki, e_ij, e_kj, e_js, e_jq, e_jn, e_cs, e_cq, e_jc, e_kc, e_js', e_jcq, e_icj, e_kcj, or_true, true_or, or_false, false_or, and_true, true_and, not_true_eq_false, not_false_eq_true, f_X2_hasVar, h2, h4, hv, b_X2_hasVar_31]
theorem k_fvar_f (hW : p_W P) (hP : p_R S p P) (hM : q_R S a M) (hB : q_B P M) (h : e_nf P M i j) : f_X2_hasVar a p S i j = some (nI 0, S) := by
  have h12 := hB.1
  have h2 := hM.1 2 (by omega) (by omega) (by omega)
  rcases h with (h | ⟨h1, h3⟩) | ⟨k, hk, rfl, h⟩
  · rw [f_X2_hasVar, if_pos (show i < (0 : Int32) from h)]; rfl
  · rw [f_X2_hasVar, if_neg (show ¬ i < (0 : Int32) from h1), h2, if_pos h3]; rfl
  · have h4 := hM.2.2.2.1 k hk
    have hv := k_hasVar_f hW hP (Or.inr ⟨_, (hB.2.2.2.2.1 k hk).1, rfl, h⟩)
    simp (disch := omega) only [e_let, e_call, e_cal0, e_bind, e_lit, e_ofN, e_neg, nI_add, pk_mul, e_sub, e_ldi, e_sti, e_ldj, e_stj, e_le_t, e_le_f, e_lt_t, e_lt_f, e_eq_t, e_eq_f, e_no_eq, e_no_eq', e_no_rfl, e_no_lt, e_no_le, e_le_no, e_lt_no, if_true, if_false, ↓reduceIte, e_rs, e_rq, e_rn, e_ji, e_ki, e_ij, e_kj, e_js, e_jq, e_jn, e_cs, e_cq, e_jc, e_kc, e_js', e_jcq, e_icj, e_kcj, or_true, true_or, or_false, false_or, and_true, true_and, not_true_eq_false, not_false_eq_true, f_X2_hasVar, h2, h4, hv, b_X2_hasVar_31, b_X2_hasVar_30]
theorem j_fvar_t (hW : p_W P) (hP : r_P (m_ri T (m + 2)) P) (hM : r_R (m_ri T (m + 2)) M) (hB : q_B P M) (hk : k < q_sc M 2) (hv : v < p_vs P (q_ff M k)) : f_X12_isVar m T (nI k) (nI v) = some (nI 1, T) := by
  have h12 := hB.1
  have hf := (hB.2.2.2.2.1 k hk).1
  have h27 := hW.vs hf
  have h2 := hM.2.2.1
  have h4 := hM.2.2.2.2.2.2.2.2.2.2.2.1 k hk (by omega)
  rw [f_X12_isVar, show (212 : Int32) = nI 212 from rfl, e_ldi (by omega) (by omega), e_bind, h2, j_isIn_t hk (by omega), e_call, if_neg (by decide), f_X12_funOf, show (221 : Int32) = nI 221 from rfl, nI_add, e_ldi (by omega) (by omega), e_bind, h4, e_call, j_vars hP hW.1 hf, e_call, j_isIn_t hv (by omega)]
  rfl
theorem j_fvar_f (hW : p_W P) (hP : r_P (m_ri T (m + 2)) P) (hM : r_R (m_ri T (m + 2)) M) (hB : q_B P M) (h : e_nf P M i j) : f_X12_isVar m T i j = some (nI 0, T) := by
  have h12 := hB.1
  have h2 := hM.2.2.1
  rcases h with h | ⟨k, hk, rfl, h⟩
  · rw [f_X12_isVar, show (212 : Int32) = nI 212 from rfl, e_ldi (by omega) (by omega), e_bind, h2, j_isIn_f h (by omega)]; rfl
  · have hf := (hB.2.2.2.2.1 k hk).1
    have h27 := hW.vs hf
    have h4 := hM.2.2.2.2.2.2.2.2.2.2.2.1 k hk (by omega)
    rw [f_X12_isVar, show (212 : Int32) = nI 212 from rfl, e_ldi (by omega) (by omega), e_bind, h2, j_isIn_t hk (by omega), e_call, if_neg (by decide), f_X12_funOf, show (221 : Int32) = nI 221 from rfl, nI_add, e_ldi (by omega) (by omega), e_bind, h4, e_call, j_vars hP hW.1 hf, e_call, j_isIn_f h (by omega)]
    rfl
end AR
