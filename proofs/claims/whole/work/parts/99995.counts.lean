/-! spans, cells, how many there are -/
section AQ
variable {S T : m_M} {x m a : Nat} {s : sT} {i j k : Int32} {M : qM} {P : pP}
/-- how many rooms of a region, cells of a region, cells of a room -/
def q_ro (M : qM) (r k : Nat) : Bool := decide (((q_F M).getD k (0, 0)).2 = r)
def q_co (M : qM) (r c : Nat) : Bool := decide (q_rg (q_ce M c) = nI r)
def q_ci (M : qM) (k c : Nat) : Bool := decide (q_ix (q_F M) (q_ce M c) = nI k)
theorem e_ct {p : Nat → Bool} {k : Nat} (h : p k = true) : fb_ct p (k + 1) = fb_ct p k + 1 := by rw [fb_ct_succ, h]; rfl
theorem e_cf {p : Nat → Bool} {k : Nat} (h : p k = false) : fb_ct p (k + 1) = fb_ct p k := by rw [fb_ct_succ, h]; rfl
theorem q_at_i {F : List (Nat × Nat)} {k : Nat} (h : k < F.length) : F[k]? = some (F.getD k (0, 0)) := by
  rw [List.getElem?_eq_getElem h, List.getD_eq_getElem?_getD, List.getElem?_eq_getElem h]; rfl
theorem k_roomsOf {r : Nat} (hM : q_R S a M) (hB : q_B P M) (hr : r < 1000) : f_X2_roomsOf a S (nI r) = some (nI (fb_ct (q_ro M r) (q_F M).length), S) := by
  have hfu := m_fu_ge
  have hl := hB.2.1
  have h3 := hM.2.1
  have : ∀ (d k fu : Nat), k + d = (q_F M).length → d < fu → b_X2_roomsOf_4 a fu S (nI r) (nI (fb_ct (q_ro M r) k)) (nI k) = some (nI (fb_ct (q_ro M r) (q_F M).length), S) := by
    intro d
    induction d with
    | zero =>
      intro k fu hk hf
      obtain ⟨fu, rfl⟩ : ∃ f, fu = f + 1 := ⟨fu - 1, by omega⟩
      obtain rfl : k = (q_F M).length := by omega
      simp (disch := omega) only [e_let, e_call, e_cal0, e_bind, e_lit, e_ofN, e_neg, nI_add, pk_mul, e_sub, e_ldi, e_sti, e_ldj, e_stj, e_le_t, e_le_f, e_lt_t, e_lt_f, e_eq_t, e_eq_f, e_no_eq, e_no_eq', e_no_rfl, e_no_lt, e_no_le, e_le_no, e_lt_no, if_true, if_false, ↓reduceIte, e_rs, e_rq, e_rn, e_ji, e_ki, e_ij, e_kj, e_js, e_jq, e_jn, e_cs, e_cq, e_jc, e_kc, e_js', e_jcq, e_icj, e_kcj, or_true, true_or, or_false, false_or, and_true, true_and, not_true_eq_false, not_false_eq_true, b_X2_roomsOf_4, h3]
    | succ d ih =>
      intro k fu hk hf
      obtain ⟨fu, rfl⟩ : ∃ f, fu = f + 1 := ⟨fu - 1, by omega⟩
      have hg := q_at_i (F := q_F M) (k := k) (by omega)
      have h8 := hM.2.2.2.2.2.2.2.1 k _ hg
      have h24 := hB.2.2.2.1 _ (List.mem_of_getElem? hg)
      have ih := ih (k + 1) fu (by omega) (by omega)
      by_cases e : ((q_F M).getD k (0, 0)).2 = r
      · rw [e_ct (by exact decide_eq_true e)] at ih
        simp (disch := omega) only [e_let, e_call, e_cal0, e_bind, e_lit, e_ofN, e_neg, nI_add, pk_mul, e_sub, e_ldi, e_sti, e_ldj, e_stj, e_le_t, e_le_f, e_lt_t, e_lt_f, e_eq_t, e_eq_f, e_no_eq, e_no_eq', e_no_rfl, e_no_lt, e_no_le, e_le_no, e_lt_no, if_true, if_false, ↓reduceIte, e_rs, e_rq, e_rn, e_ji, e_ki, e_ij, e_kj, e_js, e_jq, e_jn, e_cs, e_cq, e_jc, e_kc, e_js', e_jcq, e_icj, e_kcj, or_true, true_or, or_false, false_or, and_true, true_and, not_true_eq_false, not_false_eq_true, b_X2_roomsOf_4, b_X2_roomsOf_25, h3, h8, ih]
      · rw [e_cf (by exact decide_eq_false e)] at ih
        simp (disch := omega) only [e_let, e_call, e_cal0, e_bind, e_lit, e_ofN, e_neg, nI_add, pk_mul, e_sub, e_ldi, e_sti, e_ldj, e_stj, e_le_t, e_le_f, e_lt_t, e_lt_f, e_eq_t, e_eq_f, e_no_eq, e_no_eq', e_no_rfl, e_no_lt, e_no_le, e_le_no, e_lt_no, if_true, if_false, ↓reduceIte, e_rs, e_rq, e_rn, e_ji, e_ki, e_ij, e_kj, e_js, e_jq, e_jn, e_cs, e_cq, e_jc, e_kc, e_js', e_jcq, e_icj, e_kcj, or_true, true_or, or_false, false_or, and_true, true_and, not_true_eq_false, not_false_eq_true, b_X2_roomsOf_4, b_X2_roomsOf_25, h3, h8, ih]
  exact this (q_F M).length 0 m_fu (by omega) (by omega)
theorem j_roomsOf {r : Nat} (hM : r_R (m_ri T (m + 2)) M) (hB : q_B P M) (hr : r < 1000) : f_X12_roomsOf m T (nI r) = some (nI (fb_ct (q_ro M r) (q_F M).length), T) := by
  have hfu := m_fu_ge
  have hl := hB.2.1
  have h3 := hM.2.2.2.2.1
  have : ∀ (d k fu : Nat), k + d = (q_F M).length → d < fu → b_X12_roomsOf_4 m fu T (nI r) (nI (fb_ct (q_ro M r) k)) (nI k) = some (nI (fb_ct (q_ro M r) (q_F M).length), T) := by
    intro d
    induction d with
    | zero =>
      intro k fu hk hf
      obtain ⟨fu, rfl⟩ : ∃ f, fu = f + 1 := ⟨fu - 1, by omega⟩
      obtain rfl : k = (q_F M).length := by omega
      simp (disch := omega) only [e_let, e_call, e_cal0, e_bind, e_lit, e_ofN, e_neg, nI_add, pk_mul, e_sub, e_ldi, e_sti, e_ldj, e_stj, e_le_t, e_le_f, e_lt_t, e_lt_f, e_eq_t, e_eq_f, e_no_eq, e_no_eq', e_no_rfl, e_no_lt, e_no_le, e_le_no, e_lt_no, if_true, if_false, ↓reduceIte, e_rs, e_rq, e_rn, e_ji, e_ki, e_ij, e_kj, e_js, e_jq, e_jn, e_cs, e_cq, e_jc, e_kc, e_js', e_jcq, e_icj, e_kcj, or_true, true_or, or_false, false_or, and_true, true_and, not_true_eq_false, not_false_eq_true, b_X12_roomsOf_4, h3]
    | succ d ih =>
      intro k fu hk hf
      obtain ⟨fu, rfl⟩ : ∃ f, fu = f + 1 := ⟨fu - 1, by omega⟩
      have hg := q_at_i (F := q_F M) (k := k) (by omega)
      have h8 := hM.2.2.2.2.2.2.2.2.2.2.2.2.2.2.2.1 k _ (by omega) hg
      have h24 := hB.2.2.2.1 _ (List.mem_of_getElem? hg)
      have ih := ih (k + 1) fu (by omega) (by omega)
      by_cases e : ((q_F M).getD k (0, 0)).2 = r
      · rw [e_ct (by exact decide_eq_true e)] at ih
        simp (disch := omega) only [e_let, e_call, e_cal0, e_bind, e_lit, e_ofN, e_neg, nI_add, pk_mul, e_sub, e_ldi, e_sti, e_ldj, e_stj, e_le_t, e_le_f, e_lt_t, e_lt_f, e_eq_t, e_eq_f, e_no_eq, e_no_eq', e_no_rfl, e_no_lt, e_no_le, e_le_no, e_lt_no, if_true, if_false, ↓reduceIte, e_rs, e_rq, e_rn, e_ji, e_ki, e_ij, e_kj, e_js, e_jq, e_jn, e_cs, e_cq, e_jc, e_kc, e_js', e_jcq, e_icj, e_kcj, or_true, true_or, or_false, false_or, and_true, true_and, not_true_eq_false, not_false_eq_true, b_X12_roomsOf_4, b_X12_roomsOf_33, h3, h8, ih]
      · rw [e_cf (by exact decide_eq_false e)] at ih
        simp (disch := omega) only [e_let, e_call, e_cal0, e_bind, e_lit, e_ofN, e_neg, nI_add, pk_mul, e_sub, e_ldi, e_sti, e_ldj, e_stj, e_le_t, e_le_f, e_lt_t, e_lt_f, e_eq_t, e_eq_f, e_no_eq, e_no_eq', e_no_rfl, e_no_lt, e_no_le, e_le_no, e_lt_no, if_true, if_false, ↓reduceIte, e_rs, e_rq, e_rn, e_ji, e_ki, e_ij, e_kj, e_js, e_jq, e_jn, e_cs, e_cq, e_jc, e_kc, e_js', e_jcq, e_icj, e_kcj, or_true, true_or, or_false, false_or, and_true, true_and, not_true_eq_false, not_false_eq_true, b_X12_roomsOf_4, b_X12_roomsOf_33, h3, h8, ih]
  exact this (q_F M).length 0 m_fu (by omega) (by omega)
theorem k_regionOf {c : Nat} {y : Nat × Nat} (hM : q_R S a M) (hB : q_B P M) (hc : c < 200) (hy : q_ce M c = some y) : f_X2_regionOfCell a S (nI c) = some (nI y.2, S) := by
  have hl := hB.2.1
  have hin := hB.2.2.2.2.2.1 c y hc hy
  have h1 : (q_F M).idxOf y < (q_F M).length := List.idxOf_lt_length_of_mem hin
  have h2 : (q_F M)[(q_F M).idxOf y]? = some y := by rw [List.getElem?_eq_getElem h1, List.getElem_idxOf h1]
  have g := k_hasCell_t hM hB hc (by rw [hy]; exact fun h => by cases h)
  have g2 := k_hasRoom_t (k := (q_F M).idxOf y) hM.2.1 (by omega) h1
  have h6 : m_ri S (a + 6) c = nI ((q_F M).idxOf y) := by rw [hM.2.2.2.2.2.2.2.2.1 c hc, hy]; rfl
  have h5 := hM.2.2.2.2.2.2.2.1 _ y h2
  simp (disch := omega) only [e_let, e_call, e_cal0, e_bind, e_lit, e_ofN, e_neg, nI_add, pk_mul, e_sub, e_ldi, e_sti, e_ldj, e_stj, e_le_t, e_le_f, e_lt_t, e_lt_f, e_eq_t, e_eq_f, e_no_eq, e_no_eq', e_no_rfl, e_no_lt, e_no_le, e_le_no, e_lt_no, if_true, if_false, ↓reduceIte, e_rs, e_rq, e_rn, e_ji, e_ki, e_ij, e_kj, e_js, e_jq, e_jn, e_cs, e_cq, e_jc, e_kc, e_js', e_jcq, e_icj, e_kcj, or_true, true_or, or_false, false_or, and_true, true_and, not_true_eq_false, not_false_eq_true, f_X2_regionOfCell, g, h6, g2, h5, b_X2_regionOfCell_36]
theorem q_rg_n {c : Nat} (h : q_ce M c = none) (r : Nat) (hr : r < 1000) : q_co M r c = false := by
  simp only [q_co, h, q_rg]
  exact decide_eq_false (fun q => (e_no_eq' (a := r) (by omega)).mp q)
theorem q_rg_s {c r : Nat} {y : Nat × Nat} (h : q_ce M c = some y) : q_co M r c = decide (nI y.2 = nI r) := by
  simp only [q_co, h, q_rg]
theorem k_cellsOf {r : Nat} (hM : q_R S a M) (hB : q_B P M) (hr : r < 1000) : f_X2_cellsOf a S (nI r) = some (nI (fb_ct (q_co M r) 200), S) := by
  have hfu := m_fu_ge
  have : ∀ (d k fu : Nat), k + d = 200 → d < fu → b_X2_cellsOf_4 a fu S (nI r) (nI (fb_ct (q_co M r) k)) (nI k) = some (nI (fb_ct (q_co M r) 200), S) := by
    intro d
    induction d with
    | zero =>
      intro k fu hk hf
      obtain ⟨fu, rfl⟩ : ∃ f, fu = f + 1 := ⟨fu - 1, by omega⟩
      obtain rfl : k = 200 := by omega
      simp (disch := omega) only [e_let, e_call, e_cal0, e_bind, e_lit, e_ofN, e_neg, nI_add, pk_mul, e_sub, e_ldi, e_sti, e_ldj, e_stj, e_le_t, e_le_f, e_lt_t, e_lt_f, e_eq_t, e_eq_f, e_no_eq, e_no_eq', e_no_rfl, e_no_lt, e_no_le, e_le_no, e_lt_no, if_true, if_false, ↓reduceIte, e_rs, e_rq, e_rn, e_ji, e_ki, e_ij, e_kj, e_js, e_jq, e_jn, e_cs, e_cq, e_jc, e_kc, e_js', e_jcq, e_icj, e_kcj, or_true, true_or, or_false, false_or, and_true, true_and, not_true_eq_false, not_false_eq_true, b_X2_cellsOf_4]
    | succ d ih =>
      intro k fu hk hf
      obtain ⟨fu, rfl⟩ : ∃ f, fu = f + 1 := ⟨fu - 1, by omega⟩
      have ih := ih (k + 1) fu (by omega) (by omega)
      cases hy : q_ce M k with
      | none =>
        have g := k_hasCell_f hM hB (Or.inr ⟨k, by omega, rfl, hy⟩)
        rw [e_cf (q_rg_n hy r hr)] at ih
        simp (disch := omega) only [e_let, e_call, e_cal0, e_bind, e_lit, e_ofN, e_neg, nI_add, pk_mul, e_sub, e_ldi, e_sti, e_ldj, e_stj, e_le_t, e_le_f, e_lt_t, e_lt_f, e_eq_t, e_eq_f, e_no_eq, e_no_eq', e_no_rfl, e_no_lt, e_no_le, e_le_no, e_lt_no, if_true, if_false, ↓reduceIte, e_rs, e_rq, e_rn, e_ji, e_ki, e_ij, e_kj, e_js, e_jq, e_jn, e_cs, e_cq, e_jc, e_kc, e_js', e_jcq, e_icj, e_kcj, or_true, true_or, or_false, false_or, and_true, true_and, not_true_eq_false, not_false_eq_true, b_X2_cellsOf_4, b_X2_cellsOf_31, g, ih]
      | some y =>
        have g := k_hasCell_t hM hB (k := k) (by omega) (by rw [hy]; exact fun h => by cases h)
        have g2 := k_regionOf hM hB (by omega) hy
        have h24 := hB.2.2.2.1 y (hB.2.2.2.2.2.1 k y (by omega) hy)
        by_cases e : y.2 = r
        · rw [e_ct (by rw [q_rg_s hy]; exact decide_eq_true (congrArg nI e))] at ih
          simp (disch := omega) only [e_let, e_call, e_cal0, e_bind, e_lit, e_ofN, e_neg, nI_add, pk_mul, e_sub, e_ldi, e_sti, e_ldj, e_stj, e_le_t, e_le_f, e_lt_t, e_lt_f, e_eq_t, e_eq_f, e_no_eq, e_no_eq', e_no_rfl, e_no_lt, e_no_le, e_le_no, e_lt_no, if_true, if_false, ↓reduceIte, e_rs, e_rq, e_rn, e_ji, e_ki, e_ij, e_kj, e_js, e_jq, e_jn, e_cs, e_cq, e_jc, e_kc, e_js', e_jcq, e_icj, e_kcj, or_true, true_or, or_false, false_or, and_true, true_and, not_true_eq_false, not_false_eq_true, b_X2_cellsOf_4, b_X2_cellsOf_31, g, g2, ih]
        · rw [e_cf (by rw [q_rg_s hy]; exact decide_eq_false (fun q => (e_eq_f (a := y.2) (b := r) e (by omega) (by omega)).mp q))] at ih
          simp (disch := omega) only [e_let, e_call, e_cal0, e_bind, e_lit, e_ofN, e_neg, nI_add, pk_mul, e_sub, e_ldi, e_sti, e_ldj, e_stj, e_le_t, e_le_f, e_lt_t, e_lt_f, e_eq_t, e_eq_f, e_no_eq, e_no_eq', e_no_rfl, e_no_lt, e_no_le, e_le_no, e_lt_no, if_true, if_false, ↓reduceIte, e_rs, e_rq, e_rn, e_ji, e_ki, e_ij, e_kj, e_js, e_jq, e_jn, e_cs, e_cq, e_jc, e_kc, e_js', e_jcq, e_icj, e_kcj, or_true, true_or, or_false, false_or, and_true, true_and, not_true_eq_false, not_false_eq_true, b_X2_cellsOf_4, b_X2_cellsOf_31, g, g2, ih]
  exact this 200 0 m_fu (by omega) (by omega)
theorem j_cellsOf {r : Nat} (hM : r_R (m_ri T (m + 2)) M) (hB : q_B P M) (hr : r < 1000) : f_X12_cellsOf m T (nI r) = some (nI (fb_ct (q_co M r) 200), T) := by
  have hfu := m_fu_ge
  have : ∀ (d k fu : Nat), k + d = 200 → d < fu → b_X12_cellsOf_4 m fu T (nI r) (nI (fb_ct (q_co M r) k)) (nI k) = some (nI (fb_ct (q_co M r) 200), T) := by
    intro d
    induction d with
    | zero =>
      intro k fu hk hf
      obtain ⟨fu, rfl⟩ : ∃ f, fu = f + 1 := ⟨fu - 1, by omega⟩
      obtain rfl : k = 200 := by omega
      simp (disch := omega) only [e_let, e_call, e_cal0, e_bind, e_lit, e_ofN, e_neg, nI_add, pk_mul, e_sub, e_ldi, e_sti, e_ldj, e_stj, e_le_t, e_le_f, e_lt_t, e_lt_f, e_eq_t, e_eq_f, e_no_eq, e_no_eq', e_no_rfl, e_no_lt, e_no_le, e_le_no, e_lt_no, if_true, if_false, ↓reduceIte, e_rs, e_rq, e_rn, e_ji, e_ki, e_ij, e_kj, e_js, e_jq, e_jn, e_cs, e_cq, e_jc, e_kc, e_js', e_jcq, e_icj, e_kcj, or_true, true_or, or_false, false_or, and_true, true_and, not_true_eq_false, not_false_eq_true, b_X12_cellsOf_4]
    | succ d ih =>
      intro k fu hk hf
      obtain ⟨fu, rfl⟩ : ∃ f, fu = f + 1 := ⟨fu - 1, by omega⟩
      have ih := ih (k + 1) fu (by omega) (by omega)
      have h8 := hM.2.2.2.2.2.2.2.2.2.2.2.2.2.2.2.2.1 k (by omega)
      by_cases e : q_rg (q_ce M k) = nI r
      · rw [e_ct (by exact decide_eq_true e)] at ih
        rw [e] at h8
        simp (disch := omega) only [e_let, e_call, e_cal0, e_bind, e_lit, e_ofN, e_neg, nI_add, pk_mul, e_sub, e_ldi, e_sti, e_ldj, e_stj, e_le_t, e_le_f, e_lt_t, e_lt_f, e_eq_t, e_eq_f, e_no_eq, e_no_eq', e_no_rfl, e_no_lt, e_no_le, e_le_no, e_lt_no, if_true, if_false, ↓reduceIte, e_rs, e_rq, e_rn, e_ji, e_ki, e_ij, e_kj, e_js, e_jq, e_jn, e_cs, e_cq, e_jc, e_kc, e_js', e_jcq, e_icj, e_kcj, or_true, true_or, or_false, false_or, and_true, true_and, not_true_eq_false, not_false_eq_true, b_X12_cellsOf_4, b_X12_cellsOf_28, h8, ih]
      · rw [e_cf (by exact decide_eq_false e)] at ih
        simp (disch := omega) only [e_let, e_call, e_cal0, e_bind, e_lit, e_ofN, e_neg, nI_add, pk_mul, e_sub, e_ldi, e_sti, e_ldj, e_stj, e_le_t, e_le_f, e_lt_t, e_lt_f, e_eq_t, e_eq_f, e_no_eq, e_no_eq', e_no_rfl, e_no_lt, e_no_le, e_le_no, e_lt_no, if_true, if_false, ↓reduceIte, e_rs, e_rq, e_rn, e_ji, e_ki, e_ij, e_kj, e_js, e_jq, e_jn, e_cs, e_cq, e_jc, e_kc, e_js', e_jcq, e_icj, e_kcj, or_true, true_or, or_false, false_or, and_true, true_and, not_true_eq_false, not_false_eq_true, b_X12_cellsOf_4, b_X12_cellsOf_28, h8, e, ih]
  exact this 200 0 m_fu (by omega) (by omega)
theorem k_cellsIn {r : Nat} (hM : q_R S a M) (hr : r < 1000) : f_X2_cellsIn a S (nI r) = some (nI (fb_ct (q_ci M r) 200), S) := by
  have hfu := m_fu_ge
  have : ∀ (d k fu : Nat), k + d = 200 → d < fu → b_X2_cellsIn_4 a fu S (nI r) (nI (fb_ct (q_ci M r) k)) (nI k) = some (nI (fb_ct (q_ci M r) 200), S) := by
    intro d
    induction d with
    | zero =>
      intro k fu hk hf
      obtain ⟨fu, rfl⟩ : ∃ f, fu = f + 1 := ⟨fu - 1, by omega⟩
      obtain rfl : k = 200 := by omega
      simp (disch := omega) only [e_let, e_call, e_cal0, e_bind, e_lit, e_ofN, e_neg, nI_add, pk_mul, e_sub, e_ldi, e_sti, e_ldj, e_stj, e_le_t, e_le_f, e_lt_t, e_lt_f, e_eq_t, e_eq_f, e_no_eq, e_no_eq', e_no_rfl, e_no_lt, e_no_le, e_le_no, e_lt_no, if_true, if_false, ↓reduceIte, e_rs, e_rq, e_rn, e_ji, e_ki, e_ij, e_kj, e_js, e_jq, e_jn, e_cs, e_cq, e_jc, e_kc, e_js', e_jcq, e_icj, e_kcj, or_true, true_or, or_false, false_or, and_true, true_and, not_true_eq_false, not_false_eq_true, b_X2_cellsIn_4]
    | succ d ih =>
      intro k fu hk hf
      obtain ⟨fu, rfl⟩ : ∃ f, fu = f + 1 := ⟨fu - 1, by omega⟩
      have ih := ih (k + 1) fu (by omega) (by omega)
      have h8 := hM.2.2.2.2.2.2.2.2.1 k (by omega)
      by_cases e : q_ix (q_F M) (q_ce M k) = nI r
      · rw [e_ct (by exact decide_eq_true e)] at ih
        rw [e] at h8
        simp (disch := omega) only [e_let, e_call, e_cal0, e_bind, e_lit, e_ofN, e_neg, nI_add, pk_mul, e_sub, e_ldi, e_sti, e_ldj, e_stj, e_le_t, e_le_f, e_lt_t, e_lt_f, e_eq_t, e_eq_f, e_no_eq, e_no_eq', e_no_rfl, e_no_lt, e_no_le, e_le_no, e_lt_no, if_true, if_false, ↓reduceIte, e_rs, e_rq, e_rn, e_ji, e_ki, e_ij, e_kj, e_js, e_jq, e_jn, e_cs, e_cq, e_jc, e_kc, e_js', e_jcq, e_icj, e_kcj, or_true, true_or, or_false, false_or, and_true, true_and, not_true_eq_false, not_false_eq_true, b_X2_cellsIn_4, b_X2_cellsIn_24, h8, ih]
      · rw [e_cf (by exact decide_eq_false e)] at ih
        simp (disch := omega) only [e_let, e_call, e_cal0, e_bind, e_lit, e_ofN, e_neg, nI_add, pk_mul, e_sub, e_ldi, e_sti, e_ldj, e_stj, e_le_t, e_le_f, e_lt_t, e_lt_f, e_eq_t, e_eq_f, e_no_eq, e_no_eq', e_no_rfl, e_no_lt, e_no_le, e_le_no, e_lt_no, if_true, if_false, ↓reduceIte, e_rs, e_rq, e_rn, e_ji, e_ki, e_ij, e_kj, e_js, e_jq, e_jn, e_cs, e_cq, e_jc, e_kc, e_js', e_jcq, e_icj, e_kcj, or_true, true_or, or_false, false_or, and_true, true_and, not_true_eq_false, not_false_eq_true, b_X2_cellsIn_4, b_X2_cellsIn_24, h8, e, ih]
  exact this 200 0 m_fu (by omega) (by omega)
theorem j_rf29 {r : Nat} (hM : r_R (m_ri T (m + 2)) M) (hB : q_B P M) (hr : r < 1000) : ∀ (d k fu : Nat), k + d = 200 → d < fu → b_X12_roomful_29 m fu T (nI r) (nI (fb_ct (q_ci M r) k)) (nI k) = some (nI (fb_ct (q_ci M r) 200), T) := by
  intro d
  induction d with
  | zero =>
    intro k fu hk hf
    obtain ⟨fu, rfl⟩ : ∃ f, fu = f + 1 := ⟨fu - 1, by omega⟩
    obtain rfl : k = 200 := by omega
    simp (disch := omega) only [e_let, e_call, e_cal0, e_bind, e_lit, e_ofN, e_neg, nI_add, pk_mul, e_sub, e_ldi, e_sti, e_ldj, e_stj, e_le_t, e_le_f, e_lt_t, e_lt_f, e_eq_t, e_eq_f, e_no_eq, e_no_eq', e_no_rfl, e_no_lt, e_no_le, e_le_no, e_lt_no, if_true, if_false, ↓reduceIte, e_rs, e_rq, e_rn, e_ji, e_ki, e_ij, e_kj, e_js, e_jq, e_jn, e_cs, e_cq, e_jc, e_kc, e_js', e_jcq, e_icj, e_kcj, or_true, true_or, or_false, false_or, and_true, true_and, not_true_eq_false, not_false_eq_true, b_X12_roomful_29]
  | succ d ih =>
    intro k fu hk hf
    obtain ⟨fu, rfl⟩ : ∃ f, fu = f + 1 := ⟨fu - 1, by omega⟩
    have ih := ih (k + 1) fu (by omega) (by omega)
    cases hy : q_ce M k with
    | none =>
      have g := j_isCell_f hM (Or.inr ⟨k, by omega, rfl, hy⟩)
      rw [e_cf (by simp only [q_ci, hy, q_ix]; exact decide_eq_false (fun q => (e_no_eq' (a := r) (by omega)).mp q))] at ih
      simp (disch := omega) only [e_let, e_call, e_cal0, e_bind, e_lit, e_ofN, e_neg, nI_add, pk_mul, e_sub, e_ldi, e_sti, e_ldj, e_stj, e_le_t, e_le_f, e_lt_t, e_lt_f, e_eq_t, e_eq_f, e_no_eq, e_no_eq', e_no_rfl, e_no_lt, e_no_le, e_le_no, e_lt_no, if_true, if_false, ↓reduceIte, e_rs, e_rq, e_rn, e_ji, e_ki, e_ij, e_kj, e_js, e_jq, e_jn, e_cs, e_cq, e_jc, e_kc, e_js', e_jcq, e_icj, e_kcj, or_true, true_or, or_false, false_or, and_true, true_and, not_true_eq_false, not_false_eq_true, b_X12_roomful_29, b_X12_roomful_61, g, ih]
    | some y =>
      have g := j_isCell_t hM hB (k := k) (by omega) (by rw [hy]; exact fun h => by cases h)
      have hl := hB.2.1
      have h1 : (q_F M).idxOf y < (q_F M).length := List.idxOf_lt_length_of_mem (hB.2.2.2.2.2.1 k y (by omega) hy)
      have h8 := hM.2.2.2.2.2.2.2.2.2.2.2.2.2.2.2.2.2.1 k y (by omega) hy
      by_cases e : (q_F M).idxOf y = r
      · rw [e_ct (by simp only [q_ci, hy, q_ix]; exact decide_eq_true (congrArg nI e))] at ih
        simp (disch := omega) only [e_let, e_call, e_cal0, e_bind, e_lit, e_ofN, e_neg, nI_add, pk_mul, e_sub, e_ldi, e_sti, e_ldj, e_stj, e_le_t, e_le_f, e_lt_t, e_lt_f, e_eq_t, e_eq_f, e_no_eq, e_no_eq', e_no_rfl, e_no_lt, e_no_le, e_le_no, e_lt_no, if_true, if_false, ↓reduceIte, e_rs, e_rq, e_rn, e_ji, e_ki, e_ij, e_kj, e_js, e_jq, e_jn, e_cs, e_cq, e_jc, e_kc, e_js', e_jcq, e_icj, e_kcj, or_true, true_or, or_false, false_or, and_true, true_and, not_true_eq_false, not_false_eq_true, b_X12_roomful_29, b_X12_roomful_61, g, h8, ih]
      · rw [e_cf (by simp only [q_ci, hy, q_ix]; exact decide_eq_false (fun q => (e_eq_f (a := (q_F M).idxOf y) (b := r) e (by omega) (by omega)).mp q))] at ih
        simp (disch := omega) only [e_let, e_call, e_cal0, e_bind, e_lit, e_ofN, e_neg, nI_add, pk_mul, e_sub, e_ldi, e_sti, e_ldj, e_stj, e_le_t, e_le_f, e_lt_t, e_lt_f, e_eq_t, e_eq_f, e_no_eq, e_no_eq', e_no_rfl, e_no_lt, e_no_le, e_le_no, e_lt_no, if_true, if_false, ↓reduceIte, e_rs, e_rq, e_rn, e_ji, e_ki, e_ij, e_kj, e_js, e_jq, e_jn, e_cs, e_cq, e_jc, e_kc, e_js', e_jcq, e_icj, e_kcj, or_true, true_or, or_false, false_or, and_true, true_and, not_true_eq_false, not_false_eq_true, b_X12_roomful_29, b_X12_roomful_61, g, h8, ih]
end AQ
