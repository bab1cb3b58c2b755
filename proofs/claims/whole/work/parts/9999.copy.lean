/-! blocks are copied: program, machine, sentence -/
def c_I (a o K : Nat) (ln : Nat → Nat) (lj : Nat) (S0 S : m_M) (k : Nat) : Prop :=
  (∀ j i, j < k → i < ln j → m_ri S (a + j) i = m_ri S0 (o + j) i) ∧ (∀ q, q < a ∨ a + K ≤ q → m_ri S q = m_ri S0 q) ∧ (∀ q, q ≠ a + 1 → m_rj S q = m_rj S0 q) ∧ (lj = 0 → m_rj S = m_rj S0) ∧ (1 < k → ∀ i, i < lj → m_rj S (a + 1) i = m_rj S0 (o + 1) i) ∧ m_rr S = m_rr S0
section CI
variable {S S0 : m_M} {a o K lj k L : Nat} {ln : Nat → Nat} {Ln : Int32}
theorem c_I.cpi (h : c_I a o K ln lj S0 S k) (hk : k < K) (hap : a + K ≤ o ∨ o + K ≤ a) (h1 : lj = 0 ∨ k ≠ 1) (hL : ln k = L) (hL2 : L < 1000) (hLn : Ln = nI L) : ∃ S', m_cpi S (o + k) L (a + k) L (0 : Int32) (0 : Int32) Ln = some S' ∧ c_I a o K ln lj S0 S' (k + 1) := by
  obtain ⟨g1, g2, g3, g4, g5, g6⟩ := h
  rw [hLn, show (0 : Int32) = nI 0 from rfl, e_cpi (by omega) (by omega) (by omega) (by omega)]
  refine ⟨_, rfl, fun j i hj hi => ?_, fun q hq => ?_, g3, g4, fun _ i hi => ?_, g6⟩
  · by_cases e : j = k
    · subst e
      rw [e_cs]
      simp only [va_cpy]
      rw [if_pos (by omega), g2 _ (by omega), show 0 + (i - 0) = i by omega]
    · rw [e_cq (by omega)]; exact g1 j i (by omega) hi
  · rw [e_cq (by omega)]; exact g2 q hq
  · rw [e_jc]; exact g5 (by omega) i hi
theorem c_I.cpj (h : c_I a o K ln lj S0 S 1) (hap : a + K ≤ o ∨ o + K ≤ a) (hK : 2 ≤ K) (hl0 : ln 1 = 0) (hj : lj ≠ 0) (hL : lj = L) (hL2 : L < 1000) (hLn : Ln = nI L) : ∃ S', m_cpj S (o + 1) L (a + 1) L (0 : Int32) (0 : Int32) Ln = some S' ∧ c_I a o K ln lj S0 S' 2 := by
  obtain ⟨g1, g2, g3, g4, g5, g6⟩ := h
  rw [hLn, show (0 : Int32) = nI 0 from rfl, e_cpj (by omega) (by omega) (by omega) (by omega)]
  refine ⟨_, rfl, fun j i hj hi => ?_, fun q hq => ?_, fun q hq => ?_, fun h => absurd h hj, fun _ i hi => ?_, g6⟩
  · by_cases e : j = 1
    · subst e; omega
    · rw [e_icj]; exact g1 j i (by omega) hi
  · rw [e_icj]; exact g2 q hq
  · rw [e_jcq hq]; exact g3 q hq
  · rw [e_js']
    simp only [va_cpy]
    rw [if_pos (by omega), g3 _ (by omega), show 0 + (i - 0) = i by omega]
theorem c_I.obj {S' : m_M} (h : c_I a o K ln lj S0 S k) (hk : k < K) (h1 : lj = 0 ∨ k ≠ 1) (w1 : ∀ j, j < ln k → m_ri S' (a + k) j = m_ri S0 (o + k) j) (w2 : ∀ p, p ≠ a + k → m_ri S' p = m_ri S p) (w3 : m_rj S' = m_rj S) (w4 : m_rr S' = m_rr S) : c_I a o K ln lj S0 S' (k + 1) := by
  obtain ⟨g1, g2, g3, g4, g5, g6⟩ := h
  refine ⟨fun j i hj hi => ?_, fun q hq => ?_, by rw [w3]; exact g3, by rw [w3]; exact g4, fun _ i hi => ?_, by rw [w4]; exact g6⟩
  · by_cases e : j = k
    · subst e; exact w1 i hi
    · rw [w2 _ (by omega)]; exact g1 j i (by omega) hi
  · rw [w2 _ (by omega)]; exact g2 q hq
  · rw [w3]; exact g5 (by omega) i hi
theorem c_I.rf : c_I a o K ln lj S S 0 := ⟨fun j i h _ => by omega, fun _ _ => rfl, fun _ _ => rfl, fun _ => rfl, fun h => by omega, rfl⟩
def q_ln (j : Nat) : Nat := if j = 0 then 12 else if j ≤ 2 then 13 else if j ≤ 4 then 351 else if j = 5 then 312 else if j = 6 then 200 else 400
def p_len (j : Nat) : Nat := if j = 0 ∨ j = 8 then 2 else if j = 1 then 0 else if j ≤ 4 ∨ j = 16 ∨ j = 17 then 5 else if j = 9 ∨ j = 10 then 135 else if j = 7 ∨ j = 18 ∨ j = 19 then 120 else 24
def z_ln (j : Nat) : Nat := if j = 0 then 3 else if j ≤ 3 then 40 else 0
theorem k_copyM (hap : a + 9 ≤ o ∨ o + 9 ≤ a) (hb : m_ri S o 11 = nI 0 ∨ m_ri S o 11 = nI 1) : ∃ S', f_X2_copyFrom a o S = some S' ∧ c_I a o 9 q_ln 0 S S' 9 := by
  have i0 : c_I a o 9 q_ln 0 S (m_si (m_si (m_si (m_si (m_si (m_si (m_si (m_si (m_si (m_si (m_si (m_si S a 0 (m_ri S o 0)) a 1 (m_ri S o 1)) a 2 (m_ri S o 2)) a 3 (m_ri S o 3)) a 4 (m_ri S o 4)) a 5 (m_ri S o 5)) a 6 (m_ri S o 6)) a 7 (m_ri S o 7)) a 8 (m_ri S o 8)) a 9 (m_ri S o 9)) a 10 (m_ri S o 10)) a 11 (m_ri S o 11)) 1 := c_I.rf.obj (by omega) (Or.inl rfl) (fun j hj => by
    have hj : j < 12 := hj
    have e : j = 0 ∨ j = 1 ∨ j = 2 ∨ j = 3 ∨ j = 4 ∨ j = 5 ∨ j = 6 ∨ j = 7 ∨ j = 8 ∨ j = 9 ∨ j = 10 ∨ j = 11 := by omega
    rcases e with e | e | e | e | e | e | e | e | e | e | e | e <;> subst e <;> simp (disch := omega) only [e_let, e_call, e_cal0, e_bind, e_lit, e_ofN, e_neg, nI_add, pk_mul, e_sub, e_ldi, e_sti, e_ldj, e_stj, e_le_t, e_le_f, e_lt_t, e_lt_f, e_eq_t, e_eq_f, e_no_eq, e_no_eq', e_no_rfl, e_no_lt, e_no_le, e_le_no, e_lt_no, if_true, if_false, ↓reduceIte, e_rs, e_rq, e_rn, e_ji, e_ki, e_ij, e_kj, e_js, e_jq, e_jn, e_cs, e_cq, e_jc, e_kc, e_js', e_jcq, e_icj, e_kcj, or_true, true_or, or_false, false_or, and_true, true_and, not_true_eq_false, not_false_eq_true, Nat.add_zero]) (fun p hp => by simp (disch := omega) only [e_let, e_call, e_cal0, e_bind, e_lit, e_ofN, e_neg, nI_add, pk_mul, e_sub, e_ldi, e_sti, e_ldj, e_stj, e_le_t, e_le_f, e_lt_t, e_lt_f, e_eq_t, e_eq_f, e_no_eq, e_no_eq', e_no_rfl, e_no_lt, e_no_le, e_le_no, e_lt_no, if_true, if_false, ↓reduceIte, e_rs, e_rq, e_rn, e_ji, e_ki, e_ij, e_kj, e_js, e_jq, e_jn, e_cs, e_cq, e_jc, e_kc, e_js', e_jcq, e_icj, e_kcj, or_true, true_or, or_false, false_or, and_true, true_and, not_true_eq_false, not_false_eq_true]) rfl rfl
  have e0 : f_X2_copyFrom a o S = m_let (m_si (m_si (m_si (m_si (m_si (m_si (m_si (m_si (m_si (m_si (m_si (m_si S a 0 (m_ri S o 0)) a 1 (m_ri S o 1)) a 2 (m_ri S o 2)) a 3 (m_ri S o 3)) a 4 (m_ri S o 4)) a 5 (m_ri S o 5)) a 6 (m_ri S o 6)) a 7 (m_ri S o 7)) a 8 (m_ri S o 8)) a 9 (m_ri S o 9)) a 10 (m_ri S o 10)) a 11 (m_ri S o 11)) fun S12 =>
    (m_cpi S12 (o + 1) 13 (a + 1) 13 (0 : Int32) (0 : Int32) (13 : Int32)).bind fun S14 =>
    (m_cpi S14 (o + 2) 13 (a + 2) 13 (0 : Int32) (0 : Int32) (13 : Int32)).bind fun S15 =>
    (m_cpi S15 (o + 3) 351 (a + 3) 351 (0 : Int32) (0 : Int32) (351 : Int32)).bind fun S16 =>
    (m_cpi S16 (o + 4) 351 (a + 4) 351 (0 : Int32) (0 : Int32) (351 : Int32)).bind fun S17 =>
    (m_cpi S17 (o + 5) 312 (a + 5) 312 (0 : Int32) (0 : Int32) (312 : Int32)).bind fun S18 =>
    (m_cpi S18 (o + 6) 200 (a + 6) 200 (0 : Int32) (0 : Int32) (200 : Int32)).bind fun S19 =>
    (m_cpi S19 (o + 7) 400 (a + 7) 400 (0 : Int32) (0 : Int32) (400 : Int32)).bind fun S20 =>
    (m_cpi S20 (o + 8) 400 (a + 8) 400 (0 : Int32) (0 : Int32) (400 : Int32)).bind fun S21 =>
    some S21 := by
    have hb' : (m_ri S o 11 = nI 0 ∨ m_ri S o 11 = nI 1) = True := eq_true hb
    simp (disch := omega) only [e_let, e_call, e_cal0, e_bind, e_lit, e_ofN, e_neg, nI_add, pk_mul, e_sub, e_ldi, e_sti, e_ldj, e_stj, e_le_t, e_le_f, e_lt_t, e_lt_f, e_eq_t, e_eq_f, e_no_eq, e_no_eq', e_no_rfl, e_no_lt, e_no_le, e_le_no, e_lt_no, if_true, if_false, ↓reduceIte, e_rs, e_rq, e_rn, e_ji, e_ki, e_ij, e_kj, e_js, e_jq, e_jn, e_cs, e_cq, e_jc, e_kc, e_js', e_jcq, e_icj, e_kcj, or_true, true_or, or_false, false_or, and_true, true_and, not_true_eq_false, not_false_eq_true, f_X2_copyFrom, hb']
  generalize (m_si (m_si (m_si (m_si (m_si (m_si (m_si (m_si (m_si (m_si (m_si (m_si S a 0 (m_ri S o 0)) a 1 (m_ri S o 1)) a 2 (m_ri S o 2)) a 3 (m_ri S o 3)) a 4 (m_ri S o 4)) a 5 (m_ri S o 5)) a 6 (m_ri S o 6)) a 7 (m_ri S o 7)) a 8 (m_ri S o 8)) a 9 (m_ri S o 9)) a 10 (m_ri S o 10)) a 11 (m_ri S o 11)) = S12 at *
  rw [e0, e_let]
  obtain ⟨T1, h1, i1⟩ := i0.cpi (k := 1) (L := 13) (Ln := (13 : Int32)) (by omega) hap (Or.inl rfl) rfl (by omega) rfl
  rw [h1, e_bind]
  obtain ⟨T2, h2, i2⟩ := i1.cpi (k := 2) (L := 13) (Ln := (13 : Int32)) (by omega) hap (Or.inl rfl) rfl (by omega) rfl
  rw [h2, e_bind]
  obtain ⟨T3, h3, i3⟩ := i2.cpi (k := 3) (L := 351) (Ln := (351 : Int32)) (by omega) hap (Or.inl rfl) rfl (by omega) rfl
  rw [h3, e_bind]
  obtain ⟨T4, h4, i4⟩ := i3.cpi (k := 4) (L := 351) (Ln := (351 : Int32)) (by omega) hap (Or.inl rfl) rfl (by omega) rfl
  rw [h4, e_bind]
  obtain ⟨T5, h5, i5⟩ := i4.cpi (k := 5) (L := 312) (Ln := (312 : Int32)) (by omega) hap (Or.inl rfl) rfl (by omega) rfl
  rw [h5, e_bind]
  obtain ⟨T6, h6, i6⟩ := i5.cpi (k := 6) (L := 200) (Ln := (200 : Int32)) (by omega) hap (Or.inl rfl) rfl (by omega) rfl
  rw [h6, e_bind]
  obtain ⟨T7, h7, i7⟩ := i6.cpi (k := 7) (L := 400) (Ln := (400 : Int32)) (by omega) hap (Or.inl rfl) rfl (by omega) rfl
  rw [h7, e_bind]
  obtain ⟨T8, h8, i8⟩ := i7.cpi (k := 8) (L := 400) (Ln := (400 : Int32)) (by omega) hap (Or.inl rfl) rfl (by omega) rfl
  rw [h8, e_bind]
  exact ⟨_, rfl, i8⟩
theorem k_copyZ (hap : a + 5 ≤ o ∨ o + 5 ≤ a) (hb : m_ri S o 0 = nI 0 ∨ m_ri S o 0 = nI 1) : ∃ S', f_X7_copyFrom a o S = some S' ∧ c_I a o 5 z_ln 0 S S' 4 := by
  have i0 : c_I a o 5 z_ln 0 S (m_si (m_si (m_si S a 0 (m_ri S o 0)) a 1 (m_ri S o 1)) a 2 (m_ri S o 2)) 1 := c_I.rf.obj (by omega) (Or.inl rfl) (fun j hj => by
    have hj : j < 3 := hj
    have e : j = 0 ∨ j = 1 ∨ j = 2 := by omega
    rcases e with e | e | e <;> subst e <;> simp (disch := omega) only [e_let, e_call, e_cal0, e_bind, e_lit, e_ofN, e_neg, nI_add, pk_mul, e_sub, e_ldi, e_sti, e_ldj, e_stj, e_le_t, e_le_f, e_lt_t, e_lt_f, e_eq_t, e_eq_f, e_no_eq, e_no_eq', e_no_rfl, e_no_lt, e_no_le, e_le_no, e_lt_no, if_true, if_false, ↓reduceIte, e_rs, e_rq, e_rn, e_ji, e_ki, e_ij, e_kj, e_js, e_jq, e_jn, e_cs, e_cq, e_jc, e_kc, e_js', e_jcq, e_icj, e_kcj, or_true, true_or, or_false, false_or, and_true, true_and, not_true_eq_false, not_false_eq_true, Nat.add_zero]) (fun p hp => by simp (disch := omega) only [e_let, e_call, e_cal0, e_bind, e_lit, e_ofN, e_neg, nI_add, pk_mul, e_sub, e_ldi, e_sti, e_ldj, e_stj, e_le_t, e_le_f, e_lt_t, e_lt_f, e_eq_t, e_eq_f, e_no_eq, e_no_eq', e_no_rfl, e_no_lt, e_no_le, e_le_no, e_lt_no, if_true, if_false, ↓reduceIte, e_rs, e_rq, e_rn, e_ji, e_ki, e_ij, e_kj, e_js, e_jq, e_jn, e_cs, e_cq, e_jc, e_kc, e_js', e_jcq, e_icj, e_kcj, or_true, true_or, or_false, false_or, and_true, true_and, not_true_eq_false, not_false_eq_true]) rfl rfl
  have e0 : f_X7_copyFrom a o S = m_let (m_si (m_si (m_si S a 0 (m_ri S o 0)) a 1 (m_ri S o 1)) a 2 (m_ri S o 2)) fun S4 =>
    (m_cpi S4 (o + 1) 40 (a + 1) 40 (0 : Int32) (0 : Int32) (40 : Int32)).bind fun S5 =>
    (m_cpi S5 (o + 2) 40 (a + 2) 40 (0 : Int32) (0 : Int32) (40 : Int32)).bind fun S6 =>
    (m_cpi S6 (o + 3) 40 (a + 3) 40 (0 : Int32) (0 : Int32) (40 : Int32)).bind fun S7 =>
    some S7 := by
    have hb' : (m_ri S o 0 = nI 0 ∨ m_ri S o 0 = nI 1) = True := eq_true hb
    simp (disch := omega) only [e_let, e_call, e_cal0, e_bind, e_lit, e_ofN, e_neg, nI_add, pk_mul, e_sub, e_ldi, e_sti, e_ldj, e_stj, e_le_t, e_le_f, e_lt_t, e_lt_f, e_eq_t, e_eq_f, e_no_eq, e_no_eq', e_no_rfl, e_no_lt, e_no_le, e_le_no, e_lt_no, if_true, if_false, ↓reduceIte, e_rs, e_rq, e_rn, e_ji, e_ki, e_ij, e_kj, e_js, e_jq, e_jn, e_cs, e_cq, e_jc, e_kc, e_js', e_jcq, e_icj, e_kcj, or_true, true_or, or_false, false_or, and_true, true_and, not_true_eq_false, not_false_eq_true, f_X7_copyFrom, hb']
  generalize (m_si (m_si (m_si S a 0 (m_ri S o 0)) a 1 (m_ri S o 1)) a 2 (m_ri S o 2)) = S12 at *
  rw [e0, e_let]
  obtain ⟨T1, h1, i1⟩ := i0.cpi (k := 1) (L := 40) (Ln := (40 : Int32)) (by omega) hap (Or.inl rfl) rfl (by omega) rfl
  rw [h1, e_bind]
  obtain ⟨T2, h2, i2⟩ := i1.cpi (k := 2) (L := 40) (Ln := (40 : Int32)) (by omega) hap (Or.inl rfl) rfl (by omega) rfl
  rw [h2, e_bind]
  obtain ⟨T3, h3, i3⟩ := i2.cpi (k := 3) (L := 40) (Ln := (40 : Int32)) (by omega) hap (Or.inl rfl) rfl (by omega) rfl
  rw [h3, e_bind]
  exact ⟨_, rfl, i3⟩
theorem k_copyP (hap : a + 22 ≤ o ∨ o + 22 ≤ a) : ∃ S', f_X3_copyFrom a o S = some S' ∧ c_I a o 22 p_len 5 S S' 22 := by
  have i0 : c_I a o 22 p_len 5 S (m_si (m_si S a 0 (m_ri S o 0)) a 1 (m_ri S o 1)) 1 := c_I.rf.obj (by omega) (Or.inr (by omega)) (fun j hj => by
    have hj : j < 2 := hj
    have e : j = 0 ∨ j = 1 := by omega
    rcases e with e | e <;> subst e <;> simp (disch := omega) only [e_let, e_call, e_cal0, e_bind, e_lit, e_ofN, e_neg, nI_add, pk_mul, e_sub, e_ldi, e_sti, e_ldj, e_stj, e_le_t, e_le_f, e_lt_t, e_lt_f, e_eq_t, e_eq_f, e_no_eq, e_no_eq', e_no_rfl, e_no_lt, e_no_le, e_le_no, e_lt_no, if_true, if_false, ↓reduceIte, e_rs, e_rq, e_rn, e_ji, e_ki, e_ij, e_kj, e_js, e_jq, e_jn, e_cs, e_cq, e_jc, e_kc, e_js', e_jcq, e_icj, e_kcj, or_true, true_or, or_false, false_or, and_true, true_and, not_true_eq_false, not_false_eq_true, Nat.add_zero]) (fun p hp => by simp (disch := omega) only [e_let, e_call, e_cal0, e_bind, e_lit, e_ofN, e_neg, nI_add, pk_mul, e_sub, e_ldi, e_sti, e_ldj, e_stj, e_le_t, e_le_f, e_lt_t, e_lt_f, e_eq_t, e_eq_f, e_no_eq, e_no_eq', e_no_rfl, e_no_lt, e_no_le, e_le_no, e_lt_no, if_true, if_false, ↓reduceIte, e_rs, e_rq, e_rn, e_ji, e_ki, e_ij, e_kj, e_js, e_jq, e_jn, e_cs, e_cq, e_jc, e_kc, e_js', e_jcq, e_icj, e_kcj, or_true, true_or, or_false, false_or, and_true, true_and, not_true_eq_false, not_false_eq_true]) rfl rfl
  have e0 : f_X3_copyFrom a o S = m_let (m_si (m_si S a 0 (m_ri S o 0)) a 1 (m_ri S o 1)) fun S2 => (m_cpj S2 (o + 1) 5 (a + 1) 5 (0 : Int32) (0 : Int32) (5 : Int32)).bind fun S3 =>
    (m_cpi S3 (o + 2) 5 (a + 2) 5 (0 : Int32) (0 : Int32) (5 : Int32)).bind fun S4 =>
    (m_cpi S4 (o + 3) 5 (a + 3) 5 (0 : Int32) (0 : Int32) (5 : Int32)).bind fun S5 =>
    (m_cpi S5 (o + 4) 5 (a + 4) 5 (0 : Int32) (0 : Int32) (5 : Int32)).bind fun S6 =>
    (m_cpi S6 (o + 5) 24 (a + 5) 24 (0 : Int32) (0 : Int32) (24 : Int32)).bind fun S7 =>
    (m_cpi S7 (o + 6) 24 (a + 6) 24 (0 : Int32) (0 : Int32) (24 : Int32)).bind fun S8 =>
    (m_cpi S8 (o + 7) 120 (a + 7) 120 (0 : Int32) (0 : Int32) (120 : Int32)).bind fun S9 =>
    m_cal0 (f_X6_copyFrom (a + 8) (o + 8) S9) fun S10 => some S10 := by
    simp (disch := omega) only [f_X3_copyFrom, e_let, e_rq]
  generalize (m_si (m_si S a 0 (m_ri S o 0)) a 1 (m_ri S o 1)) = S2 at *
  rw [e0, e_let]
  obtain ⟨T1, h1, i1⟩ := i0.cpj (L := 5) (Ln := (5 : Int32)) hap (by omega) rfl (by omega) rfl (by omega) rfl
  rw [h1, e_bind]
  obtain ⟨T2, h2, i2⟩ := i1.cpi (k := 2) (L := 5) (Ln := (5 : Int32)) (by omega) hap (Or.inr (by omega)) rfl (by omega) rfl
  rw [h2, e_bind]
  obtain ⟨T3, h3, i3⟩ := i2.cpi (k := 3) (L := 5) (Ln := (5 : Int32)) (by omega) hap (Or.inr (by omega)) rfl (by omega) rfl
  rw [h3, e_bind]
  obtain ⟨T4, h4, i4⟩ := i3.cpi (k := 4) (L := 5) (Ln := (5 : Int32)) (by omega) hap (Or.inr (by omega)) rfl (by omega) rfl
  rw [h4, e_bind]
  obtain ⟨T5, h5, i5⟩ := i4.cpi (k := 5) (L := 24) (Ln := (24 : Int32)) (by omega) hap (Or.inr (by omega)) rfl (by omega) rfl
  rw [h5, e_bind]
  obtain ⟨T6, h6, i6⟩ := i5.cpi (k := 6) (L := 24) (Ln := (24 : Int32)) (by omega) hap (Or.inr (by omega)) rfl (by omega) rfl
  rw [h6, e_bind]
  obtain ⟨T7, h7, i7⟩ := i6.cpi (k := 7) (L := 120) (Ln := (120 : Int32)) (by omega) hap (Or.inr (by omega)) rfl (by omega) rfl
  rw [h7, e_bind]
  have i8 : c_I a o 22 p_len 5 S (m_si (m_si T7 (a + 8) 0 (m_ri T7 (o + 8) 0)) (a + 8) 1 (m_ri T7 (o + 8) 1)) 9 := i7.obj (by omega) (Or.inr (by omega)) (fun j hj => by
    have hj : j < 2 := hj
    have hO := i7.2.1 (o + 8) (by omega)
    have e : j = 0 ∨ j = 1 := by omega
    rcases e with e | e <;> subst e <;> simp (disch := omega) only [e_let, e_call, e_cal0, e_bind, e_lit, e_ofN, e_neg, nI_add, pk_mul, e_sub, e_ldi, e_sti, e_ldj, e_stj, e_le_t, e_le_f, e_lt_t, e_lt_f, e_eq_t, e_eq_f, e_no_eq, e_no_eq', e_no_rfl, e_no_lt, e_no_le, e_le_no, e_lt_no, if_true, if_false, ↓reduceIte, e_rs, e_rq, e_rn, e_ji, e_ki, e_ij, e_kj, e_js, e_jq, e_jn, e_cs, e_cq, e_jc, e_kc, e_js', e_jcq, e_icj, e_kcj, or_true, true_or, or_false, false_or, and_true, true_and, not_true_eq_false, not_false_eq_true, hO]) (fun p hp => by simp (disch := omega) only [e_let, e_call, e_cal0, e_bind, e_lit, e_ofN, e_neg, nI_add, pk_mul, e_sub, e_ldi, e_sti, e_ldj, e_stj, e_le_t, e_le_f, e_lt_t, e_lt_f, e_eq_t, e_eq_f, e_no_eq, e_no_eq', e_no_rfl, e_no_lt, e_no_le, e_le_no, e_lt_no, if_true, if_false, ↓reduceIte, e_rs, e_rq, e_rn, e_ji, e_ki, e_ij, e_kj, e_js, e_jq, e_jn, e_cs, e_cq, e_jc, e_kc, e_js', e_jcq, e_icj, e_kcj, or_true, true_or, or_false, false_or, and_true, true_and, not_true_eq_false, not_false_eq_true]) rfl rfl
  have e8 : f_X6_copyFrom (a + 8) (o + 8) T7 = m_let (m_si (m_si T7 (a + 8) 0 (m_ri T7 (o + 8) 0)) (a + 8) 1 (m_ri T7 (o + 8) 1)) fun S2 =>
    (m_cpi S2 (o + 8 + 1) 135 (a + 8 + 1) 135 (0 : Int32) (0 : Int32) (135 : Int32)).bind fun S3 =>
    (m_cpi S3 (o + 8 + 2) 135 (a + 8 + 2) 135 (0 : Int32) (0 : Int32) (135 : Int32)).bind fun S4 =>
    (m_cpi S4 (o + 8 + 3) 24 (a + 8 + 3) 24 (0 : Int32) (0 : Int32) (24 : Int32)).bind fun S5 =>
    (m_cpi S5 (o + 8 + 4) 24 (a + 8 + 4) 24 (0 : Int32) (0 : Int32) (24 : Int32)).bind fun S6 =>
    (m_cpi S6 (o + 8 + 5) 24 (a + 8 + 5) 24 (0 : Int32) (0 : Int32) (24 : Int32)).bind fun S7 =>
    (m_cpi S7 (o + 8 + 6) 24 (a + 8 + 6) 24 (0 : Int32) (0 : Int32) (24 : Int32)).bind fun S8 =>
    (m_cpi S8 (o + 8 + 7) 24 (a + 8 + 7) 24 (0 : Int32) (0 : Int32) (24 : Int32)).bind fun S9 =>
    (m_cpi S9 (o + 8 + 8) 5 (a + 8 + 8) 5 (0 : Int32) (0 : Int32) (5 : Int32)).bind fun S10 =>
    (m_cpi S10 (o + 8 + 9) 5 (a + 8 + 9) 5 (0 : Int32) (0 : Int32) (5 : Int32)).bind fun S11 =>
    (m_cpi S11 (o + 8 + 10) 120 (a + 8 + 10) 120 (0 : Int32) (0 : Int32) (120 : Int32)).bind fun S12 =>
    (m_cpi S12 (o + 8 + 11) 120 (a + 8 + 11) 120 (0 : Int32) (0 : Int32) (120 : Int32)).bind fun S13 =>
    (m_cpi S13 (o + 8 + 12) 24 (a + 8 + 12) 24 (0 : Int32) (0 : Int32) (24 : Int32)).bind fun S14 =>
    (m_cpi S14 (o + 8 + 13) 24 (a + 8 + 13) 24 (0 : Int32) (0 : Int32) (24 : Int32)).bind fun S15 =>
    some S15 := by
    simp (disch := omega) only [f_X6_copyFrom, e_let, e_rq]
  generalize (m_si (m_si T7 (a + 8) 0 (m_ri T7 (o + 8) 0)) (a + 8) 1 (m_ri T7 (o + 8) 1)) = U8 at *
  rw [e8, e_let]
  obtain ⟨T9, h9, i9⟩ := i8.cpi (k := 9) (L := 135) (Ln := (135 : Int32)) (by omega) hap (Or.inr (by omega)) rfl (by omega) rfl
  rw [show m_cpi U8 (o + 8 + 1) 135 (a + 8 + 1) 135 (0 : Int32) (0 : Int32) (135 : Int32) = some T9 from h9, e_bind]
  obtain ⟨T10, h10, i10⟩ := i9.cpi (k := 10) (L := 135) (Ln := (135 : Int32)) (by omega) hap (Or.inr (by omega)) rfl (by omega) rfl
  rw [show m_cpi T9 (o + 8 + 2) 135 (a + 8 + 2) 135 (0 : Int32) (0 : Int32) (135 : Int32) = some T10 from h10, e_bind]
  obtain ⟨T11, h11, i11⟩ := i10.cpi (k := 11) (L := 24) (Ln := (24 : Int32)) (by omega) hap (Or.inr (by omega)) rfl (by omega) rfl
  rw [show m_cpi T10 (o + 8 + 3) 24 (a + 8 + 3) 24 (0 : Int32) (0 : Int32) (24 : Int32) = some T11 from h11, e_bind]
  obtain ⟨T12, h12, i12⟩ := i11.cpi (k := 12) (L := 24) (Ln := (24 : Int32)) (by omega) hap (Or.inr (by omega)) rfl (by omega) rfl
  rw [show m_cpi T11 (o + 8 + 4) 24 (a + 8 + 4) 24 (0 : Int32) (0 : Int32) (24 : Int32) = some T12 from h12, e_bind]
  obtain ⟨T13, h13, i13⟩ := i12.cpi (k := 13) (L := 24) (Ln := (24 : Int32)) (by omega) hap (Or.inr (by omega)) rfl (by omega) rfl
  rw [show m_cpi T12 (o + 8 + 5) 24 (a + 8 + 5) 24 (0 : Int32) (0 : Int32) (24 : Int32) = some T13 from h13, e_bind]
  obtain ⟨T14, h14, i14⟩ := i13.cpi (k := 14) (L := 24) (Ln := (24 : Int32)) (by omega) hap (Or.inr (by omega)) rfl (by omega) rfl
  rw [show m_cpi T13 (o + 8 + 6) 24 (a + 8 + 6) 24 (0 : Int32) (0 : Int32) (24 : Int32) = some T14 from h14, e_bind]
  obtain ⟨T15, h15, i15⟩ := i14.cpi (k := 15) (L := 24) (Ln := (24 : Int32)) (by omega) hap (Or.inr (by omega)) rfl (by omega) rfl
  rw [show m_cpi T14 (o + 8 + 7) 24 (a + 8 + 7) 24 (0 : Int32) (0 : Int32) (24 : Int32) = some T15 from h15, e_bind]
  obtain ⟨T16, h16, i16⟩ := i15.cpi (k := 16) (L := 5) (Ln := (5 : Int32)) (by omega) hap (Or.inr (by omega)) rfl (by omega) rfl
  rw [show m_cpi T15 (o + 8 + 8) 5 (a + 8 + 8) 5 (0 : Int32) (0 : Int32) (5 : Int32) = some T16 from h16, e_bind]
  obtain ⟨T17, h17, i17⟩ := i16.cpi (k := 17) (L := 5) (Ln := (5 : Int32)) (by omega) hap (Or.inr (by omega)) rfl (by omega) rfl
  rw [show m_cpi T16 (o + 8 + 9) 5 (a + 8 + 9) 5 (0 : Int32) (0 : Int32) (5 : Int32) = some T17 from h17, e_bind]
  obtain ⟨T18, h18, i18⟩ := i17.cpi (k := 18) (L := 120) (Ln := (120 : Int32)) (by omega) hap (Or.inr (by omega)) rfl (by omega) rfl
  rw [show m_cpi T17 (o + 8 + 10) 120 (a + 8 + 10) 120 (0 : Int32) (0 : Int32) (120 : Int32) = some T18 from h18, e_bind]
  obtain ⟨T19, h19, i19⟩ := i18.cpi (k := 19) (L := 120) (Ln := (120 : Int32)) (by omega) hap (Or.inr (by omega)) rfl (by omega) rfl
  rw [show m_cpi T18 (o + 8 + 11) 120 (a + 8 + 11) 120 (0 : Int32) (0 : Int32) (120 : Int32) = some T19 from h19, e_bind]
  obtain ⟨T20, h20, i20⟩ := i19.cpi (k := 20) (L := 24) (Ln := (24 : Int32)) (by omega) hap (Or.inr (by omega)) rfl (by omega) rfl
  rw [show m_cpi T19 (o + 8 + 12) 24 (a + 8 + 12) 24 (0 : Int32) (0 : Int32) (24 : Int32) = some T20 from h20, e_bind]
  obtain ⟨T21, h21, i21⟩ := i20.cpi (k := 21) (L := 24) (Ln := (24 : Int32)) (by omega) hap (Or.inr (by omega)) rfl (by omega) rfl
  rw [show m_cpi T20 (o + 8 + 13) 24 (a + 8 + 13) 24 (0 : Int32) (0 : Int32) (24 : Int32) = some T21 from h21, e_bind]
  exact ⟨_, rfl, i21⟩
end CI
