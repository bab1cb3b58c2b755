/-! the pieces of a text: the one side -/
def t_Z (S : m_M) (x : Nat) (t : Nat → Nat) (N : Nat) : Prop := (∀ i, i < N → m_ri S (x + 1) i = t_b (t i)) ∧ (∀ i, i < 22 → m_rj S (x + 26) i = t_kw i) ∧ (N ≤ 940 ∧ m_ri S (x + 25) 0 = nI 900) ∧ ∀ i, t i < 256
/-- one piece as it is kept -/
def t_c1 (S : m_M) (x : Nat) (t : Nat → Nat) (N L j p : Nat) : Prop := m_ri S (x + 27) j = nI (t_K t N L p) ∧ m_ri S (x + 28) j = nI (t_F t N L p) ∧ (t_K t N L p = 2 → m_rj S (x + 29) j = t_W t N p) ∧ (t_K t N L p = 3 → m_rj S (x + 29) j = (nI (t_ki (t_W t N p))).toInt64) ∧ (t_K t N L p = 4 → m_rj S (x + 29) j = (nI (t_M t N p)).toInt64) ∧ (t_K t N L p = 5 → m_rj S (x + 29) j = (nI (t_G t N p)).toInt64)
/-- all pieces as they are kept -/
def t_A (S : m_M) (x : Nat) (t : Nat → Nat) (N L K : Nat) : Prop := m_ri S (x + 25) 7 = nI (K + 1) ∧ K ≤ 900 ∧ (∀ j, j ≤ K → t_c1 S x t N L j (t_P t N j)) ∧ t_K t N L (t_P t N K) ≤ 1
/-- the piece that is looked at begins at p -/
def t_C (S : m_M) (x : Nat) (t : Nat → Nat) (N L p : Nat) : Prop := ∃ k K, k ≤ K ∧ t_A S x t N L K ∧ p = t_P t N k ∧ m_ri S (x + 25) 8 = nI k ∧ m_ri S (x + 25) 9 = nI (t_K t N L p) ∧ m_ri S (x + 25) 10 = nI (t_F t N L p) ∧ m_ri S (x + 25) 11 = (if t_K t N L p = 3 then nI (t_ki (t_W t N p)) else m_no) ∧ m_ri S (x + 25) 12 = (if t_K t N L p = 4 then nI (t_M t N p) else m_no) ∧ m_ri S (x + 25) 13 = (if t_K t N L p = 5 then nI (t_G t N p) else m_no) ∧ m_rj S (x + 25) 14 = (if t_K t N L p = 2 then t_W t N p else -1)
/-- one piece more is kept -/
def t_pt (x : Nat) (S : m_M) (s : Nat) (a b : Int32) (c : Int64) : m_M := m_si (m_sj (m_si (m_si S (x + 27) s a) (x + 28) s b) (x + 29) s c) (x + 25) 7 (nI (s + 1))
section TC
variable {S : m_M} {x : Nat} {t : Nat → Nat} {N L p q k K s : Nat}
theorem t_R_c (h : t_R t N p = p) : ¬ (p < N ∧ t_w (t p)) := fun g => by have := t_R_gt (t := t) g.1 g.2; omega
theorem t_R_s (h : p < t_R t N p) : p < N ∧ t_w (t p) ∧ t_R t N (p + 1) = t_R t N p := by
  by_cases g : p < N ∧ t_w (t p)
  · refine ⟨g.1, g.2, ?_⟩
    rw [t_R_e (p := p), if_pos g]
  · rw [t_R_e, if_neg g] at h; omega
theorem k_put {a b : Int32} {c : Int64} (h0 : m_ri S (x + 25) 0 = nI 900) (h7 : m_ri S (x + 25) 7 = nI s) (hs : s < 901) : f_X9_put x S a b c = some (t_pt x S s a b c) := by
  simp (disch := omega) only [e_let, e_call, e_cal0, e_bind, e_lit, e_ofN, e_neg, nI_add, pk_mul, e_sub, e_ldi, e_sti, e_ldj, e_stj, e_le_t, e_le_f, e_lt_t, e_lt_f, e_eq_t, e_eq_f, e_no_eq, e_no_eq', e_no_rfl, e_no_lt, e_no_le, e_le_no, e_lt_no, if_true, if_false, ↓reduceIte, e_rs, e_rq, e_rn, e_ji, e_ki, e_ij, e_kj, e_js, e_jq, e_jn, e_cs, e_cq, e_jc, e_kc, e_js', e_jcq, e_icj, e_kcj, or_true, true_or, or_false, false_or, and_true, true_and, not_true_eq_false, not_false_eq_true, f_X9_put, h0, h7, b_X9_put_51, t_pt]
theorem k_kwOf {w : Int64} (hk : ∀ i, i < 22 → m_rj S (x + 26) i = t_kw i) : f_X9_keywordOf x S w = some (if t_ki w < 22 then nI (t_ki w) else m_no, S) := by
  have hfu := m_fu_ge
  have : ∀ (c i fu : Nat), c + i = 22 → c < fu → b_X9_keywordOf_2 x fu S w (nI i) = some (if t_kf w c i < 22 then nI (t_kf w c i) else m_no, S) := by
    intro c
    induction c with
    | zero =>
      intro i fu h hf
      obtain ⟨fu, rfl⟩ : ∃ f, fu = f + 1 := ⟨fu - 1, by omega⟩
      rw [t_kf, if_neg (Nat.lt_irrefl 22)]
      simp (disch := omega) only [e_let, e_call, e_cal0, e_bind, e_lit, e_ofN, e_neg, nI_add, pk_mul, e_sub, e_ldi, e_sti, e_ldj, e_stj, e_le_t, e_le_f, e_lt_t, e_lt_f, e_eq_t, e_eq_f, e_no_eq, e_no_eq', e_no_rfl, e_no_lt, e_no_le, e_le_no, e_lt_no, if_true, if_false, ↓reduceIte, e_rs, e_rq, e_rn, e_ji, e_ki, e_ij, e_kj, e_js, e_jq, e_jn, e_cs, e_cq, e_jc, e_kc, e_js', e_jcq, e_icj, e_kcj, or_true, true_or, or_false, false_or, and_true, true_and, not_true_eq_false, not_false_eq_true, b_X9_keywordOf_2]
    | succ c ih =>
      intro i fu h hf
      obtain ⟨fu, rfl⟩ : ∃ f, fu = f + 1 := ⟨fu - 1, by omega⟩
      have hi := hk i (by omega)
      have hn := ih (i + 1) fu (by omega) (by omega)
      rw [t_kf]
      by_cases hw : t_kw i = w
      · rw [if_pos hw, if_pos (by omega)]
        simp (disch := omega) only [e_let, e_call, e_cal0, e_bind, e_lit, e_ofN, e_neg, nI_add, pk_mul, e_sub, e_ldi, e_sti, e_ldj, e_stj, e_le_t, e_le_f, e_lt_t, e_lt_f, e_eq_t, e_eq_f, e_no_eq, e_no_eq', e_no_rfl, e_no_lt, e_no_le, e_le_no, e_lt_no, if_true, if_false, ↓reduceIte, e_rs, e_rq, e_rn, e_ji, e_ki, e_ij, e_kj, e_js, e_jq, e_jn, e_cs, e_cq, e_jc, e_kc, e_js', e_jcq, e_icj, e_kcj, or_true, true_or, or_false, false_or, and_true, true_and, not_true_eq_false, not_false_eq_true, b_X9_keywordOf_2, hi, e_lg, hw]
      · rw [if_neg hw, ← hn]
        simp (disch := omega) only [e_let, e_call, e_cal0, e_bind, e_lit, e_ofN, e_neg, nI_add, pk_mul, e_sub, e_ldi, e_sti, e_ldj, e_stj, e_le_t, e_le_f, e_lt_t, e_lt_f, e_eq_t, e_eq_f, e_no_eq, e_no_eq', e_no_rfl, e_no_lt, e_no_le, e_le_no, e_lt_no, if_true, if_false, ↓reduceIte, e_rs, e_rq, e_rn, e_ji, e_ki, e_ij, e_kj, e_js, e_jq, e_jn, e_cs, e_cq, e_jc, e_kc, e_js', e_jcq, e_icj, e_kcj, or_true, true_or, or_false, false_or, and_true, true_and, not_true_eq_false, not_false_eq_true, b_X9_keywordOf_2, hi, e_lg, hw]
  rw [f_X9_keywordOf]
  exact this 22 0 m_fu rfl (by omega)
theorem t_dc_l {n : Nat} (h : t_l (t (q + n))) : t_dc t q (n + 1) = t_dc t q n := by rw [t_dc, if_neg (by omega), Nat.add_zero]
theorem t_dc_d {n : Nat} (h : t_d (t (q + n))) : t_dc t q (n + 1) = t_dc t q n + 1 := by rw [t_dc, if_pos h]
theorem k_rl12 : ∀ (c n fu : Nat) (S : m_M) (l3 : Int64) (l5 : Int32), t_Z S x t N → q + n + c = t_R t N q → t_R t N (q + n) = t_R t N q → q + n ≤ N → c < fu → m_ri S (x + 25) 5 = nI N → m_ri S (x + 25) 6 = nI (q + n) → (t_dc t q n = 0 → l3 = t_wv t q n) → (t_dc t q n = n → n ≤ 3 → l5 = nI (t_nv t q n)) →
    ∃ S' l3' l5', b_X9_readLettersAndDigits_13 x fu S (nI q) (nI (t_dc t q n)) l3 l5 = b_X9_readLettersAndDigits_109 x S' (nI q) (nI (t_dc t q (n + c))) l3' l5' ∧ (t_dc t q (n + c) = 0 → l3' = t_wv t q (n + c)) ∧ (t_dc t q (n + c) = n + c → n + c ≤ 3 → l5' = nI (t_nv t q (n + c))) ∧ m_ri S' (x + 25) 6 = nI (q + (n + c)) ∧ (∀ i, i ≠ 6 → m_ri S' (x + 25) i = m_ri S (x + 25) i) ∧ e_O (x + 25) (x + 26) S S' := by
  intro c
  induction c with
  | zero =>
    intro n fu S l3 l5 hZ h1 h2 h3 hf h5 h6 hl hd
    obtain ⟨fu, rfl⟩ : ∃ f, fu = f + 1 := ⟨fu - 1, by omega⟩
    refine ⟨S, l3, l5, ?_, hl, hd, h6, fun _ _ => rfl, e_O.rf⟩
    have hc := t_R_c (t := t) (N := N) (p := q + n) (by omega)
    have hN := hZ.2.2.1
    by_cases hN' : N ≤ q + n
    · simp (disch := omega) only [e_let, e_call, e_cal0, e_bind, e_lit, e_ofN, e_neg, nI_add, pk_mul, e_sub, e_ldi, e_sti, e_ldj, e_stj, e_le_t, e_le_f, e_lt_t, e_lt_f, e_eq_t, e_eq_f, e_no_eq, e_no_eq', e_no_rfl, e_no_lt, e_no_le, e_le_no, e_lt_no, if_true, if_false, ↓reduceIte, e_rs, e_rq, e_rn, e_ji, e_ki, e_ij, e_kj, e_js, e_jq, e_jn, e_cs, e_cq, e_jc, e_kc, e_js', e_jcq, e_icj, e_kcj, or_true, true_or, or_false, false_or, and_true, true_and, not_true_eq_false, not_false_eq_true, b_X9_readLettersAndDigits_13, h5, h6, Nat.add_zero]
    · have hb := hZ.1 (q + n) (by omega)
      have hw : ¬ t_w (t (q + n)) := fun g => hc ⟨by omega, g⟩
      have e1 := k_isLt (S := S) (hZ.2.2.2 (q + n))
      have e2 := k_isDg (S := S) (hZ.2.2.2 (q + n))
      rw [if_neg (fun g => hw (Or.inl g))] at e1
      rw [if_neg (fun g => hw (Or.inr g))] at e2
      simp (disch := omega) only [e_let, e_call, e_cal0, e_bind, e_lit, e_ofN, e_neg, nI_add, pk_mul, e_sub, e_ldi, e_sti, e_ldj, e_stj, e_le_t, e_le_f, e_lt_t, e_lt_f, e_eq_t, e_eq_f, e_no_eq, e_no_eq', e_no_rfl, e_no_lt, e_no_le, e_le_no, e_lt_no, if_true, if_false, ↓reduceIte, e_rs, e_rq, e_rn, e_ji, e_ki, e_ij, e_kj, e_js, e_jq, e_jn, e_cs, e_cq, e_jc, e_kc, e_js', e_jcq, e_icj, e_kcj, or_true, true_or, or_false, false_or, and_true, true_and, not_true_eq_false, not_false_eq_true, b_X9_readLettersAndDigits_13, h5, h6, hb, e1, e2, Nat.add_zero]
  | succ c ih =>
    intro n fu S l3 l5 hZ h1 h2 h3 hf h5 h6 hl hd
    obtain ⟨fu, rfl⟩ : ∃ f, fu = f + 1 := ⟨fu - 1, by omega⟩
    have hN := hZ.2.2.1
    obtain ⟨g1, g2, g3⟩ := t_R_s (t := t) (N := N) (p := q + n) (by omega)
    have hb := hZ.1 (q + n) (by omega)
    have e1 := k_isLt (S := S) (hZ.2.2.2 (q + n))
    have e2 := k_isDg (S := S) (hZ.2.2.2 (q + n))
    have hZ' : ∀ v, t_Z (m_si S (x + 25) 6 v) x t N := fun v => ⟨fun i hi => by rw [e_rq (by omega)]; exact hZ.1 i hi, hZ.2.1, ⟨hZ.2.2.1.1, by rw [e_rn (by omega)]; exact hZ.2.2.1.2⟩, hZ.2.2.2⟩
    by_cases hL : t_l (t (q + n))
    · have hnd : ¬ t_d (t (q + n)) := by omega
      rw [if_pos hL] at e1
      rw [if_neg hnd] at e2
      have hbb : t_b (t (q + n)) = nI (t (q + n)) := t_b_p (by omega)
      rw [hbb] at hb e1 e2
      obtain ⟨S', l3', l5', a1, a2, a3, a4, a5, a6⟩ := ih (n + 1) fu (m_si S (x + 25) 6 (nI (q + n + 1))) (l3 * 27 + (nI (t (q + n) - 97 + 1)).toInt64) l5 (hZ' _) (by omega) (by rw [← Nat.add_assoc, g3, h2]) (by omega) (by omega) (by rw [e_rn (by omega)]; exact h5) (by rw [e_rs]; rfl)
        (fun h => by
          rw [t_dc_l hL] at h
          rw [hl h, t_wv, e_sub (by omega), nI_add])
        (fun h => by
          rw [t_dc_l hL] at h
          have := t_dc_le (t := t) (q := q) n
          omega)
      rw [t_dc_l hL, show n + 1 + c = n + (c + 1) by omega] at a1
      rw [show n + 1 + c = n + (c + 1) by omega] at a2 a3 a4
      refine ⟨S', l3', l5', ?_, a2, a3, a4, fun i hi => by rw [a5 i hi, e_rn hi], (e_O.rf.si (by omega) (by omega)).tr a6⟩
      rw [← a1]
      simp (disch := omega) only [e_let, e_call, e_cal0, e_bind, e_lit, e_ofN, e_neg, nI_add, pk_mul, e_sub, e_ldi, e_sti, e_ldj, e_stj, e_le_t, e_le_f, e_lt_t, e_lt_f, e_eq_t, e_eq_f, e_no_eq, e_no_eq', e_no_rfl, e_no_lt, e_no_le, e_le_no, e_lt_no, if_true, if_false, ↓reduceIte, e_rs, e_rq, e_rn, e_ji, e_ki, e_ij, e_kj, e_js, e_jq, e_jn, e_cs, e_cq, e_jc, e_kc, e_js', e_jcq, e_icj, e_kcj, or_true, true_or, or_false, false_or, and_true, true_and, not_true_eq_false, not_false_eq_true, b_X9_readLettersAndDigits_13, h5, h6, hb, e1, e2, b_X9_readLettersAndDigits_48, b_X9_readLettersAndDigits_96, f_X9_withLetter]
    · have hD : t_d (t (q + n)) := g2.resolve_left hL
      rw [if_neg hL] at e1
      rw [if_pos hD] at e2
      have hbb : t_b (t (q + n)) = nI (t (q + n)) := t_b_p (by omega)
      rw [hbb] at hb e1 e2
      obtain ⟨S', l3', l5', a1, a2, a3, a4, a5, a6⟩ := ih (n + 1) fu (m_si S (x + 25) 6 (nI (q + n + 1))) l3 (l5 * nI 10 + nI (t (q + n) - 48)) (hZ' _) (by omega) (by rw [← Nat.add_assoc, g3, h2]) (by omega) (by omega) (by rw [e_rn (by omega)]; exact h5) (by rw [e_rs]; rfl)
        (fun h => by
          rw [t_dc_d hD] at h
          omega)
        (fun h hn => by
          rw [t_dc_d hD] at h
          rw [hd (by omega) (by omega), t_nv, pk_mul, nI_add])
      rw [t_dc_d hD, show n + 1 + c = n + (c + 1) by omega] at a1
      rw [show n + 1 + c = n + (c + 1) by omega] at a2 a3 a4
      refine ⟨S', l3', l5', ?_, a2, a3, a4, fun i hi => by rw [a5 i hi, e_rn hi], (e_O.rf.si (by omega) (by omega)).tr a6⟩
      rw [← a1]
      simp (disch := omega) only [e_let, e_call, e_cal0, e_bind, e_lit, e_ofN, e_neg, nI_add, pk_mul, e_sub, e_ldi, e_sti, e_ldj, e_stj, e_le_t, e_le_f, e_lt_t, e_lt_f, e_eq_t, e_eq_f, e_no_eq, e_no_eq', e_no_rfl, e_no_lt, e_no_le, e_le_no, e_lt_no, if_true, if_false, ↓reduceIte, e_rs, e_rq, e_rn, e_ji, e_ki, e_ij, e_kj, e_js, e_jq, e_jn, e_cs, e_cq, e_jc, e_kc, e_js', e_jcq, e_icj, e_kcj, or_true, true_or, or_false, false_or, and_true, true_and, not_true_eq_false, not_false_eq_true, b_X9_readLettersAndDigits_13, h5, h6, hb, e1, e2, b_X9_readLettersAndDigits_48, b_X9_readLettersAndDigits_96]
/-- the piece that begins at q, kept as number s -/
def t_c2 (S : m_M) (x : Nat) (t : Nat → Nat) (N s q : Nat) : Prop := m_ri S (x + 27) s = nI (t_k t N q) ∧ m_ri S (x + 28) s = nI q ∧ (t_k t N q = 2 → m_rj S (x + 29) s = t_wv t q (t_R t N q - q)) ∧ (t_k t N q = 3 → m_rj S (x + 29) s = (nI (t_ki (t_wv t q (t_R t N q - q)))).toInt64) ∧ (t_k t N q = 4 → m_rj S (x + 29) s = (nI (t_nv t q (t_R t N q - q))).toInt64) ∧ (t_k t N q = 5 → m_rj S (x + 29) s = (nI (t q)).toInt64)
/-- what a kept piece changes -/
def t_h (S S' : m_M) (x s e : Nat) : Prop := m_ri S' (x + 25) 6 = nI e ∧ m_ri S' (x + 25) 7 = nI (s + 1) ∧ (∀ i, i ≠ 6 → i ≠ 7 → m_ri S' (x + 25) i = m_ri S (x + 25) i) ∧ (∀ j, j ≠ s → m_ri S' (x + 27) j = m_ri S (x + 27) j ∧ m_ri S' (x + 28) j = m_ri S (x + 28) j ∧ m_rj S' (x + 29) j = m_rj S (x + 29) j) ∧ m_ri S' (x + 26) = m_ri S (x + 26) ∧ m_rj S' (x + 25) = m_rj S (x + 25) ∧ m_rj S' (x + 26) = m_rj S (x + 26) ∧ t_O (x + 25) (x + 30) S S'
theorem t_h_pt {S0 : m_M} {e : Nat} {a b : Int32} {c : Int64} (h6 : m_ri S (x + 25) 6 = nI e) (hf : ∀ i, i ≠ 6 → m_ri S (x + 25) i = m_ri S0 (x + 25) i) (hO : e_O (x + 25) (x + 26) S0 S) : t_h S0 (t_pt x S s a b c) x s e := by
  refine ⟨?_, ?_, fun i h h' => ?_, fun j hj => ⟨?_, ?_, ?_⟩, ?_, ?_, ?_, ?_⟩
  · simp (disch := omega) only [e_let, e_call, e_cal0, e_bind, e_lit, e_ofN, e_neg, nI_add, pk_mul, e_sub, e_ldi, e_sti, e_ldj, e_stj, e_le_t, e_le_f, e_lt_t, e_lt_f, e_eq_t, e_eq_f, e_no_eq, e_no_eq', e_no_rfl, e_no_lt, e_no_le, e_le_no, e_lt_no, if_true, if_false, ↓reduceIte, e_rs, e_rq, e_rn, e_ji, e_ki, e_ij, e_kj, e_js, e_jq, e_jn, e_cs, e_cq, e_jc, e_kc, e_js', e_jcq, e_icj, e_kcj, or_true, true_or, or_false, false_or, and_true, true_and, not_true_eq_false, not_false_eq_true, t_pt, h6]
  · simp (disch := omega) only [e_let, e_call, e_cal0, e_bind, e_lit, e_ofN, e_neg, nI_add, pk_mul, e_sub, e_ldi, e_sti, e_ldj, e_stj, e_le_t, e_le_f, e_lt_t, e_lt_f, e_eq_t, e_eq_f, e_no_eq, e_no_eq', e_no_rfl, e_no_lt, e_no_le, e_le_no, e_lt_no, if_true, if_false, ↓reduceIte, e_rs, e_rq, e_rn, e_ji, e_ki, e_ij, e_kj, e_js, e_jq, e_jn, e_cs, e_cq, e_jc, e_kc, e_js', e_jcq, e_icj, e_kcj, or_true, true_or, or_false, false_or, and_true, true_and, not_true_eq_false, not_false_eq_true, t_pt]
  · simp (disch := omega) only [e_let, e_call, e_cal0, e_bind, e_lit, e_ofN, e_neg, nI_add, pk_mul, e_sub, e_ldi, e_sti, e_ldj, e_stj, e_le_t, e_le_f, e_lt_t, e_lt_f, e_eq_t, e_eq_f, e_no_eq, e_no_eq', e_no_rfl, e_no_lt, e_no_le, e_le_no, e_lt_no, if_true, if_false, ↓reduceIte, e_rs, e_rq, e_rn, e_ji, e_ki, e_ij, e_kj, e_js, e_jq, e_jn, e_cs, e_cq, e_jc, e_kc, e_js', e_jcq, e_icj, e_kcj, or_true, true_or, or_false, false_or, and_true, true_and, not_true_eq_false, not_false_eq_true, t_pt, hf i h]
  · rw [← hO.1 (x + 27) (by omega)]; simp (disch := omega) only [e_let, e_call, e_cal0, e_bind, e_lit, e_ofN, e_neg, nI_add, pk_mul, e_sub, e_ldi, e_sti, e_ldj, e_stj, e_le_t, e_le_f, e_lt_t, e_lt_f, e_eq_t, e_eq_f, e_no_eq, e_no_eq', e_no_rfl, e_no_lt, e_no_le, e_le_no, e_lt_no, if_true, if_false, ↓reduceIte, e_rs, e_rq, e_rn, e_ji, e_ki, e_ij, e_kj, e_js, e_jq, e_jn, e_cs, e_cq, e_jc, e_kc, e_js', e_jcq, e_icj, e_kcj, or_true, true_or, or_false, false_or, and_true, true_and, not_true_eq_false, not_false_eq_true, t_pt]
  · rw [← hO.1 (x + 28) (by omega)]; simp (disch := omega) only [e_let, e_call, e_cal0, e_bind, e_lit, e_ofN, e_neg, nI_add, pk_mul, e_sub, e_ldi, e_sti, e_ldj, e_stj, e_le_t, e_le_f, e_lt_t, e_lt_f, e_eq_t, e_eq_f, e_no_eq, e_no_eq', e_no_rfl, e_no_lt, e_no_le, e_le_no, e_lt_no, if_true, if_false, ↓reduceIte, e_rs, e_rq, e_rn, e_ji, e_ki, e_ij, e_kj, e_js, e_jq, e_jn, e_cs, e_cq, e_jc, e_kc, e_js', e_jcq, e_icj, e_kcj, or_true, true_or, or_false, false_or, and_true, true_and, not_true_eq_false, not_false_eq_true, t_pt]
  · rw [← hO.2.1]; simp (disch := omega) only [e_let, e_call, e_cal0, e_bind, e_lit, e_ofN, e_neg, nI_add, pk_mul, e_sub, e_ldi, e_sti, e_ldj, e_stj, e_le_t, e_le_f, e_lt_t, e_lt_f, e_eq_t, e_eq_f, e_no_eq, e_no_eq', e_no_rfl, e_no_lt, e_no_le, e_le_no, e_lt_no, if_true, if_false, ↓reduceIte, e_rs, e_rq, e_rn, e_ji, e_ki, e_ij, e_kj, e_js, e_jq, e_jn, e_cs, e_cq, e_jc, e_kc, e_js', e_jcq, e_icj, e_kcj, or_true, true_or, or_false, false_or, and_true, true_and, not_true_eq_false, not_false_eq_true, t_pt]
  · rw [← hO.1 (x + 26) (by omega)]; simp (disch := omega) only [e_let, e_call, e_cal0, e_bind, e_lit, e_ofN, e_neg, nI_add, pk_mul, e_sub, e_ldi, e_sti, e_ldj, e_stj, e_le_t, e_le_f, e_lt_t, e_lt_f, e_eq_t, e_eq_f, e_no_eq, e_no_eq', e_no_rfl, e_no_lt, e_no_le, e_le_no, e_lt_no, if_true, if_false, ↓reduceIte, e_rs, e_rq, e_rn, e_ji, e_ki, e_ij, e_kj, e_js, e_jq, e_jn, e_cs, e_cq, e_jc, e_kc, e_js', e_jcq, e_icj, e_kcj, or_true, true_or, or_false, false_or, and_true, true_and, not_true_eq_false, not_false_eq_true, t_pt]
  · rw [← hO.2.1]; simp (disch := omega) only [e_let, e_call, e_cal0, e_bind, e_lit, e_ofN, e_neg, nI_add, pk_mul, e_sub, e_ldi, e_sti, e_ldj, e_stj, e_le_t, e_le_f, e_lt_t, e_lt_f, e_eq_t, e_eq_f, e_no_eq, e_no_eq', e_no_rfl, e_no_lt, e_no_le, e_le_no, e_lt_no, if_true, if_false, ↓reduceIte, e_rs, e_rq, e_rn, e_ji, e_ki, e_ij, e_kj, e_js, e_jq, e_jn, e_cs, e_cq, e_jc, e_kc, e_js', e_jcq, e_icj, e_kcj, or_true, true_or, or_false, false_or, and_true, true_and, not_true_eq_false, not_false_eq_true, t_pt]
  · rw [← hO.2.1]; simp (disch := omega) only [e_let, e_call, e_cal0, e_bind, e_lit, e_ofN, e_neg, nI_add, pk_mul, e_sub, e_ldi, e_sti, e_ldj, e_stj, e_le_t, e_le_f, e_lt_t, e_lt_f, e_eq_t, e_eq_f, e_no_eq, e_no_eq', e_no_rfl, e_no_lt, e_no_le, e_le_no, e_lt_no, if_true, if_false, ↓reduceIte, e_rs, e_rq, e_rn, e_ji, e_ki, e_ij, e_kj, e_js, e_jq, e_jn, e_cs, e_cq, e_jc, e_kc, e_js', e_jcq, e_icj, e_kcj, or_true, true_or, or_false, false_or, and_true, true_and, not_true_eq_false, not_false_eq_true, t_pt]
  · exact (t_O.of (hO.wide (by omega) (by omega))).tr ((((t_O.rf.si (by omega) (by omega)).si (by omega) (by omega)).sj (by omega) (by omega)).si (by omega) (by omega))
theorem t_pt_v {a b : Int32} {c : Int64} : m_ri (t_pt x S s a b c) (x + 27) s = a ∧ m_ri (t_pt x S s a b c) (x + 28) s = b ∧ m_rj (t_pt x S s a b c) (x + 29) s = c := by
  refine ⟨?_, ?_, ?_⟩ <;> simp (disch := omega) only [e_let, e_call, e_cal0, e_bind, e_lit, e_ofN, e_neg, nI_add, pk_mul, e_sub, e_ldi, e_sti, e_ldj, e_stj, e_le_t, e_le_f, e_lt_t, e_lt_f, e_eq_t, e_eq_f, e_no_eq, e_no_eq', e_no_rfl, e_no_lt, e_no_le, e_le_no, e_lt_no, if_true, if_false, ↓reduceIte, e_rs, e_rq, e_rn, e_ji, e_ki, e_ij, e_kj, e_js, e_jq, e_jn, e_cs, e_cq, e_jc, e_kc, e_js', e_jcq, e_icj, e_kcj, or_true, true_or, or_false, false_or, and_true, true_and, not_true_eq_false, not_false_eq_true, t_pt]
theorem k_rl {S : m_M} (hZ : t_Z S x t N) (hq : q < N) (hw : t_w (t q)) (h5 : m_ri S (x + 25) 5 = nI N) (h6 : m_ri S (x + 25) 6 = nI q) (h7 : m_ri S (x + 25) 7 = nI s) (hs : s < 901) :
    ∃ S', f_X9_readLettersAndDigits x S = some S' ∧ t_c2 S' x t N s q ∧ t_h S S' x s (t_R t N q) := by
  have hfu := m_fu_ge
  have hN := hZ.2.2.1
  have hlt := t_R_gt hq hw
  have hle := (t_R_le (t := t) (N := N) (N - q) q rfl (by omega)).2
  obtain ⟨n, hn⟩ : ∃ n, t_R t N q = q + n := ⟨t_R t N q - q, by omega⟩
  obtain ⟨S', l3', l5', a1, a2, a3, a4, a5, a6⟩ := k_rl12 (x := x) (t := t) (N := N) (q := q) n 0 m_fu S 0 (nI 0) hZ (by omega) rfl (by omega) (by omega) h5 h6 (fun _ => rfl) (fun _ _ => rfl)
  rw [Nat.zero_add] at a1 a2 a3 a4
  have h0' : m_ri S' (x + 25) 0 = nI 900 := by rw [a5 0 (by omega)]; exact hZ.2.2.1.2
  have h7' : m_ri S' (x + 25) 7 = nI s := by rw [a5 7 (by omega)]; exact h7
  have hk : ∀ i, i < 22 → m_rj S' (x + 26) i = t_kw i := fun i hi => by rw [a6.2.1]; exact hZ.2.1 i hi
  have hkw := k_kwOf (w := l3') hk
  have hdn : t_R t N q - q = n := by omega
  have hdl := t_dc_le (t := t) (q := q) n
  have hp := fun (a b : Int32) (c : Int64) => k_put (S := S') (x := x) (a := a) (b := b) (c := c) h0' h7' hs
  have hst : f_X9_readLettersAndDigits x S = b_X9_readLettersAndDigits_109 x S' (nI q) (nI (t_dc t q n)) l3' l5' := by
    rw [← a1]
    simp (disch := omega) only [e_let, e_call, e_cal0, e_bind, e_lit, e_ofN, e_neg, nI_add, pk_mul, e_sub, e_ldi, e_sti, e_ldj, e_stj, e_le_t, e_le_f, e_lt_t, e_lt_f, e_eq_t, e_eq_f, e_no_eq, e_no_eq', e_no_rfl, e_no_lt, e_no_le, e_le_no, e_lt_no, if_true, if_false, ↓reduceIte, e_rs, e_rq, e_rn, e_ji, e_ki, e_ij, e_kj, e_js, e_jq, e_jn, e_cs, e_cq, e_jc, e_kc, e_js', e_jcq, e_icj, e_kcj, or_true, true_or, or_false, false_or, and_true, true_and, not_true_eq_false, not_false_eq_true, f_X9_readLettersAndDigits, h6]
    rfl
  have hth := fun (a b : Int32) (c : Int64) => t_h_pt (S := S') (S0 := S) (x := x) (s := s) (a := a) (b := b) (c := c) a4 a5 a6
  rw [hn]
  simp only [t_c2, hdn]
  have hkk : t_k t N q = (if t_dc t q n = 0 ∧ n ≤ 7 then (if t_ki (t_wv t q n) < 22 then 3 else 2) else if t_dc t q n = n ∧ n ≤ 3 then 4 else 1) := by
    rw [t_k, if_pos hw, hdn]
  by_cases hd0 : t_dc t q n = 0
  · by_cases h7n : n ≤ 7
    · rw [if_pos ⟨hd0, h7n⟩] at hkk
      have hl := a2 hd0
      subst hl
      by_cases hi : t_ki (t_wv t q n) < 22
      · rw [if_pos hi] at hkk hkw
        refine ⟨t_pt x S' s (nI 3) (nI q) (nI (t_ki (t_wv t q n))).toInt64, ?_, ?_, hth _ _ _⟩
        · rw [hst, hd0]
          simp (disch := omega) only [e_let, e_call, e_cal0, e_bind, e_lit, e_ofN, e_neg, nI_add, pk_mul, e_sub, e_ldi, e_sti, e_ldj, e_stj, e_le_t, e_le_f, e_lt_t, e_lt_f, e_eq_t, e_eq_f, e_no_eq, e_no_eq', e_no_rfl, e_no_lt, e_no_le, e_le_no, e_lt_no, if_true, if_false, ↓reduceIte, e_rs, e_rq, e_rn, e_ji, e_ki, e_ij, e_kj, e_js, e_jq, e_jn, e_cs, e_cq, e_jc, e_kc, e_js', e_jcq, e_icj, e_kcj, or_true, true_or, or_false, false_or, and_true, true_and, not_true_eq_false, not_false_eq_true, b_X9_readLettersAndDigits_109, a4, hkw, b_X9_readLettersAndDigits_144, b_X9_readLettersAndDigits_159, hp, b_X9_readLettersAndDigits_201, Nat.add_sub_cancel_left]
        · rw [hkk]
          obtain ⟨v1, v2, v3⟩ := t_pt_v (S := S') (x := x) (s := s) (a := nI 3) (b := nI q) (c := (nI (t_ki (t_wv t q n))).toInt64)
          exact ⟨v1, v2, fun h => by omega, fun _ => v3, fun h => by omega, fun h => by omega⟩
      · rw [if_neg hi] at hkk hkw
        refine ⟨t_pt x S' s (nI 2) (nI q) (t_wv t q n), ?_, ?_, hth _ _ _⟩
        · rw [hst, hd0]
          simp (disch := omega) only [e_let, e_call, e_cal0, e_bind, e_lit, e_ofN, e_neg, nI_add, pk_mul, e_sub, e_ldi, e_sti, e_ldj, e_stj, e_le_t, e_le_f, e_lt_t, e_lt_f, e_eq_t, e_eq_f, e_no_eq, e_no_eq', e_no_rfl, e_no_lt, e_no_le, e_le_no, e_lt_no, if_true, if_false, ↓reduceIte, e_rs, e_rq, e_rn, e_ji, e_ki, e_ij, e_kj, e_js, e_jq, e_jn, e_cs, e_cq, e_jc, e_kc, e_js', e_jcq, e_icj, e_kcj, or_true, true_or, or_false, false_or, and_true, true_and, not_true_eq_false, not_false_eq_true, b_X9_readLettersAndDigits_109, a4, hkw, b_X9_readLettersAndDigits_144, b_X9_readLettersAndDigits_159, hp, b_X9_readLettersAndDigits_201, Nat.add_sub_cancel_left]
        · rw [hkk]
          obtain ⟨v1, v2, v3⟩ := t_pt_v (S := S') (x := x) (s := s) (a := nI 2) (b := nI q) (c := t_wv t q n)
          exact ⟨v1, v2, fun _ => v3, fun h => by omega, fun h => by omega, fun h => by omega⟩
    · rw [if_neg (fun g => h7n g.2), if_neg (fun g => by omega)] at hkk
      refine ⟨t_pt x S' s (nI 1) (nI q) (-1), ?_, ?_, hth _ _ _⟩
      · rw [hst, hd0]
        simp (disch := omega) only [e_let, e_call, e_cal0, e_bind, e_lit, e_ofN, e_neg, nI_add, pk_mul, e_sub, e_ldi, e_sti, e_ldj, e_stj, e_le_t, e_le_f, e_lt_t, e_lt_f, e_eq_t, e_eq_f, e_no_eq, e_no_eq', e_no_rfl, e_no_lt, e_no_le, e_le_no, e_lt_no, if_true, if_false, ↓reduceIte, e_rs, e_rq, e_rn, e_ji, e_ki, e_ij, e_kj, e_js, e_jq, e_jn, e_cs, e_cq, e_jc, e_kc, e_js', e_jcq, e_icj, e_kcj, or_true, true_or, or_false, false_or, and_true, true_and, not_true_eq_false, not_false_eq_true, b_X9_readLettersAndDigits_109, a4, b_X9_readLettersAndDigits_165, b_X9_readLettersAndDigits_192, hp, b_X9_readLettersAndDigits_201, Nat.add_sub_cancel_left]
      · rw [hkk]
        obtain ⟨v1, v2, v3⟩ := t_pt_v (S := S') (x := x) (s := s) (a := nI 1) (b := nI q) (c := -1)
        exact ⟨v1, v2, fun h => by omega, fun h => by omega, fun h => by omega, fun h => by omega⟩
  · rw [if_neg (fun g => hd0 g.1)] at hkk
    by_cases h3 : t_dc t q n = n ∧ n ≤ 3
    · rw [if_pos h3] at hkk
      have hl := a3 h3.1 h3.2
      subst hl
      refine ⟨t_pt x S' s (nI 4) (nI q) (nI (t_nv t q n)).toInt64, ?_, ?_, hth _ _ _⟩
      · rw [hst, h3.1]
        simp (disch := omega) only [e_let, e_call, e_cal0, e_bind, e_lit, e_ofN, e_neg, nI_add, pk_mul, e_sub, e_ldi, e_sti, e_ldj, e_stj, e_le_t, e_le_f, e_lt_t, e_lt_f, e_eq_t, e_eq_f, e_no_eq, e_no_eq', e_no_rfl, e_no_lt, e_no_le, e_le_no, e_lt_no, if_true, if_false, ↓reduceIte, e_rs, e_rq, e_rn, e_ji, e_ki, e_ij, e_kj, e_js, e_jq, e_jn, e_cs, e_cq, e_jc, e_kc, e_js', e_jcq, e_icj, e_kcj, or_true, true_or, or_false, false_or, and_true, true_and, not_true_eq_false, not_false_eq_true, b_X9_readLettersAndDigits_109, a4, b_X9_readLettersAndDigits_165, hp, b_X9_readLettersAndDigits_201, Nat.add_sub_cancel_left]
      · rw [hkk]
        obtain ⟨v1, v2, v3⟩ := t_pt_v (S := S') (x := x) (s := s) (a := nI 4) (b := nI q) (c := (nI (t_nv t q n)).toInt64)
        exact ⟨v1, v2, fun h => by omega, fun h => by omega, fun _ => v3, fun h => by omega⟩
    · rw [if_neg h3] at hkk
      refine ⟨t_pt x S' s (nI 1) (nI q) (-1), ?_, ?_, hth _ _ _⟩
      · rw [hst]
        by_cases h4 : t_dc t q n = n
        · have h5' : ¬ n ≤ 3 := fun g => h3 ⟨h4, g⟩
          rw [h4]
          simp (disch := omega) only [e_let, e_call, e_cal0, e_bind, e_lit, e_ofN, e_neg, nI_add, pk_mul, e_sub, e_ldi, e_sti, e_ldj, e_stj, e_le_t, e_le_f, e_lt_t, e_lt_f, e_eq_t, e_eq_f, e_no_eq, e_no_eq', e_no_rfl, e_no_lt, e_no_le, e_le_no, e_lt_no, if_true, if_false, ↓reduceIte, e_rs, e_rq, e_rn, e_ji, e_ki, e_ij, e_kj, e_js, e_jq, e_jn, e_cs, e_cq, e_jc, e_kc, e_js', e_jcq, e_icj, e_kcj, or_true, true_or, or_false, false_or, and_true, true_and, not_true_eq_false, not_false_eq_true, b_X9_readLettersAndDigits_109, a4, b_X9_readLettersAndDigits_165, b_X9_readLettersAndDigits_192, hp, b_X9_readLettersAndDigits_201, Nat.add_sub_cancel_left]
        · simp (disch := omega) only [e_let, e_call, e_cal0, e_bind, e_lit, e_ofN, e_neg, nI_add, pk_mul, e_sub, e_ldi, e_sti, e_ldj, e_stj, e_le_t, e_le_f, e_lt_t, e_lt_f, e_eq_t, e_eq_f, e_no_eq, e_no_eq', e_no_rfl, e_no_lt, e_no_le, e_le_no, e_lt_no, if_true, if_false, ↓reduceIte, e_rs, e_rq, e_rn, e_ji, e_ki, e_ij, e_kj, e_js, e_jq, e_jn, e_cs, e_cq, e_jc, e_kc, e_js', e_jcq, e_icj, e_kcj, or_true, true_or, or_false, false_or, and_true, true_and, not_true_eq_false, not_false_eq_true, b_X9_readLettersAndDigits_109, a4, b_X9_readLettersAndDigits_165, b_X9_readLettersAndDigits_192, hp, b_X9_readLettersAndDigits_201, Nat.add_sub_cancel_left]
      · rw [hkk]
        obtain ⟨v1, v2, v3⟩ := t_pt_v (S := S') (x := x) (s := s) (a := nI 1) (b := nI q) (c := -1)
        exact ⟨v1, v2, fun h => by omega, fun h => by omega, fun h => by omega, fun h => by omega⟩
end TC
