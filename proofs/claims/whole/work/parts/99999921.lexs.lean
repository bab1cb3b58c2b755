/-! the pieces of a sentence: the one side (991, 992, 994, 996, 999 turned to the other Tokens, by turn.py) -/
/-! the pieces of a text: the one side -/
def t_Zs (S : m_M) (x : Nat) (t : Nat → Nat) (N : Nat) : Prop := (∀ i, i < N → m_ri S (x + 1) i = t_b (t i)) ∧ (∀ i, i < 22 → m_rj S (x + 38) i = t_kw i) ∧ (N ≤ 940 ∧ m_ri S (x + 37) 0 = nI 200) ∧ ∀ i, t i < 256
/-- one piece as it is kept -/
def t_c1s (S : m_M) (x : Nat) (t : Nat → Nat) (N L j p : Nat) : Prop := m_ri S (x + 39) j = nI (t_K t N L p) ∧ m_ri S (x + 40) j = nI (t_F t N L p) ∧ (t_K t N L p = 2 → m_rj S (x + 41) j = t_W t N p) ∧ (t_K t N L p = 3 → m_rj S (x + 41) j = (nI (t_ki (t_W t N p))).toInt64) ∧ (t_K t N L p = 4 → m_rj S (x + 41) j = (nI (t_M t N p)).toInt64) ∧ (t_K t N L p = 5 → m_rj S (x + 41) j = (nI (t_G t N p)).toInt64)
/-- all pieces as they are kept -/
def t_As (S : m_M) (x : Nat) (t : Nat → Nat) (N L K : Nat) : Prop := m_ri S (x + 37) 7 = nI (K + 1) ∧ K ≤ 200 ∧ (∀ j, j ≤ K → t_c1s S x t N L j (t_P t N j)) ∧ t_K t N L (t_P t N K) ≤ 1
/-- the piece that is looked at begins at p -/
def t_Cs (S : m_M) (x : Nat) (t : Nat → Nat) (N L p : Nat) : Prop := ∃ k K, k ≤ K ∧ t_As S x t N L K ∧ p = t_P t N k ∧ m_ri S (x + 37) 8 = nI k ∧ m_ri S (x + 37) 9 = nI (t_K t N L p) ∧ m_ri S (x + 37) 10 = nI (t_F t N L p) ∧ m_ri S (x + 37) 11 = (if t_K t N L p = 3 then nI (t_ki (t_W t N p)) else m_no) ∧ m_ri S (x + 37) 12 = (if t_K t N L p = 4 then nI (t_M t N p) else m_no) ∧ m_ri S (x + 37) 13 = (if t_K t N L p = 5 then nI (t_G t N p) else m_no) ∧ m_rj S (x + 37) 14 = (if t_K t N L p = 2 then t_W t N p else -1)
/-- one piece more is kept -/
def t_pts (x : Nat) (S : m_M) (s : Nat) (a b : Int32) (c : Int64) : m_M := m_si (m_sj (m_si (m_si S (x + 39) s a) (x + 40) s b) (x + 41) s c) (x + 37) 7 (nI (s + 1))
section TCs
variable {S : m_M} {x : Nat} {t : Nat → Nat} {N L p q k K s : Nat}
theorem k_puts {a b : Int32} {c : Int64} (h0 : m_ri S (x + 37) 0 = nI 200) (h7 : m_ri S (x + 37) 7 = nI s) (hs : s < 201) : f_X9s_put x S a b c = some (t_pts x S s a b c) := by
  simp (disch := omega) only [e_let, e_call, e_cal0, e_bind, e_lit, e_ofN, e_neg, nI_add, pk_mul, e_sub, e_ldi, e_sti, e_ldj, e_stj, e_le_t, e_le_f, e_lt_t, e_lt_f, e_eq_t, e_eq_f, e_no_eq, e_no_eq', e_no_rfl, e_no_lt, e_no_le, e_le_no, e_lt_no, if_true, if_false, ↓reduceIte, e_rs, e_rq, e_rn, e_ji, e_ki, e_ij, e_kj, e_js, e_jq, e_jn, e_cs, e_cq, e_jc, e_kc, e_js', e_jcq, e_icj, e_kcj, or_true, true_or, or_false, false_or, and_true, true_and, not_true_eq_false, not_false_eq_true, f_X9s_put, h0, h7, b_X9s_put_51, t_pts]
theorem k_kwOfs {w : Int64} (hk : ∀ i, i < 22 → m_rj S (x + 38) i = t_kw i) : f_X9s_keywordOf x S w = some (if t_ki w < 22 then nI (t_ki w) else m_no, S) := by
  have hfu := m_fu_ge
  have : ∀ (c i fu : Nat), c + i = 22 → c < fu → b_X9s_keywordOf_2 x fu S w (nI i) = some (if t_kf w c i < 22 then nI (t_kf w c i) else m_no, S) := by
    intro c
    induction c with
    | zero =>
      intro i fu h hf
      obtain ⟨fu, rfl⟩ : ∃ f, fu = f + 1 := ⟨fu - 1, by omega⟩
      rw [t_kf, if_neg (Nat.lt_irrefl 22)]
      simp (disch := omega) only [e_let, e_call, e_cal0, e_bind, e_lit, e_ofN, e_neg, nI_add, pk_mul, e_sub, e_ldi, e_sti, e_ldj, e_stj, e_le_t, e_le_f, e_lt_t, e_lt_f, e_eq_t, e_eq_f, e_no_eq, e_no_eq', e_no_rfl, e_no_lt, e_no_le, e_le_no, e_lt_no, if_true, if_false, ↓reduceIte, e_rs, e_rq, e_rn, e_ji, e_ki, e_ij, e_kj, e_js, e_jq, e_jn, e_cs, e_cq, e_jc, e_kc, e_js', e_jcq, e_icj, e_kcj, or_true, true_or, or_false, false_or, and_true, true_and, not_true_eq_false, not_false_eq_true, b_X9s_keywordOf_2]
    | succ c ih =>
      intro i fu h hf
      obtain ⟨fu, rfl⟩ : ∃ f, fu = f + 1 := ⟨fu - 1, by omega⟩
      have hi := hk i (by omega)
      have hn := ih (i + 1) fu (by omega) (by omega)
      rw [t_kf]
      by_cases hw : t_kw i = w
      · rw [if_pos hw, if_pos (by omega)]
        simp (disch := omega) only [e_let, e_call, e_cal0, e_bind, e_lit, e_ofN, e_neg, nI_add, pk_mul, e_sub, e_ldi, e_sti, e_ldj, e_stj, e_le_t, e_le_f, e_lt_t, e_lt_f, e_eq_t, e_eq_f, e_no_eq, e_no_eq', e_no_rfl, e_no_lt, e_no_le, e_le_no, e_lt_no, if_true, if_false, ↓reduceIte, e_rs, e_rq, e_rn, e_ji, e_ki, e_ij, e_kj, e_js, e_jq, e_jn, e_cs, e_cq, e_jc, e_kc, e_js', e_jcq, e_icj, e_kcj, or_true, true_or, or_false, false_or, and_true, true_and, not_true_eq_false, not_false_eq_true, b_X9s_keywordOf_2, hi, e_lg, hw]
      · rw [if_neg hw, ← hn]
        simp (disch := omega) only [e_let, e_call, e_cal0, e_bind, e_lit, e_ofN, e_neg, nI_add, pk_mul, e_sub, e_ldi, e_sti, e_ldj, e_stj, e_le_t, e_le_f, e_lt_t, e_lt_f, e_eq_t, e_eq_f, e_no_eq, e_no_eq', e_no_rfl, e_no_lt, e_no_le, e_le_no, e_lt_no, if_true, if_false, ↓reduceIte, e_rs, e_rq, e_rn, e_ji, e_ki, e_ij, e_kj, e_js, e_jq, e_jn, e_cs, e_cq, e_jc, e_kc, e_js', e_jcq, e_icj, e_kcj, or_true, true_or, or_false, false_or, and_true, true_and, not_true_eq_false, not_false_eq_true, b_X9s_keywordOf_2, hi, e_lg, hw]
  rw [f_X9s_keywordOf]
  exact this 22 0 m_fu rfl (by omega)
theorem k_rl12s : ∀ (c n fu : Nat) (S : m_M) (l3 : Int64) (l5 : Int32), t_Zs S x t N → q + n + c = t_R t N q → t_R t N (q + n) = t_R t N q → q + n ≤ N → c < fu → m_ri S (x + 37) 5 = nI N → m_ri S (x + 37) 6 = nI (q + n) → (t_dc t q n = 0 → l3 = t_wv t q n) → (t_dc t q n = n → n ≤ 3 → l5 = nI (t_nv t q n)) →
    ∃ S' l3' l5', b_X9s_readLettersAndDigits_13 x fu S (nI q) (nI (t_dc t q n)) l3 l5 = b_X9s_readLettersAndDigits_109 x S' (nI q) (nI (t_dc t q (n + c))) l3' l5' ∧ (t_dc t q (n + c) = 0 → l3' = t_wv t q (n + c)) ∧ (t_dc t q (n + c) = n + c → n + c ≤ 3 → l5' = nI (t_nv t q (n + c))) ∧ m_ri S' (x + 37) 6 = nI (q + (n + c)) ∧ (∀ i, i ≠ 6 → m_ri S' (x + 37) i = m_ri S (x + 37) i) ∧ e_O (x + 37) (x + 38) S S' := by
  intro c
  induction c with
  | zero =>
    intro n fu S l3 l5 hZ h1 h2 h3 hf h5 h6 hl hd
    obtain ⟨fu, rfl⟩ : ∃ f, fu = f + 1 := ⟨fu - 1, by omega⟩
    refine ⟨S, l3, l5, ?_, hl, hd, h6, fun _ _ => rfl, e_O.rf⟩
    have hc := t_R_c (t := t) (N := N) (p := q + n) (by omega)
    have hN := hZ.2.2.1
    by_cases hN' : N ≤ q + n
    · simp (disch := omega) only [e_let, e_call, e_cal0, e_bind, e_lit, e_ofN, e_neg, nI_add, pk_mul, e_sub, e_ldi, e_sti, e_ldj, e_stj, e_le_t, e_le_f, e_lt_t, e_lt_f, e_eq_t, e_eq_f, e_no_eq, e_no_eq', e_no_rfl, e_no_lt, e_no_le, e_le_no, e_lt_no, if_true, if_false, ↓reduceIte, e_rs, e_rq, e_rn, e_ji, e_ki, e_ij, e_kj, e_js, e_jq, e_jn, e_cs, e_cq, e_jc, e_kc, e_js', e_jcq, e_icj, e_kcj, or_true, true_or, or_false, false_or, and_true, true_and, not_true_eq_false, not_false_eq_true, b_X9s_readLettersAndDigits_13, h5, h6, Nat.add_zero]
    · have hb := hZ.1 (q + n) (by omega)
      have hw : ¬ t_w (t (q + n)) := fun g => hc ⟨by omega, g⟩
      have e1 := k_isLt (S := S) (hZ.2.2.2 (q + n))
      have e2 := k_isDg (S := S) (hZ.2.2.2 (q + n))
      rw [if_neg (fun g => hw (Or.inl g))] at e1
      rw [if_neg (fun g => hw (Or.inr g))] at e2
      simp (disch := omega) only [e_let, e_call, e_cal0, e_bind, e_lit, e_ofN, e_neg, nI_add, pk_mul, e_sub, e_ldi, e_sti, e_ldj, e_stj, e_le_t, e_le_f, e_lt_t, e_lt_f, e_eq_t, e_eq_f, e_no_eq, e_no_eq', e_no_rfl, e_no_lt, e_no_le, e_le_no, e_lt_no, if_true, if_false, ↓reduceIte, e_rs, e_rq, e_rn, e_ji, e_ki, e_ij, e_kj, e_js, e_jq, e_jn, e_cs, e_cq, e_jc, e_kc, e_js', e_jcq, e_icj, e_kcj, or_true, true_or, or_false, false_or, and_true, true_and, not_true_eq_false, not_false_eq_true, b_X9s_readLettersAndDigits_13, h5, h6, hb, e1, e2, Nat.add_zero]
  | succ c ih =>
    intro n fu S l3 l5 hZ h1 h2 h3 hf h5 h6 hl hd
    obtain ⟨fu, rfl⟩ : ∃ f, fu = f + 1 := ⟨fu - 1, by omega⟩
    have hN := hZ.2.2.1
    obtain ⟨g1, g2, g3⟩ := t_R_s (t := t) (N := N) (p := q + n) (by omega)
    have hb := hZ.1 (q + n) (by omega)
    have e1 := k_isLt (S := S) (hZ.2.2.2 (q + n))
    have e2 := k_isDg (S := S) (hZ.2.2.2 (q + n))
    have hZ' : ∀ v, t_Zs (m_si S (x + 37) 6 v) x t N := fun v => ⟨fun i hi => by rw [e_rq (by omega)]; exact hZ.1 i hi, hZ.2.1, ⟨hZ.2.2.1.1, by rw [e_rn (by omega)]; exact hZ.2.2.1.2⟩, hZ.2.2.2⟩
    by_cases hL : t_l (t (q + n))
    · have hnd : ¬ t_d (t (q + n)) := by omega
      rw [if_pos hL] at e1
      rw [if_neg hnd] at e2
      have hbb : t_b (t (q + n)) = nI (t (q + n)) := t_b_p (by omega)
      rw [hbb] at hb e1 e2
      obtain ⟨S', l3', l5', a1, a2, a3, a4, a5, a6⟩ := ih (n + 1) fu (m_si S (x + 37) 6 (nI (q + n + 1))) (l3 * 27 + (nI (t (q + n) - 97 + 1)).toInt64) l5 (hZ' _) (by omega) (by rw [← Nat.add_assoc, g3, h2]) (by omega) (by omega) (by rw [e_rn (by omega)]; exact h5) (by rw [e_rs]; rfl)
        (fun h => by
          rw [t_dc_l hL] at h
          rw [hl h, t_wv, e_sub (by omega), nI_add])
        (fun h => by
          rw [t_dc_l hL] at h
          have := t_dc_le (t := t) (q := q) n
          omega)
      rw [t_dc_l hL, show n + 1 + c = n + (c + 1) by omega] at a1
      rw [show n + 1 + c = n + (c + 1) by omega] at a2 a3 a4
      refine ⟨S', l3', l5', ?_, a2, a3, a4, fun i hi => by rw [a5 i hi, e_rn hi], (e_O.rf.si (by omega) (by omega)).tr a6⟩
      rw [← a1]
      simp (disch := omega) only [e_let, e_call, e_cal0, e_bind, e_lit, e_ofN, e_neg, nI_add, pk_mul, e_sub, e_ldi, e_sti, e_ldj, e_stj, e_le_t, e_le_f, e_lt_t, e_lt_f, e_eq_t, e_eq_f, e_no_eq, e_no_eq', e_no_rfl, e_no_lt, e_no_le, e_le_no, e_lt_no, if_true, if_false, ↓reduceIte, e_rs, e_rq, e_rn, e_ji, e_ki, e_ij, e_kj, e_js, e_jq, e_jn, e_cs, e_cq, e_jc, e_kc, e_js', e_jcq, e_icj, e_kcj, or_true, true_or, or_false, false_or, and_true, true_and, not_true_eq_false, not_false_eq_true, b_X9s_readLettersAndDigits_13, h5, h6, hb, e1, e2, b_X9s_readLettersAndDigits_48, b_X9s_readLettersAndDigits_96, f_X9_withLetter]
    · have hD : t_d (t (q + n)) := g2.resolve_left hL
      rw [if_neg hL] at e1
      rw [if_pos hD] at e2
      have hbb : t_b (t (q + n)) = nI (t (q + n)) := t_b_p (by omega)
      rw [hbb] at hb e1 e2
      obtain ⟨S', l3', l5', a1, a2, a3, a4, a5, a6⟩ := ih (n + 1) fu (m_si S (x + 37) 6 (nI (q + n + 1))) l3 (l5 * nI 10 + nI (t (q + n) - 48)) (hZ' _) (by omega) (by rw [← Nat.add_assoc, g3, h2]) (by omega) (by omega) (by rw [e_rn (by omega)]; exact h5) (by rw [e_rs]; rfl)
        (fun h => by
          rw [t_dc_d hD] at h
          omega)
        (fun h hn => by
          rw [t_dc_d hD] at h
          rw [hd (by omega) (by omega), t_nv, pk_mul, nI_add])
      rw [t_dc_d hD, show n + 1 + c = n + (c + 1) by omega] at a1
      rw [show n + 1 + c = n + (c + 1) by omega] at a2 a3 a4
      refine ⟨S', l3', l5', ?_, a2, a3, a4, fun i hi => by rw [a5 i hi, e_rn hi], (e_O.rf.si (by omega) (by omega)).tr a6⟩
      rw [← a1]
      simp (disch := omega) only [e_let, e_call, e_cal0, e_bind, e_lit, e_ofN, e_neg, nI_add, pk_mul, e_sub, e_ldi, e_sti, e_ldj, e_stj, e_le_t, e_le_f, e_lt_t, e_lt_f, e_eq_t, e_eq_f, e_no_eq, e_no_eq', e_no_rfl, e_no_lt, e_no_le, e_le_no, e_lt_no, if_true, if_false, ↓reduceIte, e_rs, e_rq, e_rn, e_ji, e_ki, e_ij, e_kj, e_js, e_jq, e_jn, e_cs, e_cq, e_jc, e_kc, e_js', e_jcq, e_icj, e_kcj, or_true, true_or, or_false, false_or, and_true, true_and, not_true_eq_false, not_false_eq_true, b_X9s_readLettersAndDigits_13, h5, h6, hb, e1, e2, b_X9s_readLettersAndDigits_48, b_X9s_readLettersAndDigits_96]
/-- the piece that begins at q, kept as number s -/
def t_c2s (S : m_M) (x : Nat) (t : Nat → Nat) (N s q : Nat) : Prop := m_ri S (x + 39) s = nI (t_k t N q) ∧ m_ri S (x + 40) s = nI q ∧ (t_k t N q = 2 → m_rj S (x + 41) s = t_wv t q (t_R t N q - q)) ∧ (t_k t N q = 3 → m_rj S (x + 41) s = (nI (t_ki (t_wv t q (t_R t N q - q)))).toInt64) ∧ (t_k t N q = 4 → m_rj S (x + 41) s = (nI (t_nv t q (t_R t N q - q))).toInt64) ∧ (t_k t N q = 5 → m_rj S (x + 41) s = (nI (t q)).toInt64)
/-- what a kept piece changes -/
def t_hs (S S' : m_M) (x s e : Nat) : Prop := m_ri S' (x + 37) 6 = nI e ∧ m_ri S' (x + 37) 7 = nI (s + 1) ∧ (∀ i, i ≠ 6 → i ≠ 7 → m_ri S' (x + 37) i = m_ri S (x + 37) i) ∧ (∀ j, j ≠ s → m_ri S' (x + 39) j = m_ri S (x + 39) j ∧ m_ri S' (x + 40) j = m_ri S (x + 40) j ∧ m_rj S' (x + 41) j = m_rj S (x + 41) j) ∧ m_ri S' (x + 38) = m_ri S (x + 38) ∧ m_rj S' (x + 37) = m_rj S (x + 37) ∧ m_rj S' (x + 38) = m_rj S (x + 38) ∧ t_O (x + 37) (x + 42) S S'
theorem t_h_pts {S0 : m_M} {e : Nat} {a b : Int32} {c : Int64} (h6 : m_ri S (x + 37) 6 = nI e) (hf : ∀ i, i ≠ 6 → m_ri S (x + 37) i = m_ri S0 (x + 37) i) (hO : e_O (x + 37) (x + 38) S0 S) : t_hs S0 (t_pts x S s a b c) x s e := by
  refine ⟨?_, ?_, fun i h h' => ?_, fun j hj => ⟨?_, ?_, ?_⟩, ?_, ?_, ?_, ?_⟩
  · simp (disch := omega) only [e_let, e_call, e_cal0, e_bind, e_lit, e_ofN, e_neg, nI_add, pk_mul, e_sub, e_ldi, e_sti, e_ldj, e_stj, e_le_t, e_le_f, e_lt_t, e_lt_f, e_eq_t, e_eq_f, e_no_eq, e_no_eq', e_no_rfl, e_no_lt, e_no_le, e_le_no, e_lt_no, if_true, if_false, ↓reduceIte, e_rs, e_rq, e_rn, e_ji, e_ki, e_ij, e_kj, e_js, e_jq, e_jn, e_cs, e_cq, e_jc, e_kc, e_js', e_jcq, e_icj, e_kcj, or_true, true_or, or_false, false_or, and_true, true_and, not_true_eq_false, not_false_eq_true, t_pts, h6]
  · simp (disch := omega) only [e_let, e_call, e_cal0, e_bind, e_lit, e_ofN, e_neg, nI_add, pk_mul, e_sub, e_ldi, e_sti, e_ldj, e_stj, e_le_t, e_le_f, e_lt_t, e_lt_f, e_eq_t, e_eq_f, e_no_eq, e_no_eq', e_no_rfl, e_no_lt, e_no_le, e_le_no, e_lt_no, if_true, if_false, ↓reduceIte, e_rs, e_rq, e_rn, e_ji, e_ki, e_ij, e_kj, e_js, e_jq, e_jn, e_cs, e_cq, e_jc, e_kc, e_js', e_jcq, e_icj, e_kcj, or_true, true_or, or_false, false_or, and_true, true_and, not_true_eq_false, not_false_eq_true, t_pts]
  · simp (disch := omega) only [e_let, e_call, e_cal0, e_bind, e_lit, e_ofN, e_neg, nI_add, pk_mul, e_sub, e_ldi, e_sti, e_ldj, e_stj, e_le_t, e_le_f, e_lt_t, e_lt_f, e_eq_t, e_eq_f, e_no_eq, e_no_eq', e_no_rfl, e_no_lt, e_no_le, e_le_no, e_lt_no, if_true, if_false, ↓reduceIte, e_rs, e_rq, e_rn, e_ji, e_ki, e_ij, e_kj, e_js, e_jq, e_jn, e_cs, e_cq, e_jc, e_kc, e_js', e_jcq, e_icj, e_kcj, or_true, true_or, or_false, false_or, and_true, true_and, not_true_eq_false, not_false_eq_true, t_pts, hf i h]
  · rw [← hO.1 (x + 39) (by omega)]; simp (disch := omega) only [e_let, e_call, e_cal0, e_bind, e_lit, e_ofN, e_neg, nI_add, pk_mul, e_sub, e_ldi, e_sti, e_ldj, e_stj, e_le_t, e_le_f, e_lt_t, e_lt_f, e_eq_t, e_eq_f, e_no_eq, e_no_eq', e_no_rfl, e_no_lt, e_no_le, e_le_no, e_lt_no, if_true, if_false, ↓reduceIte, e_rs, e_rq, e_rn, e_ji, e_ki, e_ij, e_kj, e_js, e_jq, e_jn, e_cs, e_cq, e_jc, e_kc, e_js', e_jcq, e_icj, e_kcj, or_true, true_or, or_false, false_or, and_true, true_and, not_true_eq_false, not_false_eq_true, t_pts]
  · rw [← hO.1 (x + 40) (by omega)]; simp (disch := omega) only [e_let, e_call, e_cal0, e_bind, e_lit, e_ofN, e_neg, nI_add, pk_mul, e_sub, e_ldi, e_sti, e_ldj, e_stj, e_le_t, e_le_f, e_lt_t, e_lt_f, e_eq_t, e_eq_f, e_no_eq, e_no_eq', e_no_rfl, e_no_lt, e_no_le, e_le_no, e_lt_no, if_true, if_false, ↓reduceIte, e_rs, e_rq, e_rn, e_ji, e_ki, e_ij, e_kj, e_js, e_jq, e_jn, e_cs, e_cq, e_jc, e_kc, e_js', e_jcq, e_icj, e_kcj, or_true, true_or, or_false, false_or, and_true, true_and, not_true_eq_false, not_false_eq_true, t_pts]
  · rw [← hO.2.1]; simp (disch := omega) only [e_let, e_call, e_cal0, e_bind, e_lit, e_ofN, e_neg, nI_add, pk_mul, e_sub, e_ldi, e_sti, e_ldj, e_stj, e_le_t, e_le_f, e_lt_t, e_lt_f, e_eq_t, e_eq_f, e_no_eq, e_no_eq', e_no_rfl, e_no_lt, e_no_le, e_le_no, e_lt_no, if_true, if_false, ↓reduceIte, e_rs, e_rq, e_rn, e_ji, e_ki, e_ij, e_kj, e_js, e_jq, e_jn, e_cs, e_cq, e_jc, e_kc, e_js', e_jcq, e_icj, e_kcj, or_true, true_or, or_false, false_or, and_true, true_and, not_true_eq_false, not_false_eq_true, t_pts]
  · rw [← hO.1 (x + 38) (by omega)]; simp (disch := omega) only [e_let, e_call, e_cal0, e_bind, e_lit, e_ofN, e_neg, nI_add, pk_mul, e_sub, e_ldi, e_sti, e_ldj, e_stj, e_le_t, e_le_f, e_lt_t, e_lt_f, e_eq_t, e_eq_f, e_no_eq, e_no_eq', e_no_rfl, e_no_lt, e_no_le, e_le_no, e_lt_no, if_true, if_false, ↓reduceIte, e_rs, e_rq, e_rn, e_ji, e_ki, e_ij, e_kj, e_js, e_jq, e_jn, e_cs, e_cq, e_jc, e_kc, e_js', e_jcq, e_icj, e_kcj, or_true, true_or, or_false, false_or, and_true, true_and, not_true_eq_false, not_false_eq_true, t_pts]
  · rw [← hO.2.1]; simp (disch := omega) only [e_let, e_call, e_cal0, e_bind, e_lit, e_ofN, e_neg, nI_add, pk_mul, e_sub, e_ldi, e_sti, e_ldj, e_stj, e_le_t, e_le_f, e_lt_t, e_lt_f, e_eq_t, e_eq_f, e_no_eq, e_no_eq', e_no_rfl, e_no_lt, e_no_le, e_le_no, e_lt_no, if_true, if_false, ↓reduceIte, e_rs, e_rq, e_rn, e_ji, e_ki, e_ij, e_kj, e_js, e_jq, e_jn, e_cs, e_cq, e_jc, e_kc, e_js', e_jcq, e_icj, e_kcj, or_true, true_or, or_false, false_or, and_true, true_and, not_true_eq_false, not_false_eq_true, t_pts]
  · rw [← hO.2.1]; simp (disch := omega) only [e_let, e_call, e_cal0, e_bind, e_lit, e_ofN, e_neg, nI_add, pk_mul, e_sub, e_ldi, e_sti, e_ldj, e_stj, e_le_t, e_le_f, e_lt_t, e_lt_f, e_eq_t, e_eq_f, e_no_eq, e_no_eq', e_no_rfl, e_no_lt, e_no_le, e_le_no, e_lt_no, if_true, if_false, ↓reduceIte, e_rs, e_rq, e_rn, e_ji, e_ki, e_ij, e_kj, e_js, e_jq, e_jn, e_cs, e_cq, e_jc, e_kc, e_js', e_jcq, e_icj, e_kcj, or_true, true_or, or_false, false_or, and_true, true_and, not_true_eq_false, not_false_eq_true, t_pts]
  · exact (t_O.of (hO.wide (by omega) (by omega))).tr ((((t_O.rf.si (by omega) (by omega)).si (by omega) (by omega)).sj (by omega) (by omega)).si (by omega) (by omega))
theorem t_pt_vs {a b : Int32} {c : Int64} : m_ri (t_pts x S s a b c) (x + 39) s = a ∧ m_ri (t_pts x S s a b c) (x + 40) s = b ∧ m_rj (t_pts x S s a b c) (x + 41) s = c := by
  refine ⟨?_, ?_, ?_⟩ <;> simp (disch := omega) only [e_let, e_call, e_cal0, e_bind, e_lit, e_ofN, e_neg, nI_add, pk_mul, e_sub, e_ldi, e_sti, e_ldj, e_stj, e_le_t, e_le_f, e_lt_t, e_lt_f, e_eq_t, e_eq_f, e_no_eq, e_no_eq', e_no_rfl, e_no_lt, e_no_le, e_le_no, e_lt_no, if_true, if_false, ↓reduceIte, e_rs, e_rq, e_rn, e_ji, e_ki, e_ij, e_kj, e_js, e_jq, e_jn, e_cs, e_cq, e_jc, e_kc, e_js', e_jcq, e_icj, e_kcj, or_true, true_or, or_false, false_or, and_true, true_and, not_true_eq_false, not_false_eq_true, t_pts]
theorem k_rls {S : m_M} (hZ : t_Zs S x t N) (hq : q < N) (hw : t_w (t q)) (h5 : m_ri S (x + 37) 5 = nI N) (h6 : m_ri S (x + 37) 6 = nI q) (h7 : m_ri S (x + 37) 7 = nI s) (hs : s < 201) :
    ∃ S', f_X9s_readLettersAndDigits x S = some S' ∧ t_c2s S' x t N s q ∧ t_hs S S' x s (t_R t N q) := by
  have hfu := m_fu_ge
  have hN := hZ.2.2.1
  have hlt := t_R_gt hq hw
  have hle := (t_R_le (t := t) (N := N) (N - q) q rfl (by omega)).2
  obtain ⟨n, hn⟩ : ∃ n, t_R t N q = q + n := ⟨t_R t N q - q, by omega⟩
  obtain ⟨S', l3', l5', a1, a2, a3, a4, a5, a6⟩ := k_rl12s (x := x) (t := t) (N := N) (q := q) n 0 m_fu S 0 (nI 0) hZ (by omega) rfl (by omega) (by omega) h5 h6 (fun _ => rfl) (fun _ _ => rfl)
  rw [Nat.zero_add] at a1 a2 a3 a4
  have h0' : m_ri S' (x + 37) 0 = nI 200 := by rw [a5 0 (by omega)]; exact hZ.2.2.1.2
  have h7' : m_ri S' (x + 37) 7 = nI s := by rw [a5 7 (by omega)]; exact h7
  have hk : ∀ i, i < 22 → m_rj S' (x + 38) i = t_kw i := fun i hi => by rw [a6.2.1]; exact hZ.2.1 i hi
  have hkw := k_kwOfs (w := l3') hk
  have hdn : t_R t N q - q = n := by omega
  have hdl := t_dc_le (t := t) (q := q) n
  have hp := fun (a b : Int32) (c : Int64) => k_puts (S := S') (x := x) (a := a) (b := b) (c := c) h0' h7' hs
  have hst : f_X9s_readLettersAndDigits x S = b_X9s_readLettersAndDigits_109 x S' (nI q) (nI (t_dc t q n)) l3' l5' := by
    rw [← a1]
    simp (disch := omega) only [e_let, e_call, e_cal0, e_bind, e_lit, e_ofN, e_neg, nI_add, pk_mul, e_sub, e_ldi, e_sti, e_ldj, e_stj, e_le_t, e_le_f, e_lt_t, e_lt_f, e_eq_t, e_eq_f, e_no_eq, e_no_eq', e_no_rfl, e_no_lt, e_no_le, e_le_no, e_lt_no, if_true, if_false, ↓reduceIte, e_rs, e_rq, e_rn, e_ji, e_ki, e_ij, e_kj, e_js, e_jq, e_jn, e_cs, e_cq, e_jc, e_kc, e_js', e_jcq, e_icj, e_kcj, or_true, true_or, or_false, false_or, and_true, true_and, not_true_eq_false, not_false_eq_true, f_X9s_readLettersAndDigits, h6]
    rfl
  have hth := fun (a b : Int32) (c : Int64) => t_h_pts (S := S') (S0 := S) (x := x) (s := s) (a := a) (b := b) (c := c) a4 a5 a6
  rw [hn]
  simp only [t_c2s, hdn]
  have hkk : t_k t N q = (if t_dc t q n = 0 ∧ n ≤ 7 then (if t_ki (t_wv t q n) < 22 then 3 else 2) else if t_dc t q n = n ∧ n ≤ 3 then 4 else 1) := by
    rw [t_k, if_pos hw, hdn]
  by_cases hd0 : t_dc t q n = 0
  · by_cases h7n : n ≤ 7
    · rw [if_pos ⟨hd0, h7n⟩] at hkk
      have hl := a2 hd0
      subst hl
      by_cases hi : t_ki (t_wv t q n) < 22
      · rw [if_pos hi] at hkk hkw
        refine ⟨t_pts x S' s (nI 3) (nI q) (nI (t_ki (t_wv t q n))).toInt64, ?_, ?_, hth _ _ _⟩
        · rw [hst, hd0]
          simp (disch := omega) only [e_let, e_call, e_cal0, e_bind, e_lit, e_ofN, e_neg, nI_add, pk_mul, e_sub, e_ldi, e_sti, e_ldj, e_stj, e_le_t, e_le_f, e_lt_t, e_lt_f, e_eq_t, e_eq_f, e_no_eq, e_no_eq', e_no_rfl, e_no_lt, e_no_le, e_le_no, e_lt_no, if_true, if_false, ↓reduceIte, e_rs, e_rq, e_rn, e_ji, e_ki, e_ij, e_kj, e_js, e_jq, e_jn, e_cs, e_cq, e_jc, e_kc, e_js', e_jcq, e_icj, e_kcj, or_true, true_or, or_false, false_or, and_true, true_and, not_true_eq_false, not_false_eq_true, b_X9s_readLettersAndDigits_109, a4, hkw, b_X9s_readLettersAndDigits_144, b_X9s_readLettersAndDigits_159, hp, b_X9s_readLettersAndDigits_201, Nat.add_sub_cancel_left]
        · rw [hkk]
          obtain ⟨v1, v2, v3⟩ := t_pt_vs (S := S') (x := x) (s := s) (a := nI 3) (b := nI q) (c := (nI (t_ki (t_wv t q n))).toInt64)
          exact ⟨v1, v2, fun h => by omega, fun _ => v3, fun h => by omega, fun h => by omega⟩
      · rw [if_neg hi] at hkk hkw
        refine ⟨t_pts x S' s (nI 2) (nI q) (t_wv t q n), ?_, ?_, hth _ _ _⟩
        · rw [hst, hd0]
          simp (disch := omega) only [e_let, e_call, e_cal0, e_bind, e_lit, e_ofN, e_neg, nI_add, pk_mul, e_sub, e_ldi, e_sti, e_ldj, e_stj, e_le_t, e_le_f, e_lt_t, e_lt_f, e_eq_t, e_eq_f, e_no_eq, e_no_eq', e_no_rfl, e_no_lt, e_no_le, e_le_no, e_lt_no, if_true, if_false, ↓reduceIte, e_rs, e_rq, e_rn, e_ji, e_ki, e_ij, e_kj, e_js, e_jq, e_jn, e_cs, e_cq, e_jc, e_kc, e_js', e_jcq, e_icj, e_kcj, or_true, true_or, or_false, false_or, and_true, true_and, not_true_eq_false, not_false_eq_true, b_X9s_readLettersAndDigits_109, a4, hkw, b_X9s_readLettersAndDigits_144, b_X9s_readLettersAndDigits_159, hp, b_X9s_readLettersAndDigits_201, Nat.add_sub_cancel_left]
        · rw [hkk]
          obtain ⟨v1, v2, v3⟩ := t_pt_vs (S := S') (x := x) (s := s) (a := nI 2) (b := nI q) (c := t_wv t q n)
          exact ⟨v1, v2, fun _ => v3, fun h => by omega, fun h => by omega, fun h => by omega⟩
    · rw [if_neg (fun g => h7n g.2), if_neg (fun g => by omega)] at hkk
      refine ⟨t_pts x S' s (nI 1) (nI q) (-1), ?_, ?_, hth _ _ _⟩
      · rw [hst, hd0]
        simp (disch := omega) only [e_let, e_call, e_cal0, e_bind, e_lit, e_ofN, e_neg, nI_add, pk_mul, e_sub, e_ldi, e_sti, e_ldj, e_stj, e_le_t, e_le_f, e_lt_t, e_lt_f, e_eq_t, e_eq_f, e_no_eq, e_no_eq', e_no_rfl, e_no_lt, e_no_le, e_le_no, e_lt_no, if_true, if_false, ↓reduceIte, e_rs, e_rq, e_rn, e_ji, e_ki, e_ij, e_kj, e_js, e_jq, e_jn, e_cs, e_cq, e_jc, e_kc, e_js', e_jcq, e_icj, e_kcj, or_true, true_or, or_false, false_or, and_true, true_and, not_true_eq_false, not_false_eq_true, b_X9s_readLettersAndDigits_109, a4, b_X9s_readLettersAndDigits_165, b_X9s_readLettersAndDigits_192, hp, b_X9s_readLettersAndDigits_201, Nat.add_sub_cancel_left]
      · rw [hkk]
        obtain ⟨v1, v2, v3⟩ := t_pt_vs (S := S') (x := x) (s := s) (a := nI 1) (b := nI q) (c := -1)
        exact ⟨v1, v2, fun h => by omega, fun h => by omega, fun h => by omega, fun h => by omega⟩
  · rw [if_neg (fun g => hd0 g.1)] at hkk
    by_cases h3 : t_dc t q n = n ∧ n ≤ 3
    · rw [if_pos h3] at hkk
      have hl := a3 h3.1 h3.2
      subst hl
      refine ⟨t_pts x S' s (nI 4) (nI q) (nI (t_nv t q n)).toInt64, ?_, ?_, hth _ _ _⟩
      · rw [hst, h3.1]
        simp (disch := omega) only [e_let, e_call, e_cal0, e_bind, e_lit, e_ofN, e_neg, nI_add, pk_mul, e_sub, e_ldi, e_sti, e_ldj, e_stj, e_le_t, e_le_f, e_lt_t, e_lt_f, e_eq_t, e_eq_f, e_no_eq, e_no_eq', e_no_rfl, e_no_lt, e_no_le, e_le_no, e_lt_no, if_true, if_false, ↓reduceIte, e_rs, e_rq, e_rn, e_ji, e_ki, e_ij, e_kj, e_js, e_jq, e_jn, e_cs, e_cq, e_jc, e_kc, e_js', e_jcq, e_icj, e_kcj, or_true, true_or, or_false, false_or, and_true, true_and, not_true_eq_false, not_false_eq_true, b_X9s_readLettersAndDigits_109, a4, b_X9s_readLettersAndDigits_165, hp, b_X9s_readLettersAndDigits_201, Nat.add_sub_cancel_left]
      · rw [hkk]
        obtain ⟨v1, v2, v3⟩ := t_pt_vs (S := S') (x := x) (s := s) (a := nI 4) (b := nI q) (c := (nI (t_nv t q n)).toInt64)
        exact ⟨v1, v2, fun h => by omega, fun h => by omega, fun _ => v3, fun h => by omega⟩
    · rw [if_neg h3] at hkk
      refine ⟨t_pts x S' s (nI 1) (nI q) (-1), ?_, ?_, hth _ _ _⟩
      · rw [hst]
        by_cases h4 : t_dc t q n = n
        · have h5' : ¬ n ≤ 3 := fun g => h3 ⟨h4, g⟩
          rw [h4]
          simp (disch := omega) only [e_let, e_call, e_cal0, e_bind, e_lit, e_ofN, e_neg, nI_add, pk_mul, e_sub, e_ldi, e_sti, e_ldj, e_stj, e_le_t, e_le_f, e_lt_t, e_lt_f, e_eq_t, e_eq_f, e_no_eq, e_no_eq', e_no_rfl, e_no_lt, e_no_le, e_le_no, e_lt_no, if_true, if_false, ↓reduceIte, e_rs, e_rq, e_rn, e_ji, e_ki, e_ij, e_kj, e_js, e_jq, e_jn, e_cs, e_cq, e_jc, e_kc, e_js', e_jcq, e_icj, e_kcj, or_true, true_or, or_false, false_or, and_true, true_and, not_true_eq_false, not_false_eq_true, b_X9s_readLettersAndDigits_109, a4, b_X9s_readLettersAndDigits_165, b_X9s_readLettersAndDigits_192, hp, b_X9s_readLettersAndDigits_201, Nat.add_sub_cancel_left]
        · simp (disch := omega) only [e_let, e_call, e_cal0, e_bind, e_lit, e_ofN, e_neg, nI_add, pk_mul, e_sub, e_ldi, e_sti, e_ldj, e_stj, e_le_t, e_le_f, e_lt_t, e_lt_f, e_eq_t, e_eq_f, e_no_eq, e_no_eq', e_no_rfl, e_no_lt, e_no_le, e_le_no, e_lt_no, if_true, if_false, ↓reduceIte, e_rs, e_rq, e_rn, e_ji, e_ki, e_ij, e_kj, e_js, e_jq, e_jn, e_cs, e_cq, e_jc, e_kc, e_js', e_jcq, e_icj, e_kcj, or_true, true_or, or_false, false_or, and_true, true_and, not_true_eq_false, not_false_eq_true, b_X9s_readLettersAndDigits_109, a4, b_X9s_readLettersAndDigits_165, b_X9s_readLettersAndDigits_192, hp, b_X9s_readLettersAndDigits_201, Nat.add_sub_cancel_left]
      · rw [hkk]
        obtain ⟨v1, v2, v3⟩ := t_pt_vs (S := S') (x := x) (s := s) (a := nI 1) (b := nI q) (c := -1)
        exact ⟨v1, v2, fun h => by omega, fun h => by omega, fun h => by omega, fun h => by omega⟩
end TCs
/-! the pieces of a text: the one side, all -/
section TCs
variable {S : m_M} {x : Nat} {t : Nat → Nat} {N L p q k K s : Nat}
theorem k_piece_ws (hZ : t_Zs S x t N) (hp : p < N) (hw : t p = 32 ∨ t p = 10) (h6 : m_ri S (x + 37) 6 = nI p) : f_X9s_readPiece x S = some (m_si S (x + 37) 6 (nI (p + 1))) := by
  have hN := hZ.2.2.1
  have hb := hZ.1 p hp
  have e1 := k_isLt (S := S) (hZ.2.2.2 p)
  have e2 := k_isDg (S := S) (hZ.2.2.2 p)
  rw [if_neg (by omega)] at e1
  rw [if_neg (by omega)] at e2
  rw [t_b_p (by omega)] at hb e1 e2
  rcases hw with hw | hw <;> rw [hw] at hb e1 e2 <;> rw [f_X9s_readPiece, h6, e_ldi (by omega) (by omega), e_bind, hb, e1, e_call] <;> simp (disch := omega) only [e_let, e_call, e_cal0, e_bind, e_lit, e_ofN, e_neg, nI_add, pk_mul, e_sub, e_ldi, e_sti, e_ldj, e_stj, e_le_t, e_le_f, e_lt_t, e_lt_f, e_eq_t, e_eq_f, e_no_eq, e_no_eq', e_no_rfl, e_no_lt, e_no_le, e_le_no, e_lt_no, if_true, if_false, ↓reduceIte, e_rs, e_rq, e_rn, e_ji, e_ki, e_ij, e_kj, e_js, e_jq, e_jn, e_cs, e_cq, e_jc, e_kc, e_js', e_jcq, e_icj, e_kcj, or_true, true_or, or_false, false_or, and_true, true_and, not_true_eq_false, not_false_eq_true, e2, h6, b_X9s_readPiece_100]
theorem k_pieces (hZ : t_Zs S x t N) (hp : p < N) (hn : ¬ (t p = 32 ∨ t p = 10)) (h5 : m_ri S (x + 37) 5 = nI N) (h6 : m_ri S (x + 37) 6 = nI p) (h7 : m_ri S (x + 37) 7 = nI s) (hs : s < 201) :
    ∃ S', f_X9s_readPiece x S = some S' ∧ t_c2s S' x t N s p ∧ t_hs S S' x s (if t_w (t p) then t_R t N p else p + 1) := by
  have hN := hZ.2.2.1
  have hb := hZ.1 p hp
  have ht := hZ.2.2.2 p
  have e1 := k_isLt (S := S) ht
  have e2 := k_isDg (S := S) ht
  by_cases hw : t_w (t p)
  · obtain ⟨S', a1, a2, a3⟩ := k_rls hZ hp hw h5 h6 h7 hs
    rw [if_pos hw]
    refine ⟨S', ?_, a2, a3⟩
    by_cases hl : t_l (t p)
    · rw [if_pos hl] at e1
      rw [f_X9s_readPiece, h6, e_ldi (by omega) (by omega), e_bind, hb, e1, e_call]
      simp (disch := omega) only [e_let, e_call, e_cal0, e_bind, e_lit, e_ofN, e_neg, nI_add, pk_mul, e_sub, e_ldi, e_sti, e_ldj, e_stj, e_le_t, e_le_f, e_lt_t, e_lt_f, e_eq_t, e_eq_f, e_no_eq, e_no_eq', e_no_rfl, e_no_lt, e_no_le, e_le_no, e_lt_no, if_true, if_false, ↓reduceIte, e_rs, e_rq, e_rn, e_ji, e_ki, e_ij, e_kj, e_js, e_jq, e_jn, e_cs, e_cq, e_jc, e_kc, e_js', e_jcq, e_icj, e_kcj, or_true, true_or, or_false, false_or, and_true, true_and, not_true_eq_false, not_false_eq_true, b_X9s_readPiece_21, a1]
    · rw [if_neg hl] at e1
      rw [if_pos (hw.resolve_left hl)] at e2
      rw [f_X9s_readPiece, h6, e_ldi (by omega) (by omega), e_bind, hb, e1, e_call]
      rw [if_pos (show nI 0 = (0 : Int32) from rfl), e2, e_call]
      simp (disch := omega) only [e_let, e_call, e_cal0, e_bind, e_lit, e_ofN, e_neg, nI_add, pk_mul, e_sub, e_ldi, e_sti, e_ldj, e_stj, e_le_t, e_le_f, e_lt_t, e_lt_f, e_eq_t, e_eq_f, e_no_eq, e_no_eq', e_no_rfl, e_no_lt, e_no_le, e_le_no, e_lt_no, if_true, if_false, ↓reduceIte, e_rs, e_rq, e_rn, e_ji, e_ki, e_ij, e_kj, e_js, e_jq, e_jn, e_cs, e_cq, e_jc, e_kc, e_js', e_jcq, e_icj, e_kcj, or_true, true_or, or_false, false_or, and_true, true_and, not_true_eq_false, not_false_eq_true, b_X9s_readPiece_21, a1]
  · rw [if_neg hw]
    rw [if_neg (fun g => hw (Or.inl g))] at e1
    rw [if_neg (fun g => hw (Or.inr g))] at e2
    have hpt := fun (a b : Int32) (c : Int64) => k_puts (S := S) (x := x) (a := a) (b := b) (c := c) hZ.2.2.1.2 h7 hs
    have hq := fun (c : Nat) (hc : c < 128) => t_b_eq ht hc
    have q1 := hq 32 (by omega)
    have q2 := hq 10 (by omega)
    have q3 := hq 59 (by omega)
    have q4 := hq 60 (by omega)
    have q5 := hq 61 (by omega)
    have q6 := hq 62 (by omega)
    have q7 := hq 40 (by omega)
    have q8 := hq 41 (by omega)
    have n1 : ¬ t p = 32 := fun g => hn (Or.inl g)
    have n2 : ¬ t p = 10 := fun g => hn (Or.inr g)
    have hth : ∀ (a b : Int32) (c : Int64), t_hs S (m_si (t_pts x S s a b c) (x + 37) 6 (nI (p + 1))) x s (p + 1) := fun a b c => by
      obtain ⟨b1, b2, b3, b4, b5, b6, b7, b8⟩ := t_h_pts (S := S) (S0 := S) (x := x) (s := s) (a := a) (b := b) (c := c) h6 (fun _ _ => rfl) e_O.rf
      refine ⟨e_rs, ?_, fun i h h' => ?_, fun j hj => ?_, ?_, b6, b7, b8.si (by omega) (by omega)⟩
      · rw [e_rn (by omega)]; exact b2
      · rw [e_rn h]; exact b3 i h h'
      · rw [e_rq (by omega), e_rq (by omega), e_ji]; exact b4 j hj
      · rw [e_rq (by omega)]; exact b5
    have hv : ∀ (a : Int32) (c : Int64), m_ri (m_si (t_pts x S s a (nI p) c) (x + 37) 6 (nI (p + 1))) (x + 39) s = a ∧ m_ri (m_si (t_pts x S s a (nI p) c) (x + 37) 6 (nI (p + 1))) (x + 40) s = nI p ∧ m_rj (m_si (t_pts x S s a (nI p) c) (x + 37) 6 (nI (p + 1))) (x + 41) s = c := fun a c => by
      rw [e_rq (by omega), e_rq (by omega), e_ji]; exact t_pt_vs
    have h6' : ∀ (a b : Int32) (c : Int64), m_ri (t_pts x S s a b c) (x + 37) 6 = nI p := fun a b c => by simp (disch := omega) only [e_let, e_call, e_cal0, e_bind, e_lit, e_ofN, e_neg, nI_add, pk_mul, e_sub, e_ldi, e_sti, e_ldj, e_stj, e_le_t, e_le_f, e_lt_t, e_lt_f, e_eq_t, e_eq_f, e_no_eq, e_no_eq', e_no_rfl, e_no_lt, e_no_le, e_le_no, e_lt_no, if_true, if_false, ↓reduceIte, e_rs, e_rq, e_rn, e_ji, e_ki, e_ij, e_kj, e_js, e_jq, e_jn, e_cs, e_cq, e_jc, e_kc, e_js', e_jcq, e_icj, e_kcj, or_true, true_or, or_false, false_or, and_true, true_and, not_true_eq_false, not_false_eq_true, t_pts, h6]
    by_cases hg : t_g (t p)
    · have hk : t_k t N p = 5 := by rw [t_k, if_neg hw, if_pos hg]
      refine ⟨m_si (t_pts x S s (nI 5) (nI p) (t_b (t p)).toInt64) (x + 37) 6 (nI (p + 1)), ?_, ?_, hth _ _ _⟩
      · rcases hg with g | g | g | g | g | g <;> rw [f_X9s_readPiece, h6, e_ldi (by omega) (by omega), e_bind, hb, e1, e_call] <;> rw [if_pos (show nI 0 = (0 : Int32) from rfl), e2, e_call, if_pos (show nI 0 = (0 : Int32) from rfl)] <;> simp (disch := omega) only [e_let, e_call, e_cal0, e_bind, e_lit, e_ofN, e_neg, nI_add, pk_mul, e_sub, e_ldi, e_sti, e_ldj, e_stj, e_le_t, e_le_f, e_lt_t, e_lt_f, e_eq_t, e_eq_f, e_no_eq, e_no_eq', e_no_rfl, e_no_lt, e_no_le, e_le_no, e_lt_no, if_true, if_false, ↓reduceIte, e_rs, e_rq, e_rn, e_ji, e_ki, e_ij, e_kj, e_js, e_jq, e_jn, e_cs, e_cq, e_jc, e_kc, e_js', e_jcq, e_icj, e_kcj, or_true, true_or, or_false, false_or, and_true, true_and, not_true_eq_false, not_false_eq_true, h6, q1, q2, q3, q4, q5, q6, q7, q8, n1, n2, g, b_X9s_readPiece_75, b_X9s_readPiece_80, b_X9s_readPiece_91, hpt, b_X9s_readPiece_100, h6'] <;> (rw [t_b_p (by omega)]) <;> rfl
      · simp only [t_c2s, hk]
        obtain ⟨v1, v2, v3⟩ := hv (nI 5) (t_b (t p)).toInt64
        refine ⟨v1, v2, fun h => by omega, fun h => by omega, fun h => by omega, fun _ => ?_⟩
        rw [v3, t_b_p (by omega)]
    · have hk : t_k t N p = 1 := by rw [t_k, if_neg hw, if_neg hg]
      have n3 : ¬ t p = 59 := fun g => hg (by omega)
      have n4 : ¬ t p = 60 := fun g => hg (by omega)
      have n5 : ¬ t p = 61 := fun g => hg (by omega)
      have n6 : ¬ t p = 62 := fun g => hg (by omega)
      have n7 : ¬ t p = 40 := fun g => hg (by omega)
      have n8 : ¬ t p = 41 := fun g => hg (by omega)
      refine ⟨m_si (t_pts x S s (nI 1) (nI p) (t_b (t p)).toInt64) (x + 37) 6 (nI (p + 1)), ?_, ?_, hth _ _ _⟩
      · rw [f_X9s_readPiece, h6, e_ldi (by omega) (by omega), e_bind, hb, e1, e_call]
        rw [if_pos (show nI 0 = (0 : Int32) from rfl), e2, e_call, if_pos (show nI 0 = (0 : Int32) from rfl)]
        simp (disch := omega) only [e_let, e_call, e_cal0, e_bind, e_lit, e_ofN, e_neg, nI_add, pk_mul, e_sub, e_ldi, e_sti, e_ldj, e_stj, e_le_t, e_le_f, e_lt_t, e_lt_f, e_eq_t, e_eq_f, e_no_eq, e_no_eq', e_no_rfl, e_no_lt, e_no_le, e_le_no, e_lt_no, if_true, if_false, ↓reduceIte, e_rs, e_rq, e_rn, e_ji, e_ki, e_ij, e_kj, e_js, e_jq, e_jn, e_cs, e_cq, e_jc, e_kc, e_js', e_jcq, e_icj, e_kcj, or_true, true_or, or_false, false_or, and_true, true_and, not_true_eq_false, not_false_eq_true, h6, q1, q2, q3, q4, q5, q6, q7, q8, n1, n2, n3, n4, n5, n6, n7, n8, b_X9s_readPiece_75, b_X9s_readPiece_80, b_X9s_readPiece_91, hpt, b_X9s_readPiece_100, h6']
      · simp only [t_c2s, hk]
        obtain ⟨v1, v2, v3⟩ := hv (nI 1) (t_b (t p)).toInt64
        exact ⟨v1, v2, fun h => by omega, fun h => by omega, fun h => by omega, fun h => by omega⟩
/-- s pieces are kept, and p is looked at -/
def t_Is (S : m_M) (x : Nat) (t : Nat → Nat) (N L s p : Nat) : Prop := m_ri S (x + 37) 5 = nI N ∧ m_ri S (x + 37) 6 = nI p ∧ m_ri S (x + 37) 7 = nI s ∧ p ≤ N ∧ (∀ j, j < s → t_c1s S x t N L j (t_P t N j)) ∧ t_S t N p = t_S t N (t_P t N s)
/-- what the reading of pieces changes -/
def t_Hs (S S' : m_M) (x : Nat) : Prop := (∀ i, i ≠ 6 → i ≠ 7 → m_ri S' (x + 37) i = m_ri S (x + 37) i) ∧ m_rj S' (x + 38) = m_rj S (x + 38) ∧ t_O (x + 37) (x + 42) S S'
theorem t_Hs.tr {S S' S'' : m_M} (h : t_Hs S S' x) (h' : t_Hs S' S'' x) : t_Hs S S'' x := ⟨fun i a b => (h'.1 i a b).trans (h.1 i a b), h'.2.1.trans h.2.1, h.2.2.tr h'.2.2⟩
theorem t_Hs.Z {S S' : m_M} (h : t_Hs S S' x) (hZ : t_Zs S x t N) : t_Zs S' x t N := ⟨fun i hi => by rw [(h.2.2.1 (x + 1) (by omega)).1]; exact hZ.1 i hi, fun i hi => by rw [h.2.1]; exact hZ.2.1 i hi, ⟨hZ.2.2.1.1, by rw [h.1 0 (by omega) (by omega)]; exact hZ.2.2.1.2⟩, hZ.2.2.2⟩
theorem t_c1_ofs {S S' : m_M} {e : Nat} (h : t_hs S S' x s e) {j : Nat} (hj : j ≠ s) (hc : t_c1s S x t N L j p) : t_c1s S' x t N L j p := by
  obtain ⟨a, b, c⟩ := h.2.2.2.1 j hj
  simp only [t_c1s]; rw [a, b, c]; exact hc
theorem k_op45s {M : Nat} (hM : M = if N < L then N else L) (hL : L ≤ 200) : ∀ (c i fu s p : Nat) (S : m_M), i + c = M → c < fu → s ≤ i → i ≤ p → t_Zs S x t N → t_Is S x t N L s p →
    ∃ S' s' p', b_X9s_open_45 x fu S (nI M) (nI i) = b_X9s_open_70 x S' (nI M) ∧ t_Is S' x t N L s' p' ∧ s' ≤ M ∧ M ≤ p' ∧ t_Hs S S' x := by
  have hMN : M ≤ N := by split at hM <;> omega
  have hML : M ≤ L := by split at hM <;> omega
  intro c
  induction c with
  | zero =>
    intro i fu s p S h1 hf h2 h3 hZ hI
    obtain ⟨fu, rfl⟩ : ∃ f, fu = f + 1 := ⟨fu - 1, by omega⟩
    refine ⟨S, s, p, ?_, hI, by omega, by omega, fun _ _ _ => rfl, rfl, t_O.rf⟩
    simp (disch := omega) only [e_let, e_call, e_cal0, e_bind, e_lit, e_ofN, e_neg, nI_add, pk_mul, e_sub, e_ldi, e_sti, e_ldj, e_stj, e_le_t, e_le_f, e_lt_t, e_lt_f, e_eq_t, e_eq_f, e_no_eq, e_no_eq', e_no_rfl, e_no_lt, e_no_le, e_le_no, e_lt_no, if_true, if_false, ↓reduceIte, e_rs, e_rq, e_rn, e_ji, e_ki, e_ij, e_kj, e_js, e_jq, e_jn, e_cs, e_cq, e_jc, e_kc, e_js', e_jcq, e_icj, e_kcj, or_true, true_or, or_false, false_or, and_true, true_and, not_true_eq_false, not_false_eq_true, b_X9s_open_45]
  | succ c ih =>
    intro i fu s p S h1 hf h2 h3 hZ hI
    obtain ⟨fu, rfl⟩ : ∃ f, fu = f + 1 := ⟨fu - 1, by omega⟩
    obtain ⟨i5, i6, i7, i8, i9, i0⟩ := hI
    have hN := hZ.2.2.1
    by_cases hp : M ≤ p
    · refine ⟨S, s, p, ?_, ⟨i5, i6, i7, i8, i9, i0⟩, by omega, by omega, fun _ _ _ => rfl, rfl, t_O.rf⟩
      simp (disch := omega) only [e_let, e_call, e_cal0, e_bind, e_lit, e_ofN, e_neg, nI_add, pk_mul, e_sub, e_ldi, e_sti, e_ldj, e_stj, e_le_t, e_le_f, e_lt_t, e_lt_f, e_eq_t, e_eq_f, e_no_eq, e_no_eq', e_no_rfl, e_no_lt, e_no_le, e_le_no, e_lt_no, if_true, if_false, ↓reduceIte, e_rs, e_rq, e_rn, e_ji, e_ki, e_ij, e_kj, e_js, e_jq, e_jn, e_cs, e_cq, e_jc, e_kc, e_js', e_jcq, e_icj, e_kcj, or_true, true_or, or_false, false_or, and_true, true_and, not_true_eq_false, not_false_eq_true, b_X9s_open_45, i6]
    · by_cases hw : t p = 32 ∨ t p = 10
      · have hr := k_piece_ws hZ (by omega) hw i6
        have hH : t_Hs S (m_si S (x + 37) 6 (nI (p + 1))) x := ⟨fun i a b => by rw [e_rn a], rfl, t_O.rf.si (by omega) (by omega)⟩
        obtain ⟨S', s', p', b1, b2, b3, b4, b5⟩ := ih (i + 1) fu s (p + 1) (m_si S (x + 37) 6 (nI (p + 1))) (by omega) (by omega) (by omega) (by omega) (hH.Z hZ)
          ⟨by rw [e_rn (by omega)]; exact i5, e_rs, by rw [e_rn (by omega)]; exact i7, by omega, fun j hj => by simp only [t_c1s]; rw [e_rq (by omega), e_rq (by omega)]; exact i9 j hj, by rw [← i0]; exact (t_sp (by omega) hw).symm⟩
        refine ⟨S', s', p', ?_, b2, b3, b4, hH.tr b5⟩
        rw [← b1]
        simp (disch := omega) only [e_let, e_call, e_cal0, e_bind, e_lit, e_ofN, e_neg, nI_add, pk_mul, e_sub, e_ldi, e_sti, e_ldj, e_stj, e_le_t, e_le_f, e_lt_t, e_lt_f, e_eq_t, e_eq_f, e_no_eq, e_no_eq', e_no_rfl, e_no_lt, e_no_le, e_le_no, e_lt_no, if_true, if_false, ↓reduceIte, e_rs, e_rq, e_rn, e_ji, e_ki, e_ij, e_kj, e_js, e_jq, e_jn, e_cs, e_cq, e_jc, e_kc, e_js', e_jcq, e_icj, e_kcj, or_true, true_or, or_false, false_or, and_true, true_and, not_true_eq_false, not_false_eq_true, b_X9s_open_45, i6, hr]
      · obtain ⟨S1, a1, a2, a3⟩ := k_pieces hZ (by omega) hw i5 i6 i7 (by omega)
        have hsp : t_S t N p = p := by rw [t_S_e, if_neg (fun g => hw g.2)]
        have hS : t_S t N (t_P t N s) = p := by rw [← i0, hsp]
        have hH : t_Hs S S1 x := ⟨a3.2.2.1, a3.2.2.2.2.2.2.1, a3.2.2.2.2.2.2.2⟩
        have hE : t_P t N (s + 1) = (if t_w (t p) then t_R t N p else p + 1) := by rw [t_P, t_E, hS]
        have hEl := t_E_le (t := t) (N := N) (p := p) (by omega) (by omega)
        have hE' : t_E t N p = t_P t N (s + 1) := by rw [t_P, t_E, t_E, hS, hsp]
        rw [← hE] at a3
        have hK : t_K t N L (t_P t N s) = t_k t N p := by rw [t_K, hS, if_neg (by omega), if_pos (by omega)]
        have hF : t_F t N L (t_P t N s) = p := by rw [t_F, hS, if_neg (by omega)]
        obtain ⟨S', s', p', b1, b2, b3, b4, b5⟩ := ih (i + 1) fu (s + 1) (t_P t N (s + 1)) S1 (by omega) (by omega) (by omega) (by omega) (hH.Z hZ)
          ⟨by rw [a3.2.2.1 5 (by omega) (by omega)]; exact i5, a3.1, a3.2.1, by omega, fun j hj => by
            by_cases hjs : j = s
            · subst hjs
              simp only [t_c1s, hK, hF, t_W, t_M, t_G, hS]
              exact a2
            · exact t_c1_ofs a3 hjs (i9 j (by omega)), rfl⟩
        refine ⟨S', s', p', ?_, b2, b3, b4, hH.tr b5⟩
        rw [← b1]
        simp (disch := omega) only [e_let, e_call, e_cal0, e_bind, e_lit, e_ofN, e_neg, nI_add, pk_mul, e_sub, e_ldi, e_sti, e_ldj, e_stj, e_le_t, e_le_f, e_lt_t, e_lt_f, e_eq_t, e_eq_f, e_no_eq, e_no_eq', e_no_rfl, e_no_lt, e_no_le, e_le_no, e_lt_no, if_true, if_false, ↓reduceIte, e_rs, e_rq, e_rn, e_ji, e_ki, e_ij, e_kj, e_js, e_jq, e_jn, e_cs, e_cq, e_jc, e_kc, e_js', e_jcq, e_icj, e_kcj, or_true, true_or, or_false, false_or, and_true, true_and, not_true_eq_false, not_false_eq_true, b_X9s_open_45, i6, a1]
/-- the next piece is looked at -/
def t_ads (x : Nat) (S : m_M) (k : Nat) (a b c d e : Int32) (w : Int64) : m_M := m_sj (m_si (m_si (m_si (m_si (m_si (m_si S (x + 37) 8 (nI k)) (x + 37) 9 a) (x + 37) 10 b) (x + 37) 11 c) (x + 37) 12 d) (x + 37) 13 e) (x + 37) 14 w
theorem k_ad125s {κ : Nat} {v : Int32} (h8 : m_ri S (x + 37) 8 = nI k) (h9 : m_ri S (x + 37) 9 = nI κ) (hk : k < 201) (hκ : κ < 6) : b_X9s_advance_125 x S v = some (m_sj (m_si S (x + 37) 13 v) (x + 37) 14 (if κ = 2 then m_rj S (x + 41) k else -1)) := by
  rw [b_X9s_advance_125, e_let, e_rn (by omega), h9]
  by_cases h : κ = 2
  · rw [if_pos h, h]; simp (disch := omega) only [e_let, e_call, e_cal0, e_bind, e_lit, e_ofN, e_neg, nI_add, pk_mul, e_sub, e_ldi, e_sti, e_ldj, e_stj, e_le_t, e_le_f, e_lt_t, e_lt_f, e_eq_t, e_eq_f, e_no_eq, e_no_eq', e_no_rfl, e_no_lt, e_no_le, e_le_no, e_lt_no, if_true, if_false, ↓reduceIte, e_rs, e_rq, e_rn, e_ji, e_ki, e_ij, e_kj, e_js, e_jq, e_jn, e_cs, e_cq, e_jc, e_kc, e_js', e_jcq, e_icj, e_kcj, or_true, true_or, or_false, false_or, and_true, true_and, not_true_eq_false, not_false_eq_true, h8, b_X9s_advance_152]
  · rw [if_neg h]; simp (disch := omega) only [e_let, e_call, e_cal0, e_bind, e_lit, e_ofN, e_neg, nI_add, pk_mul, e_sub, e_ldi, e_sti, e_ldj, e_stj, e_le_t, e_le_f, e_lt_t, e_lt_f, e_eq_t, e_eq_f, e_no_eq, e_no_eq', e_no_rfl, e_no_lt, e_no_le, e_le_no, e_lt_no, if_true, if_false, ↓reduceIte, e_rs, e_rq, e_rn, e_ji, e_ki, e_ij, e_kj, e_js, e_jq, e_jn, e_cs, e_cq, e_jc, e_kc, e_js', e_jcq, e_icj, e_kcj, or_true, true_or, or_false, false_or, and_true, true_and, not_true_eq_false, not_false_eq_true, h8, b_X9s_advance_152]
theorem k_ad99s {κ : Nat} {v : Int32} (h8 : m_ri S (x + 37) 8 = nI k) (h9 : m_ri S (x + 37) 9 = nI κ) (hk : k < 201) (hκ : κ < 6) : b_X9s_advance_99 x S v = b_X9s_advance_125 x (m_si S (x + 37) 12 v) (if κ = 5 then (m_rj S (x + 41) k).toInt32 else m_no) := by
  rw [b_X9s_advance_99, e_let, e_rn (by omega), h9]
  by_cases h : κ = 5
  · rw [if_pos h, h]; simp (disch := omega) only [e_let, e_call, e_cal0, e_bind, e_lit, e_ofN, e_neg, nI_add, pk_mul, e_sub, e_ldi, e_sti, e_ldj, e_stj, e_le_t, e_le_f, e_lt_t, e_lt_f, e_eq_t, e_eq_f, e_no_eq, e_no_eq', e_no_rfl, e_no_lt, e_no_le, e_le_no, e_lt_no, if_true, if_false, ↓reduceIte, e_rs, e_rq, e_rn, e_ji, e_ki, e_ij, e_kj, e_js, e_jq, e_jn, e_cs, e_cq, e_jc, e_kc, e_js', e_jcq, e_icj, e_kcj, or_true, true_or, or_false, false_or, and_true, true_and, not_true_eq_false, not_false_eq_true, h8]
  · rw [if_neg h]; simp (disch := omega) only [e_let, e_call, e_cal0, e_bind, e_lit, e_ofN, e_neg, nI_add, pk_mul, e_sub, e_ldi, e_sti, e_ldj, e_stj, e_le_t, e_le_f, e_lt_t, e_lt_f, e_eq_t, e_eq_f, e_no_eq, e_no_eq', e_no_rfl, e_no_lt, e_no_le, e_le_no, e_lt_no, if_true, if_false, ↓reduceIte, e_rs, e_rq, e_rn, e_ji, e_ki, e_ij, e_kj, e_js, e_jq, e_jn, e_cs, e_cq, e_jc, e_kc, e_js', e_jcq, e_icj, e_kcj, or_true, true_or, or_false, false_or, and_true, true_and, not_true_eq_false, not_false_eq_true, h8]
theorem k_ad73s {κ : Nat} {v : Int32} (h8 : m_ri S (x + 37) 8 = nI k) (h9 : m_ri S (x + 37) 9 = nI κ) (hk : k < 201) (hκ : κ < 6) : b_X9s_advance_73 x S v = b_X9s_advance_99 x (m_si S (x + 37) 11 v) (if κ = 4 then (m_rj S (x + 41) k).toInt32 else m_no) := by
  rw [b_X9s_advance_73, e_let, e_rn (by omega), h9]
  by_cases h : κ = 4
  · rw [if_pos h, h]; simp (disch := omega) only [e_let, e_call, e_cal0, e_bind, e_lit, e_ofN, e_neg, nI_add, pk_mul, e_sub, e_ldi, e_sti, e_ldj, e_stj, e_le_t, e_le_f, e_lt_t, e_lt_f, e_eq_t, e_eq_f, e_no_eq, e_no_eq', e_no_rfl, e_no_lt, e_no_le, e_le_no, e_lt_no, if_true, if_false, ↓reduceIte, e_rs, e_rq, e_rn, e_ji, e_ki, e_ij, e_kj, e_js, e_jq, e_jn, e_cs, e_cq, e_jc, e_kc, e_js', e_jcq, e_icj, e_kcj, or_true, true_or, or_false, false_or, and_true, true_and, not_true_eq_false, not_false_eq_true, h8]
  · rw [if_neg h]; simp (disch := omega) only [e_let, e_call, e_cal0, e_bind, e_lit, e_ofN, e_neg, nI_add, pk_mul, e_sub, e_ldi, e_sti, e_ldj, e_stj, e_le_t, e_le_f, e_lt_t, e_lt_f, e_eq_t, e_eq_f, e_no_eq, e_no_eq', e_no_rfl, e_no_lt, e_no_le, e_le_no, e_lt_no, if_true, if_false, ↓reduceIte, e_rs, e_rq, e_rn, e_ji, e_ki, e_ij, e_kj, e_js, e_jq, e_jn, e_cs, e_cq, e_jc, e_kc, e_js', e_jcq, e_icj, e_kcj, or_true, true_or, or_false, false_or, and_true, true_and, not_true_eq_false, not_false_eq_true, h8]
theorem k_adfs {κ : Nat} {v : Int32} (h8 : m_ri S (x + 37) 8 + nI 1 = nI k) (h7 : m_ri S (x + 37) 7 = nI (K + 1)) (hk : k ≤ K) (hK : K ≤ 200) (c1 : m_ri S (x + 39) k = nI κ) (c2 : m_ri S (x + 40) k = v) (hκ : κ < 6) : f_X9s_advance x S = some (t_ads x S k (nI κ) v (if κ = 3 then (m_rj S (x + 41) k).toInt32 else m_no) (if κ = 4 then (m_rj S (x + 41) k).toInt32 else m_no) (if κ = 5 then (m_rj S (x + 41) k).toInt32 else m_no) (if κ = 2 then m_rj S (x + 41) k else -1)) := by
  have e : f_X9s_advance x S = b_X9s_advance_73 x (m_si (m_si (m_si S (x + 37) 8 (nI k)) (x + 37) 9 (nI κ)) (x + 37) 10 v) (if κ = 3 then (m_rj S (x + 41) k).toInt32 else m_no) := by
    rw [f_X9s_advance, show ((1 : Int32)) = nI 1 from rfl, h8, h7, if_pos (by rw [e_lt (by omega) (by omega)]; omega), e_let, e_rs, e_ldi (by omega) (by omega), e_bind, e_rq (by omega), c1, e_let, e_rn (by omega), e_rs, e_ldi (by omega) (by omega), e_bind, e_rq (by omega), e_rq (by omega), c2, e_let, e_rn (by omega), e_rs]
    by_cases h : κ = 3
    · rw [if_pos h, h]; simp (disch := omega) only [e_let, e_call, e_cal0, e_bind, e_lit, e_ofN, e_neg, nI_add, pk_mul, e_sub, e_ldi, e_sti, e_ldj, e_stj, e_le_t, e_le_f, e_lt_t, e_lt_f, e_eq_t, e_eq_f, e_no_eq, e_no_eq', e_no_rfl, e_no_lt, e_no_le, e_le_no, e_lt_no, if_true, if_false, ↓reduceIte, e_rs, e_rq, e_rn, e_ji, e_ki, e_ij, e_kj, e_js, e_jq, e_jn, e_cs, e_cq, e_jc, e_kc, e_js', e_jcq, e_icj, e_kcj, or_true, true_or, or_false, false_or, and_true, true_and, not_true_eq_false, not_false_eq_true]
    · rw [if_neg h]; simp (disch := omega) only [e_let, e_call, e_cal0, e_bind, e_lit, e_ofN, e_neg, nI_add, pk_mul, e_sub, e_ldi, e_sti, e_ldj, e_stj, e_le_t, e_le_f, e_lt_t, e_lt_f, e_eq_t, e_eq_f, e_no_eq, e_no_eq', e_no_rfl, e_no_lt, e_no_le, e_le_no, e_lt_no, if_true, if_false, ↓reduceIte, e_rs, e_rq, e_rn, e_ji, e_ki, e_ij, e_kj, e_js, e_jq, e_jn, e_cs, e_cq, e_jc, e_kc, e_js', e_jcq, e_icj, e_kcj, or_true, true_or, or_false, false_or, and_true, true_and, not_true_eq_false, not_false_eq_true]
  rw [e, k_ad73s (k := k) (κ := κ) (by simp (disch := omega) only [e_let, e_call, e_cal0, e_bind, e_lit, e_ofN, e_neg, nI_add, pk_mul, e_sub, e_ldi, e_sti, e_ldj, e_stj, e_le_t, e_le_f, e_lt_t, e_lt_f, e_eq_t, e_eq_f, e_no_eq, e_no_eq', e_no_rfl, e_no_lt, e_no_le, e_le_no, e_lt_no, if_true, if_false, ↓reduceIte, e_rs, e_rq, e_rn, e_ji, e_ki, e_ij, e_kj, e_js, e_jq, e_jn, e_cs, e_cq, e_jc, e_kc, e_js', e_jcq, e_icj, e_kcj, or_true, true_or, or_false, false_or, and_true, true_and, not_true_eq_false, not_false_eq_true]) (by simp (disch := omega) only [e_let, e_call, e_cal0, e_bind, e_lit, e_ofN, e_neg, nI_add, pk_mul, e_sub, e_ldi, e_sti, e_ldj, e_stj, e_le_t, e_le_f, e_lt_t, e_lt_f, e_eq_t, e_eq_f, e_no_eq, e_no_eq', e_no_rfl, e_no_lt, e_no_le, e_le_no, e_lt_no, if_true, if_false, ↓reduceIte, e_rs, e_rq, e_rn, e_ji, e_ki, e_ij, e_kj, e_js, e_jq, e_jn, e_cs, e_cq, e_jc, e_kc, e_js', e_jcq, e_icj, e_kcj, or_true, true_or, or_false, false_or, and_true, true_and, not_true_eq_false, not_false_eq_true]) (by omega) hκ, k_ad99s (k := k) (κ := κ) (by simp (disch := omega) only [e_let, e_call, e_cal0, e_bind, e_lit, e_ofN, e_neg, nI_add, pk_mul, e_sub, e_ldi, e_sti, e_ldj, e_stj, e_le_t, e_le_f, e_lt_t, e_lt_f, e_eq_t, e_eq_f, e_no_eq, e_no_eq', e_no_rfl, e_no_lt, e_no_le, e_le_no, e_lt_no, if_true, if_false, ↓reduceIte, e_rs, e_rq, e_rn, e_ji, e_ki, e_ij, e_kj, e_js, e_jq, e_jn, e_cs, e_cq, e_jc, e_kc, e_js', e_jcq, e_icj, e_kcj, or_true, true_or, or_false, false_or, and_true, true_and, not_true_eq_false, not_false_eq_true]) (by simp (disch := omega) only [e_let, e_call, e_cal0, e_bind, e_lit, e_ofN, e_neg, nI_add, pk_mul, e_sub, e_ldi, e_sti, e_ldj, e_stj, e_le_t, e_le_f, e_lt_t, e_lt_f, e_eq_t, e_eq_f, e_no_eq, e_no_eq', e_no_rfl, e_no_lt, e_no_le, e_le_no, e_lt_no, if_true, if_false, ↓reduceIte, e_rs, e_rq, e_rn, e_ji, e_ki, e_ij, e_kj, e_js, e_jq, e_jn, e_cs, e_cq, e_jc, e_kc, e_js', e_jcq, e_icj, e_kcj, or_true, true_or, or_false, false_or, and_true, true_and, not_true_eq_false, not_false_eq_true]) (by omega) hκ, k_ad125s (k := k) (κ := κ) (by simp (disch := omega) only [e_let, e_call, e_cal0, e_bind, e_lit, e_ofN, e_neg, nI_add, pk_mul, e_sub, e_ldi, e_sti, e_ldj, e_stj, e_le_t, e_le_f, e_lt_t, e_lt_f, e_eq_t, e_eq_f, e_no_eq, e_no_eq', e_no_rfl, e_no_lt, e_no_le, e_le_no, e_lt_no, if_true, if_false, ↓reduceIte, e_rs, e_rq, e_rn, e_ji, e_ki, e_ij, e_kj, e_js, e_jq, e_jn, e_cs, e_cq, e_jc, e_kc, e_js', e_jcq, e_icj, e_kcj, or_true, true_or, or_false, false_or, and_true, true_and, not_true_eq_false, not_false_eq_true]) (by simp (disch := omega) only [e_let, e_call, e_cal0, e_bind, e_lit, e_ofN, e_neg, nI_add, pk_mul, e_sub, e_ldi, e_sti, e_ldj, e_stj, e_le_t, e_le_f, e_lt_t, e_lt_f, e_eq_t, e_eq_f, e_no_eq, e_no_eq', e_no_rfl, e_no_lt, e_no_le, e_le_no, e_lt_no, if_true, if_false, ↓reduceIte, e_rs, e_rq, e_rn, e_ji, e_ki, e_ij, e_kj, e_js, e_jq, e_jn, e_cs, e_cq, e_jc, e_kc, e_js', e_jcq, e_icj, e_kcj, or_true, true_or, or_false, false_or, and_true, true_and, not_true_eq_false, not_false_eq_true]) (by omega) hκ]
  rfl
theorem k_adv0s (hA : t_As S x t N L K) (hk : k ≤ K) (h8 : m_ri S (x + 37) 8 + nI 1 = nI k) : ∃ S', f_X9s_advance x S = some S' ∧ t_Cs S' x t N L (t_P t N k) ∧ (∀ i, i < 8 ∨ 13 < i → m_ri S' (x + 37) i = m_ri S (x + 37) i) ∧ t_O (x + 37) (x + 38) S S' := by
  obtain ⟨h7, hK, hc, hl⟩ := hA
  obtain ⟨c1, c2, c3, c4, c5, c6⟩ := hc k hk
  have hK5 := t_K_5 (t := t) (N := N) (L := L) (p := t_P t N k)
  refine ⟨t_ads x S k (nI (t_K t N L (t_P t N k))) (nI (t_F t N L (t_P t N k))) (if t_K t N L (t_P t N k) = 3 then nI (t_ki (t_W t N (t_P t N k))) else m_no) (if t_K t N L (t_P t N k) = 4 then nI (t_M t N (t_P t N k)) else m_no) (if t_K t N L (t_P t N k) = 5 then nI (t_G t N (t_P t N k)) else m_no) (if t_K t N L (t_P t N k) = 2 then t_W t N (t_P t N k) else -1), ?_, ⟨k, K, hk, ⟨?_, hK, fun j hj => ?_, hl⟩, rfl, ?_, ?_, ?_, ?_, ?_, ?_, ?_⟩, fun i hi => ?_, ?_⟩
  · rw [k_adfs h8 h7 hk hK c1 c2 (by omega)]
    have q3 : (if t_K t N L (t_P t N k) = 3 then (m_rj S (x + 41) k).toInt32 else m_no) = (if t_K t N L (t_P t N k) = 3 then nI (t_ki (t_W t N (t_P t N k))) else m_no) := by
      split
      · rename_i h; rw [c4 h, e_j32]
      · rfl
    have q4 : (if t_K t N L (t_P t N k) = 4 then (m_rj S (x + 41) k).toInt32 else m_no) = (if t_K t N L (t_P t N k) = 4 then nI (t_M t N (t_P t N k)) else m_no) := by
      split
      · rename_i h; rw [c5 h, e_j32]
      · rfl
    have q5 : (if t_K t N L (t_P t N k) = 5 then (m_rj S (x + 41) k).toInt32 else m_no) = (if t_K t N L (t_P t N k) = 5 then nI (t_G t N (t_P t N k)) else m_no) := by
      split
      · rename_i h; rw [c6 h, e_j32]
      · rfl
    have q2 : (if t_K t N L (t_P t N k) = 2 then m_rj S (x + 41) k else -1) = (if t_K t N L (t_P t N k) = 2 then t_W t N (t_P t N k) else -1) := by
      split
      · rename_i h; rw [c3 h]
      · rfl
    rw [q3, q4, q5, q2]
  · rw [← h7]; simp (disch := omega) only [e_let, e_call, e_cal0, e_bind, e_lit, e_ofN, e_neg, nI_add, pk_mul, e_sub, e_ldi, e_sti, e_ldj, e_stj, e_le_t, e_le_f, e_lt_t, e_lt_f, e_eq_t, e_eq_f, e_no_eq, e_no_eq', e_no_rfl, e_no_lt, e_no_le, e_le_no, e_lt_no, if_true, if_false, ↓reduceIte, e_rs, e_rq, e_rn, e_ji, e_ki, e_ij, e_kj, e_js, e_jq, e_jn, e_cs, e_cq, e_jc, e_kc, e_js', e_jcq, e_icj, e_kcj, or_true, true_or, or_false, false_or, and_true, true_and, not_true_eq_false, not_false_eq_true, t_ads]
  · have := hc j hj
    simp only [t_c1s] at this ⊢
    rw [show m_ri (t_ads x S k (nI (t_K t N L (t_P t N k))) (nI (t_F t N L (t_P t N k))) (if t_K t N L (t_P t N k) = 3 then nI (t_ki (t_W t N (t_P t N k))) else m_no) (if t_K t N L (t_P t N k) = 4 then nI (t_M t N (t_P t N k)) else m_no) (if t_K t N L (t_P t N k) = 5 then nI (t_G t N (t_P t N k)) else m_no) (if t_K t N L (t_P t N k) = 2 then t_W t N (t_P t N k) else -1)) (x + 39) = m_ri S (x + 39) by simp (disch := omega) only [e_let, e_call, e_cal0, e_bind, e_lit, e_ofN, e_neg, nI_add, pk_mul, e_sub, e_ldi, e_sti, e_ldj, e_stj, e_le_t, e_le_f, e_lt_t, e_lt_f, e_eq_t, e_eq_f, e_no_eq, e_no_eq', e_no_rfl, e_no_lt, e_no_le, e_le_no, e_lt_no, if_true, if_false, ↓reduceIte, e_rs, e_rq, e_rn, e_ji, e_ki, e_ij, e_kj, e_js, e_jq, e_jn, e_cs, e_cq, e_jc, e_kc, e_js', e_jcq, e_icj, e_kcj, or_true, true_or, or_false, false_or, and_true, true_and, not_true_eq_false, not_false_eq_true, t_ads],
      show m_ri (t_ads x S k (nI (t_K t N L (t_P t N k))) (nI (t_F t N L (t_P t N k))) (if t_K t N L (t_P t N k) = 3 then nI (t_ki (t_W t N (t_P t N k))) else m_no) (if t_K t N L (t_P t N k) = 4 then nI (t_M t N (t_P t N k)) else m_no) (if t_K t N L (t_P t N k) = 5 then nI (t_G t N (t_P t N k)) else m_no) (if t_K t N L (t_P t N k) = 2 then t_W t N (t_P t N k) else -1)) (x + 40) = m_ri S (x + 40) by simp (disch := omega) only [e_let, e_call, e_cal0, e_bind, e_lit, e_ofN, e_neg, nI_add, pk_mul, e_sub, e_ldi, e_sti, e_ldj, e_stj, e_le_t, e_le_f, e_lt_t, e_lt_f, e_eq_t, e_eq_f, e_no_eq, e_no_eq', e_no_rfl, e_no_lt, e_no_le, e_le_no, e_lt_no, if_true, if_false, ↓reduceIte, e_rs, e_rq, e_rn, e_ji, e_ki, e_ij, e_kj, e_js, e_jq, e_jn, e_cs, e_cq, e_jc, e_kc, e_js', e_jcq, e_icj, e_kcj, or_true, true_or, or_false, false_or, and_true, true_and, not_true_eq_false, not_false_eq_true, t_ads],
      show m_rj (t_ads x S k (nI (t_K t N L (t_P t N k))) (nI (t_F t N L (t_P t N k))) (if t_K t N L (t_P t N k) = 3 then nI (t_ki (t_W t N (t_P t N k))) else m_no) (if t_K t N L (t_P t N k) = 4 then nI (t_M t N (t_P t N k)) else m_no) (if t_K t N L (t_P t N k) = 5 then nI (t_G t N (t_P t N k)) else m_no) (if t_K t N L (t_P t N k) = 2 then t_W t N (t_P t N k) else -1)) (x + 41) = m_rj S (x + 41) by simp (disch := omega) only [e_let, e_call, e_cal0, e_bind, e_lit, e_ofN, e_neg, nI_add, pk_mul, e_sub, e_ldi, e_sti, e_ldj, e_stj, e_le_t, e_le_f, e_lt_t, e_lt_f, e_eq_t, e_eq_f, e_no_eq, e_no_eq', e_no_rfl, e_no_lt, e_no_le, e_le_no, e_lt_no, if_true, if_false, ↓reduceIte, e_rs, e_rq, e_rn, e_ji, e_ki, e_ij, e_kj, e_js, e_jq, e_jn, e_cs, e_cq, e_jc, e_kc, e_js', e_jcq, e_icj, e_kcj, or_true, true_or, or_false, false_or, and_true, true_and, not_true_eq_false, not_false_eq_true, t_ads]]
    exact this
  · simp (disch := omega) only [e_let, e_call, e_cal0, e_bind, e_lit, e_ofN, e_neg, nI_add, pk_mul, e_sub, e_ldi, e_sti, e_ldj, e_stj, e_le_t, e_le_f, e_lt_t, e_lt_f, e_eq_t, e_eq_f, e_no_eq, e_no_eq', e_no_rfl, e_no_lt, e_no_le, e_le_no, e_lt_no, if_true, if_false, ↓reduceIte, e_rs, e_rq, e_rn, e_ji, e_ki, e_ij, e_kj, e_js, e_jq, e_jn, e_cs, e_cq, e_jc, e_kc, e_js', e_jcq, e_icj, e_kcj, or_true, true_or, or_false, false_or, and_true, true_and, not_true_eq_false, not_false_eq_true, t_ads]
  · simp (disch := omega) only [e_let, e_call, e_cal0, e_bind, e_lit, e_ofN, e_neg, nI_add, pk_mul, e_sub, e_ldi, e_sti, e_ldj, e_stj, e_le_t, e_le_f, e_lt_t, e_lt_f, e_eq_t, e_eq_f, e_no_eq, e_no_eq', e_no_rfl, e_no_lt, e_no_le, e_le_no, e_lt_no, if_true, if_false, ↓reduceIte, e_rs, e_rq, e_rn, e_ji, e_ki, e_ij, e_kj, e_js, e_jq, e_jn, e_cs, e_cq, e_jc, e_kc, e_js', e_jcq, e_icj, e_kcj, or_true, true_or, or_false, false_or, and_true, true_and, not_true_eq_false, not_false_eq_true, t_ads]
  · simp (disch := omega) only [e_let, e_call, e_cal0, e_bind, e_lit, e_ofN, e_neg, nI_add, pk_mul, e_sub, e_ldi, e_sti, e_ldj, e_stj, e_le_t, e_le_f, e_lt_t, e_lt_f, e_eq_t, e_eq_f, e_no_eq, e_no_eq', e_no_rfl, e_no_lt, e_no_le, e_le_no, e_lt_no, if_true, if_false, ↓reduceIte, e_rs, e_rq, e_rn, e_ji, e_ki, e_ij, e_kj, e_js, e_jq, e_jn, e_cs, e_cq, e_jc, e_kc, e_js', e_jcq, e_icj, e_kcj, or_true, true_or, or_false, false_or, and_true, true_and, not_true_eq_false, not_false_eq_true, t_ads]
  · simp (disch := omega) only [e_let, e_call, e_cal0, e_bind, e_lit, e_ofN, e_neg, nI_add, pk_mul, e_sub, e_ldi, e_sti, e_ldj, e_stj, e_le_t, e_le_f, e_lt_t, e_lt_f, e_eq_t, e_eq_f, e_no_eq, e_no_eq', e_no_rfl, e_no_lt, e_no_le, e_le_no, e_lt_no, if_true, if_false, ↓reduceIte, e_rs, e_rq, e_rn, e_ji, e_ki, e_ij, e_kj, e_js, e_jq, e_jn, e_cs, e_cq, e_jc, e_kc, e_js', e_jcq, e_icj, e_kcj, or_true, true_or, or_false, false_or, and_true, true_and, not_true_eq_false, not_false_eq_true, t_ads]
  · simp (disch := omega) only [e_let, e_call, e_cal0, e_bind, e_lit, e_ofN, e_neg, nI_add, pk_mul, e_sub, e_ldi, e_sti, e_ldj, e_stj, e_le_t, e_le_f, e_lt_t, e_lt_f, e_eq_t, e_eq_f, e_no_eq, e_no_eq', e_no_rfl, e_no_lt, e_no_le, e_le_no, e_lt_no, if_true, if_false, ↓reduceIte, e_rs, e_rq, e_rn, e_ji, e_ki, e_ij, e_kj, e_js, e_jq, e_jn, e_cs, e_cq, e_jc, e_kc, e_js', e_jcq, e_icj, e_kcj, or_true, true_or, or_false, false_or, and_true, true_and, not_true_eq_false, not_false_eq_true, t_ads]
  · simp (disch := omega) only [e_let, e_call, e_cal0, e_bind, e_lit, e_ofN, e_neg, nI_add, pk_mul, e_sub, e_ldi, e_sti, e_ldj, e_stj, e_le_t, e_le_f, e_lt_t, e_lt_f, e_eq_t, e_eq_f, e_no_eq, e_no_eq', e_no_rfl, e_no_lt, e_no_le, e_le_no, e_lt_no, if_true, if_false, ↓reduceIte, e_rs, e_rq, e_rn, e_ji, e_ki, e_ij, e_kj, e_js, e_jq, e_jn, e_cs, e_cq, e_jc, e_kc, e_js', e_jcq, e_icj, e_kcj, or_true, true_or, or_false, false_or, and_true, true_and, not_true_eq_false, not_false_eq_true, t_ads]
  · simp (disch := omega) only [e_let, e_call, e_cal0, e_bind, e_lit, e_ofN, e_neg, nI_add, pk_mul, e_sub, e_ldi, e_sti, e_ldj, e_stj, e_le_t, e_le_f, e_lt_t, e_lt_f, e_eq_t, e_eq_f, e_no_eq, e_no_eq', e_no_rfl, e_no_lt, e_no_le, e_le_no, e_lt_no, if_true, if_false, ↓reduceIte, e_rs, e_rq, e_rn, e_ji, e_ki, e_ij, e_kj, e_js, e_jq, e_jn, e_cs, e_cq, e_jc, e_kc, e_js', e_jcq, e_icj, e_kcj, or_true, true_or, or_false, false_or, and_true, true_and, not_true_eq_false, not_false_eq_true, t_ads]
  · simp (disch := omega) only [e_let, e_call, e_cal0, e_bind, e_lit, e_ofN, e_neg, nI_add, pk_mul, e_sub, e_ldi, e_sti, e_ldj, e_stj, e_le_t, e_le_f, e_lt_t, e_lt_f, e_eq_t, e_eq_f, e_no_eq, e_no_eq', e_no_rfl, e_no_lt, e_no_le, e_le_no, e_lt_no, if_true, if_false, ↓reduceIte, e_rs, e_rq, e_rn, e_ji, e_ki, e_ij, e_kj, e_js, e_jq, e_jn, e_cs, e_cq, e_jc, e_kc, e_js', e_jcq, e_icj, e_kcj, or_true, true_or, or_false, false_or, and_true, true_and, not_true_eq_false, not_false_eq_true, t_ads]
  · exact ((((((t_O.rf.si (by omega) (by omega)).si (by omega) (by omega)).si (by omega) (by omega)).si (by omega) (by omega)).si (by omega) (by omega)).si (by omega) (by omega)).sj (by omega) (by omega)
/-- behind a good piece -/
theorem k_advs (hC : t_Cs S x t N L p) (h2 : 2 ≤ t_K t N L p) : ∃ S', f_X9s_advance x S = some S' ∧ t_Cs S' x t N L (t_E t N p) ∧ (∀ i, i < 8 ∨ 13 < i → m_ri S' (x + 37) i = m_ri S (x + 37) i) ∧ t_O (x + 37) (x + 38) S S' := by
  obtain ⟨k, K, h, hA, e, h8, _⟩ := hC
  subst e
  have : k < K := by
    rcases Nat.lt_or_ge k K with g | g
    · exact g
    · have := hA.2.2.2
      rw [show K = k by omega] at this
      omega
  exact k_adv0s hA (k := k + 1) (by omega) (by rw [h8, nI_add])
theorem k_opens (hc : t_Zs S x t N) (hLE : L = 200) : ∃ S', f_X9s_open x S (nI N) = some S' ∧ t_Cs S' x t N L 0 ∧ t_Zs S' x t N ∧ m_ri S' (x + 37) 15 = nI 0 ∧ m_ri S' (x + 37) 16 = nI 0 ∧ t_O (x + 37) (x + 42) S S' := by
  have hfu := m_fu_ge
  have hL : L ≤ 200 := by omega
  have hN := hc.2.2.1.1
  have hz0 : m_ri S (x + 37) 0 = nI L := by rw [hLE]; exact hc.2.2.1.2
  generalize hS6 : m_si (m_si (m_si (m_si (m_si S (x + 37) 5 (nI N)) (x + 37) 15 (nI 0)) (x + 37) 16 (nI 0)) (x + 37) 7 (nI 0)) (x + 37) 6 (nI 0) = S6
  have hO6 : t_O (x + 37) (x + 42) S S6 := by
    rw [← hS6]; exact ((((t_O.rf.si (by omega) (by omega)).si (by omega) (by omega)).si (by omega) (by omega)).si (by omega) (by omega)).si (by omega) (by omega)
  have hj6 : m_rj S6 = m_rj S := by rw [← hS6]; rfl
  have hZ6 : t_Zs S6 x t N := ⟨fun i hi => by rw [(hO6.1 (x + 1) (by omega)).1]; exact hc.1 i hi, fun i hi => by rw [hj6]; exact hc.2.1 i hi, ⟨hN, by rw [← hS6]; simp (disch := omega) only [e_let, e_call, e_cal0, e_bind, e_lit, e_ofN, e_neg, nI_add, pk_mul, e_sub, e_ldi, e_sti, e_ldj, e_stj, e_le_t, e_le_f, e_lt_t, e_lt_f, e_eq_t, e_eq_f, e_no_eq, e_no_eq', e_no_rfl, e_no_lt, e_no_le, e_le_no, e_lt_no, if_true, if_false, ↓reduceIte, e_rs, e_rq, e_rn, e_ji, e_ki, e_ij, e_kj, e_js, e_jq, e_jn, e_cs, e_cq, e_jc, e_kc, e_js', e_jcq, e_icj, e_kcj, or_true, true_or, or_false, false_or, and_true, true_and, not_true_eq_false, not_false_eq_true, hc.2.2.1.2]⟩, hc.2.2.2⟩
  have hI6 : t_Is S6 x t N L 0 0 := ⟨by rw [← hS6]; simp (disch := omega) only [e_let, e_call, e_cal0, e_bind, e_lit, e_ofN, e_neg, nI_add, pk_mul, e_sub, e_ldi, e_sti, e_ldj, e_stj, e_le_t, e_le_f, e_lt_t, e_lt_f, e_eq_t, e_eq_f, e_no_eq, e_no_eq', e_no_rfl, e_no_lt, e_no_le, e_le_no, e_lt_no, if_true, if_false, ↓reduceIte, e_rs, e_rq, e_rn, e_ji, e_ki, e_ij, e_kj, e_js, e_jq, e_jn, e_cs, e_cq, e_jc, e_kc, e_js', e_jcq, e_icj, e_kcj, or_true, true_or, or_false, false_or, and_true, true_and, not_true_eq_false, not_false_eq_true], by rw [← hS6]; simp (disch := omega) only [e_let, e_call, e_cal0, e_bind, e_lit, e_ofN, e_neg, nI_add, pk_mul, e_sub, e_ldi, e_sti, e_ldj, e_stj, e_le_t, e_le_f, e_lt_t, e_lt_f, e_eq_t, e_eq_f, e_no_eq, e_no_eq', e_no_rfl, e_no_lt, e_no_le, e_le_no, e_lt_no, if_true, if_false, ↓reduceIte, e_rs, e_rq, e_rn, e_ji, e_ki, e_ij, e_kj, e_js, e_jq, e_jn, e_cs, e_cq, e_jc, e_kc, e_js', e_jcq, e_icj, e_kcj, or_true, true_or, or_false, false_or, and_true, true_and, not_true_eq_false, not_false_eq_true], by rw [← hS6]; simp (disch := omega) only [e_let, e_call, e_cal0, e_bind, e_lit, e_ofN, e_neg, nI_add, pk_mul, e_sub, e_ldi, e_sti, e_ldj, e_stj, e_le_t, e_le_f, e_lt_t, e_lt_f, e_eq_t, e_eq_f, e_no_eq, e_no_eq', e_no_rfl, e_no_lt, e_no_le, e_le_no, e_lt_no, if_true, if_false, ↓reduceIte, e_rs, e_rq, e_rn, e_ji, e_ki, e_ij, e_kj, e_js, e_jq, e_jn, e_cs, e_cq, e_jc, e_kc, e_js', e_jcq, e_icj, e_kcj, or_true, true_or, or_false, false_or, and_true, true_and, not_true_eq_false, not_false_eq_true], Nat.zero_le _, fun j hj => absurd hj (Nat.not_lt_zero j), rfl⟩
  have hf6 : m_ri S6 (x + 37) 15 = nI 0 ∧ m_ri S6 (x + 37) 16 = nI 0 := by constructor <;> (rw [← hS6]; simp (disch := omega) only [e_let, e_call, e_cal0, e_bind, e_lit, e_ofN, e_neg, nI_add, pk_mul, e_sub, e_ldi, e_sti, e_ldj, e_stj, e_le_t, e_le_f, e_lt_t, e_lt_f, e_eq_t, e_eq_f, e_no_eq, e_no_eq', e_no_rfl, e_no_lt, e_no_le, e_le_no, e_lt_no, if_true, if_false, ↓reduceIte, e_rs, e_rq, e_rn, e_ji, e_ki, e_ij, e_kj, e_js, e_jq, e_jn, e_cs, e_cq, e_jc, e_kc, e_js', e_jcq, e_icj, e_kcj, or_true, true_or, or_false, false_or, and_true, true_and, not_true_eq_false, not_false_eq_true])
  generalize hM : (if N < L then N else L) = M
  have hMN : M ≤ N := by split at hM <;> omega
  obtain ⟨S1, s, p, a1, a2, a3, a4, a5⟩ := k_op45s (x := x) (t := t) (N := N) (L := L) hM.symm hL M 0 m_fu 0 0 S6 (by omega) (by omega) (Nat.le_refl 0) (Nat.le_refl 0) hZ6 hI6
  obtain ⟨i5, i6, i7, i8, i9, i0⟩ := a2
  have hSp := t_S_le (t := t) (N := N) (N - p) p rfl i8
  have hM9 : M ≤ 200 := by split at hM <;> omega
  generalize hk0 : (if N ≤ M then 0 else 1) = k0
  have hp := k_puts (S := S1) (x := x) (a := nI k0) (b := nI M) (c := -1) (by rw [a5.1 0 (by omega) (by omega)]; exact hZ6.2.2.1.2) i7 (by omega)
  have hKs : t_K t N L (t_P t N s) = k0 ∧ t_F t N L (t_P t N s) = M := by
    rw [t_K, t_F, ← i0, ← hk0]
    by_cases h : N ≤ M
    · have : ¬ (L < N ∧ L ≤ t_S t N p) := fun g => by split at hM <;> omega
      rw [if_pos h, if_neg this, if_neg (by omega), if_neg this]; exact ⟨rfl, by omega⟩
    · have : L < N ∧ L ≤ t_S t N p := by split at hM <;> omega
      rw [if_neg h, if_pos this, if_pos this]; exact ⟨rfl, by split at hM <;> omega⟩
  have hth := t_h_pts (S := S1) (S0 := S1) (x := x) (s := s) (a := nI k0) (b := nI M) (c := -1) i6 (fun _ _ => rfl) e_O.rf
  obtain ⟨v1, v2, v3⟩ := t_pt_vs (S := S1) (x := x) (s := s) (a := nI k0) (b := nI M) (c := -1)
  have hk01 : k0 ≤ 1 := by rw [← hk0]; split <;> omega
  generalize hS2 : t_pts x S1 s (nI k0) (nI M) (-1) = S2 at *
  have hA : t_As (m_si S2 (x + 37) 8 m_no) x t N L s := by
    refine ⟨by rw [e_rn (by omega)]; exact hth.2.1, by omega, fun j hj => ?_, by rw [hKs.1]; exact hk01⟩
    simp only [t_c1s]
    rw [e_rq (by omega), e_rq (by omega), e_ji]
    by_cases hjs : j = s
    · subst hjs
      rw [hKs.1, hKs.2]
      exact ⟨v1, v2, fun h => by omega, fun h => by omega, fun h => by omega, fun h => by omega⟩
    · exact t_c1_ofs hth hjs (i9 j (by omega))
  obtain ⟨S3, b1, b2, b3, b4⟩ := k_adv0s hA (Nat.zero_le s) (by rw [e_rs]; exact e_inc0)
  have hO13 : t_O (x + 37) (x + 42) S1 S3 := (hth.2.2.2.2.2.2.2.si (by omega) (by omega)).tr (b4.wide (by omega) (by omega))
  have hO3 : t_O (x + 37) (x + 42) S S3 := (hO6.tr a5.2.2).tr hO13
  refine ⟨S3, ?_, b2, ?_, ?_, ?_, hO3⟩
  · have e0 : f_X9s_open x S (nI N) = b_X9s_open_45 x m_fu S6 (nI M) (nI 0) := by
      rw [← hS6, ← hM]
      by_cases h : N < L
      · rw [if_pos h]; simp (disch := omega) only [e_let, e_call, e_cal0, e_bind, e_lit, e_ofN, e_neg, nI_add, pk_mul, e_sub, e_ldi, e_sti, e_ldj, e_stj, e_le_t, e_le_f, e_lt_t, e_lt_f, e_eq_t, e_eq_f, e_no_eq, e_no_eq', e_no_rfl, e_no_lt, e_no_le, e_le_no, e_lt_no, if_true, if_false, ↓reduceIte, e_rs, e_rq, e_rn, e_ji, e_ki, e_ij, e_kj, e_js, e_jq, e_jn, e_cs, e_cq, e_jc, e_kc, e_js', e_jcq, e_icj, e_kcj, or_true, true_or, or_false, false_or, and_true, true_and, not_true_eq_false, not_false_eq_true, f_X9s_open, hz0]
      · rw [if_neg h]
        by_cases h' : L < N
        · simp (disch := omega) only [e_let, e_call, e_cal0, e_bind, e_lit, e_ofN, e_neg, nI_add, pk_mul, e_sub, e_ldi, e_sti, e_ldj, e_stj, e_le_t, e_le_f, e_lt_t, e_lt_f, e_eq_t, e_eq_f, e_no_eq, e_no_eq', e_no_rfl, e_no_lt, e_no_le, e_le_no, e_lt_no, if_true, if_false, ↓reduceIte, e_rs, e_rq, e_rn, e_ji, e_ki, e_ij, e_kj, e_js, e_jq, e_jn, e_cs, e_cq, e_jc, e_kc, e_js', e_jcq, e_icj, e_kcj, or_true, true_or, or_false, false_or, and_true, true_and, not_true_eq_false, not_false_eq_true, f_X9s_open, hz0]
        · obtain rfl : L = N := by omega
          simp (disch := omega) only [e_let, e_call, e_cal0, e_bind, e_lit, e_ofN, e_neg, nI_add, pk_mul, e_sub, e_ldi, e_sti, e_ldj, e_stj, e_le_t, e_le_f, e_lt_t, e_lt_f, e_eq_t, e_eq_f, e_no_eq, e_no_eq', e_no_rfl, e_no_lt, e_no_le, e_le_no, e_lt_no, if_true, if_false, ↓reduceIte, e_rs, e_rq, e_rn, e_ji, e_ki, e_ij, e_kj, e_js, e_jq, e_jn, e_cs, e_cq, e_jc, e_kc, e_js', e_jcq, e_icj, e_kcj, or_true, true_or, or_false, false_or, and_true, true_and, not_true_eq_false, not_false_eq_true, f_X9s_open, hz0]
    rw [e0, a1]
    by_cases h : N ≤ M
    · rw [if_pos h] at hk0
      subst hk0
      simp (disch := omega) only [e_let, e_call, e_cal0, e_bind, e_lit, e_ofN, e_neg, nI_add, pk_mul, e_sub, e_ldi, e_sti, e_ldj, e_stj, e_le_t, e_le_f, e_lt_t, e_lt_f, e_eq_t, e_eq_f, e_no_eq, e_no_eq', e_no_rfl, e_no_lt, e_no_le, e_le_no, e_lt_no, if_true, if_false, ↓reduceIte, e_rs, e_rq, e_rn, e_ji, e_ki, e_ij, e_kj, e_js, e_jq, e_jn, e_cs, e_cq, e_jc, e_kc, e_js', e_jcq, e_icj, e_kcj, or_true, true_or, or_false, false_or, and_true, true_and, not_true_eq_false, not_false_eq_true, b_X9s_open_70, i5, b_X9s_open_84, hp, b1]
    · rw [if_neg h] at hk0
      subst hk0
      simp (disch := omega) only [e_let, e_call, e_cal0, e_bind, e_lit, e_ofN, e_neg, nI_add, pk_mul, e_sub, e_ldi, e_sti, e_ldj, e_stj, e_le_t, e_le_f, e_lt_t, e_lt_f, e_eq_t, e_eq_f, e_no_eq, e_no_eq', e_no_rfl, e_no_lt, e_no_le, e_le_no, e_lt_no, if_true, if_false, ↓reduceIte, e_rs, e_rq, e_rn, e_ji, e_ki, e_ij, e_kj, e_js, e_jq, e_jn, e_cs, e_cq, e_jc, e_kc, e_js', e_jcq, e_icj, e_kcj, or_true, true_or, or_false, false_or, and_true, true_and, not_true_eq_false, not_false_eq_true, b_X9s_open_70, i5, b_X9s_open_84, hp, b1]
  · refine ⟨fun i hi => by rw [(hO3.1 (x + 1) (by omega)).1]; exact hc.1 i hi, fun i hi => ?_, ⟨hN, ?_⟩, hc.2.2.2⟩
    · rw [(b4.1 (x + 38) (by omega)).2, e_ji, hth.2.2.2.2.2.2.1, a5.2.1, hj6]; exact hc.2.1 i hi
    · rw [b3 0 (by omega), e_rn (by omega), hth.2.2.1 0 (by omega) (by omega), a5.1 0 (by omega) (by omega)]; exact hZ6.2.2.1.2
  · rw [b3 15 (by omega), e_rn (by omega), hth.2.2.1 15 (by omega) (by omega), a5.1 15 (by omega) (by omega)]; exact hf6.1
  · rw [b3 16 (by omega), e_rn (by omega), hth.2.2.1 16 (by omega) (by omega), a5.1 16 (by omega) (by omega)]; exact hf6.2
end TCs
def t_czs (S : m_M) (x : Nat) (t : Nat → Nat) (N L p : Nat) : Prop := t_Zs S x t N ∧ t_Cs S x t N L p ∧ m_ri S (x + 37) 15 = nI 0
section TVs
variable {S S' T T' : m_M} {x m : Nat} {t : Nat → Nat} {N L p q n c i κ : Nat}
theorem t_Zs.kept (h : t_Zs S x t N) (w1 : m_ri S' (x + 1) = m_ri S (x + 1)) (w2 : m_rj S' (x + 38) = m_rj S (x + 38)) (w3 : m_ri S' (x + 37) 0 = m_ri S (x + 37) 0) : t_Zs S' x t N := ⟨fun i hi => by rw [w1]; exact h.1 i hi, fun i hi => by rw [w2]; exact h.2.1 i hi, ⟨h.2.2.1.1, by rw [w3]; exact h.2.2.1.2⟩, h.2.2.2⟩
theorem t_Cs.kept (h : t_Cs S x t N L p) (w : ∀ q, x + 37 ≤ q → q < x + 42 → m_ri S' q = m_ri S q ∧ m_rj S' q = m_rj S q) : t_Cs S' x t N L p := by
  simp only [t_Cs, t_As, t_c1s] at h ⊢
  rw [(w (x + 37) (by omega) (by omega)).1, (w (x + 37) (by omega) (by omega)).2, (w (x + 39) (by omega) (by omega)).1, (w (x + 40) (by omega) (by omega)).1, (w (x + 41) (by omega) (by omega)).2]
  exact h
theorem t_czs.kept (h : t_czs S x t N L p) (w : ∀ q, (q = x + 1 ∨ x + 37 ≤ q) → q < x + 42 → m_ri S' q = m_ri S q ∧ m_rj S' q = m_rj S q) : t_czs S' x t N L p :=
  ⟨h.1.kept (w (x + 1) (by omega) (by omega)).1 (w (x + 38) (by omega) (by omega)).2 (by rw [(w (x + 37) (by omega) (by omega)).1]), h.2.1.kept fun q h1 h2 => w q (by omega) h2, by rw [(w (x + 37) (by omega) (by omega)).1]; exact h.2.2⟩
theorem k_go2s (h : t_czs S x t N L p) (h2 : 2 ≤ t_K t N L p) : ∃ S', f_X9s_advance x S = some S' ∧ t_czs S' x t N L (t_E t N p) ∧ (∀ i, i < 8 ∨ 13 < i → m_ri S' (x + 37) i = m_ri S (x + 37) i) ∧ t_O (x + 37) (x + 38) S S' := by
  obtain ⟨S', a1, a2, a3, a4⟩ := k_advs h.2.1 h2
  exact ⟨S', a1, ⟨h.1.kept (a4.1 (x + 1) (by omega)).1 (a4.1 (x + 38) (by omega)).2 (a3 0 (by omega)), a2, by rw [a3 15 (by omega)]; exact h.2.2⟩, a3, a4⟩
theorem t_czs.tk (h : t_czs S x t N L p) : m_ri S (x + 37) 9 = nI (t_K t N L p) ∧ m_ri S (x + 37) 10 = nI (t_F t N L p) ∧ m_ri S (x + 37) 11 = (if t_K t N L p = 3 then nI (t_ki (t_W t N p)) else m_no) ∧ m_ri S (x + 37) 12 = (if t_K t N L p = 4 then nI (t_M t N p) else m_no) ∧ m_ri S (x + 37) 13 = (if t_K t N L p = 5 then nI (t_G t N p) else m_no) ∧ m_rj S (x + 37) 14 = (if t_K t N L p = 2 then t_W t N p else -1) := by
  obtain ⟨k, K, _, _, _, _, a, b, c, d, e, f⟩ := h.2.1
  exact ⟨a, b, c, d, e, f⟩
theorem k_failss (h : t_czs S x t N L p) : f_X9s_failsBy x S (nI κ) = some (nI 0, m_si (m_si S (x + 37) 15 (nI κ)) (x + 37) 16 (nI (t_F t N L p))) := by
  have h10 := h.tk.2.1
  simp (disch := omega) only [e_let, e_call, e_cal0, e_bind, e_lit, e_ofN, e_neg, nI_add, pk_mul, e_sub, e_ldi, e_sti, e_ldj, e_stj, e_le_t, e_le_f, e_lt_t, e_lt_f, e_eq_t, e_eq_f, e_no_eq, e_no_eq', e_no_rfl, e_no_lt, e_no_le, e_le_no, e_lt_no, if_true, if_false, ↓reduceIte, e_rs, e_rq, e_rn, e_ji, e_ki, e_ij, e_kj, e_js, e_jq, e_jn, e_cs, e_cq, e_jc, e_kc, e_js', e_jcq, e_icj, e_kcj, or_true, true_or, or_false, false_or, and_true, true_and, not_true_eq_false, not_false_eq_true, f_X9s_failsBy, h10]
end TVs
def v_Bs (S T : m_M) (x m : Nat) : Prop := ∃ κ pl, 1 ≤ κ ∧ κ ≤ 4 ∧ pl ≤ 940 ∧ m_ri S (x + 37) 15 = nI κ ∧ m_ri T m 10 = nI κ ∧ m_ri S (x + 37) 16 = nI pl ∧ m_ri T m 11 = nI pl ∧ m_ri S (x + 37) 0 = nI 200
def v_Js (S T : m_M) (x m : Nat) (t : Nat → Nat) (N L p : Nat) : Prop := t_czs S x t N L p ∧ t_yj T m t N L p
section VSs
variable {S S' S'' T T' T'' : m_M} {x m l : Nat} {t : Nat → Nat} {N L p : Nat}
theorem v_fails {κ : Nat} (h : v_Js S T x m t N L p) (hκ : t_K t N L p = 1 → κ = 1) (h1 : 1 ≤ κ) (h4 : κ ≤ 4) : f_X9s_failsBy x S (nI κ) = some (nI 0, m_si (m_si S (x + 37) 15 (nI κ)) (x + 37) 16 (nI (t_F t N L p))) ∧ f_X12_bad m T (nI κ) = some (nI 0, m_si (m_si T m 10 (nI κ)) m 11 (nI (t_F t N L p))) ∧ v_Bs (m_si (m_si S (x + 37) 15 (nI κ)) (x + 37) 16 (nI (t_F t N L p))) (m_si (m_si T m 10 (nI κ)) m 11 (nI (t_F t N L p))) x m := by
  refine ⟨k_failss h.1, j_bad h.2 hκ, κ, t_F t N L p, h1, h4, t_F_le h.2, ?_, ?_, e_rs, e_rs, ?_⟩
  · rw [e_rn (by omega), e_rs]
  · rw [e_rn (by omega), e_rs]
  · rw [e_rn (by omega), e_rn (by omega)]; exact h.1.1.2.2.1.2
theorem k_kws (hJ : t_czs S x t N L p) {i : Nat} (hi : i < 22) : (m_ri S (x + 37) 11 = nI i) = (t_K t N L p = 3 ∧ t_ki (t_W t N p) = i) := by
  have k11 := hJ.tk.2.2.1
  rw [k11]
  have hle := t_ki_le (w := t_W t N p)
  by_cases h : t_K t N L p = 3
  · rw [if_pos h, e_eq (by omega) (by omega)]; exact propext ⟨fun e => ⟨h, e⟩, fun e => e.2⟩
  · rw [if_neg h, e_no_eq' (by omega)]; exact propext ⟨fun e => False.elim e, fun e => absurd e.1 h⟩
end VSs
