/-! the pieces of a text: the other side -/
def t_Y (T : m_M) (m : Nat) (t : Nat → Nat) (N L : Nat) : Prop := m_ri T m 3 = nI N ∧ m_ri T m 4 = nI L ∧ (∀ i, i < N → m_ri T (m + 1) i = nI (t i)) ∧ N ≤ 940 ∧ L ≤ 900 ∧ ∀ i, t i < 256
def t_j (κ : Nat) : Nat := if κ ≤ 2 then κ else κ - 1
def t_J (T : m_M) (m : Nat) (t : Nat → Nat) (N L p : Nat) : Prop := m_ri T m 6 = nI (t_F t N L p) ∧ m_ri T m 7 = nI (t_j (t_K t N L p)) ∧ (2 ≤ t_K t N L p → m_ri T m 5 = nI (t_E t N p)) ∧ (t_K t N L p = 2 ∨ t_K t N L p = 3 → m_rj T m 12 = t_W t N p) ∧ (t_K t N L p = 4 → m_ri T m 8 = nI (t_M t N p)) ∧ (t_K t N L p = 5 → m_ri T m 9 = nI (t_G t N p))
/-- what the reading of a piece changes -/
def t_N (m : Nat) (T T' : m_M) : Prop := (∀ i, i < 5 ∨ 9 < i → m_ri T' m i = m_ri T m i) ∧ (∀ i, i ≠ 12 → m_rj T' m i = m_rj T m i) ∧ t_O m (m + 1) T T'
theorem t_N.rf {m : Nat} {T : m_M} : t_N m T T := ⟨fun _ _ => rfl, fun _ _ => rfl, t_O.rf⟩
theorem t_N.tr {m : Nat} {T T' T'' : m_M} (h : t_N m T T') (h' : t_N m T' T'') : t_N m T T'' := ⟨fun i a => (h'.1 i a).trans (h.1 i a), fun i a => (h'.2.1 i a).trans (h.2.1 i a), h.2.2.tr h'.2.2⟩
theorem t_N.si {m i : Nat} {T T' : m_M} {v : Int32} (h : t_N m T T') (h1 : 5 ≤ i) (h2 : i ≤ 9) : t_N m T (m_si T' m i v) := ⟨fun j a => by rw [e_rn (by omega)]; exact h.1 j a, h.2.1, h.2.2.si (by omega) (by omega)⟩
theorem t_N.sj {m : Nat} {T T' : m_M} {v : Int64} (h : t_N m T T') : t_N m T (m_sj T' m 12 v) := ⟨h.1, fun j a => by rw [e_jn a]; exact h.2.1 j a, h.2.2.sj (by omega) (by omega)⟩
theorem t_N.Y {m N L : Nat} {t : Nat → Nat} {T T' : m_M} (h : t_N m T T') (hY : t_Y T m t N L) : t_Y T' m t N L := ⟨by rw [h.1 3 (by omega)]; exact hY.1, by rw [h.1 4 (by omega)]; exact hY.2.1, fun i hi => by rw [(h.2.2.1 (m + 1) (by omega)).1]; exact hY.2.2.1 i hi, hY.2.2.2⟩
section TR
variable {T : m_M} {m : Nat} {t : Nat → Nat} {N L p q n c s : Nat}
theorem j_go0 : ∀ (c fu p : Nat) (T : m_M), p + c = t_S t N p → p ≤ N → c < fu → t_Y T m t N L → m_ri T m 5 = nI p →
    ∃ T', b_X12_go_0 m fu T = b_X12_go_52 m T' ∧ m_ri T' m 5 = nI (t_S t N p) ∧ t_N m T T' := by
  intro c
  induction c with
  | zero =>
    intro fu p T h1 h2 hf hY h5
    obtain ⟨fu, rfl⟩ : ∃ f, fu = f + 1 := ⟨fu - 1, by omega⟩
    obtain ⟨y3, y4, yt, yN, yL, yb⟩ := hY
    refine ⟨T, ?_, by rw [h5, ← h1, Nat.add_zero], t_N.rf⟩
    by_cases hp : p < N
    · have hns := t_S_ns (t := t) (N := N) (N - p) p rfl (by omega)
      rw [← h1, Nat.add_zero] at hns
      have hb := yt p hp
      have hb2 := yb p
      have n1 : ¬ t p = 32 := fun g => hns (Or.inl g)
      have n2 : ¬ t p = 10 := fun g => hns (Or.inr g)
      simp (disch := omega) only [e_let, e_call, e_cal0, e_bind, e_lit, e_ofN, e_neg, nI_add, pk_mul, e_sub, e_ldi, e_sti, e_ldj, e_stj, e_le_t, e_le_f, e_lt_t, e_lt_f, e_eq_t, e_eq_f, e_no_eq, e_no_eq', e_no_rfl, e_no_lt, e_no_le, e_le_no, e_lt_no, if_true, if_false, ↓reduceIte, e_rs, e_rq, e_rn, e_ji, e_ki, e_ij, e_kj, e_js, e_jq, e_jn, e_cs, e_cq, e_jc, e_kc, e_js', e_jcq, e_icj, e_kcj, or_true, true_or, or_false, false_or, and_true, true_and, not_true_eq_false, not_false_eq_true, b_X12_go_0, y3, h5, hb]
    · simp (disch := omega) only [e_let, e_call, e_cal0, e_bind, e_lit, e_ofN, e_neg, nI_add, pk_mul, e_sub, e_ldi, e_sti, e_ldj, e_stj, e_le_t, e_le_f, e_lt_t, e_lt_f, e_eq_t, e_eq_f, e_no_eq, e_no_eq', e_no_rfl, e_no_lt, e_no_le, e_le_no, e_lt_no, if_true, if_false, ↓reduceIte, e_rs, e_rq, e_rn, e_ji, e_ki, e_ij, e_kj, e_js, e_jq, e_jn, e_cs, e_cq, e_jc, e_kc, e_js', e_jcq, e_icj, e_kcj, or_true, true_or, or_false, false_or, and_true, true_and, not_true_eq_false, not_false_eq_true, b_X12_go_0, y3, h5]
  | succ c ih =>
    intro fu p T h1 h2 hf hY h5
    obtain ⟨fu, rfl⟩ : ∃ f, fu = f + 1 := ⟨fu - 1, by omega⟩
    have hY' := hY
    obtain ⟨y3, y4, yt, yN, yL, yb⟩ := hY
    have hs : p < N ∧ (t p = 32 ∨ t p = 10) := by
      by_cases g : p < N ∧ (t p = 32 ∨ t p = 10)
      · exact g
      · rw [t_S_e, if_neg g] at h1; omega
    have hS := t_sp hs.1 hs.2
    have hb := yt p hs.1
    have hF : t_N m T (m_si T m 5 (nI (p + 1))) := t_N.rf.si (by omega) (by omega)
    obtain ⟨T', a1, a2, a3⟩ := ih fu (p + 1) (m_si T m 5 (nI (p + 1))) (by omega) (by omega) (by omega) (hF.Y hY') e_rs
    refine ⟨T', ?_, by rw [hS]; exact a2, hF.tr a3⟩
    rw [← a1]
    rcases hs.2 with h | h <;> rw [h] at hb
    · simp (disch := omega) only [e_let, e_call, e_cal0, e_bind, e_lit, e_ofN, e_neg, nI_add, pk_mul, e_sub, e_ldi, e_sti, e_ldj, e_stj, e_le_t, e_le_f, e_lt_t, e_lt_f, e_eq_t, e_eq_f, e_no_eq, e_no_eq', e_no_rfl, e_no_lt, e_no_le, e_le_no, e_lt_no, if_true, if_false, ↓reduceIte, e_rs, e_rq, e_rn, e_ji, e_ki, e_ij, e_kj, e_js, e_jq, e_jn, e_cs, e_cq, e_jc, e_kc, e_js', e_jcq, e_icj, e_kcj, or_true, true_or, or_false, false_or, and_true, true_and, not_true_eq_false, not_false_eq_true, b_X12_go_0, y3, h5, hb, b_X12_go_39]
    · simp (disch := omega) only [e_let, e_call, e_cal0, e_bind, e_lit, e_ofN, e_neg, nI_add, pk_mul, e_sub, e_ldi, e_sti, e_ldj, e_stj, e_le_t, e_le_f, e_lt_t, e_lt_f, e_eq_t, e_eq_f, e_no_eq, e_no_eq', e_no_rfl, e_no_lt, e_no_le, e_le_no, e_lt_no, if_true, if_false, ↓reduceIte, e_rs, e_rq, e_rn, e_ji, e_ki, e_ij, e_kj, e_js, e_jq, e_jn, e_cs, e_cq, e_jc, e_kc, e_js', e_jcq, e_icj, e_kcj, or_true, true_or, or_false, false_or, and_true, true_and, not_true_eq_false, not_false_eq_true, b_X12_go_0, y3, h5, hb, b_X12_go_39]
theorem j_go272 {K : m_M → Int32 → Int32 → Option m_M} {l2 l3 : Int32} {v : Nat} (h5 : m_ri T m 5 = nI (q + n)) (h6 : m_ri T m 6 = nI q) (hq : q + n < 1000) :
    ∃ T', b_X12_go_272 m K T l2 (nI v) l3 = K T' l2 l3 ∧ m_ri T' m 5 = nI (q + (n + 1)) ∧ m_ri T' m 6 = nI q ∧ (n < 7 → m_rj T' m 12 = 27 * m_rj T m 12 + (nI v).toInt64 - 96) ∧ (n < 3 → m_ri T' m 8 = nI 10 * m_ri T m 8 + nI v - nI 48) ∧ t_N m T T' := by
  by_cases h7 : n < 7
  · by_cases h3 : n < 3
    · refine ⟨m_si (m_si (m_sj T m 12 (27 * m_rj T m 12 + (nI v).toInt64 - 96)) m 8 (nI 10 * m_ri T m 8 + nI v - nI 48)) m 5 (nI (q + n + 1)), ?_, e_rs, ?_, fun _ => ?_, fun _ => ?_, (t_N.rf.sj.si (by omega) (by omega)).si (by omega) (by omega)⟩
      · simp (disch := omega) only [e_let, e_call, e_cal0, e_bind, e_lit, e_ofN, e_neg, nI_add, pk_mul, e_sub, e_ldi, e_sti, e_ldj, e_stj, e_le_t, e_le_f, e_lt_t, e_lt_f, e_eq_t, e_eq_f, e_no_eq, e_no_eq', e_no_rfl, e_no_lt, e_no_le, e_le_no, e_lt_no, if_true, if_false, ↓reduceIte, e_rs, e_rq, e_rn, e_ji, e_ki, e_ij, e_kj, e_js, e_jq, e_jn, e_cs, e_cq, e_jc, e_kc, e_js', e_jcq, e_icj, e_kcj, or_true, true_or, or_false, false_or, and_true, true_and, not_true_eq_false, not_false_eq_true, b_X12_go_272, h5, h6, b_X12_go_307, b_X12_go_337, Nat.add_sub_cancel_left]
      · simp (disch := omega) only [e_let, e_call, e_cal0, e_bind, e_lit, e_ofN, e_neg, nI_add, pk_mul, e_sub, e_ldi, e_sti, e_ldj, e_stj, e_le_t, e_le_f, e_lt_t, e_lt_f, e_eq_t, e_eq_f, e_no_eq, e_no_eq', e_no_rfl, e_no_lt, e_no_le, e_le_no, e_lt_no, if_true, if_false, ↓reduceIte, e_rs, e_rq, e_rn, e_ji, e_ki, e_ij, e_kj, e_js, e_jq, e_jn, e_cs, e_cq, e_jc, e_kc, e_js', e_jcq, e_icj, e_kcj, or_true, true_or, or_false, false_or, and_true, true_and, not_true_eq_false, not_false_eq_true, h6]
      · simp (disch := omega) only [e_let, e_call, e_cal0, e_bind, e_lit, e_ofN, e_neg, nI_add, pk_mul, e_sub, e_ldi, e_sti, e_ldj, e_stj, e_le_t, e_le_f, e_lt_t, e_lt_f, e_eq_t, e_eq_f, e_no_eq, e_no_eq', e_no_rfl, e_no_lt, e_no_le, e_le_no, e_lt_no, if_true, if_false, ↓reduceIte, e_rs, e_rq, e_rn, e_ji, e_ki, e_ij, e_kj, e_js, e_jq, e_jn, e_cs, e_cq, e_jc, e_kc, e_js', e_jcq, e_icj, e_kcj, or_true, true_or, or_false, false_or, and_true, true_and, not_true_eq_false, not_false_eq_true]
      · simp (disch := omega) only [e_let, e_call, e_cal0, e_bind, e_lit, e_ofN, e_neg, nI_add, pk_mul, e_sub, e_ldi, e_sti, e_ldj, e_stj, e_le_t, e_le_f, e_lt_t, e_lt_f, e_eq_t, e_eq_f, e_no_eq, e_no_eq', e_no_rfl, e_no_lt, e_no_le, e_le_no, e_lt_no, if_true, if_false, ↓reduceIte, e_rs, e_rq, e_rn, e_ji, e_ki, e_ij, e_kj, e_js, e_jq, e_jn, e_cs, e_cq, e_jc, e_kc, e_js', e_jcq, e_icj, e_kcj, or_true, true_or, or_false, false_or, and_true, true_and, not_true_eq_false, not_false_eq_true]
    · refine ⟨m_si (m_sj T m 12 (27 * m_rj T m 12 + (nI v).toInt64 - 96)) m 5 (nI (q + n + 1)), ?_, e_rs, ?_, fun _ => ?_, fun h => absurd h h3, t_N.rf.sj.si (by omega) (by omega)⟩
      · simp (disch := omega) only [e_let, e_call, e_cal0, e_bind, e_lit, e_ofN, e_neg, nI_add, pk_mul, e_sub, e_ldi, e_sti, e_ldj, e_stj, e_le_t, e_le_f, e_lt_t, e_lt_f, e_eq_t, e_eq_f, e_no_eq, e_no_eq', e_no_rfl, e_no_lt, e_no_le, e_le_no, e_lt_no, if_true, if_false, ↓reduceIte, e_rs, e_rq, e_rn, e_ji, e_ki, e_ij, e_kj, e_js, e_jq, e_jn, e_cs, e_cq, e_jc, e_kc, e_js', e_jcq, e_icj, e_kcj, or_true, true_or, or_false, false_or, and_true, true_and, not_true_eq_false, not_false_eq_true, b_X12_go_272, h5, h6, b_X12_go_307, b_X12_go_337, Nat.add_sub_cancel_left]
      · simp (disch := omega) only [e_let, e_call, e_cal0, e_bind, e_lit, e_ofN, e_neg, nI_add, pk_mul, e_sub, e_ldi, e_sti, e_ldj, e_stj, e_le_t, e_le_f, e_lt_t, e_lt_f, e_eq_t, e_eq_f, e_no_eq, e_no_eq', e_no_rfl, e_no_lt, e_no_le, e_le_no, e_lt_no, if_true, if_false, ↓reduceIte, e_rs, e_rq, e_rn, e_ji, e_ki, e_ij, e_kj, e_js, e_jq, e_jn, e_cs, e_cq, e_jc, e_kc, e_js', e_jcq, e_icj, e_kcj, or_true, true_or, or_false, false_or, and_true, true_and, not_true_eq_false, not_false_eq_true, h6]
      · simp (disch := omega) only [e_let, e_call, e_cal0, e_bind, e_lit, e_ofN, e_neg, nI_add, pk_mul, e_sub, e_ldi, e_sti, e_ldj, e_stj, e_le_t, e_le_f, e_lt_t, e_lt_f, e_eq_t, e_eq_f, e_no_eq, e_no_eq', e_no_rfl, e_no_lt, e_no_le, e_le_no, e_lt_no, if_true, if_false, ↓reduceIte, e_rs, e_rq, e_rn, e_ji, e_ki, e_ij, e_kj, e_js, e_jq, e_jn, e_cs, e_cq, e_jc, e_kc, e_js', e_jcq, e_icj, e_kcj, or_true, true_or, or_false, false_or, and_true, true_and, not_true_eq_false, not_false_eq_true]
  · refine ⟨m_si T m 5 (nI (q + n + 1)), ?_, e_rs, ?_, fun h => absurd h h7, fun h => by omega, t_N.rf.si (by omega) (by omega)⟩
    · simp (disch := omega) only [e_let, e_call, e_cal0, e_bind, e_lit, e_ofN, e_neg, nI_add, pk_mul, e_sub, e_ldi, e_sti, e_ldj, e_stj, e_le_t, e_le_f, e_lt_t, e_lt_f, e_eq_t, e_eq_f, e_no_eq, e_no_eq', e_no_rfl, e_no_lt, e_no_le, e_le_no, e_lt_no, if_true, if_false, ↓reduceIte, e_rs, e_rq, e_rn, e_ji, e_ki, e_ij, e_kj, e_js, e_jq, e_jn, e_cs, e_cq, e_jc, e_kc, e_js', e_jcq, e_icj, e_kcj, or_true, true_or, or_false, false_or, and_true, true_and, not_true_eq_false, not_false_eq_true, b_X12_go_272, h5, h6, b_X12_go_307, b_X12_go_337, Nat.add_sub_cancel_left]
    · simp (disch := omega) only [e_let, e_call, e_cal0, e_bind, e_lit, e_ofN, e_neg, nI_add, pk_mul, e_sub, e_ldi, e_sti, e_ldj, e_stj, e_le_t, e_le_f, e_lt_t, e_lt_f, e_eq_t, e_eq_f, e_no_eq, e_no_eq', e_no_rfl, e_no_lt, e_no_le, e_le_no, e_lt_no, if_true, if_false, ↓reduceIte, e_rs, e_rq, e_rn, e_ji, e_ki, e_ij, e_kj, e_js, e_jq, e_jn, e_cs, e_cq, e_jc, e_kc, e_js', e_jcq, e_icj, e_kcj, or_true, true_or, or_false, false_or, and_true, true_and, not_true_eq_false, not_false_eq_true, h6]
/-- all of the one kind so far -/
abbrev t_al (t : Nat → Nat) (q n : Nat) : Prop := if t_l (t q) then t_dc t q n = 0 else t_dc t q n = n
theorem t_al_s (h : t_w (t (q + n))) : t_al t q (n + 1) ↔ t_al t q n ∧ (t_l (t (q + n)) ↔ t_l (t q)) := by
  have hl := t_dc_le (t := t) (q := q) n
  by_cases a : t_l (t q)
  · simp only [t_al, if_pos a]
    by_cases b : t_l (t (q + n))
    · rw [t_dc_l b]; exact ⟨fun g => ⟨g, ⟨fun _ => a, fun _ => b⟩⟩, fun g => g.1⟩
    · rw [t_dc_d (h.resolve_left b)]; exact ⟨fun g => by omega, fun g => absurd (g.2.mpr a) b⟩
  · simp only [t_al, if_neg a]
    by_cases b : t_l (t (q + n))
    · rw [t_dc_l b]; exact ⟨fun g => by omega, fun g => absurd (g.2.mp b) a⟩
    · rw [t_dc_d (h.resolve_left b)]; exact ⟨fun g => ⟨by omega, ⟨fun g => absurd g b, fun g => absurd g a⟩⟩, fun g => by omega⟩
theorem e_w64 : ∀ c, c < 123 → 97 ≤ c → (nI c).toInt64 - 96 = (nI (c - 97 + 1)).toInt64 := by decide +kernel
theorem t_wv_s (h : t_l (t (q + n))) : t_wv t q (n + 1) = 27 * t_wv t q n + (nI (t (q + n))).toInt64 - 96 := by
  rw [t_wv, e_sub (by omega), nI_add, ← e_w64 (t (q + n)) (by omega) (by omega), Int64.mul_comm, Int64.sub_eq_add_neg, Int64.sub_eq_add_neg, Int64.add_assoc]
theorem j_go215 (hq : q < N) (hw : t_w (t q)) : ∀ (c n fu : Nat) (T : m_M), q + n + c = t_R t N q → t_R t N (q + n) = t_R t N q → q + n ≤ N → c < fu → t_Y T m t N L → m_ri T m 5 = nI (q + n) → m_ri T m 6 = nI q → (t_al t q n → t_l (t q) → n ≤ 7 → m_rj T m 12 = t_wv t q n) → (t_al t q n → ¬ t_l (t q) → n ≤ 3 → m_ri T m 8 = nI (t_nv t q n)) →
    ∃ T', b_X12_go_215 m fu T (nI (if t_l (t q) then 1 else 0)) (nI (if t_al t q n then 1 else 0)) = (if t_al t q (n + c) then (if t_l (t q) then b_X12_go_374 m T' (nI 1) (nI (n + c)) (nI 7) else b_X12_go_374 m T' (nI 0) (nI (n + c)) (nI 3)) else b_X12_go_377 m T') ∧ m_ri T' m 5 = nI (q + (n + c)) ∧ m_ri T' m 6 = nI q ∧ (t_al t q (n + c) → t_l (t q) → n + c ≤ 7 → m_rj T' m 12 = t_wv t q (n + c)) ∧ (t_al t q (n + c) → ¬ t_l (t q) → n + c ≤ 3 → m_ri T' m 8 = nI (t_nv t q (n + c))) ∧ t_N m T T' := by
  intro c
  induction c with
  | zero =>
    intro n fu T h1 h2 h3 hf hY h5 h6 hl hd
    obtain ⟨fu, rfl⟩ : ∃ f, fu = f + 1 := ⟨fu - 1, by omega⟩
    obtain ⟨y3, y4, yt, yN, yL, yb⟩ := hY
    have hc := t_R_c (t := t) (N := N) (p := q + n) (by omega)
    refine ⟨T, ?_, h5, h6, hl, hd, t_N.rf⟩
    rw [show n + 0 = n from rfl]
    have ht : ∃ b, b < 256 ∧ ¬ t_w b ∧ f_X12_tapeAt m T (nI (q + n)) = some (nI b, T) := by
      by_cases hN' : N ≤ q + n
      · refine ⟨0, by omega, by omega, ?_⟩
        simp (disch := omega) only [e_let, e_call, e_cal0, e_bind, e_lit, e_ofN, e_neg, nI_add, pk_mul, e_sub, e_ldi, e_sti, e_ldj, e_stj, e_le_t, e_le_f, e_lt_t, e_lt_f, e_eq_t, e_eq_f, e_no_eq, e_no_eq', e_no_rfl, e_no_lt, e_no_le, e_le_no, e_lt_no, if_true, if_false, ↓reduceIte, e_rs, e_rq, e_rn, e_ji, e_ki, e_ij, e_kj, e_js, e_jq, e_jn, e_cs, e_cq, e_jc, e_kc, e_js', e_jcq, e_icj, e_kcj, or_true, true_or, or_false, false_or, and_true, true_and, not_true_eq_false, not_false_eq_true, f_X12_tapeAt, y3, b_X12_tapeAt_18]
      · have hb := yt (q + n) (by omega)
        refine ⟨t (q + n), yb _, fun g => hc ⟨by omega, g⟩, ?_⟩
        simp (disch := omega) only [e_let, e_call, e_cal0, e_bind, e_lit, e_ofN, e_neg, nI_add, pk_mul, e_sub, e_ldi, e_sti, e_ldj, e_stj, e_le_t, e_le_f, e_lt_t, e_lt_f, e_eq_t, e_eq_f, e_no_eq, e_no_eq', e_no_rfl, e_no_lt, e_no_le, e_le_no, e_lt_no, if_true, if_false, ↓reduceIte, e_rs, e_rq, e_rn, e_ji, e_ki, e_ij, e_kj, e_js, e_jq, e_jn, e_cs, e_cq, e_jc, e_kc, e_js', e_jcq, e_icj, e_kcj, or_true, true_or, or_false, false_or, and_true, true_and, not_true_eq_false, not_false_eq_true, f_X12_tapeAt, y3, hb, b_X12_tapeAt_18]
    obtain ⟨b, hb1, hb2, hb3⟩ := ht
    have e1 := j_isLt (S := T) hb1
    have e2 := j_isDg (S := T) hb1
    rw [if_neg (fun g => hb2 (Or.inl g))] at e1
    rw [if_neg (fun g => hb2 (Or.inr g))] at e2
    by_cases ha : t_al t q n
    · rw [if_pos ha, if_pos ha]
      by_cases hL : t_l (t q)
      · rw [if_pos hL, if_pos hL]
        simp (disch := omega) only [e_let, e_call, e_cal0, e_bind, e_lit, e_ofN, e_neg, nI_add, pk_mul, e_sub, e_ldi, e_sti, e_ldj, e_stj, e_le_t, e_le_f, e_lt_t, e_lt_f, e_eq_t, e_eq_f, e_no_eq, e_no_eq', e_no_rfl, e_no_lt, e_no_le, e_le_no, e_lt_no, if_true, if_false, ↓reduceIte, e_rs, e_rq, e_rn, e_ji, e_ki, e_ij, e_kj, e_js, e_jq, e_jn, e_cs, e_cq, e_jc, e_kc, e_js', e_jcq, e_icj, e_kcj, or_true, true_or, or_false, false_or, and_true, true_and, not_true_eq_false, not_false_eq_true, b_X12_go_215, h5, h6, hb3, e1, e2, Nat.add_sub_cancel_left]
      · rw [if_neg hL, if_neg hL]
        simp (disch := omega) only [e_let, e_call, e_cal0, e_bind, e_lit, e_ofN, e_neg, nI_add, pk_mul, e_sub, e_ldi, e_sti, e_ldj, e_stj, e_le_t, e_le_f, e_lt_t, e_lt_f, e_eq_t, e_eq_f, e_no_eq, e_no_eq', e_no_rfl, e_no_lt, e_no_le, e_le_no, e_lt_no, if_true, if_false, ↓reduceIte, e_rs, e_rq, e_rn, e_ji, e_ki, e_ij, e_kj, e_js, e_jq, e_jn, e_cs, e_cq, e_jc, e_kc, e_js', e_jcq, e_icj, e_kcj, or_true, true_or, or_false, false_or, and_true, true_and, not_true_eq_false, not_false_eq_true, b_X12_go_215, h5, h6, hb3, e1, e2, Nat.add_sub_cancel_left]
    · rw [if_neg ha, if_neg ha]
      simp (disch := omega) only [e_let, e_call, e_cal0, e_bind, e_lit, e_ofN, e_neg, nI_add, pk_mul, e_sub, e_ldi, e_sti, e_ldj, e_stj, e_le_t, e_le_f, e_lt_t, e_lt_f, e_eq_t, e_eq_f, e_no_eq, e_no_eq', e_no_rfl, e_no_lt, e_no_le, e_le_no, e_lt_no, if_true, if_false, ↓reduceIte, e_rs, e_rq, e_rn, e_ji, e_ki, e_ij, e_kj, e_js, e_jq, e_jn, e_cs, e_cq, e_jc, e_kc, e_js', e_jcq, e_icj, e_kcj, or_true, true_or, or_false, false_or, and_true, true_and, not_true_eq_false, not_false_eq_true, b_X12_go_215, h5, h6, hb3, e1, e2]
  | succ c ih =>
    intro n fu T h1 h2 h3 hf hY h5 h6 hl hd
    obtain ⟨fu, rfl⟩ : ∃ f, fu = f + 1 := ⟨fu - 1, by omega⟩
    have hY' := hY
    obtain ⟨y3, y4, yt, yN, yL, yb⟩ := hY
    obtain ⟨g1, g2, g3⟩ := t_R_s (t := t) (N := N) (p := q + n) (by omega)
    have hb := yt (q + n) g1
    have hbb := yb (q + n)
    have e1 := j_isLt (S := T) hbb
    have e2 := j_isDg (S := T) hbb
    have hal := t_al_s g2
    have ht : f_X12_tapeAt m T (nI (q + n)) = some (nI (t (q + n)), T) := by
      simp (disch := omega) only [e_let, e_call, e_cal0, e_bind, e_lit, e_ofN, e_neg, nI_add, pk_mul, e_sub, e_ldi, e_sti, e_ldj, e_stj, e_le_t, e_le_f, e_lt_t, e_lt_f, e_eq_t, e_eq_f, e_no_eq, e_no_eq', e_no_rfl, e_no_lt, e_no_le, e_le_no, e_lt_no, if_true, if_false, ↓reduceIte, e_rs, e_rq, e_rn, e_ji, e_ki, e_ij, e_kj, e_js, e_jq, e_jn, e_cs, e_cq, e_jc, e_kc, e_js', e_jcq, e_icj, e_kcj, or_true, true_or, or_false, false_or, and_true, true_and, not_true_eq_false, not_false_eq_true, f_X12_tapeAt, y3, hb, b_X12_tapeAt_18]
    have hst : b_X12_go_215 m (fu + 1) T (nI (if t_l (t q) then 1 else 0)) (nI (if t_al t q n then 1 else 0)) = b_X12_go_272 m (b_X12_go_215 m fu) T (nI (if t_l (t q) then 1 else 0)) (nI (t (q + n))) (nI (if t_al t q (n + 1) then 1 else 0)) := by
      have h243 : b_X12_go_243 m (b_X12_go_215 m fu) T (nI (if t_l (t q) then 1 else 0)) (nI (if t_al t q n then 1 else 0)) = b_X12_go_272 m (b_X12_go_215 m fu) T (nI (if t_l (t q) then 1 else 0)) (nI (t (q + n))) (nI (if t_al t q (n + 1) then 1 else 0)) := by
        rw [b_X12_go_243, h5, e_ldi (by omega) (by omega), e_bind, hb]
        by_cases ha : t_al t q n
        · rw [if_pos ha, e1]
          by_cases hL : t_l (t q)
          · rw [if_pos hL]
            by_cases hL2 : t_l (t (q + n))
            · rw [if_pos hL2, if_pos (hal.mpr ⟨ha, fun _ => hL, fun _ => hL2⟩)]
              simp (disch := omega) only [e_let, e_call, e_cal0, e_bind, e_lit, e_ofN, e_neg, nI_add, pk_mul, e_sub, e_ldi, e_sti, e_ldj, e_stj, e_le_t, e_le_f, e_lt_t, e_lt_f, e_eq_t, e_eq_f, e_no_eq, e_no_eq', e_no_rfl, e_no_lt, e_no_le, e_le_no, e_lt_no, if_true, if_false, ↓reduceIte, e_rs, e_rq, e_rn, e_ji, e_ki, e_ij, e_kj, e_js, e_jq, e_jn, e_cs, e_cq, e_jc, e_kc, e_js', e_jcq, e_icj, e_kcj, or_true, true_or, or_false, false_or, and_true, true_and, not_true_eq_false, not_false_eq_true]
            · rw [if_neg hL2, if_neg (fun g => hL2 ((hal.mp g).2.mpr hL))]
              simp (disch := omega) only [e_let, e_call, e_cal0, e_bind, e_lit, e_ofN, e_neg, nI_add, pk_mul, e_sub, e_ldi, e_sti, e_ldj, e_stj, e_le_t, e_le_f, e_lt_t, e_lt_f, e_eq_t, e_eq_f, e_no_eq, e_no_eq', e_no_rfl, e_no_lt, e_no_le, e_le_no, e_lt_no, if_true, if_false, ↓reduceIte, e_rs, e_rq, e_rn, e_ji, e_ki, e_ij, e_kj, e_js, e_jq, e_jn, e_cs, e_cq, e_jc, e_kc, e_js', e_jcq, e_icj, e_kcj, or_true, true_or, or_false, false_or, and_true, true_and, not_true_eq_false, not_false_eq_true, b_X12_go_271]
          · rw [if_neg hL]
            by_cases hL2 : t_l (t (q + n))
            · rw [if_pos hL2, if_neg (fun g => hL ((hal.mp g).2.mp hL2))]
              simp (disch := omega) only [e_let, e_call, e_cal0, e_bind, e_lit, e_ofN, e_neg, nI_add, pk_mul, e_sub, e_ldi, e_sti, e_ldj, e_stj, e_le_t, e_le_f, e_lt_t, e_lt_f, e_eq_t, e_eq_f, e_no_eq, e_no_eq', e_no_rfl, e_no_lt, e_no_le, e_le_no, e_lt_no, if_true, if_false, ↓reduceIte, e_rs, e_rq, e_rn, e_ji, e_ki, e_ij, e_kj, e_js, e_jq, e_jn, e_cs, e_cq, e_jc, e_kc, e_js', e_jcq, e_icj, e_kcj, or_true, true_or, or_false, false_or, and_true, true_and, not_true_eq_false, not_false_eq_true, b_X12_go_271]
            · rw [if_neg hL2, if_pos (hal.mpr ⟨ha, fun g => absurd g hL2, fun g => absurd g hL⟩)]
              simp (disch := omega) only [e_let, e_call, e_cal0, e_bind, e_lit, e_ofN, e_neg, nI_add, pk_mul, e_sub, e_ldi, e_sti, e_ldj, e_stj, e_le_t, e_le_f, e_lt_t, e_lt_f, e_eq_t, e_eq_f, e_no_eq, e_no_eq', e_no_rfl, e_no_lt, e_no_le, e_le_no, e_lt_no, if_true, if_false, ↓reduceIte, e_rs, e_rq, e_rn, e_ji, e_ki, e_ij, e_kj, e_js, e_jq, e_jn, e_cs, e_cq, e_jc, e_kc, e_js', e_jcq, e_icj, e_kcj, or_true, true_or, or_false, false_or, and_true, true_and, not_true_eq_false, not_false_eq_true]
        · rw [if_neg ha, if_neg (fun g => ha (hal.mp g).1)]
          simp (disch := omega) only [e_let, e_call, e_cal0, e_bind, e_lit, e_ofN, e_neg, nI_add, pk_mul, e_sub, e_ldi, e_sti, e_ldj, e_stj, e_le_t, e_le_f, e_lt_t, e_lt_f, e_eq_t, e_eq_f, e_no_eq, e_no_eq', e_no_rfl, e_no_lt, e_no_le, e_le_no, e_lt_no, if_true, if_false, ↓reduceIte, e_rs, e_rq, e_rn, e_ji, e_ki, e_ij, e_kj, e_js, e_jq, e_jn, e_cs, e_cq, e_jc, e_kc, e_js', e_jcq, e_icj, e_kcj, or_true, true_or, or_false, false_or, and_true, true_and, not_true_eq_false, not_false_eq_true, b_X12_go_271]
      rw [b_X12_go_215, h5, ht, e_call, e1, e_call]
      by_cases hL2 : t_l (t (q + n))
      · rw [if_pos hL2, if_neg (show ¬ nI 1 = (0 : Int32) by decide)]
        exact h243
      · rw [if_pos (g2.resolve_left hL2)] at e2
        rw [if_neg hL2, if_pos (show nI 0 = (0 : Int32) from rfl), h5, ht, e_call, e2, e_call, if_neg (show ¬ nI 1 = (0 : Int32) by decide)]
        exact h243
    obtain ⟨T1, b1, b2, b3, b4, b5, b6⟩ := j_go272 (K := b_X12_go_215 m fu) (l2 := nI (if t_l (t q) then 1 else 0)) (l3 := nI (if t_al t q (n + 1) then 1 else 0)) (v := t (q + n)) h5 h6 (by omega)
    obtain ⟨T', a1, a2, a3, a4, a5, a6⟩ := ih (n + 1) fu T1 (by omega) (by rw [← Nat.add_assoc, g3, h2]) (by omega) (by omega) (b6.Y hY') b2 b3
      (fun ha hL hn => by
        obtain ⟨u1, u2⟩ := hal.mp ha
        rw [b4 (by omega), hl u1 hL (by omega), t_wv_s (u2.mpr hL)])
      (fun ha hL hn => by
        obtain ⟨u1, u2⟩ := hal.mp ha
        have hD : t_d (t (q + n)) := g2.resolve_left (fun g => hL (u2.mp g))
        rw [b5 (by omega), hd u1 hL (by omega), t_nv, pk_mul, nI_add, e_sub (by omega)]
        congr 1
        omega)
    rw [show n + 1 + c = n + (c + 1) by omega] at a1 a2 a4 a5
    exact ⟨T', by rw [hst, b1, a1], a2, a3, a4, a5, b6.tr a6⟩
theorem t_dc_f : ∀ n, (t_l (t q) → t_dc t q (n + 1) < n + 1) ∧ (t_d (t q) → 1 ≤ t_dc t q (n + 1)) := by
  intro n
  induction n with
  | zero =>
    rw [t_dc, t_dc, Nat.add_zero]
    refine ⟨fun h => ?_, fun h => ?_⟩
    · rw [if_neg (by omega)]; omega
    · rw [if_pos h]; omega
  | succ n ih =>
    rw [t_dc]
    refine ⟨fun h => ?_, fun h => ?_⟩
    · have := ih.1 h; split <;> omega
    · have := ih.2 h; omega
theorem j_go198 (hq : q < N) (hw : t_w (t q)) (hY : t_Y T m t N L) (h5 : m_ri T m 5 = nI q) (h6 : m_ri T m 6 = nI q) :
    ∃ T', b_X12_go_198 m T (nI (t q)) = some T' ∧ m_ri T' m 5 = nI (t_R t N q) ∧ m_ri T' m 6 = nI q ∧ m_ri T' m 7 = nI (t_j (t_k t N q)) ∧ (t_k t N q = 2 ∨ t_k t N q = 3 → m_rj T' m 12 = t_wv t q (t_R t N q - q)) ∧ (t_k t N q = 4 → m_ri T' m 8 = nI (t_nv t q (t_R t N q - q))) ∧ t_N m T T' := by
  have hfu := m_fu_ge
  have hlt := t_R_gt hq hw
  have hle := (t_R_le (t := t) (N := N) (N - q) q rfl (by omega)).2
  have hNN := hY.2.2.2.1
  obtain ⟨n, hn⟩ : ∃ n, t_R t N q = q + n := ⟨t_R t N q - q, by omega⟩
  have hN0 : t_N m T (m_si (m_sj T m 12 0) m 8 (nI 0)) := t_N.rf.sj.si (by omega) (by omega)
  have hal0 : t_al t q 0 := by simp only [t_al, t_dc]; split <;> trivial
  obtain ⟨T1, a1, a2, a3, a4, a5, a6⟩ := j_go215 (m := m) (L := L) hq hw n 0 m_fu (m_si (m_sj T m 12 0) m 8 (nI 0)) (by omega) rfl (by omega) (by omega) (hN0.Y hY) (by rw [e_rn (by omega)]; exact h5) (by rw [e_rn (by omega)]; exact h6)
    (fun _ _ _ => by rw [e_ji, e_js]; rfl) (fun _ _ _ => by rw [e_rs]; rfl)
  rw [Nat.zero_add] at a1 a2 a4 a5
  have hdn : t_R t N q - q = n := by omega
  obtain ⟨n', hn'⟩ : ∃ n', n = n' + 1 := ⟨n - 1, by omega⟩
  have hdf := t_dc_f (t := t) (q := q) n'
  rw [← hn'] at hdf
  have e1 := j_isLt (S := T) (hY.2.2.2.2.2 q)
  have hst : b_X12_go_198 m T (nI (t q)) = b_X12_go_215 m m_fu (m_si (m_sj T m 12 0) m 8 (nI 0)) (nI (if t_l (t q) then 1 else 0)) (nI (if t_al t q 0 then 1 else 0)) := by
    rw [if_pos hal0, b_X12_go_198, e1, e_call]
    rfl
  have hkk : t_k t N q = (if t_dc t q n = 0 ∧ n ≤ 7 then (if t_ki (t_wv t q n) < 22 then 3 else 2) else if t_dc t q n = n ∧ n ≤ 3 then 4 else 1) := by
    rw [t_k, if_pos hw, hdn]
  rw [hst, a1, hdn]
  have hfin : ∀ v, t_N m T (m_si T1 m 7 v) := fun v => (hN0.tr a6).si (by omega) (by omega)
  have f5 : ∀ v, m_ri (m_si T1 m 7 v) m 5 = nI (t_R t N q) := fun v => by rw [e_rn (by omega), a2, hn]
  have f6 : ∀ v, m_ri (m_si T1 m 7 v) m 6 = nI q := fun v => by rw [e_rn (by omega), a3]
  by_cases ha : t_al t q n
  · rw [if_pos ha]
    by_cases hL : t_l (t q)
    · rw [if_pos hL]
      have hd0 : t_dc t q n = 0 := by simp only [t_al, if_pos hL] at ha; exact ha
      by_cases h7 : n ≤ 7
      · rw [if_pos ⟨hd0, h7⟩] at hkk
        have hk2 : (t_k t N q = 2 ∨ t_k t N q = 3) ∧ t_j (t_k t N q) = 2 := by rw [hkk]; split <;> simp only [t_j] <;> decide
        refine ⟨m_si T1 m 7 (nI 2), ?_, f5 _, f6 _, by rw [e_rs, hk2.2], fun _ => by rw [e_ji]; exact a4 ha hL h7, fun h => by omega, hfin _⟩
        simp (disch := omega) only [e_let, e_call, e_cal0, e_bind, e_lit, e_ofN, e_neg, nI_add, pk_mul, e_sub, e_ldi, e_sti, e_ldj, e_stj, e_le_t, e_le_f, e_lt_t, e_lt_f, e_eq_t, e_eq_f, e_no_eq, e_no_eq', e_no_rfl, e_no_lt, e_no_le, e_le_no, e_lt_no, if_true, if_false, ↓reduceIte, e_rs, e_rq, e_rn, e_ji, e_ki, e_ij, e_kj, e_js, e_jq, e_jn, e_cs, e_cq, e_jc, e_kc, e_js', e_jcq, e_icj, e_kcj, or_true, true_or, or_false, false_or, and_true, true_and, not_true_eq_false, not_false_eq_true, b_X12_go_374, b_X12_go_390]
      · rw [if_neg (fun g => h7 g.2), if_neg (fun g => by omega)] at hkk
        refine ⟨m_si T1 m 7 (nI 1), ?_, f5 _, f6 _, by rw [e_rs, hkk]; rfl, fun h => by omega, fun h => by omega, hfin _⟩
        simp (disch := omega) only [e_let, e_call, e_cal0, e_bind, e_lit, e_ofN, e_neg, nI_add, pk_mul, e_sub, e_ldi, e_sti, e_ldj, e_stj, e_le_t, e_le_f, e_lt_t, e_lt_f, e_eq_t, e_eq_f, e_no_eq, e_no_eq', e_no_rfl, e_no_lt, e_no_le, e_le_no, e_lt_no, if_true, if_false, ↓reduceIte, e_rs, e_rq, e_rn, e_ji, e_ki, e_ij, e_kj, e_js, e_jq, e_jn, e_cs, e_cq, e_jc, e_kc, e_js', e_jcq, e_icj, e_kcj, or_true, true_or, or_false, false_or, and_true, true_and, not_true_eq_false, not_false_eq_true, b_X12_go_374, b_X12_go_390, b_X12_go_377]
    · rw [if_neg hL]
      have hdd : t_dc t q n = n := by simp only [t_al, if_neg hL] at ha; exact ha
      have := hdf.2 (hw.resolve_left hL)
      rw [if_neg (fun g => by omega)] at hkk
      by_cases h3 : n ≤ 3
      · rw [if_pos ⟨hdd, h3⟩] at hkk
        refine ⟨m_si T1 m 7 (nI 3), ?_, f5 _, f6 _, by rw [e_rs, hkk]; rfl, fun h => by omega, fun _ => by rw [e_rn (by omega)]; exact a5 ha hL h3, hfin _⟩
        simp (disch := omega) only [e_let, e_call, e_cal0, e_bind, e_lit, e_ofN, e_neg, nI_add, pk_mul, e_sub, e_ldi, e_sti, e_ldj, e_stj, e_le_t, e_le_f, e_lt_t, e_lt_f, e_eq_t, e_eq_f, e_no_eq, e_no_eq', e_no_rfl, e_no_lt, e_no_le, e_le_no, e_lt_no, if_true, if_false, ↓reduceIte, e_rs, e_rq, e_rn, e_ji, e_ki, e_ij, e_kj, e_js, e_jq, e_jn, e_cs, e_cq, e_jc, e_kc, e_js', e_jcq, e_icj, e_kcj, or_true, true_or, or_false, false_or, and_true, true_and, not_true_eq_false, not_false_eq_true, b_X12_go_374, b_X12_go_390]
      · rw [if_neg (fun g => h3 g.2)] at hkk
        refine ⟨m_si T1 m 7 (nI 1), ?_, f5 _, f6 _, by rw [e_rs, hkk]; rfl, fun h => by omega, fun h => by omega, hfin _⟩
        simp (disch := omega) only [e_let, e_call, e_cal0, e_bind, e_lit, e_ofN, e_neg, nI_add, pk_mul, e_sub, e_ldi, e_sti, e_ldj, e_stj, e_le_t, e_le_f, e_lt_t, e_lt_f, e_eq_t, e_eq_f, e_no_eq, e_no_eq', e_no_rfl, e_no_lt, e_no_le, e_le_no, e_lt_no, if_true, if_false, ↓reduceIte, e_rs, e_rq, e_rn, e_ji, e_ki, e_ij, e_kj, e_js, e_jq, e_jn, e_cs, e_cq, e_jc, e_kc, e_js', e_jcq, e_icj, e_kcj, or_true, true_or, or_false, false_or, and_true, true_and, not_true_eq_false, not_false_eq_true, b_X12_go_374, b_X12_go_390, b_X12_go_377]
  · rw [if_neg ha]
    have h1 : t_k t N q = 1 := by
      rw [hkk]
      by_cases hL : t_l (t q)
      · have := hdf.1 hL
        simp only [t_al, if_pos hL] at ha
        rw [if_neg (fun g => ha g.1), if_neg (fun g => by omega)]
      · have := hdf.2 (hw.resolve_left hL)
        simp only [t_al, if_neg hL] at ha
        rw [if_neg (fun g => by omega), if_neg (fun g => ha g.1)]
    refine ⟨m_si T1 m 7 (nI 1), ?_, f5 _, f6 _, by rw [e_rs, h1]; rfl, fun h => by omega, fun h => by omega, hfin _⟩
    simp (disch := omega) only [e_let, e_call, e_cal0, e_bind, e_lit, e_ofN, e_neg, nI_add, pk_mul, e_sub, e_ldi, e_sti, e_ldj, e_stj, e_le_t, e_le_f, e_lt_t, e_lt_f, e_eq_t, e_eq_f, e_no_eq, e_no_eq', e_no_rfl, e_no_lt, e_no_le, e_le_no, e_lt_no, if_true, if_false, ↓reduceIte, e_rs, e_rq, e_rn, e_ji, e_ki, e_ij, e_kj, e_js, e_jq, e_jn, e_cs, e_cq, e_jc, e_kc, e_js', e_jcq, e_icj, e_kcj, or_true, true_or, or_false, false_or, and_true, true_and, not_true_eq_false, not_false_eq_true, b_X12_go_390, b_X12_go_377]
theorem j_go96 (hq : q < N) (hns : ¬ (t q = 32 ∨ t q = 10)) (hY : t_Y T m t N L) (h5 : m_ri T m 5 = nI q) (h6 : m_ri T m 6 = nI q) :
    ∃ T', b_X12_go_96 m T = some T' ∧ m_ri T' m 5 = nI (if t_w (t q) then t_R t N q else q + 1) ∧ m_ri T' m 6 = nI q ∧ m_ri T' m 7 = nI (t_j (t_k t N q)) ∧ (t_k t N q = 2 ∨ t_k t N q = 3 → m_rj T' m 12 = t_wv t q (t_R t N q - q)) ∧ (t_k t N q = 4 → m_ri T' m 8 = nI (t_nv t q (t_R t N q - q))) ∧ (t_k t N q = 5 → m_ri T' m 9 = nI (t q)) ∧ t_N m T T' := by
  have hY' := hY
  obtain ⟨y3, y4, yt, yN, yL, yb⟩ := hY
  have hb := yt q hq
  have hbb := yb q
  have e1 := j_isLt (S := T) hbb
  have e2 := j_isDg (S := T) hbb
  have hgo : b_X12_go_96 m T = (m_call (f_X12_isLetter T (nI (t q))) fun v4 S3 => if v4 = 0 then (m_call (f_X12_isDigit S3 (nI (t q))) fun v7 S6 => if v7 = 0 then (if nI (t q) = (59 : Int32) then b_X12_go_174 m S6 (nI (t q)) else if nI (t q) = (60 : Int32) then b_X12_go_174 m S6 (nI (t q)) else if nI (t q) = (61 : Int32) then b_X12_go_174 m S6 (nI (t q)) else if nI (t q) = (62 : Int32) then b_X12_go_174 m S6 (nI (t q)) else if nI (t q) = (40 : Int32) then b_X12_go_174 m S6 (nI (t q)) else if nI (t q) = (41 : Int32) then b_X12_go_174 m S6 (nI (t q)) else b_X12_go_179 m S6 (nI (t q)) (1 : Int32)) else b_X12_go_198 m S6 (nI (t q))) else b_X12_go_198 m S3 (nI (t q))) := by
    rw [b_X12_go_96, h5, y3, if_pos (by rw [e_lt (by omega) (by omega)]; exact hq), e_ldi (by omega) (by omega), e_bind, hb]
  rw [hgo, e1, e_call]
  by_cases hw : t_w (t q)
  · rw [if_pos hw]
    obtain ⟨T', a1, a2, a3, a4, a5, a6, a7⟩ := j_go198 hq hw hY' h5 h6
    have hk5 : t_k t N q ≠ 5 := by rw [t_k, if_pos hw]; repeat (first | omega | split)
    refine ⟨T', ?_, a2, a3, a4, a5, a6, fun h => absurd h hk5, a7⟩
    by_cases hL : t_l (t q)
    · rw [if_pos hL, if_neg (show ¬ nI 1 = (0 : Int32) by decide)]
      exact a1
    · rw [if_pos (hw.resolve_left hL)] at e2
      rw [if_neg hL, if_pos (show nI 0 = (0 : Int32) from rfl), e2, e_call, if_neg (show ¬ nI 1 = (0 : Int32) by decide)]
      exact a1
  · rw [if_neg (fun g => hw (Or.inr g))] at e2
    rw [if_neg (fun g => hw (Or.inl g)), if_pos (show nI 0 = (0 : Int32) from rfl), e2, e_call, if_pos (show nI 0 = (0 : Int32) from rfl), if_neg hw]
    have hN9 : ∀ v, t_N m T (m_si (m_si (m_si T m 7 v) m 9 (nI (t q))) m 5 (nI (q + 1))) := fun v => ((t_N.rf.si (by omega) (by omega)).si (by omega) (by omega)).si (by omega) (by omega)
    have f6 : ∀ v, m_ri (m_si (m_si (m_si T m 7 v) m 9 (nI (t q))) m 5 (nI (q + 1))) m 6 = nI q := fun v => by simp (disch := omega) only [e_let, e_call, e_cal0, e_bind, e_lit, e_ofN, e_neg, nI_add, pk_mul, e_sub, e_ldi, e_sti, e_ldj, e_stj, e_le_t, e_le_f, e_lt_t, e_lt_f, e_eq_t, e_eq_f, e_no_eq, e_no_eq', e_no_rfl, e_no_lt, e_no_le, e_le_no, e_lt_no, if_true, if_false, ↓reduceIte, e_rs, e_rq, e_rn, e_ji, e_ki, e_ij, e_kj, e_js, e_jq, e_jn, e_cs, e_cq, e_jc, e_kc, e_js', e_jcq, e_icj, e_kcj, or_true, true_or, or_false, false_or, and_true, true_and, not_true_eq_false, not_false_eq_true, h6]
    have f7 : ∀ v, m_ri (m_si (m_si (m_si T m 7 v) m 9 (nI (t q))) m 5 (nI (q + 1))) m 7 = v := fun v => by simp (disch := omega) only [e_let, e_call, e_cal0, e_bind, e_lit, e_ofN, e_neg, nI_add, pk_mul, e_sub, e_ldi, e_sti, e_ldj, e_stj, e_le_t, e_le_f, e_lt_t, e_lt_f, e_eq_t, e_eq_f, e_no_eq, e_no_eq', e_no_rfl, e_no_lt, e_no_le, e_le_no, e_lt_no, if_true, if_false, ↓reduceIte, e_rs, e_rq, e_rn, e_ji, e_ki, e_ij, e_kj, e_js, e_jq, e_jn, e_cs, e_cq, e_jc, e_kc, e_js', e_jcq, e_icj, e_kcj, or_true, true_or, or_false, false_or, and_true, true_and, not_true_eq_false, not_false_eq_true]
    have f9 : ∀ v, m_ri (m_si (m_si (m_si T m 7 v) m 9 (nI (t q))) m 5 (nI (q + 1))) m 9 = nI (t q) := fun v => by simp (disch := omega) only [e_let, e_call, e_cal0, e_bind, e_lit, e_ofN, e_neg, nI_add, pk_mul, e_sub, e_ldi, e_sti, e_ldj, e_stj, e_le_t, e_le_f, e_lt_t, e_lt_f, e_eq_t, e_eq_f, e_no_eq, e_no_eq', e_no_rfl, e_no_lt, e_no_le, e_le_no, e_lt_no, if_true, if_false, ↓reduceIte, e_rs, e_rq, e_rn, e_ji, e_ki, e_ij, e_kj, e_js, e_jq, e_jn, e_cs, e_cq, e_jc, e_kc, e_js', e_jcq, e_icj, e_kcj, or_true, true_or, or_false, false_or, and_true, true_and, not_true_eq_false, not_false_eq_true]
    by_cases hg : t_g (t q)
    · have hk : t_k t N q = 5 := by rw [t_k, if_neg hw, if_pos hg]
      refine ⟨m_si (m_si (m_si T m 7 (nI 4)) m 9 (nI (t q))) m 5 (nI (q + 1)), ?_, e_rs, f6 _, by rw [f7, hk]; rfl, fun h => by omega, fun h => by omega, fun _ => f9 _, hN9 _⟩
      rcases hg with g | g | g | g | g | g <;> rw [g] <;> simp (disch := omega) only [e_let, e_call, e_cal0, e_bind, e_lit, e_ofN, e_neg, nI_add, pk_mul, e_sub, e_ldi, e_sti, e_ldj, e_stj, e_le_t, e_le_f, e_lt_t, e_lt_f, e_eq_t, e_eq_f, e_no_eq, e_no_eq', e_no_rfl, e_no_lt, e_no_le, e_le_no, e_lt_no, if_true, if_false, ↓reduceIte, e_rs, e_rq, e_rn, e_ji, e_ki, e_ij, e_kj, e_js, e_jq, e_jn, e_cs, e_cq, e_jc, e_kc, e_js', e_jcq, e_icj, e_kcj, or_true, true_or, or_false, false_or, and_true, true_and, not_true_eq_false, not_false_eq_true, b_X12_go_174, b_X12_go_179, h5]
    · have hk : t_k t N q = 1 := by rw [t_k, if_neg hw, if_neg hg]
      refine ⟨m_si (m_si (m_si T m 7 (nI 1)) m 9 (nI (t q))) m 5 (nI (q + 1)), ?_, e_rs, f6 _, by rw [f7, hk]; rfl, fun h => by omega, fun h => by omega, fun h => by omega, hN9 _⟩
      simp (disch := omega) only [e_let, e_call, e_cal0, e_bind, e_lit, e_ofN, e_neg, nI_add, pk_mul, e_sub, e_ldi, e_sti, e_ldj, e_stj, e_le_t, e_le_f, e_lt_t, e_lt_f, e_eq_t, e_eq_f, e_no_eq, e_no_eq', e_no_rfl, e_no_lt, e_no_le, e_le_no, e_lt_no, if_true, if_false, ↓reduceIte, e_rs, e_rq, e_rn, e_ji, e_ki, e_ij, e_kj, e_js, e_jq, e_jn, e_cs, e_cq, e_jc, e_kc, e_js', e_jcq, e_icj, e_kcj, or_true, true_or, or_false, false_or, and_true, true_and, not_true_eq_false, not_false_eq_true, b_X12_go_179, h5]
/-- the next piece is read -/
theorem j_go (hY : t_Y T m t N L) (h5 : m_ri T m 5 = nI p) (hp : p ≤ N) : ∃ T', f_X12_go m T = some T' ∧ t_J T' m t N L p ∧ t_N m T T' := by
  have hfu := m_fu_ge
  have hS := t_S_le (t := t) (N := N) (N - p) p rfl hp
  have hNN := hY.2.2.2.1
  obtain ⟨T1, a1, a2, a3⟩ := j_go0 (m := m) (t := t) (N := N) (L := L) (t_S t N p - p) m_fu p T (by omega) hp (by omega) hY h5
  have hY1 := a3.Y hY
  obtain ⟨y3, y4, yt, yN, yL, yb⟩ := hY1
  have hN6 : ∀ v, t_N m T (m_si T1 m 6 v) := fun v => a3.si (by omega) (by omega)
  have h6 : m_ri (m_si T1 m 6 (nI (t_S t N p))) m 6 = nI (t_S t N p) := e_rs
  by_cases hb : L < N ∧ L ≤ t_S t N p
  · have hK : t_K t N L p = 1 := by rw [t_K, if_pos hb]
    have hF : t_F t N L p = L := by rw [t_F, if_pos hb]
    refine ⟨m_si (m_si (m_si T1 m 6 (nI (t_S t N p))) m 6 (nI L)) m 7 (nI 1), ?_, ⟨?_, ?_, fun h => by omega, fun h => by omega, fun h => by omega, fun h => by omega⟩, ((hN6 _).si (by omega) (by omega)).si (by omega) (by omega)⟩
    · rw [f_X12_go, a1]
      simp (disch := omega) only [e_let, e_call, e_cal0, e_bind, e_lit, e_ofN, e_neg, nI_add, pk_mul, e_sub, e_ldi, e_sti, e_ldj, e_stj, e_le_t, e_le_f, e_lt_t, e_lt_f, e_eq_t, e_eq_f, e_no_eq, e_no_eq', e_no_rfl, e_no_lt, e_no_le, e_le_no, e_lt_no, if_true, if_false, ↓reduceIte, e_rs, e_rq, e_rn, e_ji, e_ki, e_ij, e_kj, e_js, e_jq, e_jn, e_cs, e_cq, e_jc, e_kc, e_js', e_jcq, e_icj, e_kcj, or_true, true_or, or_false, false_or, and_true, true_and, not_true_eq_false, not_false_eq_true, b_X12_go_52, a2, y3, y4]
    · rw [hF]; simp (disch := omega) only [e_let, e_call, e_cal0, e_bind, e_lit, e_ofN, e_neg, nI_add, pk_mul, e_sub, e_ldi, e_sti, e_ldj, e_stj, e_le_t, e_le_f, e_lt_t, e_lt_f, e_eq_t, e_eq_f, e_no_eq, e_no_eq', e_no_rfl, e_no_lt, e_no_le, e_le_no, e_lt_no, if_true, if_false, ↓reduceIte, e_rs, e_rq, e_rn, e_ji, e_ki, e_ij, e_kj, e_js, e_jq, e_jn, e_cs, e_cq, e_jc, e_kc, e_js', e_jcq, e_icj, e_kcj, or_true, true_or, or_false, false_or, and_true, true_and, not_true_eq_false, not_false_eq_true]
    · rw [hK, e_rs]; rfl
  · have hst : b_X12_go_52 m T1 = b_X12_go_96 m (m_si T1 m 6 (nI (t_S t N p))) := by
      by_cases h1 : N ≤ L
      · simp (disch := omega) only [e_let, e_call, e_cal0, e_bind, e_lit, e_ofN, e_neg, nI_add, pk_mul, e_sub, e_ldi, e_sti, e_ldj, e_stj, e_le_t, e_le_f, e_lt_t, e_lt_f, e_eq_t, e_eq_f, e_no_eq, e_no_eq', e_no_rfl, e_no_lt, e_no_le, e_le_no, e_lt_no, if_true, if_false, ↓reduceIte, e_rs, e_rq, e_rn, e_ji, e_ki, e_ij, e_kj, e_js, e_jq, e_jn, e_cs, e_cq, e_jc, e_kc, e_js', e_jcq, e_icj, e_kcj, or_true, true_or, or_false, false_or, and_true, true_and, not_true_eq_false, not_false_eq_true, b_X12_go_52, a2, y3, y4]
      · simp (disch := omega) only [e_let, e_call, e_cal0, e_bind, e_lit, e_ofN, e_neg, nI_add, pk_mul, e_sub, e_ldi, e_sti, e_ldj, e_stj, e_le_t, e_le_f, e_lt_t, e_lt_f, e_eq_t, e_eq_f, e_no_eq, e_no_eq', e_no_rfl, e_no_lt, e_no_le, e_le_no, e_lt_no, if_true, if_false, ↓reduceIte, e_rs, e_rq, e_rn, e_ji, e_ki, e_ij, e_kj, e_js, e_jq, e_jn, e_cs, e_cq, e_jc, e_kc, e_js', e_jcq, e_icj, e_kcj, or_true, true_or, or_false, false_or, and_true, true_and, not_true_eq_false, not_false_eq_true, b_X12_go_52, a2, y3, y4]
    by_cases hq : t_S t N p < N
    · have hns := t_S_ns (t := t) (N := N) (N - p) p rfl hq
      obtain ⟨T', c1, c2, c3, c4, c5, c6, c7, c8⟩ := j_go96 (T := m_si T1 m 6 (nI (t_S t N p))) (L := L) hq hns ((hN6 _).Y hY) (by rw [e_rn (by omega)]; exact a2) h6
      have hK : t_K t N L p = t_k t N (t_S t N p) := by rw [t_K, if_neg hb, if_pos hq]
      have hF : t_F t N L p = t_S t N p := by rw [t_F, if_neg hb]
      refine ⟨T', by rw [f_X12_go, a1, hst, c1], ⟨by rw [hF]; exact c3, by rw [hK]; exact c4, fun _ => c2, ?_, ?_, ?_⟩, (hN6 _).tr c8⟩
      · rw [hK]; exact c5
      · rw [hK]; exact c6
      · rw [hK]; exact c7
    · have hK : t_K t N L p = 0 := by rw [t_K, if_neg hb, if_neg hq]
      have hF : t_F t N L p = t_S t N p := by rw [t_F, if_neg hb]
      refine ⟨m_si (m_si T1 m 6 (nI (t_S t N p))) m 7 (nI 0), ?_, ⟨?_, ?_, fun h => by omega, fun h => by omega, fun h => by omega, fun h => by omega⟩, (hN6 _).si (by omega) (by omega)⟩
      · rw [f_X12_go, a1, hst]
        rw [b_X12_go_96, e_rn (by omega), a2, e_rn (by omega), y3, if_neg (by rw [e_lt (by omega) (by omega)]; exact hq)]
        rfl
      · rw [hF]; simp (disch := omega) only [e_let, e_call, e_cal0, e_bind, e_lit, e_ofN, e_neg, nI_add, pk_mul, e_sub, e_ldi, e_sti, e_ldj, e_stj, e_le_t, e_le_f, e_lt_t, e_lt_f, e_eq_t, e_eq_f, e_no_eq, e_no_eq', e_no_rfl, e_no_lt, e_no_le, e_le_no, e_lt_no, if_true, if_false, ↓reduceIte, e_rs, e_rq, e_rn, e_ji, e_ki, e_ij, e_kj, e_js, e_jq, e_jn, e_cs, e_cq, e_jc, e_kc, e_js', e_jcq, e_icj, e_kcj, or_true, true_or, or_false, false_or, and_true, true_and, not_true_eq_false, not_false_eq_true]
      · rw [hK, e_rs]; rfl
end TR
