/-! what the readers of both sides ask of a piece -/
def t_cz (S : m_M) (x : Nat) (t : Nat → Nat) (N L p : Nat) : Prop := t_Z S x t N ∧ t_C S x t N L p ∧ m_ri S (x + 25) 15 = nI 0
def t_yj (T : m_M) (m : Nat) (t : Nat → Nat) (N L p : Nat) : Prop := t_Y T m t N L ∧ t_J T m t N L p ∧ p ≤ N ∧ m_ri T m 10 = nI 0
section TV
variable {S S' T T' : m_M} {x m : Nat} {t : Nat → Nat} {N L p q n c i κ : Nat}
theorem t_Z.kept (h : t_Z S x t N) (w1 : m_ri S' (x + 1) = m_ri S (x + 1)) (w2 : m_rj S' (x + 26) = m_rj S (x + 26)) (w3 : m_ri S' (x + 25) 0 = m_ri S (x + 25) 0) : t_Z S' x t N := ⟨fun i hi => by rw [w1]; exact h.1 i hi, fun i hi => by rw [w2]; exact h.2.1 i hi, ⟨h.2.2.1.1, by rw [w3]; exact h.2.2.1.2⟩, h.2.2.2⟩
theorem t_C.kept (h : t_C S x t N L p) (w : ∀ q, x + 25 ≤ q → q < x + 30 → m_ri S' q = m_ri S q ∧ m_rj S' q = m_rj S q) : t_C S' x t N L p := by
  simp only [t_C, t_A, t_c1] at h ⊢
  rw [(w (x + 25) (by omega) (by omega)).1, (w (x + 25) (by omega) (by omega)).2, (w (x + 27) (by omega) (by omega)).1, (w (x + 28) (by omega) (by omega)).1, (w (x + 29) (by omega) (by omega)).2]
  exact h
theorem t_cz.kept (h : t_cz S x t N L p) (w : ∀ q, (q = x + 1 ∨ x + 25 ≤ q) → q < x + 30 → m_ri S' q = m_ri S q ∧ m_rj S' q = m_rj S q) : t_cz S' x t N L p :=
  ⟨h.1.kept (w (x + 1) (by omega) (by omega)).1 (w (x + 26) (by omega) (by omega)).2 (by rw [(w (x + 25) (by omega) (by omega)).1]), h.2.1.kept fun q h1 h2 => w q (by omega) h2, by rw [(w (x + 25) (by omega) (by omega)).1]; exact h.2.2⟩
theorem t_yj.kept (h : t_yj T m t N L p) (w : ∀ i, 3 ≤ i → i ≤ 10 → m_ri T' m i = m_ri T m i) (w1 : m_rj T' m 12 = m_rj T m 12) (w2 : m_ri T' (m + 1) = m_ri T (m + 1)) : t_yj T' m t N L p := by
  simp only [t_yj, t_Y, t_J] at h ⊢
  rw [w 3 (by omega) (by omega), w 4 (by omega) (by omega), w 5 (by omega) (by omega), w 6 (by omega) (by omega), w 7 (by omega) (by omega), w 8 (by omega) (by omega), w 9 (by omega) (by omega), w 10 (by omega) (by omega), w1, w2]
  exact h
theorem k_go2 (h : t_cz S x t N L p) (h2 : 2 ≤ t_K t N L p) : ∃ S', f_X9_advance x S = some S' ∧ t_cz S' x t N L (t_E t N p) ∧ (∀ i, i < 8 ∨ 13 < i → m_ri S' (x + 25) i = m_ri S (x + 25) i) ∧ t_O (x + 25) (x + 26) S S' := by
  obtain ⟨S', a1, a2, a3, a4⟩ := k_adv h.2.1 h2
  exact ⟨S', a1, ⟨h.1.kept (a4.1 (x + 1) (by omega)).1 (a4.1 (x + 26) (by omega)).2 (a3 0 (by omega)), a2, by rw [a3 15 (by omega)]; exact h.2.2⟩, a3, a4⟩
theorem j_go2 (h : t_yj T m t N L p) (h2 : 2 ≤ t_K t N L p) : ∃ T', f_X12_go m T = some T' ∧ t_yj T' m t N L (t_E t N p) ∧ t_N m T T' := by
  have hE := t_E_le h.2.2.1 (t_K_in h2).1
  obtain ⟨T', a1, a2, a3⟩ := j_go h.1 (h.2.1.2.2.1 h2) hE.2
  exact ⟨T', a1, ⟨a3.Y h.1, a2, hE.2, by rw [a3.1 10 (by omega)]; exact h.2.2.2⟩, a3⟩
theorem t_K_2 (h : t_K t N L p = 2) : t_ki (t_W t N p) = 22 := by
  have := t_K_in (t := t) (N := N) (L := L) (p := p) (by omega)
  rw [this.2.1, t_k] at h
  have hl := t_ki_le (w := t_W t N p)
  rcases Nat.lt_or_ge (t_ki (t_W t N p)) 22 with g | g
  · rw [show t_wv t (t_S t N p) (t_R t N (t_S t N p) - t_S t N p) = t_W t N p from rfl, if_pos g] at h
    repeat (first | omega | split at h)
  · omega
theorem t_K_3 (h : t_K t N L p = 3) : t_ki (t_W t N p) < 22 := by
  have := t_K_in (t := t) (N := N) (L := L) (p := p) (by omega)
  rw [this.2.1, t_k] at h
  rcases Nat.lt_or_ge (t_ki (t_W t N p)) 22 with g | g
  · exact g
  · rw [show t_wv t (t_S t N p) (t_R t N (t_S t N p) - t_S t N p) = t_W t N p from rfl, if_neg (show ¬ t_ki (t_W t N p) < 22 by omega)] at h
    repeat (first | omega | split at h)
theorem t_nv_le : ∀ n, t_dc t q n = n → t_nv t q n + 1 ≤ 10 ^ n := by
  intro n
  induction n with
  | zero => intro _; rw [t_nv]; decide
  | succ n ih =>
    intro h
    have hl := t_dc_le (t := t) (q := q) n
    rw [t_dc] at h
    by_cases g : t_d (t (q + n))
    · rw [if_pos g] at h
      have := ih (by omega)
      rw [t_nv, Nat.pow_succ]
      omega
    · rw [if_neg g] at h; omega
theorem t_K_4 (h : t_K t N L p = 4) : t_M t N p ≤ 999 := by
  have := t_K_in (t := t) (N := N) (L := L) (p := p) (by omega)
  rw [this.2.1, t_k] at h
  have hn := t_nv_le (t := t) (q := t_S t N p) (t_R t N (t_S t N p) - t_S t N p)
  rw [t_M]
  generalize t_R t N (t_S t N p) - t_S t N p = n at *
  split at h
  · split at h
    · split at h <;> omega
    · split at h
      · rename_i g
        have h1 := hn g.1
        have : 10 ^ n ≤ 10 ^ 3 := Nat.pow_le_pow_right (by omega) g.2
        omega
      · omega
  · split at h <;> omega
theorem t_K_G (h : t_K t N L p = 5) : t_G t N p < 128 := by
  have := t_K_in (t := t) (N := N) (L := L) (p := p) (by omega)
  rw [this.2.1, t_k] at h
  rw [t_G]
  split at h
  · repeat (first | omega | split at h)
  · split at h
    · rename_i g; omega
    · omega
theorem t_cz.tk (h : t_cz S x t N L p) : m_ri S (x + 25) 9 = nI (t_K t N L p) ∧ m_ri S (x + 25) 10 = nI (t_F t N L p) ∧ m_ri S (x + 25) 11 = (if t_K t N L p = 3 then nI (t_ki (t_W t N p)) else m_no) ∧ m_ri S (x + 25) 12 = (if t_K t N L p = 4 then nI (t_M t N p) else m_no) ∧ m_ri S (x + 25) 13 = (if t_K t N L p = 5 then nI (t_G t N p) else m_no) ∧ m_rj S (x + 25) 14 = (if t_K t N L p = 2 then t_W t N p else -1) := by
  obtain ⟨k, K, _, _, _, _, a, b, c, d, e, f⟩ := h.2.1
  exact ⟨a, b, c, d, e, f⟩
/-- the fault of a piece -/
theorem k_fails (h : t_cz S x t N L p) : f_X9_failsBy x S (nI κ) = some (nI 0, m_si (m_si S (x + 25) 15 (nI κ)) (x + 25) 16 (nI (t_F t N L p))) := by
  have h10 := h.tk.2.1
  simp (disch := omega) only [e_let, e_call, e_cal0, e_bind, e_lit, e_ofN, e_neg, nI_add, pk_mul, e_sub, e_ldi, e_sti, e_ldj, e_stj, e_le_t, e_le_f, e_lt_t, e_lt_f, e_eq_t, e_eq_f, e_no_eq, e_no_eq', e_no_rfl, e_no_lt, e_no_le, e_le_no, e_lt_no, if_true, if_false, ↓reduceIte, e_rs, e_rq, e_rn, e_ji, e_ki, e_ij, e_kj, e_js, e_jq, e_jn, e_cs, e_cq, e_jc, e_kc, e_js', e_jcq, e_icj, e_kcj, or_true, true_or, or_false, false_or, and_true, true_and, not_true_eq_false, not_false_eq_true, f_X9_failsBy, h10]
theorem j_bad (h : t_yj T m t N L p) (hκ : t_K t N L p = 1 → κ = 1) : f_X12_bad m T (nI κ) = some (nI 0, m_si (m_si T m 10 (nI κ)) m 11 (nI (t_F t N L p))) := by
  obtain ⟨_, ⟨h6, h7, _⟩, _⟩ := h
  have h5 := t_K_5 (t := t) (N := N) (L := L) (p := p)
  have hj : t_j (t_K t N L p) < 5 := by simp only [t_j]; split <;> omega
  by_cases g : t_K t N L p = 1
  · obtain rfl := hκ g
    rw [g] at h7
    rw [f_X12_bad, h7, if_pos (show nI (t_j 1) = (1 : Int32) from rfl)]
    simp (disch := omega) only [e_let, e_call, e_cal0, e_bind, e_lit, e_ofN, e_neg, nI_add, pk_mul, e_sub, e_ldi, e_sti, e_ldj, e_stj, e_le_t, e_le_f, e_lt_t, e_lt_f, e_eq_t, e_eq_f, e_no_eq, e_no_eq', e_no_rfl, e_no_lt, e_no_le, e_le_no, e_lt_no, if_true, if_false, ↓reduceIte, e_rs, e_rq, e_rn, e_ji, e_ki, e_ij, e_kj, e_js, e_jq, e_jn, e_cs, e_cq, e_jc, e_kc, e_js', e_jcq, e_icj, e_kcj, or_true, true_or, or_false, false_or, and_true, true_and, not_true_eq_false, not_false_eq_true, b_X12_bad_14, h6]
  · have hj1 : t_j (t_K t N L p) ≠ 1 := by simp only [t_j]; split <;> omega
    rw [f_X12_bad, h7]
    simp (disch := omega) only [e_let, e_call, e_cal0, e_bind, e_lit, e_ofN, e_neg, nI_add, pk_mul, e_sub, e_ldi, e_sti, e_ldj, e_stj, e_le_t, e_le_f, e_lt_t, e_lt_f, e_eq_t, e_eq_f, e_no_eq, e_no_eq', e_no_rfl, e_no_lt, e_no_le, e_le_no, e_lt_no, if_true, if_false, ↓reduceIte, e_rs, e_rq, e_rn, e_ji, e_ki, e_ij, e_kj, e_js, e_jq, e_jn, e_cs, e_cq, e_jc, e_kc, e_js', e_jcq, e_icj, e_kcj, or_true, true_or, or_false, false_or, and_true, true_and, not_true_eq_false, not_false_eq_true, b_X12_bad_14, h6]
theorem j_isWord (h : t_yj T m t N L p) (hi : i < 22) : f_X12_isWord m T (nI i) = some (nI (if t_K t N L p = 3 ∧ t_ki (t_W t N p) = i then 1 else 0), T) := by
  obtain ⟨_, ⟨_, h7, _, h12, _⟩, _⟩ := h
  have h5 := t_K_5 (t := t) (N := N) (L := L) (p := p)
  have hj : t_j (t_K t N L p) < 5 := by simp only [t_j]; split <;> omega
  have hw := j_wordOf (T := T) hi
  have hki := t_ki_eq (w := t_W t N p) hi
  by_cases g : t_K t N L p = 2 ∨ t_K t N L p = 3
  · have g2 : t_j (t_K t N L p) = 2 := by simp only [t_j]; split <;> omega
    have hlg : (lg_cmp (t_W t N p) (t_kw i) = nI 0) = (t_ki (t_W t N p) = i) := by rw [e_lg, ← hki]; exact propext ⟨fun e => e.symm, fun e => e.symm⟩
    have h12 := h12 g
    rw [g2] at h7
    by_cases e : t_ki (t_W t N p) = i
    · have g3 : t_K t N L p = 3 := g.resolve_left (fun g => by have := t_K_2 g; omega)
      rw [if_pos ⟨g3, e⟩]
      simp (disch := omega) only [e_let, e_call, e_cal0, e_bind, e_lit, e_ofN, e_neg, nI_add, pk_mul, e_sub, e_ldi, e_sti, e_ldj, e_stj, e_le_t, e_le_f, e_lt_t, e_lt_f, e_eq_t, e_eq_f, e_no_eq, e_no_eq', e_no_rfl, e_no_lt, e_no_le, e_le_no, e_lt_no, if_true, if_false, ↓reduceIte, e_rs, e_rq, e_rn, e_ji, e_ki, e_ij, e_kj, e_js, e_jq, e_jn, e_cs, e_cq, e_jc, e_kc, e_js', e_jcq, e_icj, e_kcj, or_true, true_or, or_false, false_or, and_true, true_and, not_true_eq_false, not_false_eq_true, f_X12_isWord, h7, hw, h12, hlg, e, b_X12_isWord_25, b_X12_isWord_24]
    · rw [if_neg (fun g => e g.2)]
      simp (disch := omega) only [e_let, e_call, e_cal0, e_bind, e_lit, e_ofN, e_neg, nI_add, pk_mul, e_sub, e_ldi, e_sti, e_ldj, e_stj, e_le_t, e_le_f, e_lt_t, e_lt_f, e_eq_t, e_eq_f, e_no_eq, e_no_eq', e_no_rfl, e_no_lt, e_no_le, e_le_no, e_lt_no, if_true, if_false, ↓reduceIte, e_rs, e_rq, e_rn, e_ji, e_ki, e_ij, e_kj, e_js, e_jq, e_jn, e_cs, e_cq, e_jc, e_kc, e_js', e_jcq, e_icj, e_kcj, or_true, true_or, or_false, false_or, and_true, true_and, not_true_eq_false, not_false_eq_true, f_X12_isWord, h7, hw, h12, hlg, e, b_X12_isWord_25, b_X12_isWord_24]
  · have g2 : t_j (t_K t N L p) ≠ 2 := by simp only [t_j]; split <;> omega
    rw [if_neg (fun q => g (Or.inr q.1))]
    simp (disch := omega) only [e_let, e_call, e_cal0, e_bind, e_lit, e_ofN, e_neg, nI_add, pk_mul, e_sub, e_ldi, e_sti, e_ldj, e_stj, e_le_t, e_le_f, e_lt_t, e_lt_f, e_eq_t, e_eq_f, e_no_eq, e_no_eq', e_no_rfl, e_no_lt, e_no_le, e_le_no, e_lt_no, if_true, if_false, ↓reduceIte, e_rs, e_rq, e_rn, e_ji, e_ki, e_ij, e_kj, e_js, e_jq, e_jn, e_cs, e_cq, e_jc, e_kc, e_js', e_jcq, e_icj, e_kcj, or_true, true_or, or_false, false_or, and_true, true_and, not_true_eq_false, not_false_eq_true, f_X12_isWord, h7, b_X12_isWord_25, b_X12_isWord_24]
theorem j_isSign (h : t_yj T m t N L p) (hc : c < 128) : f_X12_isSign m T (nI c) = some (nI (if t_K t N L p = 5 ∧ t_G t N p = c then 1 else 0), T) := by
  obtain ⟨_, ⟨_, h7, _, _, _, h9⟩, _⟩ := h
  have h5 := t_K_5 (t := t) (N := N) (L := L) (p := p)
  have hj : t_j (t_K t N L p) < 5 := by simp only [t_j]; split <;> omega
  by_cases g : t_K t N L p = 5
  · have hG := t_K_G g
    have h9 := h9 g
    rw [g] at h7
    by_cases e : t_G t N p = c
    · rw [if_pos ⟨g, e⟩]
      rw [e] at h9
      rw [f_X12_isSign, h7, if_pos (show nI (t_j 5) = (4 : Int32) from rfl), h9]
      simp (disch := omega) only [e_let, e_call, e_cal0, e_bind, e_lit, e_ofN, e_neg, nI_add, pk_mul, e_sub, e_ldi, e_sti, e_ldj, e_stj, e_le_t, e_le_f, e_lt_t, e_lt_f, e_eq_t, e_eq_f, e_no_eq, e_no_eq', e_no_rfl, e_no_lt, e_no_le, e_le_no, e_lt_no, if_true, if_false, ↓reduceIte, e_rs, e_rq, e_rn, e_ji, e_ki, e_ij, e_kj, e_js, e_jq, e_jn, e_cs, e_cq, e_jc, e_kc, e_js', e_jcq, e_icj, e_kcj, or_true, true_or, or_false, false_or, and_true, true_and, not_true_eq_false, not_false_eq_true, b_X12_isSign_21]
    · rw [if_neg (fun q => e q.2)]
      rw [f_X12_isSign, h7, if_pos (show nI (t_j 5) = (4 : Int32) from rfl), h9]
      simp (disch := omega) only [e_let, e_call, e_cal0, e_bind, e_lit, e_ofN, e_neg, nI_add, pk_mul, e_sub, e_ldi, e_sti, e_ldj, e_stj, e_le_t, e_le_f, e_lt_t, e_lt_f, e_eq_t, e_eq_f, e_no_eq, e_no_eq', e_no_rfl, e_no_lt, e_no_le, e_le_no, e_lt_no, if_true, if_false, ↓reduceIte, e_rs, e_rq, e_rn, e_ji, e_ki, e_ij, e_kj, e_js, e_jq, e_jn, e_cs, e_cq, e_jc, e_kc, e_js', e_jcq, e_icj, e_kcj, or_true, true_or, or_false, false_or, and_true, true_and, not_true_eq_false, not_false_eq_true, b_X12_isSign_20, b_X12_isSign_21]
  · have g2 : t_j (t_K t N L p) ≠ 4 := by simp only [t_j]; split <;> omega
    rw [if_neg (fun q => g q.1)]
    simp (disch := omega) only [e_let, e_call, e_cal0, e_bind, e_lit, e_ofN, e_neg, nI_add, pk_mul, e_sub, e_ldi, e_sti, e_ldj, e_stj, e_le_t, e_le_f, e_lt_t, e_lt_f, e_eq_t, e_eq_f, e_no_eq, e_no_eq', e_no_rfl, e_no_lt, e_no_le, e_le_no, e_lt_no, if_true, if_false, ↓reduceIte, e_rs, e_rq, e_rn, e_ji, e_ki, e_ij, e_kj, e_js, e_jq, e_jn, e_cs, e_cq, e_jc, e_kc, e_js', e_jcq, e_icj, e_kcj, or_true, true_or, or_false, false_or, and_true, true_and, not_true_eq_false, not_false_eq_true, f_X12_isSign, h7, b_X12_isSign_20, b_X12_isSign_21]
theorem j_isName (h : t_yj T m t N L p) : f_X12_isName m T = some (nI (if t_K t N L p = 2 then 1 else 0), T) := by
  have hfu := m_fu_ge
  obtain ⟨_, ⟨_, h7, _, h12, _⟩, _⟩ := h
  have h5 := t_K_5 (t := t) (N := N) (L := L) (p := p)
  have hj : t_j (t_K t N L p) < 5 := by simp only [t_j]; split <;> omega
  by_cases g : t_K t N L p = 2 ∨ t_K t N L p = 3
  · have g2 : t_j (t_K t N L p) = 2 := by simp only [t_j]; split <;> omega
    have h12 := h12 g
    rw [g2] at h7
    have hlp : ∀ (c i fu : Nat), i + c = 22 → c < fu → (∀ j, j < i → t_ki (t_W t N p) ≠ j) → b_X12_isName_12 m fu T (nI i) = some (nI (if t_ki (t_W t N p) < 22 then 0 else 1), T) := by
      intro c
      induction c with
      | zero =>
        intro i fu h1 hf hn
        obtain ⟨fu, rfl⟩ : ∃ f, fu = f + 1 := ⟨fu - 1, by omega⟩
        rw [if_neg (fun g => hn _ (by omega) rfl)]
        simp (disch := omega) only [e_let, e_call, e_cal0, e_bind, e_lit, e_ofN, e_neg, nI_add, pk_mul, e_sub, e_ldi, e_sti, e_ldj, e_stj, e_le_t, e_le_f, e_lt_t, e_lt_f, e_eq_t, e_eq_f, e_no_eq, e_no_eq', e_no_rfl, e_no_lt, e_no_le, e_le_no, e_lt_no, if_true, if_false, ↓reduceIte, e_rs, e_rq, e_rn, e_ji, e_ki, e_ij, e_kj, e_js, e_jq, e_jn, e_cs, e_cq, e_jc, e_kc, e_js', e_jcq, e_icj, e_kcj, or_true, true_or, or_false, false_or, and_true, true_and, not_true_eq_false, not_false_eq_true, b_X12_isName_12]
      | succ c ih =>
        intro i fu h1 hf hn
        obtain ⟨fu, rfl⟩ : ∃ f, fu = f + 1 := ⟨fu - 1, by omega⟩
        have hw := j_wordOf (T := T) (i := i) (by omega)
        have hki := t_ki_eq (w := t_W t N p) (i := i) (by omega)
        have hlg : (lg_cmp (t_W t N p) (t_kw i) = nI 0) = (t_ki (t_W t N p) = i) := by rw [e_lg, ← hki]; exact propext ⟨fun e => e.symm, fun e => e.symm⟩
        by_cases e : t_ki (t_W t N p) = i
        · rw [if_pos (by omega)]
          simp (disch := omega) only [e_let, e_call, e_cal0, e_bind, e_lit, e_ofN, e_neg, nI_add, pk_mul, e_sub, e_ldi, e_sti, e_ldj, e_stj, e_le_t, e_le_f, e_lt_t, e_lt_f, e_eq_t, e_eq_f, e_no_eq, e_no_eq', e_no_rfl, e_no_lt, e_no_le, e_le_no, e_lt_no, if_true, if_false, ↓reduceIte, e_rs, e_rq, e_rn, e_ji, e_ki, e_ij, e_kj, e_js, e_jq, e_jn, e_cs, e_cq, e_jc, e_kc, e_js', e_jcq, e_icj, e_kcj, or_true, true_or, or_false, false_or, and_true, true_and, not_true_eq_false, not_false_eq_true, b_X12_isName_12, hw, h12, hlg, e]
        · rw [← ih (i + 1) fu (by omega) (by omega) (fun j hj => by
            rcases Nat.lt_succ_iff_lt_or_eq.mp hj with h' | h'
            · exact hn j h'
            · rw [h']; exact e)]
          simp (disch := omega) only [e_let, e_call, e_cal0, e_bind, e_lit, e_ofN, e_neg, nI_add, pk_mul, e_sub, e_ldi, e_sti, e_ldj, e_stj, e_le_t, e_le_f, e_lt_t, e_lt_f, e_eq_t, e_eq_f, e_no_eq, e_no_eq', e_no_rfl, e_no_lt, e_no_le, e_le_no, e_lt_no, if_true, if_false, ↓reduceIte, e_rs, e_rq, e_rn, e_ji, e_ki, e_ij, e_kj, e_js, e_jq, e_jn, e_cs, e_cq, e_jc, e_kc, e_js', e_jcq, e_icj, e_kcj, or_true, true_or, or_false, false_or, and_true, true_and, not_true_eq_false, not_false_eq_true, b_X12_isName_12, hw, h12, hlg, e]
    have := hlp 22 0 m_fu rfl (by omega) (fun j h => absurd h (Nat.not_lt_zero j))
    have e0 : f_X12_isName m T = b_X12_isName_12 m m_fu T (nI 0) := by
      rw [f_X12_isName, h7, if_pos (show nI 2 = (2 : Int32) from rfl)]
      rfl
    rw [e0, this]
    rcases g with g | g
    · rw [if_pos g, if_neg (by have := t_K_2 g; omega)]
    · rw [if_neg (show ¬ t_K t N L p = 2 by omega), if_pos (t_K_3 g)]
  · have g2 : t_j (t_K t N L p) ≠ 2 := by simp only [t_j]; split <;> omega
    rw [if_neg (fun q => g (Or.inl q))]
    simp (disch := omega) only [e_let, e_call, e_cal0, e_bind, e_lit, e_ofN, e_neg, nI_add, pk_mul, e_sub, e_ldi, e_sti, e_ldj, e_stj, e_le_t, e_le_f, e_lt_t, e_lt_f, e_eq_t, e_eq_f, e_no_eq, e_no_eq', e_no_rfl, e_no_lt, e_no_le, e_le_no, e_lt_no, if_true, if_false, ↓reduceIte, e_rs, e_rq, e_rn, e_ji, e_ki, e_ij, e_kj, e_js, e_jq, e_jn, e_cs, e_cq, e_jc, e_kc, e_js', e_jcq, e_icj, e_kcj, or_true, true_or, or_false, false_or, and_true, true_and, not_true_eq_false, not_false_eq_true, f_X12_isName, h7]
end TV
