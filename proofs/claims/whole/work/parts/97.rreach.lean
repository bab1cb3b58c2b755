/-! what is reached, spans: the other side -/
section DH
variable {T : m_M} {m : Nat} {P : pP} {f i : Nat}
def d_T0 (T : m_M) (m : Nat) (P : pP) : Prop := m_ri T (m + 2) 2 = nI (d_z P) ∧ ∀ r s, r < d_z P → s < 2 → m_ri T (m + 17) (2 * r + s) = nO (d_s P r s)
/-- a set between what is found in n rounds and all that is reached -/
def d_bw (P : pP) (o : Nat) (lo : Nat → Prop) (x : Int32) : Prop := ∀ q, q < 32 → (bt x q = true → d_rn (d_s P) 24 o q = true) ∧ (lo q → bt x q = true)
theorem j_rf24 {K : m_M → Int32 → Int32 → Option (Int32 × m_M)} {o t : Nat} (hW : p_W P) (h0 : d_T0 T m P) (ho : o ≤ d_z P) (ht : t < 24) : ∀ (c j fu : Nat) (x : Int32), j + c = d_z P → c < fu → d_bw P o (fun q => d_rn (d_s P) t o q = true ∨ ∃ r s, r < j ∧ s < 2 ∧ d_rn (d_s P) t o r = true ∧ d_s P r s = q + 1) x →
    ∃ x', b_X12_reachFrom_24 m K fu T x (nI t) (nI j) = K T x' (nI (t + 1)) ∧ d_bw P o (fun q => d_rn (d_s P) (t + 1) o q = true) x' := by
  have hfu := m_fu_ge
  have hz := d_z_le hW
  have hsl : ∀ q s, s < 2 → d_s P q s ≤ d_z P := fun q s _ => d_s_le hW q s
  intro c
  induction c with
  | zero =>
    intro j fu x hj hf hb
    obtain ⟨fu, rfl⟩ : ∃ f, fu = f + 1 := ⟨fu - 1, by omega⟩
    have hj : j = d_z P := hj
    have h2 := h0.1
    refine ⟨x, ?_, fun q hq => ⟨(hb q hq).1, fun h => (hb q hq).2 ?_⟩⟩
    · simp (disch := omega) only [e_let, e_call, e_cal0, e_bind, e_lit, e_ofN, e_neg, nI_add, pk_mul, e_sub, e_ldi, e_sti, e_ldj, e_stj, e_le_t, e_le_f, e_lt_t, e_lt_f, e_eq_t, e_eq_f, e_no_eq, e_no_eq', e_no_rfl, e_no_lt, e_no_le, e_le_no, e_lt_no, if_true, if_false, ↓reduceIte, e_rs, e_rq, e_rn, e_ji, e_ki, e_ij, e_kj, e_js, e_jq, e_jn, e_cs, e_cq, e_jc, e_kc, e_js', e_jcq, e_icj, e_kcj, or_true, true_or, or_false, false_or, and_true, true_and, not_true_eq_false, not_false_eq_true, b_X12_reachFrom_24, h2]
    · rcases d_rn_s.mp h with h | ⟨r, s, h1, h2, h3, h4⟩
      · exact Or.inl h
      · exact Or.inr ⟨r, s, by rw [hj]; exact d_rn_lt hz hsl ho t r h3, h2, h3, h4⟩
  | succ c ih =>
    intro j fu x hj hf hb
    obtain ⟨fu, rfl⟩ : ∃ f, fu = f + 1 := ⟨fu - 1, by omega⟩
    have h2 := h0.1
    have hh := e_has (T := T) (x := x) (r := j) (by omega)
    by_cases hbj : bt x j = true
    · rw [if_pos hbj] at hh
      have hcj := (hb j (by omega)).1 hbj
      -- both sides are put to the set
      have side : ∀ (s : Nat) (y : Int32), s < 2 → ∃ y', (∀ q, q < 32 → (bt y' q = true ↔ bt y q = true ∨ d_s P j s = q + 1)) ∧ (y' = if d_s P j s = 0 then y else y ||| (nI 1 <<< (nI (d_s P j s - 1) &&& nI 31))) := fun s y hs => by
        have hle := d_s_le hW j s
        refine ⟨_, fun q hq => ?_, rfl⟩
        by_cases h : d_s P j s = 0
        · rw [if_pos h]; exact ⟨fun g => Or.inl g, fun g => by rcases g with g | g; exact g; omega⟩
        · rw [if_neg h, b_or, Bool.or_eq_true, e_b1 (by omega) hq, decide_eq_true_eq]
          constructor
          · rintro (g | g)
            · exact Or.inl g
            · exact Or.inr (by omega)
          · rintro (g | g)
            · exact Or.inl g
            · exact Or.inr (by omega)
      obtain ⟨x1, x1a, x1b⟩ := side 0 x (by omega)
      obtain ⟨x2, x2a, x2b⟩ := side 1 x1 (by omega)
      have hl0 := h0.2 j 0 (by omega) (by omega)
      have hl1 := h0.2 j 1 (by omega) (by omega)
      have le0 := d_s_le hW j 0
      have le1 := d_s_le hW j 1
      obtain ⟨x', g1, g2⟩ := ih (j + 1) fu x2 (by omega) (by omega) (fun q hq => by
        refine ⟨fun h => ?_, fun h => ?_⟩
        · rcases (x2a q hq).mp h with h | h
          · rcases (x1a q hq).mp h with h | h
            · exact (hb q hq).1 h
            · exact d_rn_cl hz hsl ho hcj (by omega : 0 < 2) h
          · exact d_rn_cl hz hsl ho hcj (by omega : 1 < 2) h
        · apply (x2a q hq).mpr
          rcases h with h | ⟨r, s, h3, h4, h5, h6⟩
          · exact Or.inl ((x1a q hq).mpr (Or.inl ((hb q hq).2 (Or.inl h))))
          · by_cases e : r = j
            · subst e
              rcases (by omega : s = 0 ∨ s = 1) with e | e
              · subst e; exact Or.inl ((x1a q hq).mpr (Or.inr h6))
              · subst e; exact Or.inr h6
            · exact Or.inl ((x1a q hq).mpr (Or.inl ((hb q hq).2 (Or.inr ⟨r, s, by omega, h4, h5, h6⟩)))))
      refine ⟨x', ?_, g2⟩
      rw [← g1]
      obtain ⟨u, hu⟩ : ∃ u, m_fu = u + 3 := ⟨m_fu - 3, by omega⟩
      rw [b_X12_reachFrom_24, hu]
      by_cases z0 : d_s P j 0 = 0
      · rw [z0] at hl0
        have hl0 : m_ri T (m + 17) (2 * j + 0) = m_no := hl0
        rw [if_pos z0] at x1b
        subst x1b
        by_cases z1 : d_s P j 1 = 0
        · rw [z1] at hl1
          have hl1 : m_ri T (m + 17) (2 * j + 1) = m_no := hl1
          rw [if_pos z1] at x2b
          subst x2b
          simp (disch := omega) only [e_let, e_call, e_cal0, e_bind, e_lit, e_ofN, e_neg, nI_add, pk_mul, e_sub, e_ldi, e_sti, e_ldj, e_stj, e_le_t, e_le_f, e_lt_t, e_lt_f, e_eq_t, e_eq_f, e_no_eq, e_no_eq', e_no_rfl, e_no_lt, e_no_le, e_le_no, e_lt_no, if_true, if_false, ↓reduceIte, e_rs, e_rq, e_rn, e_ji, e_ki, e_ij, e_kj, e_js, e_jq, e_jn, e_cs, e_cq, e_jc, e_kc, e_js', e_jcq, e_icj, e_kcj, or_true, true_or, or_false, false_or, and_true, true_and, not_true_eq_false, not_false_eq_true, h2, hh, b_X12_reachFrom_50, hl0, hl1, b_X12_reachFrom_89, b_X12_reachFrom_95]
        · rw [nO_pos (by omega)] at hl1
          rw [if_neg z1] at x2b
          subst x2b
          simp (disch := omega) only [e_let, e_call, e_cal0, e_bind, e_lit, e_ofN, e_neg, nI_add, pk_mul, e_sub, e_ldi, e_sti, e_ldj, e_stj, e_le_t, e_le_f, e_lt_t, e_lt_f, e_eq_t, e_eq_f, e_no_eq, e_no_eq', e_no_rfl, e_no_lt, e_no_le, e_le_no, e_lt_no, if_true, if_false, ↓reduceIte, e_rs, e_rq, e_rn, e_ji, e_ki, e_ij, e_kj, e_js, e_jq, e_jn, e_cs, e_cq, e_jc, e_kc, e_js', e_jcq, e_icj, e_kcj, or_true, true_or, or_false, false_or, and_true, true_and, not_true_eq_false, not_false_eq_true, h2, hh, b_X12_reachFrom_50, hl0, hl1, b_X12_reachFrom_89, b_X12_reachFrom_95]
      · rw [nO_pos (by omega)] at hl0
        rw [if_neg z0] at x1b
        subst x1b
        by_cases z1 : d_s P j 1 = 0
        · rw [z1] at hl1
          have hl1 : m_ri T (m + 17) (2 * j + 1) = m_no := hl1
          rw [if_pos z1] at x2b
          subst x2b
          simp (disch := omega) only [e_let, e_call, e_cal0, e_bind, e_lit, e_ofN, e_neg, nI_add, pk_mul, e_sub, e_ldi, e_sti, e_ldj, e_stj, e_le_t, e_le_f, e_lt_t, e_lt_f, e_eq_t, e_eq_f, e_no_eq, e_no_eq', e_no_rfl, e_no_lt, e_no_le, e_le_no, e_lt_no, if_true, if_false, ↓reduceIte, e_rs, e_rq, e_rn, e_ji, e_ki, e_ij, e_kj, e_js, e_jq, e_jn, e_cs, e_cq, e_jc, e_kc, e_js', e_jcq, e_icj, e_kcj, or_true, true_or, or_false, false_or, and_true, true_and, not_true_eq_false, not_false_eq_true, h2, hh, b_X12_reachFrom_50, hl0, hl1, b_X12_reachFrom_89, b_X12_reachFrom_95]
        · rw [nO_pos (by omega)] at hl1
          rw [if_neg z1] at x2b
          subst x2b
          simp (disch := omega) only [e_let, e_call, e_cal0, e_bind, e_lit, e_ofN, e_neg, nI_add, pk_mul, e_sub, e_ldi, e_sti, e_ldj, e_stj, e_le_t, e_le_f, e_lt_t, e_lt_f, e_eq_t, e_eq_f, e_no_eq, e_no_eq', e_no_rfl, e_no_lt, e_no_le, e_le_no, e_lt_no, if_true, if_false, ↓reduceIte, e_rs, e_rq, e_rn, e_ji, e_ki, e_ij, e_kj, e_js, e_jq, e_jn, e_cs, e_cq, e_jc, e_kc, e_js', e_jcq, e_icj, e_kcj, or_true, true_or, or_false, false_or, and_true, true_and, not_true_eq_false, not_false_eq_true, h2, hh, b_X12_reachFrom_50, hl0, hl1, b_X12_reachFrom_89, b_X12_reachFrom_95]
    · rw [if_neg hbj] at hh
      obtain ⟨x', g1, g2⟩ := ih (j + 1) fu x (by omega) (by omega) (fun q hq => by
        refine ⟨(hb q hq).1, fun h => ?_⟩
        rcases h with h | ⟨r, s, h3, h4, h5, h6⟩
        · exact (hb q hq).2 (Or.inl h)
        · by_cases e : r = j
          · subst e; exact absurd ((hb r (by omega)).2 (Or.inl h5)) hbj
          · exact (hb q hq).2 (Or.inr ⟨r, s, by omega, h4, h5, h6⟩))
      refine ⟨x', ?_, g2⟩
      rw [← g1]
      simp (disch := omega) only [e_let, e_call, e_cal0, e_bind, e_lit, e_ofN, e_neg, nI_add, pk_mul, e_sub, e_ldi, e_sti, e_ldj, e_stj, e_le_t, e_le_f, e_lt_t, e_lt_f, e_eq_t, e_eq_f, e_no_eq, e_no_eq', e_no_rfl, e_no_lt, e_no_le, e_le_no, e_lt_no, if_true, if_false, ↓reduceIte, e_rs, e_rq, e_rn, e_ji, e_ki, e_ij, e_kj, e_js, e_jq, e_jn, e_cs, e_cq, e_jc, e_kc, e_js', e_jcq, e_icj, e_kcj, or_true, true_or, or_false, false_or, and_true, true_and, not_true_eq_false, not_false_eq_true, b_X12_reachFrom_24, h2, hh, b_X12_reachFrom_95]
theorem j_reach {o : Nat} (hW : p_W P) (h0 : d_T0 T m P) (ho : o ≤ d_z P) : ∃ x, f_X12_reachFrom m T (nO o) = some (x, T) ∧ e_bs x (d_rn (d_s P) 24 o) := by
  have hfu := m_fu_ge
  have hz := d_z_le hW
  have key : ∀ (c t fu : Nat) (x : Int32), t + c = 24 → c < fu → d_bw P o (fun q => d_rn (d_s P) t o q = true) x → ∃ x', b_X12_reachFrom_15 m fu T x (nI t) = some (x', T) ∧ e_bs x' (d_rn (d_s P) 24 o) := by
    intro c
    induction c with
    | zero =>
      intro t fu x ht hf hb
      obtain ⟨fu, rfl⟩ : ∃ f, fu = f + 1 := ⟨fu - 1, by omega⟩
      have ht : t = 24 := ht
      subst ht
      refine ⟨x, ?_, fun q hq => Bool.eq_iff_iff.mpr ⟨(hb q hq).1, (hb q hq).2⟩⟩
      simp (disch := omega) only [e_let, e_call, e_cal0, e_bind, e_lit, e_ofN, e_neg, nI_add, pk_mul, e_sub, e_ldi, e_sti, e_ldj, e_stj, e_le_t, e_le_f, e_lt_t, e_lt_f, e_eq_t, e_eq_f, e_no_eq, e_no_eq', e_no_rfl, e_no_lt, e_no_le, e_le_no, e_lt_no, if_true, if_false, ↓reduceIte, e_rs, e_rq, e_rn, e_ji, e_ki, e_ij, e_kj, e_js, e_jq, e_jn, e_cs, e_cq, e_jc, e_kc, e_js', e_jcq, e_icj, e_kcj, or_true, true_or, or_false, false_or, and_true, true_and, not_true_eq_false, not_false_eq_true, b_X12_reachFrom_15]
    | succ c ih =>
      intro t fu x ht hf hb
      obtain ⟨fu, rfl⟩ : ∃ f, fu = f + 1 := ⟨fu - 1, by omega⟩
      obtain ⟨x1, f1, f2⟩ := j_rf24 (K := b_X12_reachFrom_15 m fu) hW h0 ho (show t < 24 by omega) (d_z P) 0 m_fu x (by omega) (by omega) (fun q hq => ⟨(hb q hq).1, fun h => (hb q hq).2 (by
        rcases h with h | ⟨r, s, h3, -⟩
        · exact h
        · omega)⟩)
      obtain ⟨x', g1, g2⟩ := ih (t + 1) fu x1 (by omega) (by omega) f2
      refine ⟨x', ?_, g2⟩
      rw [← g1, ← f1, b_X12_reachFrom_15, e_lit, if_neg (by rw [e_le_f (by omega) (by omega)]; exact fun h => h)]
      rfl
  by_cases h : o = 0
  · obtain ⟨x', g1, g2⟩ := key 24 0 m_fu (nI 0) (by omega) (by omega) (fun q hq => ⟨fun g => (by rw [e_b0] at g; cases g), fun g => by have := of_decide_eq_true g; omega⟩)
    refine ⟨x', ?_, g2⟩
    rw [← g1, h]
    show f_X12_reachFrom m T m_no = _
    simp (disch := omega) only [e_let, e_call, e_cal0, e_bind, e_lit, e_ofN, e_neg, nI_add, pk_mul, e_sub, e_ldi, e_sti, e_ldj, e_stj, e_le_t, e_le_f, e_lt_t, e_lt_f, e_eq_t, e_eq_f, e_no_eq, e_no_eq', e_no_rfl, e_no_lt, e_no_le, e_le_no, e_lt_no, if_true, if_false, ↓reduceIte, e_rs, e_rq, e_rn, e_ji, e_ki, e_ij, e_kj, e_js, e_jq, e_jn, e_cs, e_cq, e_jc, e_kc, e_js', e_jcq, e_icj, e_kcj, or_true, true_or, or_false, false_or, and_true, true_and, not_true_eq_false, not_false_eq_true, f_X12_reachFrom, b_X12_reachFrom_12]
  · obtain ⟨x', g1, g2⟩ := key 24 0 m_fu (nI 1 <<< (nI (o - 1) &&& nI 31)) (by omega) (by omega) (fun q hq => by
      rw [e_b1 (by omega) hq, decide_eq_true_eq]
      exact ⟨fun g => by rw [← g, show o = o - 1 + 1 by omega]; exact d_rn_0 24, fun g => by have := of_decide_eq_true g; omega⟩)
    refine ⟨x', ?_, g2⟩
    rw [← g1, nO_pos (by omega)]
    simp (disch := omega) only [e_let, e_call, e_cal0, e_bind, e_lit, e_ofN, e_neg, nI_add, pk_mul, e_sub, e_ldi, e_sti, e_ldj, e_stj, e_le_t, e_le_f, e_lt_t, e_lt_f, e_eq_t, e_eq_f, e_no_eq, e_no_eq', e_no_rfl, e_no_lt, e_no_le, e_le_no, e_lt_no, if_true, if_false, ↓reduceIte, e_rs, e_rq, e_rn, e_ji, e_ki, e_ij, e_kj, e_js, e_jq, e_jn, e_cs, e_cq, e_jc, e_kc, e_js', e_jcq, e_icj, e_kcj, or_true, true_or, or_false, false_or, and_true, true_and, not_true_eq_false, not_false_eq_true, f_X12_reachFrom, b_X12_reachFrom_12]
/-- points and reaches of vars -/
def d_T1 (T : m_M) (m : Nat) (P : pP) (f v : Nat) : Prop := ∀ g w, g < p_fu P → w < p_vs P g → g < f ∨ (g = f ∧ w < v) → m_ri T (m + 15) (27 * g + w) = nO (d_p P g w) ∧ e_bs (m_ri T (m + 16) (27 * g + w)) (d_rc (d_of P) g w)
theorem j_ptv {mk : Nat} {U : u2} {o : Nat → Nat} {K : m_M → Int32 → Option m_M} (hW : p_W P) (hf : f < p_fu P) (hV : u_V mk o U) (hN : u_NV mk o U (d_Gx P)) : ∀ (c v fu : Nat) (T : m_M), v + c = p_vs P f → c < fu → r_P (m_ri T (m + 2)) P → u_R2 T m U mk → u_Q2 T m mk o U (d_Gx P) → d_T0 T m P → d_T1 T m P f v →
    ∃ T', b_X12_layRegions_254 m K fu T (nI f) (nI v) = K T' (nI (f + 1)) ∧ d_T1 T' m P (f + 1) 0 ∧ e_O (m + 15) (m + 17) T T' := by
  have h5 := hW.1
  have h24 := hW.2.1
  have hl := hW.2.2.1 f hf
  have hz := d_z_le hW
  intro c
  induction c with
  | zero =>
    intro v fu T hv hfu hP hR hQ h0 hT
    obtain ⟨fu, rfl⟩ : ∃ f, fu = f + 1 := ⟨fu - 1, by omega⟩
    obtain ⟨p1, p2, p3⟩ := hP.2.2.1 f hf
    refine ⟨T, ?_, fun g w hg hw h => hT g w hg hw ?_, e_O.rf⟩
    · simp only [p_vs] at hv
      simp (disch := omega) only [e_let, e_call, e_cal0, e_bind, e_lit, e_ofN, e_neg, nI_add, pk_mul, e_sub, e_ldi, e_sti, e_ldj, e_stj, e_le_t, e_le_f, e_lt_t, e_lt_f, e_eq_t, e_eq_f, e_no_eq, e_no_eq', e_no_rfl, e_no_lt, e_no_le, e_le_no, e_lt_no, if_true, if_false, ↓reduceIte, e_rs, e_rq, e_rn, e_ji, e_ki, e_ij, e_kj, e_js, e_jq, e_jn, e_cs, e_cq, e_jc, e_kc, e_js', e_jcq, e_icj, e_kcj, or_true, true_or, or_false, false_or, and_true, true_and, not_true_eq_false, not_false_eq_true, b_X12_layRegions_254, f_X12_varsOf, p1, p3]
    · by_cases hgf : g = f
      · rw [hgf] at hw; omega
      · omega
  | succ c ih =>
    intro v fu T hv hfu hP hR hQ h0 hT
    obtain ⟨fu, rfl⟩ : ∃ f, fu = f + 1 := ⟨fu - 1, by omega⟩
    obtain ⟨p1, p2, p3⟩ := hP.2.2.1 f hf
    have hv' := hv
    simp only [p_vs] at hv'
    have hn : u_nd f v < 135 := by simp only [u_nd]; omega
    have hnum := j_numbered hV hN hR hQ (n := u_nd f v) (by omega)
    have hpp : (d_Gx P).1 (u_nd f v) = d_p P f v := by rw [d_p, if_pos (by omega)]
    rw [hpp] at hnum
    have k1 : ∀ q, q ≠ m + 15 → m_ri (m_si T (m + 15) (u_nd f v) (nO (d_p P f v))) q = m_ri T q := fun q hq => e_rq hq
    have h01 : d_T0 (m_si T (m + 15) (u_nd f v) (nO (d_p P f v))) m P := by
      simp only [d_T0, k1 (m + 2) (by omega), k1 (m + 17) (by omega)]; exact h0
    obtain ⟨x, x1, x2⟩ := j_reach hW h01 (d_p_le hW f v)
    have k2 : ∀ q, q ≠ m + 15 → q ≠ m + 16 → m_ri (m_si (m_si T (m + 15) (u_nd f v) (nO (d_p P f v))) (m + 16) (u_nd f v) x) q = m_ri T q := fun q a b => by rw [e_rq b, e_rq a]
    obtain ⟨T', g1, g2, g3⟩ := ih (v + 1) fu (m_si (m_si T (m + 15) (u_nd f v) (nO (d_p P f v))) (m + 16) (u_nd f v) x) (by omega) (by omega) (by rw [k2 (m + 2) (by omega) (by omega)]; exact hP) (by
      simp only [u_R2, k2 m (by omega) (by omega), k2 (m + 12) (by omega) (by omega), k2 (m + 13) (by omega) (by omega)]; exact hR) (by
      simp only [u_Q2, k2 (m + 14) (by omega) (by omega), k2 (m + 2) (by omega) (by omega)]; exact hQ) (by
      simp only [d_T0, k2 (m + 2) (by omega) (by omega), k2 (m + 17) (by omega) (by omega)]; exact h0) (fun g w hg hw h => by
      have hgl := hW.2.2.1 g hg
      simp only [p_vs] at hw
      rw [e_rq (by omega), e_rif, e_rif, e_rq (by omega)]
      by_cases hh : g = f ∧ w = v
      · rw [hh.1, hh.2, if_pos (show 27 * f + v = u_nd f v from rfl), if_pos (show 27 * f + v = u_nd f v from rfl)]
        exact ⟨rfl, fun r hr => by rw [x2 r hr, d_rc_of]⟩
      · rw [if_neg (by simp only [u_nd]; omega), if_neg (by simp only [u_nd]; omega)]; exact hT g w hg (by simp only [p_vs]; omega) (by omega))
    refine ⟨T', ?_, g2, ((e_O.rf.si (by omega) (by omega)).si (by omega) (by omega)).tr g3⟩
    rw [← g1]
    have n1 : ∀ T : m_M, f_X12_node m T (nI f) (nI v) = some (nI (u_nd f v), T) := fun T => j_nodeq
    simp (disch := omega) only [e_let, e_call, e_cal0, e_bind, e_lit, e_ofN, e_neg, nI_add, pk_mul, e_sub, e_ldi, e_sti, e_ldj, e_stj, e_le_t, e_le_f, e_lt_t, e_lt_f, e_eq_t, e_eq_f, e_no_eq, e_no_eq', e_no_rfl, e_no_lt, e_no_le, e_le_no, e_lt_no, if_true, if_false, ↓reduceIte, e_rs, e_rq, e_rn, e_ji, e_ki, e_ij, e_kj, e_js, e_jq, e_jn, e_cs, e_cq, e_jc, e_kc, e_js', e_jcq, e_icj, e_kcj, or_true, true_or, or_false, false_or, and_true, true_and, not_true_eq_false, not_false_eq_true, b_X12_layRegions_254, f_X12_varsOf, p1, p3, n1, hnum, x1]
theorem j_ptf {mk : Nat} {U : u2} {o : Nat → Nat} (hW : p_W P) (hV : u_V mk o U) (hN : u_NV mk o U (d_Gx P)) : ∀ (c f fu : Nat) (T : m_M), f + c = p_fu P → c < fu → r_P (m_ri T (m + 2)) P → u_R2 T m U mk → u_Q2 T m mk o U (d_Gx P) → d_T0 T m P → d_T1 T m P f 0 →
    ∃ T', b_X12_layRegions_242 m fu T (nI f) = b_X12_layRegions_328 m m_fu T' (nI 0) ∧ d_T1 T' m P (p_fu P) 0 ∧ e_O (m + 15) (m + 17) T T' := by
  have hfu := m_fu_ge
  have h5 := hW.1
  have h24 := hW.2.1
  intro c
  induction c with
  | zero =>
    intro f fu T hf hfu' hP hR hQ h0 hT
    obtain ⟨fu, rfl⟩ : ∃ f, fu = f + 1 := ⟨fu - 1, by omega⟩
    have hf : f = p_fu P := hf
    have p0 := hP.1
    refine ⟨T, ?_, hf ▸ hT, e_O.rf⟩
    simp (disch := omega) only [e_let, e_call, e_cal0, e_bind, e_lit, e_ofN, e_neg, nI_add, pk_mul, e_sub, e_ldi, e_sti, e_ldj, e_stj, e_le_t, e_le_f, e_lt_t, e_lt_f, e_eq_t, e_eq_f, e_no_eq, e_no_eq', e_no_rfl, e_no_lt, e_no_le, e_le_no, e_lt_no, if_true, if_false, ↓reduceIte, e_rs, e_rq, e_rn, e_ji, e_ki, e_ij, e_kj, e_js, e_jq, e_jn, e_cs, e_cq, e_jc, e_kc, e_js', e_jcq, e_icj, e_kcj, or_true, true_or, or_false, false_or, and_true, true_and, not_true_eq_false, not_false_eq_true, b_X12_layRegions_242, p0, hf]
  | succ c ih =>
    intro f fu T hf hfu' hP hR hQ h0 hT
    obtain ⟨fu, rfl⟩ : ∃ f, fu = f + 1 := ⟨fu - 1, by omega⟩
    have p0 := hP.1
    have hl := hW.2.2.1 f (by omega)
    obtain ⟨T1, f1, f2, f3⟩ := j_ptv (K := b_X12_layRegions_242 m fu) hW (show f < p_fu P by omega) hV hN (p_vs P f) 0 m_fu T (by omega) (by simp only [p_vs]; omega) hP hR hQ h0 hT
    have k2 : ∀ q, q < m + 15 ∨ m + 17 ≤ q → m_ri T1 q = m_ri T q := f3.1
    obtain ⟨T', g1, g2, g3⟩ := ih (f + 1) fu T1 (by omega) (by omega) (by rw [k2 (m + 2) (by omega)]; exact hP) (by
      simp only [u_R2, k2 m (by omega), k2 (m + 12) (by omega), k2 (m + 13) (by omega)]; exact hR) (by
      simp only [u_Q2, k2 (m + 14) (by omega), k2 (m + 2) (by omega)]; exact hQ) (by
      simp only [d_T0, k2 (m + 2) (by omega), k2 (m + 17) (by omega)]; exact h0) f2
    refine ⟨T', ?_, g2, f3.tr g3⟩
    rw [← g1, ← f1, b_X12_layRegions_242]
    simp (disch := omega) only [e_let, e_call, e_cal0, e_bind, e_lit, e_ofN, e_neg, nI_add, pk_mul, e_sub, e_ldi, e_sti, e_ldj, e_stj, e_le_t, e_le_f, e_lt_t, e_lt_f, e_eq_t, e_eq_f, e_no_eq, e_no_eq', e_no_rfl, e_no_lt, e_no_le, e_le_no, e_lt_no, if_true, if_false, ↓reduceIte, e_rs, e_rq, e_rn, e_ji, e_ki, e_ij, e_kj, e_js, e_jq, e_jn, e_cs, e_cq, e_jc, e_kc, e_js', e_jcq, e_icj, e_kcj, or_true, true_or, or_false, false_or, and_true, true_and, not_true_eq_false, not_false_eq_true, p0]
end DH
