/-! all of the regions: the one side, to the end -/
def d_XX (S : m_M) (A : Nat) (P : pP) : Prop := d_R0 S A P ∧ d_PP S A P ∧ d_X S A P (p_fu P) ∧ ∀ r, r < 32 → (bt (m_ri S A 1) r = true ↔ r < d_z P ∧ d_fin P r)
section DF
variable {S : m_M} {A p : Nat} {P : pP} {f i : Nat}
theorem d_z_0 (h : p_fu P = 0) : d_z P = 0 := by
  show (u_na 30 (d_U P) P (p_fu P) 0 u_g0).2 = 0
  rw [h]; rfl
theorem d_bg_z (hW : p_W P) (hf : f < p_fu P) (hi : i < p_ct P f) {r : Nat} : (d_bg (d_of P) f i r = true → r < d_z P) ∧ (d_en (d_of P) f i r = true → r < d_z P) := by
  have hG := d_G_of hW
  exact ⟨fun h => d_lr_z hW ((hG.2.2.2.2.2.1 f i r hf hi).mp h).2.1, fun h => d_lr_z hW ((hG.2.2.2.2.2.2.1 f i r hf hi).mp h).2.1⟩
theorem k_fin7 (hW : p_W P) (hA : A = p + 8) : ∀ (c j fu : Nat) (S : m_M), j + c = d_z P → c < fu → p_R S p P → m_ri S A 0 = nI (d_z P) → d_X S A P (p_fu P) → (∀ r, r < 32 → (bt (m_ri S A 1) r = true ↔ r < j ∧ d_fin P r)) →
    ∃ S', b_X6_tellFinite_7 A p fu S (nI j) = some S' ∧ (∀ r, r < 32 → (bt (m_ri S' A 1) r = true ↔ r < d_z P ∧ d_fin P r)) ∧ (∀ q, q ≠ A → m_ri S' q = m_ri S q) ∧ (∀ t, t ≠ 1 → m_ri S' A t = m_ri S A t) ∧ m_rj S' = m_rj S ∧ m_rr S' = m_rr S := by
  subst hA
  have h5 := hW.1
  have hz := d_z_le hW
  intro c
  induction c with
  | zero =>
    intro j fu S hj hfu hP h0 hX hb
    obtain ⟨fu, rfl⟩ : ∃ f, fu = f + 1 := ⟨fu - 1, by omega⟩
    have hj : j = d_z P := hj
    refine ⟨S, ?_, by rw [← hj]; exact hb, fun _ _ => rfl, fun _ _ => rfl, rfl, rfl⟩
    simp (disch := omega) only [e_let, e_call, e_cal0, e_bind, e_lit, e_ofN, e_neg, nI_add, pk_mul, e_sub, e_ldi, e_sti, e_ldj, e_stj, e_le_t, e_le_f, e_lt_t, e_lt_f, e_eq_t, e_eq_f, e_no_eq, e_no_eq', e_no_rfl, e_no_lt, e_no_le, e_le_no, e_lt_no, if_true, if_false, ↓reduceIte, e_rs, e_rq, e_rn, e_ji, e_ki, e_ij, e_kj, e_js, e_jq, e_jn, e_cs, e_cq, e_jc, e_kc, e_js', e_jcq, e_icj, e_kcj, or_true, true_or, or_false, false_or, and_true, true_and, not_true_eq_false, not_false_eq_true, b_X6_tellFinite_7, h0]
  | succ c ih =>
    intro j fu S hj hfu hP h0 hX hb
    obtain ⟨fu, rfl⟩ : ∃ f, fu = f + 1 := ⟨fu - 1, by omega⟩
    have p0 := hP.1
    have hfp : 1 ≤ p_fu P := by
      rcases Nat.eq_zero_or_pos (p_fu P) with h | h
      · have := d_z_0 h; omega
      · exact h
    have ho := (hX.2.1 (p_fu P - 1) (by omega)).1
    have hbt := e_bt (x := m_ri S (p + 8 + 8) (p_fu P - 1)) (r := j) (by omega)
    rw [ho j (by omega)] at hbt
    obtain ⟨hob, hfb⟩ := hX.2.2.1 j (by omega)
    obtain ⟨n, n1, n2⟩ := e_five (x := m_ri S (p + 8 + 7) j) (fun i h1 h2 => by
      rw [hfb i h2]; exact Bool.eq_false_iff.mpr (fun q => by have := (d_dec_t.mp q).1; omega))
    have hpc : e_pc n = fb_ct (d_flb P (p_fu P) j) 5 := fb_ct_cong (fun k hk => by rw [← n2]; exact hfb k (by omega))
    have hbc := e_bc5 (S := S) n1
    have hpl : e_pc n ≤ 5 := fb_ct_le _ _
    have hand : (m_ri S (p + 8 + 7) j &&& m_ri S (p + 8 + 6) j = nI 0) ↔ ¬ ∃ f, f < p_fu P ∧ d_fil1 P f j ∧ d_ow (d_of P) f j = true := by
      constructor
      · rintro h ⟨g, g1, g2, g3⟩
        have h1 := congrArg (fun y => bt y g) h
        simp only [b_and] at h1
        rw [hfb g (by omega), hob g (by omega), e_b0, show d_flb P (p_fu P) j g = true from d_dec_t.mpr ⟨g1, g2⟩, show d_owb P (p_fu P) j g = true from d_dec_t.mpr ⟨g1, g3⟩] at h1
        cases h1
      · intro h
        refine e_bz fun g hg => ?_
        rw [b_and, hfb g hg, hob g hg, Bool.eq_false_iff]
        intro q
        rw [Bool.and_eq_true] at q
        exact h ⟨g, (d_dec_t.mp q.1).1, (d_dec_t.mp q.1).2, (d_dec_t.mp q.2).2⟩
    rw [n2] at hand
    by_cases hfin : d_fin P j
    · obtain ⟨f1, f2, f3⟩ := hfin
      rw [f1] at hbt
      have hzz : (m_ri S (p + 8 + 8) (p_fu P - 1) >>> (nI j &&& nI 31)) &&& nI 1 = nI 0 := by rw [hbt]
      rw [hpc, f2] at hbc
      have hne : ¬ (nI n &&& m_ri S (p + 8 + 6) j = nI 0) := fun q => hand.mp q f3
      have hX1 : d_X (m_si S (p + 8) 1 (m_ri S (p + 8) 1 ||| (nI 1 <<< (nI j &&& nI 31)))) (p + 8) P (p_fu P) := by
        simp only [d_X, e_rq (S := S) (q := p + 8) (q' := p + 8 + 2) (by omega), e_rq (S := S) (q := p + 8) (q' := p + 8 + 6) (by omega), e_rq (S := S) (q := p + 8) (q' := p + 8 + 7) (by omega), e_rq (S := S) (q := p + 8) (q' := p + 8 + 8) (by omega), e_rq (S := S) (q := p + 8) (q' := p + 8 + 9) (by omega), e_rq (S := S) (q := p + 8) (q' := p + 8 + 10) (by omega), e_rq (S := S) (q := p + 8) (q' := p + 8 + 11) (by omega), e_rq (S := S) (q := p + 8) (q' := p + 8 + 12) (by omega), e_rq (S := S) (q := p + 8) (q' := p + 8 + 13) (by omega)]
        exact hX
      have hP1 : p_R (m_si S (p + 8) 1 (m_ri S (p + 8) 1 ||| (nI 1 <<< (nI j &&& nI 31)))) p P := by
        simp only [p_R, e_rq (S := S) (q := p + 8) (q' := p) (by omega), e_rq (S := S) (q := p + 8) (q' := p + 2) (by omega), e_rq (S := S) (q := p + 8) (q' := p + 3) (by omega), e_rq (S := S) (q := p + 8) (q' := p + 4) (by omega), e_rq (S := S) (q := p + 8) (q' := p + 5) (by omega), e_rq (S := S) (q := p + 8) (q' := p + 6) (by omega), e_rq (S := S) (q := p + 8) (q' := p + 7) (by omega)]
        exact hP
      obtain ⟨S', g1, g2, g3, g4, g5, g6⟩ := ih (j + 1) fu (m_si S (p + 8) 1 (m_ri S (p + 8) 1 ||| (nI 1 <<< (nI j &&& nI 31)))) (by omega) (by omega) hP1 (by rw [e_rn (by omega)]; exact h0) hX1 (fun r hr => by
        rw [e_rs, b_or, Bool.or_eq_true, hb r hr, e_b1 (by omega) hr, decide_eq_true_eq]
        constructor
        · rintro (⟨h1, h2⟩ | h)
          · exact ⟨by omega, h2⟩
          · subst h; exact ⟨by omega, f1, f2, f3⟩
        · rintro ⟨h1, h2⟩
          by_cases e : r = j
          · exact Or.inr e.symm
          · exact Or.inl ⟨by omega, h2⟩)
      refine ⟨S', ?_, g2, fun q hq => by rw [g3 q hq, e_rq hq], fun t ht => by rw [g4 t ht, e_rn ht], g5, g6⟩
      rw [← g1]
      simp (disch := omega) only [e_let, e_call, e_cal0, e_bind, e_lit, e_ofN, e_neg, nI_add, pk_mul, e_sub, e_ldi, e_sti, e_ldj, e_stj, e_le_t, e_le_f, e_lt_t, e_lt_f, e_eq_t, e_eq_f, e_no_eq, e_no_eq', e_no_rfl, e_no_lt, e_no_le, e_le_no, e_lt_no, if_true, if_false, ↓reduceIte, e_rs, e_rq, e_rn, e_ji, e_ki, e_ij, e_kj, e_js, e_jq, e_jn, e_cs, e_cq, e_jc, e_kc, e_js', e_jcq, e_icj, e_kcj, or_true, true_or, or_false, false_or, and_true, true_and, not_true_eq_false, not_false_eq_true, b_X6_tellFinite_7, h0, p0, hzz, b_X6_tellFinite_44, b_X6_tellFinite_45, n2, hbc, b_X6_tellFinite_64, hne, b_X6_tellFinite_103]
    · obtain ⟨S', g1, g2, g3, g4, g5, g6⟩ := ih (j + 1) fu S (by omega) (by omega) hP h0 hX (fun r hr => by
        rw [hb r hr]
        constructor
        · rintro ⟨h1, h2⟩; exact ⟨by omega, h2⟩
        · rintro ⟨h1, h2⟩
          refine ⟨?_, h2⟩
          by_cases e : r = j
          · subst e; exact absurd h2 hfin
          · omega)
      refine ⟨S', ?_, g2, g3, g4, g5, g6⟩
      rw [← g1]
      cases hou : d_ou (d_of P) (p_fu P - 1) j with
      | true =>
        rw [hou] at hbt
        have hne : ¬ ((m_ri S (p + 8 + 8) (p_fu P - 1) >>> (nI j &&& nI 31)) &&& nI 1 = nI 0) := by rw [hbt]; exact fun h => by cases h
        by_cases h1 : e_pc n = 1
        · simp (disch := omega) only [e_let, e_call, e_cal0, e_bind, e_lit, e_ofN, e_neg, nI_add, pk_mul, e_sub, e_ldi, e_sti, e_ldj, e_stj, e_le_t, e_le_f, e_lt_t, e_lt_f, e_eq_t, e_eq_f, e_no_eq, e_no_eq', e_no_rfl, e_no_lt, e_no_le, e_le_no, e_lt_no, if_true, if_false, ↓reduceIte, e_rs, e_rq, e_rn, e_ji, e_ki, e_ij, e_kj, e_js, e_jq, e_jn, e_cs, e_cq, e_jc, e_kc, e_js', e_jcq, e_icj, e_kcj, or_true, true_or, or_false, false_or, and_true, true_and, not_true_eq_false, not_false_eq_true, b_X6_tellFinite_7, h0, p0, hne, b_X6_tellFinite_44, b_X6_tellFinite_45, n2, hbc, h1, b_X6_tellFinite_64, b_X6_tellFinite_103]
        · simp (disch := omega) only [e_let, e_call, e_cal0, e_bind, e_lit, e_ofN, e_neg, nI_add, pk_mul, e_sub, e_ldi, e_sti, e_ldj, e_stj, e_le_t, e_le_f, e_lt_t, e_lt_f, e_eq_t, e_eq_f, e_no_eq, e_no_eq', e_no_rfl, e_no_lt, e_no_le, e_le_no, e_lt_no, if_true, if_false, ↓reduceIte, e_rs, e_rq, e_rn, e_ji, e_ki, e_ij, e_kj, e_js, e_jq, e_jn, e_cs, e_cq, e_jc, e_kc, e_js', e_jcq, e_icj, e_kcj, or_true, true_or, or_false, false_or, and_true, true_and, not_true_eq_false, not_false_eq_true, b_X6_tellFinite_7, h0, p0, hne, b_X6_tellFinite_44, b_X6_tellFinite_45, n2, hbc, h1, b_X6_tellFinite_64, b_X6_tellFinite_103]
      | false =>
        rw [hou] at hbt
        have hzz : (m_ri S (p + 8 + 8) (p_fu P - 1) >>> (nI j &&& nI 31)) &&& nI 1 = nI 0 := by rw [hbt]
        by_cases h1 : e_pc n = 1
        · have hz3 : nI n &&& m_ri S (p + 8 + 6) j = nI 0 := hand.mpr (fun q => hfin ⟨hou, by rw [← hpc]; exact h1, q⟩)
          simp (disch := omega) only [e_let, e_call, e_cal0, e_bind, e_lit, e_ofN, e_neg, nI_add, pk_mul, e_sub, e_ldi, e_sti, e_ldj, e_stj, e_le_t, e_le_f, e_lt_t, e_lt_f, e_eq_t, e_eq_f, e_no_eq, e_no_eq', e_no_rfl, e_no_lt, e_no_le, e_le_no, e_lt_no, if_true, if_false, ↓reduceIte, e_rs, e_rq, e_rn, e_ji, e_ki, e_ij, e_kj, e_js, e_jq, e_jn, e_cs, e_cq, e_jc, e_kc, e_js', e_jcq, e_icj, e_kcj, or_true, true_or, or_false, false_or, and_true, true_and, not_true_eq_false, not_false_eq_true, b_X6_tellFinite_7, h0, p0, hzz, b_X6_tellFinite_44, b_X6_tellFinite_45, n2, hbc, h1, b_X6_tellFinite_64, hz3, b_X6_tellFinite_103]
        · simp (disch := omega) only [e_let, e_call, e_cal0, e_bind, e_lit, e_ofN, e_neg, nI_add, pk_mul, e_sub, e_ldi, e_sti, e_ldj, e_stj, e_le_t, e_le_f, e_lt_t, e_lt_f, e_eq_t, e_eq_f, e_no_eq, e_no_eq', e_no_rfl, e_no_lt, e_no_le, e_le_no, e_lt_no, if_true, if_false, ↓reduceIte, e_rs, e_rq, e_rn, e_ji, e_ki, e_ij, e_kj, e_js, e_jq, e_jn, e_cs, e_cq, e_jc, e_kc, e_js', e_jcq, e_icj, e_kcj, or_true, true_or, or_false, false_or, and_true, true_and, not_true_eq_false, not_false_eq_true, b_X6_tellFinite_7, h0, p0, hzz, b_X6_tellFinite_44, b_X6_tellFinite_45, n2, hbc, h1, b_X6_tellFinite_64, b_X6_tellFinite_103]
theorem k_der38 (hW : p_W P) (hA : A = p + 8) : ∀ (c f fu : Nat) (S : m_M), f + c = p_fu P → c < fu → p_R S p P → d_R0 S A P → d_Rr S A P → d_PP S A P → d_X S A P f →
    ∃ S', b_X6_derive_38 A p fu S (nI f) = some S' ∧ d_XX S' A P ∧ e_O A (A + 14) S S' ∧ (∀ q, A + 3 ≤ q → q < A + 6 → m_ri S' q = m_ri S q) := by
  have hA' := hA
  subst hA
  have hfu := m_fu_ge
  have h5 := hW.1
  have h24 := hW.2.1
  have hz := d_z_le hW
  intro c
  induction c with
  | zero =>
    intro f fu S hf hfu' hP h0 hr hp hX
    obtain ⟨fu, rfl⟩ : ∃ f, fu = f + 1 := ⟨fu - 1, by omega⟩
    have hf : f = p_fu P := hf
    subst hf
    have p0 := hP.1
    have hX1 : d_X (m_si S (p + 8) 1 (nI 0)) (p + 8) P (p_fu P) := by
      simp only [d_X, e_rq (S := S) (q := p + 8) (q' := p + 8 + 2) (by omega), e_rq (S := S) (q := p + 8) (q' := p + 8 + 6) (by omega), e_rq (S := S) (q := p + 8) (q' := p + 8 + 7) (by omega), e_rq (S := S) (q := p + 8) (q' := p + 8 + 8) (by omega), e_rq (S := S) (q := p + 8) (q' := p + 8 + 9) (by omega), e_rq (S := S) (q := p + 8) (q' := p + 8 + 10) (by omega), e_rq (S := S) (q := p + 8) (q' := p + 8 + 11) (by omega), e_rq (S := S) (q := p + 8) (q' := p + 8 + 12) (by omega), e_rq (S := S) (q := p + 8) (q' := p + 8 + 13) (by omega)]
      exact hX
    have hP1 : p_R (m_si S (p + 8) 1 (nI 0)) p P := by
      simp only [p_R, e_rq (S := S) (q := p + 8) (q' := p) (by omega), e_rq (S := S) (q := p + 8) (q' := p + 2) (by omega), e_rq (S := S) (q := p + 8) (q' := p + 3) (by omega), e_rq (S := S) (q := p + 8) (q' := p + 4) (by omega), e_rq (S := S) (q := p + 8) (q' := p + 5) (by omega), e_rq (S := S) (q := p + 8) (q' := p + 6) (by omega), e_rq (S := S) (q := p + 8) (q' := p + 7) (by omega)]
      exact hP
    obtain ⟨S', g1, g2, g3, g4, g5, g6⟩ := k_fin7 hW hA' (d_z P) 0 m_fu (m_si S (p + 8) 1 (nI 0)) (by omega) (by omega) hP1 (by rw [e_rn (by omega)]; exact h0.1) hX1 (fun r hr => by rw [e_rs, e_b0]; exact ⟨fun q => (by cases q), fun q => by omega⟩)
    have kq : ∀ q, q ≠ p + 8 → m_ri S' q = m_ri S q := fun q hq => by rw [g3 q hq, e_rq hq]
    refine ⟨S', ?_, ⟨?_, ?_, ?_, g2⟩, ⟨fun q hq => kq q (by omega), g5, g6⟩, fun q h1 h2 => kq q (by omega)⟩
    · simp (disch := omega) only [e_let, e_call, e_cal0, e_bind, e_lit, e_ofN, e_neg, nI_add, pk_mul, e_sub, e_ldi, e_sti, e_ldj, e_stj, e_le_t, e_le_f, e_lt_t, e_lt_f, e_eq_t, e_eq_f, e_no_eq, e_no_eq', e_no_rfl, e_no_lt, e_no_le, e_le_no, e_lt_no, if_true, if_false, ↓reduceIte, e_rs, e_rq, e_rn, e_ji, e_ki, e_ij, e_kj, e_js, e_jq, e_jn, e_cs, e_cq, e_jc, e_kc, e_js', e_jcq, e_icj, e_kcj, or_true, true_or, or_false, false_or, and_true, true_and, not_true_eq_false, not_false_eq_true, b_X6_derive_38, p0, f_X6_tellFinite, g1]
    · simp only [d_R0, kq (p + 8 + 3) (by omega), kq (p + 8 + 4) (by omega), g4 0 (by omega)]
      rw [e_rn (by omega)]; exact h0
    · simp only [d_PP, kq (p + 8 + 1) (by omega)]; exact hp
    · simp only [d_X, kq (p + 8 + 2) (by omega), kq (p + 8 + 6) (by omega), kq (p + 8 + 7) (by omega), kq (p + 8 + 8) (by omega), kq (p + 8 + 9) (by omega), kq (p + 8 + 10) (by omega), kq (p + 8 + 11) (by omega), kq (p + 8 + 12) (by omega), kq (p + 8 + 13) (by omega)]
      exact hX
  | succ c ih =>
    intro f fu S hf hfu' hP h0 hr hp hX
    obtain ⟨fu, rfl⟩ : ∃ f, fu = f + 1 := ⟨fu - 1, by omega⟩
    have hf' : f < p_fu P := by omega
    have hl := hW.2.2.1 f hf'
    have p0 := hP.1
    obtain ⟨x1, x2, x3, x4, x5⟩ := hX
    obtain ⟨S1, a1, a2, a3, a4, a5, a6, a7, a8, a9⟩ := k_owner hW hA' hf' (p_vs P f) 0 m_fu S (nI 0) (nI 0) (by omega) (by simp only [p_vs]; omega) hP h0 hr hp (fun r hr => by rw [e_b0]; exact ⟨fun q => (by cases q), fun ⟨w, w1, _⟩ => by omega⟩) (fun r hr => by rw [e_b0]; exact ⟨fun q => (by cases q), fun ⟨w, w1, _⟩ => by omega⟩) (fun w hw => by omega)
    have hP1 : p_R S1 p P := by
      simp only [p_R, a7 p (by omega) (by omega) (by omega), a7 (p + 2) (by omega) (by omega) (by omega), a7 (p + 3) (by omega) (by omega) (by omega), a7 (p + 4) (by omega) (by omega) (by omega), a7 (p + 5) (by omega) (by omega) (by omega), a7 (p + 6) (by omega) (by omega) (by omega), a7 (p + 7) (by omega) (by omega) (by omega)]; exact hP
    have hp1 : d_PP S1 (p + 8) P := by simp only [d_PP, a7 (p + 8 + 1) (by omega) (by omega) (by omega)]; exact hp
    have h01 : m_ri S1 (p + 8) 0 = nI (d_z P) := by rw [a7 (p + 8) (by omega) (by omega) (by omega)]; exact h0.1
    obtain ⟨S2, b1, b2, b3⟩ := k_fill6 hW hA' hf' (p_ct P f) 0 m_fu S1 (by omega) (by omega) hP1 h01 hp1 (fun r hr g hg => by
      rw [a7 (p + 8 + 7) (by omega) (by omega) (by omega), (x3 r hr).2 g hg, d_flb, d_dec_t]
      exact ⟨fun h => Or.inl h, fun h => by
        rcases h with h | ⟨-, j, j1, -⟩
        · exact h
        · omega⟩)
    have kb : ∀ q, q ≠ p + 8 + 7 → m_ri S2 q = m_ri S1 q := fun q hq => b3.1 q (by omega)
    have hP2 : p_R S2 p P := by
      simp only [p_R, kb p (by omega), kb (p + 2) (by omega), kb (p + 3) (by omega), kb (p + 4) (by omega), kb (p + 5) (by omega), kb (p + 6) (by omega), kb (p + 7) (by omega)]; exact hP1
    have hY : d_Y S2 (p + 8) P f 0 := by
      refine ⟨fun r hr g hg => ?_, fun g i hg hi => ?_, fun g r hr hgr how => ?_⟩
      · rw [kb _ (by omega), a7 _ (by omega) (by omega) (by omega), (x3 r hr).1 g hg, d_owb, d_dec_t]
        exact ⟨fun h => Or.inl h, fun h => by
          rcases h with h | ⟨-, h2, -⟩
          · exact h
          · omega⟩
      · rw [kb (p + 8 + 12) (by omega), kb (p + 8 + 13) (by omega), a7 (p + 8 + 12) (by omega) (by omega) (by omega), a7 (p + 8 + 13) (by omega) (by omega) (by omega)]
        refine ⟨(x4 g i hg hi).1, fun h => (x4 g i hg hi).2 (by omega), fun h r hr => ?_⟩
        obtain ⟨z1, z2⟩ := (x4 g i hg hi).2 (by omega)
        rw [z1, z2, e_b0]
        exact ⟨⟨fun q => (by cases q), fun q => by omega⟩, ⟨fun q => (by cases q), fun q => by omega⟩⟩
      · rw [kb (p + 8 + 10) (by omega), kb (p + 8 + 11) (by omega), a7 (p + 8 + 10) (by omega) (by omega) (by omega), a7 (p + 8 + 11) (by omega) (by omega) (by omega)]
        exact x5 g r (by omega) hr how
    obtain ⟨S3, c1, c2, c3, c4, c5⟩ := k_der60 (K := b_X6_derive_38 (p + 8) p fu) hW hA' hf' (d_z P) 0 m_fu S2 (by omega) (by omega) hP2 (by rw [kb _ (by omega)]; exact h01) (by rw [kb _ (by omega)]; exact a2) (by rw [kb _ (by omega)]; exact a4) hY
    obtain ⟨y1, y2, y3⟩ := c2
    have kc : ∀ q, q ≠ p + 8 + 6 → q ≠ p + 8 + 10 → q ≠ p + 8 + 11 → q ≠ p + 8 + 12 → q ≠ p + 8 + 13 → q ≠ p + 8 + 7 → q ≠ p + 8 + 2 → q ≠ p + 8 + 8 → q ≠ p + 8 + 9 → m_ri S3 q = m_ri S q := fun q a b c d e f g h i => by rw [c3 q a b c d e, kb q f, a7 q g h i]
    have hX3 : d_X S3 (p + 8) P (f + 1) := by
      refine ⟨fun g w hg hw => ?_, fun g hg => ?_, fun r hr => ⟨fun g hg => ?_, ?_⟩, fun g i hg hi => ⟨fun hgf => ?_, fun hgf => ?_⟩, fun g r hg hr how => y3 g r hr (by omega) how⟩
      · rw [c3 (p + 8 + 2) (by omega) (by omega) (by omega) (by omega) (by omega), kb _ (by omega)]
        by_cases e : g = f
        · subst e; exact a2 w hw
        · rw [a5 g w (by omega) hw e]; exact x1 g w (by omega) hw
      · rw [c3 (p + 8 + 8) (by omega) (by omega) (by omega) (by omega) (by omega), kb _ (by omega), c3 (p + 8 + 9) (by omega) (by omega) (by omega) (by omega) (by omega), kb _ (by omega)]
        by_cases e : g = f
        · subst e; exact ⟨a3, a4⟩
        · rw [(a6 g e).1, (a6 g e).2]; exact x2 g (by omega)
      · refine Bool.eq_iff_iff.mpr ((y1 r hr g hg).trans ?_)
        rw [d_owb, d_dec_t]
        constructor
        · rintro (⟨h1, h2⟩ | ⟨h1, h2, h3⟩)
          · exact ⟨by omega, h2⟩
          · subst h1; exact ⟨by omega, h3⟩
        · rintro ⟨h1, h2⟩
          by_cases e : g = f
          · subst e; exact Or.inr ⟨rfl, hr, h2⟩
          · exact Or.inl ⟨by omega, h2⟩
      · rw [c3 (p + 8 + 7) (by omega) (by omega) (by omega) (by omega) (by omega)]; exact b2 r hr
      · by_cases e : g = f
        · subst e
          refine ⟨fun r hr => Bool.eq_iff_iff.mpr (((y2 g i hg hi).2.2 rfl r hr).1.trans ⟨fun h => h.2, fun h => ⟨(d_bg_z hW hg hi).1 h, h⟩⟩), fun r hr => Bool.eq_iff_iff.mpr (((y2 g i hg hi).2.2 rfl r hr).2.trans ⟨fun h => h.2, fun h => ⟨(d_bg_z hW hg hi).2 h, h⟩⟩)⟩
        · exact (y2 g i hg hi).1 (by omega)
      · exact (y2 g i hg hi).2.1 (by omega)
    have hP3 : p_R S3 p P := by
      simp only [p_R, c3 p (by omega) (by omega) (by omega) (by omega) (by omega), c3 (p + 2) (by omega) (by omega) (by omega) (by omega) (by omega), c3 (p + 3) (by omega) (by omega) (by omega) (by omega) (by omega), c3 (p + 4) (by omega) (by omega) (by omega) (by omega) (by omega), c3 (p + 5) (by omega) (by omega) (by omega) (by omega) (by omega), c3 (p + 6) (by omega) (by omega) (by omega) (by omega) (by omega), c3 (p + 7) (by omega) (by omega) (by omega) (by omega) (by omega)]; exact hP2
    have h03 : d_R0 S3 (p + 8) P := by
      simp only [d_R0, kc (p + 8) (by omega) (by omega) (by omega) (by omega) (by omega) (by omega) (by omega) (by omega) (by omega), kc (p + 8 + 3) (by omega) (by omega) (by omega) (by omega) (by omega) (by omega) (by omega) (by omega) (by omega), kc (p + 8 + 4) (by omega) (by omega) (by omega) (by omega) (by omega) (by omega) (by omega) (by omega) (by omega)]; exact h0
    have hr3 : d_Rr S3 (p + 8) P := by
      simp only [d_Rr, kc (p + 8 + 5) (by omega) (by omega) (by omega) (by omega) (by omega) (by omega) (by omega) (by omega) (by omega)]; exact hr
    have hp3 : d_PP S3 (p + 8) P := by
      simp only [d_PP, kc (p + 8 + 1) (by omega) (by omega) (by omega) (by omega) (by omega) (by omega) (by omega) (by omega) (by omega)]; exact hp
    obtain ⟨S', g1, g2, g3, g4⟩ := ih (f + 1) fu S3 (by omega) (by omega) hP3 h03 hr3 hp3 hX3
    have hO : e_O (p + 8) (p + 8 + 14) S S3 := ⟨fun q hq => kc q (by omega) (by omega) (by omega) (by omega) (by omega) (by omega) (by omega) (by omega) (by omega), c4.trans (b3.2.1.trans a8), c5.trans (b3.2.2.trans a9)⟩
    refine ⟨S', ?_, g2, hO.tr g3, fun q h1 h2 => (g4 q h1 h2).trans (kc q (by omega) (by omega) (by omega) (by omega) (by omega) (by omega) (by omega) (by omega) (by omega))⟩
    have hto : f_X6_tellOwner (p + 8) p S (nI f) = some S1 := a1
    have p3 := hP1.2.2.2.1 f hf'
    have htf : f_X6_tellFilled (p + 8) p S1 (nI f) = some S2 := by
      rw [f_X6_tellFilled, e_ldi (by omega) (by omega), e_bind, p3]; exact b1
    rw [← g1, ← c1, b_X6_derive_38, p0, if_neg (by rw [e_le_f (by omega) (by omega)]; exact fun h => h), hto, e_cal0, htf, e_cal0]
    rfl
theorem k_derive (hW : p_W P) (hP : p_R S p P) (h0 : d_R0 S (p + 8) P) (hp : d_PP S (p + 8) P) : ∃ S', f_X6_derive (p + 8) p S = some S' ∧ d_XX S' (p + 8) P ∧ e_O (p + 8) (p + 22) S S' := by
  have hfu := m_fu_ge
  have h5 := hW.1
  have h24 := hW.2.1
  have hz := d_z_le hW
  obtain ⟨S1, f1, f2, f3⟩ := k_closeReach hW h0
  generalize hS5 : m_ci (m_ci (m_ci (m_ci S1 (p + 8 + 6) (fun t => if t < 24 then nI 0 else m_ri S1 (p + 8 + 6) t)) (p + 8 + 7) (fun t => if t < 24 then nI 0 else m_ri S1 (p + 8 + 7) t)) (p + 8 + 12) (fun t => if t < 24 then nI 0 else m_ri S1 (p + 8 + 12) t)) (p + 8 + 13) (fun t => if t < 24 then nI 0 else m_ri S1 (p + 8 + 13) t) = S5
  have k6 : ∀ t, t < 24 → m_ri S5 (p + 8 + 6) t = nI 0 := fun t ht => by rw [← hS5, e_cq (by omega), e_cq (by omega), e_cq (by omega), e_cs, if_pos ht]
  have k7 : ∀ t, t < 24 → m_ri S5 (p + 8 + 7) t = nI 0 := fun t ht => by rw [← hS5, e_cq (by omega), e_cq (by omega), e_cs, if_pos ht]
  have k12 : ∀ t, t < 24 → m_ri S5 (p + 8 + 12) t = nI 0 := fun t ht => by rw [← hS5, e_cq (by omega), e_cs, if_pos ht]
  have k13 : ∀ t, t < 24 → m_ri S5 (p + 8 + 13) t = nI 0 := fun t ht => by rw [← hS5, e_cs, if_pos ht]
  have kq : ∀ q, q ≠ p + 8 + 6 → q ≠ p + 8 + 7 → q ≠ p + 8 + 12 → q ≠ p + 8 + 13 → q ≠ p + 8 + 5 → m_ri S5 q = m_ri S q := fun q a b c d e => by rw [← hS5, e_cq d, e_cq c, e_cq b, e_cq a]; exact f3.1 q (by omega)
  have k5 : m_ri S5 (p + 8 + 5) = m_ri S1 (p + 8 + 5) := by rw [← hS5, e_cq (by omega), e_cq (by omega), e_cq (by omega), e_cq (by omega)]
  have hjr : m_rj S5 = m_rj S ∧ m_rr S5 = m_rr S := by rw [← hS5]; exact ⟨f3.2.1, f3.2.2⟩
  have hP5 : p_R S5 p P := by
    simp only [p_R, kq p (by omega) (by omega) (by omega) (by omega) (by omega), kq (p + 2) (by omega) (by omega) (by omega) (by omega) (by omega), kq (p + 3) (by omega) (by omega) (by omega) (by omega) (by omega), kq (p + 4) (by omega) (by omega) (by omega) (by omega) (by omega), kq (p + 5) (by omega) (by omega) (by omega) (by omega) (by omega), kq (p + 6) (by omega) (by omega) (by omega) (by omega) (by omega), kq (p + 7) (by omega) (by omega) (by omega) (by omega) (by omega)]; exact hP
  have h05 : d_R0 S5 (p + 8) P := by
    simp only [d_R0, kq (p + 8) (by omega) (by omega) (by omega) (by omega) (by omega), kq (p + 8 + 3) (by omega) (by omega) (by omega) (by omega) (by omega), kq (p + 8 + 4) (by omega) (by omega) (by omega) (by omega) (by omega)]; exact h0
  have hr5 : d_Rr S5 (p + 8) P := by simp only [d_Rr, k5]; exact f2
  have hp5 : d_PP S5 (p + 8) P := by simp only [d_PP, kq (p + 8 + 1) (by omega) (by omega) (by omega) (by omega) (by omega)]; exact hp
  have hX5 : d_X S5 (p + 8) P 0 := by
    refine ⟨fun f w hf => by omega, fun f hf => by omega, fun r hr => ⟨fun g hg => ?_, fun g hg => ?_⟩, fun f i hf hi => ⟨fun h => by omega, fun _ => ?_⟩, fun f r hf => by omega⟩
    · rw [k6 r (by omega), e_b0]; exact (Bool.eq_false_iff.mpr (fun q => by have := (d_dec_t.mp q).1; omega)).symm
    · rw [k7 r (by omega), e_b0]; exact (Bool.eq_false_iff.mpr (fun q => by have := (d_dec_t.mp q).1; omega)).symm
    · have := hW.line hf hi
      exact ⟨k12 _ (by omega), k13 _ (by omega)⟩
  obtain ⟨S', g1, g2, g3, -⟩ := k_der38 hW rfl (p_fu P) 0 m_fu S5 (by omega) (by omega) hP5 h05 hr5 hp5 hX5
  refine ⟨S', ?_, g2, ⟨fun q hq => (g3.1 q (by omega)).trans (kq q (by omega) (by omega) (by omega) (by omega) (by omega)), g3.2.1.trans hjr.1, g3.2.2.trans hjr.2⟩⟩
  rw [← g1, f_X6_derive, f1, e_cal0, ← hS5]
  rw [e_lit, k_fills (by omega), e_cal0, k_fills (by omega), e_cal0, k_fills (by omega), e_cal0, k_fills (by omega), e_cal0]
  simp (disch := omega) only [e_cq]
theorem d_XX.R (hW : p_W P) (h : d_XX S (p + 8) P) : d_R S p P (d_of P) := by
  obtain ⟨h0, hp, ⟨x1, x2, x3, x4, x5⟩, -⟩ := h
  exact ⟨hp, fun f v r hf hv hr => x1 f v hf hv r hr, fun f i r hf hi hr => ((x4 f i hf hi).1 hf).1 r hr, fun f i r hf hi hr => ((x4 f i hf hi).1 hf).2 r hr, fun f r hf hr => (x2 f hf).1 r hr⟩
end DF
