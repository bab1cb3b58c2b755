/-! all of the regions: the other side, to the end -/
def d_TF (T : m_M) (m : Nat) (P : pP) (c : Nat) : Prop := (∀ f, f < c → e_bs (m_ri T (m + 18) f) (d_ou (d_of P) f) ∧ e_bs (m_ri T (m + 19) f) (d_ow (d_of P) f) ∧ d_Sp T m P f (p_ct P f) 0) ∧ ∀ r, r < d_z P → e_bs (m_ri T (m + 22) r) (d_flb P c r)
def d_TX (T : m_M) (m : Nat) (P : pP) : Prop := d_T0 T m P ∧ d_T1 T m P (p_fu P) 0 ∧ d_TF T m P (p_fu P)
section DJ
variable {T : m_M} {m : Nat} {P : pP} {f i : Nat}
theorem j_pf (hW : p_W P) (hf : f < p_fu P) : ∀ (c i fu : Nat) (T : m_M), i + c = p_ct P f → c < fu → r_P (m_ri T (m + 2)) P → d_T1 T m P (p_fu P) 0 → (∀ r, r < d_z P → ∀ g, g < 32 → (bt (m_ri T (m + 22) r) g = true ↔ (g < f ∧ d_fil1 P g r) ∨ (g = f ∧ d_fil P f i r))) →
    ∃ T', b_X12_layFun_115 m fu T (nI f) (nI i) = some T' ∧ (∀ r, r < d_z P → e_bs (m_ri T' (m + 22) r) (d_flb P (f + 1) r)) ∧ e_O (m + 22) (m + 23) T T' := by
  have h5 := hW.1
  have h24 := hW.2.1
  have hl := hW.2.2.1 f hf
  have hz := d_z_le hW
  intro c
  induction c with
  | zero =>
    intro i fu T hi hfu hP hT hb
    obtain ⟨fu, rfl⟩ : ∃ f, fu = f + 1 := ⟨fu - 1, by omega⟩
    have hi : i = p_ct P f := hi
    obtain ⟨p1, p2, p3⟩ := hP.2.2.1 f hf
    refine ⟨T, ?_, fun r hr g hg => Bool.eq_iff_iff.mpr ((hb r hr g hg).trans ?_), e_O.rf⟩
    · simp (disch := omega) only [e_let, e_call, e_cal0, e_bind, e_lit, e_ofN, e_neg, nI_add, pk_mul, e_sub, e_ldi, e_sti, e_ldj, e_stj, e_le_t, e_le_f, e_lt_t, e_lt_f, e_eq_t, e_eq_f, e_no_eq, e_no_eq', e_no_rfl, e_no_lt, e_no_le, e_le_no, e_lt_no, if_true, if_false, ↓reduceIte, e_rs, e_rq, e_rn, e_ji, e_ki, e_ij, e_kj, e_js, e_jq, e_jn, e_cs, e_cq, e_jc, e_kc, e_js', e_jcq, e_icj, e_kcj, or_true, true_or, or_false, false_or, and_true, true_and, not_true_eq_false, not_false_eq_true, b_X12_layFun_115, p3]
    · rw [d_flb, d_dec_t, hi]
      constructor
      · rintro (⟨h1, h2⟩ | ⟨h1, h2⟩)
        · exact ⟨by omega, h2⟩
        · subst h1; exact ⟨by omega, h2⟩
      · rintro ⟨h1, h2⟩
        by_cases e : g = f
        · subst e; exact Or.inr ⟨rfl, h2⟩
        · exact Or.inl ⟨by omega, h2⟩
  | succ c ih =>
    intro i fu T hi hfu hP hT hb
    obtain ⟨fu, rfl⟩ : ∃ f, fu = f + 1 := ⟨fu - 1, by omega⟩
    have hi' : i < p_ct P f := by omega
    obtain ⟨p1, p2, p3⟩ := hP.2.2.1 f hf
    have p5 := (hP.2.2.2 f i hf hi').1
    have h9 := (hW.2.2.2.2 f i hf hi').1
    have hpt := (hT f (p_pa P f + i) hf (by simp only [p_vs]; omega) (Or.inl hf)).1
    have ev : p_pa P f + (p_fi P f + i) - p_fi P f = p_pa P f + i := by omega
    have hvl : f_X12_madeBy m T (nI f) (nI (p_fi P f + i)) = some (nI (p_pa P f + i), T) := by simp (disch := omega) only [e_let, e_call, e_cal0, e_bind, e_lit, e_ofN, e_neg, nI_add, pk_mul, e_sub, e_ldi, e_sti, e_ldj, e_stj, e_le_t, e_le_f, e_lt_t, e_lt_f, e_eq_t, e_eq_f, e_no_eq, e_no_eq', e_no_rfl, e_no_lt, e_no_le, e_le_no, e_lt_no, if_true, if_false, ↓reduceIte, e_rs, e_rq, e_rn, e_ji, e_ki, e_ij, e_kj, e_js, e_jq, e_jn, e_cs, e_cq, e_jc, e_kc, e_js', e_jcq, e_icj, e_kcj, or_true, true_or, or_false, false_or, and_true, true_and, not_true_eq_false, not_false_eq_true, f_X12_madeBy, p1, p2, ev]
    have hle := d_p_le hW f (p_pa P f + i)
    by_cases h2 : p_op P (p_fi P f + i) = 2
    · rw [h2] at p5
      obtain ⟨r, hr, -⟩ := ((d_G_of hW).2.2.2.2.2.2.2 f i hf hi').2.1 h2
      have hr : d_p P f (p_pa P f + i) = r + 1 := hr
      rw [hr] at hpt
      have hpt : m_ri T (m + 15) (27 * f + (p_pa P f + i)) = nI r := hpt
      have kp : ∀ q, q ≠ m + 22 → m_ri (m_si T (m + 22) r (m_ri T (m + 22) r ||| (nI 1 <<< (nI f &&& nI 31)))) q = m_ri T q := fun q hq => e_rq hq
      obtain ⟨T', g1, g2, g3⟩ := ih (i + 1) fu (m_si T (m + 22) r (m_ri T (m + 22) r ||| (nI 1 <<< (nI f &&& nI 31)))) (by omega) (by omega) (by rw [kp _ (by omega)]; exact hP) (by simp only [d_T1, kp (m + 15) (by omega), kp (m + 16) (by omega)]; exact hT) (fun r' hr' g hg => by
        rw [e_rif]
        by_cases e : r' = r
        · subst e
          rw [if_pos rfl, b_or, Bool.or_eq_true, hb r' hr' g hg, e_b1 (by omega) hg, decide_eq_true_eq]
          constructor
          · rintro ((h | ⟨h, j, j1, j2, j3⟩) | h)
            · exact Or.inl h
            · exact Or.inr ⟨h, j, by omega, j2, j3⟩
            · exact Or.inr ⟨h.symm, i, by omega, h2, hr⟩
          · rintro (h | ⟨h, j, j1, j2, j3⟩)
            · exact Or.inl (Or.inl h)
            · exact Or.inr h.symm
        · rw [if_neg e, hb r' hr' g hg]
          constructor
          · rintro (h | ⟨h, j, j1, j2, j3⟩)
            · exact Or.inl h
            · exact Or.inr ⟨h, j, by omega, j2, j3⟩
          · rintro (h | ⟨h, j, j1, j2, j3⟩)
            · exact Or.inl h
            · refine Or.inr ⟨h, j, ?_, j2, j3⟩
              by_cases ej : j = i
              · rw [ej, hr] at j3; omega
              · omega)
      refine ⟨T', ?_, g2, (e_O.rf.si (by omega) (by omega)).tr g3⟩
      rw [← g1]
      simp (disch := omega) only [e_let, e_call, e_cal0, e_bind, e_lit, e_ofN, e_neg, nI_add, pk_mul, e_sub, e_ldi, e_sti, e_ldj, e_stj, e_le_t, e_le_f, e_lt_t, e_lt_f, e_eq_t, e_eq_f, e_no_eq, e_no_eq', e_no_rfl, e_no_lt, e_no_le, e_le_no, e_lt_no, if_true, if_false, ↓reduceIte, e_rs, e_rq, e_rn, e_ji, e_ki, e_ij, e_kj, e_js, e_jq, e_jn, e_cs, e_cq, e_jc, e_kc, e_js', e_jcq, e_icj, e_kcj, or_true, true_or, or_false, false_or, and_true, true_and, not_true_eq_false, not_false_eq_true, b_X12_layFun_115, p3, p2, p5, hvl, f_X12_node, hpt, b_X12_layFun_185]
    · obtain ⟨T', g1, g2, g3⟩ := ih (i + 1) fu T (by omega) (by omega) hP hT (fun r' hr' g hg => by
        rw [hb r' hr' g hg]
        constructor
        · rintro (h | ⟨h, j, j1, j2, j3⟩)
          · exact Or.inl h
          · exact Or.inr ⟨h, j, by omega, j2, j3⟩
        · rintro (h | ⟨h, j, j1, j2, j3⟩)
          · exact Or.inl h
          · refine Or.inr ⟨h, j, ?_, j2, j3⟩
            by_cases ej : j = i
            · rw [ej] at j2; omega
            · omega)
      refine ⟨T', ?_, g2, g3⟩
      rw [← g1]
      simp (disch := omega) only [e_let, e_call, e_cal0, e_bind, e_lit, e_ofN, e_neg, nI_add, pk_mul, e_sub, e_ldi, e_sti, e_ldj, e_stj, e_le_t, e_le_f, e_lt_t, e_lt_f, e_eq_t, e_eq_f, e_no_eq, e_no_eq', e_no_rfl, e_no_lt, e_no_le, e_le_no, e_lt_no, if_true, if_false, ↓reduceIte, e_rs, e_rq, e_rn, e_ji, e_ki, e_ij, e_kj, e_js, e_jq, e_jn, e_cs, e_cq, e_jc, e_kc, e_js', e_jcq, e_icj, e_kcj, or_true, true_or, or_false, false_or, and_true, true_and, not_true_eq_false, not_false_eq_true, b_X12_layFun_115, p3, p2, p5, b_X12_layFun_185]
theorem j_layFun (hW : p_W P) (hf : f < p_fu P) (hP : r_P (m_ri T (m + 2)) P) (h0 : d_T0 T m P) (hT : d_T1 T m P (p_fu P) 0) (hF : d_TF T m P f) : ∃ T', f_X12_layFun m T (nI f) = some T' ∧ d_TF T' m P (f + 1) ∧ e_O (m + 18) (m + 23) T T' := by
  have hfu := m_fu_ge
  have h5 := hW.1
  have h24 := hW.2.1
  have hl := hW.2.2.1 f hf
  have hz := d_z_le hW
  have hG := d_G_of hW
  have hvs27 : p_vs P f ≤ 27 := by simp only [p_vs]; omega
  have key : ∀ (c v fu : Nat) (T' : m_M) (x : Int32), v + c = p_vs P f → c < fu → e_O (m + 18) (m + 19) T T' → (∀ g, g ≠ f → m_ri T' (m + 18) g = m_ri T (m + 18) g) → (∀ r, r < 32 → (bt x r = true ↔ d_all P f v r)) → (∀ r, r < 32 → (bt (m_ri T' (m + 18) f) r = true ↔ d_out P f v r)) →
      ∃ T'', b_X12_layFun_22 m fu T' (nI f) x (nI (p_vs P f)) (nI v) = some T'' ∧ d_TF T'' m P (f + 1) ∧ e_O (m + 18) (m + 23) T T'' := by
    intro c
    induction c with
    | zero =>
      intro v fu T' x hv hfu' hO hg hx hy
      obtain ⟨fu, rfl⟩ : ∃ f, fu = f + 1 := ⟨fu - 1, by omega⟩
      have hv : v = p_vs P f := hv
      subst hv
      have k : ∀ q, q ≠ m + 18 → m_ri T' q = m_ri T q := fun q hq => hO.1 q (by omega)
      have hou : e_bs (m_ri T' (m + 18) f) (d_ou (d_of P) f) := fun r hr => Bool.eq_iff_iff.mpr ((hy r hr).trans (hG.2.2.2.1 f r hf).symm)
      generalize hT1 : m_si T' (m + 19) f (x &&& (m_ri T' (m + 18) f ^^^ m_no)) = T1
      have k1 : ∀ q, q ≠ m + 18 → q ≠ m + 19 → m_ri T1 q = m_ri T q := fun q a b => by rw [← hT1, e_rq b, k q a]
      have how : e_bs (m_ri T1 (m + 19) f) (d_ow (d_of P) f) := fun r hr => by
        rw [← hT1, e_rs, b_and, b_xor, show bt m_no r = true from b_m1 r hr]
        refine Bool.eq_iff_iff.mpr ?_
        rw [(hG.2.2.2.2.1 f r hf), Bool.and_eq_true, hx r hr]
        refine and_congr Iff.rfl ?_
        rw [hou r hr]
        cases d_ou (d_of P) f r <;> simp
      have hP1 : r_P (m_ri T1 (m + 2)) P := by rw [k1 _ (by omega) (by omega)]; exact hP
      have h21 : m_ri T1 (m + 2) 2 = nI (d_z P) := by rw [k1 _ (by omega) (by omega)]; exact h0.1
      have hTT1 : d_T1 T1 m P (p_fu P) 0 := by simp only [d_T1, k1 (m + 15) (by omega) (by omega), k1 (m + 16) (by omega) (by omega)]; exact hT
      obtain ⟨T2, a1, a2, a3, a4⟩ := j_spans hW hf hP1 h21 hTT1 how
      have k2 : ∀ q, q < m + 20 ∨ m + 22 ≤ q → m_ri T2 q = m_ri T1 q := a3.1
      obtain ⟨T3, b1, b2, b3⟩ := j_pf (m := m) hW hf (p_ct P f) 0 m_fu T2 (by omega) (by omega) (by rw [k2 _ (by omega)]; exact hP1) (by simp only [d_T1, k2 (m + 15) (by omega), k2 (m + 16) (by omega)]; exact hTT1) (fun r hr g hg => by
        rw [k2 (m + 22) (by omega), k1 (m + 22) (by omega) (by omega), hF.2 r hr g hg, d_flb, d_dec_t]
        exact ⟨fun h => Or.inl h, fun h => by
          rcases h with h | ⟨-, j, j1, -⟩
          · exact h
          · omega⟩)
      have k3 : ∀ q, q ≠ m + 22 → m_ri T3 q = m_ri T2 q := fun q hq => b3.1 q (by omega)
      have e18 : m_ri T3 (m + 18) = m_ri T' (m + 18) := by rw [k3 _ (by omega), k2 _ (by omega), ← hT1, e_rq (by omega)]
      have e19 : m_ri T3 (m + 19) = m_ri T1 (m + 19) := by rw [k3 _ (by omega), k2 _ (by omega)]
      refine ⟨T3, ?_, ⟨fun g hg' => ?_, b2⟩, ⟨fun q hq => ?_, ?_, ?_⟩⟩
      · rw [← b1]
        simp (disch := omega) only [e_let, e_call, e_cal0, e_bind, e_lit, e_ofN, e_neg, nI_add, pk_mul, e_sub, e_ldi, e_sti, e_ldj, e_stj, e_le_t, e_le_f, e_lt_t, e_lt_f, e_eq_t, e_eq_f, e_no_eq, e_no_eq', e_no_rfl, e_no_lt, e_no_le, e_le_no, e_lt_no, if_true, if_false, ↓reduceIte, e_rs, e_rq, e_rn, e_ji, e_ki, e_ij, e_kj, e_js, e_jq, e_jn, e_cs, e_cq, e_jc, e_kc, e_js', e_jcq, e_icj, e_kcj, or_true, true_or, or_false, false_or, and_true, true_and, not_true_eq_false, not_false_eq_true, b_X12_layFun_22, hT1, a1]
      · by_cases e : g = f
        · subst e
          refine ⟨by rw [e18]; exact hou, by rw [e19]; exact how, ?_⟩
          simp only [d_Sp, k3 (m + 20) (by omega), k3 (m + 21) (by omega)]; exact a2
        · obtain ⟨c1, c2, c3⟩ := hF.1 g (by omega)
          refine ⟨by rw [e18, hg g e]; exact c1, by rw [e19, ← hT1, e_rn e, k _ (by omega)]; exact c2, fun r hr => ?_⟩
          rw [k3 (m + 20) (by omega), k3 (m + 21) (by omega), (a4 g r e (by omega)).1, (a4 g r e (by omega)).2, k1 _ (by omega) (by omega), k1 _ (by omega) (by omega)]
          exact c3 r hr
      · rw [k3 q (by omega), k2 q (by omega), k1 q (by omega) (by omega)]
      · rw [b3.2.1, a3.2.1, ← hT1]; exact hO.2.1
      · rw [b3.2.2, a3.2.2, ← hT1]; exact hO.2.2
    | succ c ih =>
      intro v fu T' x hv hfu' hO hg hx hy
      obtain ⟨fu, rfl⟩ : ∃ f, fu = f + 1 := ⟨fu - 1, by omega⟩
      have hv2 : v + (c + 1) = p_pa P f + p_ct P f := hv
      have k : ∀ q, q ≠ m + 18 → m_ri T' q = m_ri T q := fun q hq => hO.1 q (by omega)
      have p1 := (hP.2.2.1 f hf).1
      have p1' : m_ri T' (m + 2) (3 + f) = nI (p_pa P f) := by rw [k _ (by omega)]; exact p1
      have hb := (hT f v hf (by omega) (Or.inl hf)).2
      have e16 : m_ri T' (m + 16) (27 * f + v) = m_ri T (m + 16) (27 * f + v) := by rw [k _ (by omega)]
      have hx1 : ∀ r, r < 32 → (bt (x ||| m_ri T (m + 16) (27 * f + v)) r = true ↔ d_all P f (v + 1) r) := fun r hr' => by
        rw [b_or, Bool.or_eq_true, hx r hr', hb r hr']
        constructor
        · rintro (⟨w, w1, w2⟩ | h)
          · exact ⟨w, by omega, w2⟩
          · exact ⟨v, by omega, h⟩
        · rintro ⟨w, w1, w2⟩
          by_cases e : w = v
          · subst e; exact Or.inr w2
          · exact Or.inl ⟨w, by omega, w2⟩
      by_cases hc : v < p_pa P f ∨ v + 1 = p_vs P f
      · obtain ⟨T'', g1, g2, g3⟩ := ih (v + 1) fu (m_si T' (m + 18) f (m_ri T' (m + 18) f ||| m_ri T (m + 16) (27 * f + v))) (x ||| m_ri T (m + 16) (27 * f + v)) (by omega) (by omega) (hO.si (by omega) (by omega)) (fun g hg' => by rw [e_rn hg']; exact hg g hg') hx1 (fun r hr' => by
          rw [e_rs, b_or, Bool.or_eq_true, hy r hr', hb r hr']
          constructor
          · rintro (⟨w, w1, w2, w3⟩ | h)
            · exact ⟨w, by omega, w2, w3⟩
            · exact ⟨v, by omega, hc, h⟩
          · rintro ⟨w, w1, w2, w3⟩
            by_cases e : w = v
            · subst e; exact Or.inr w3
            · exact Or.inl ⟨w, by omega, w2, w3⟩)
        refine ⟨T'', ?_, g2, g3⟩
        rw [← g1]
        simp only [p_vs] at hc ⊢
        by_cases hlt : v < p_pa P f
        · simp (disch := omega) only [e_let, e_call, e_cal0, e_bind, e_lit, e_ofN, e_neg, nI_add, pk_mul, e_sub, e_ldi, e_sti, e_ldj, e_stj, e_le_t, e_le_f, e_lt_t, e_lt_f, e_eq_t, e_eq_f, e_no_eq, e_no_eq', e_no_rfl, e_no_lt, e_no_le, e_le_no, e_lt_no, if_true, if_false, ↓reduceIte, e_rs, e_rq, e_rn, e_ji, e_ki, e_ij, e_kj, e_js, e_jq, e_jn, e_cs, e_cq, e_jc, e_kc, e_js', e_jcq, e_icj, e_kcj, or_true, true_or, or_false, false_or, and_true, true_and, not_true_eq_false, not_false_eq_true, b_X12_layFun_22, f_X12_node, e16, p1', b_X12_layFun_64, b_X12_layFun_85]
        · have hvr : v = p_pa P f + p_ct P f - 1 := by omega
          simp (disch := omega) only [e_let, e_call, e_cal0, e_bind, e_lit, e_ofN, e_neg, nI_add, pk_mul, e_sub, e_ldi, e_sti, e_ldj, e_stj, e_le_t, e_le_f, e_lt_t, e_lt_f, e_eq_t, e_eq_f, e_no_eq, e_no_eq', e_no_rfl, e_no_lt, e_no_le, e_le_no, e_lt_no, if_true, if_false, ↓reduceIte, e_rs, e_rq, e_rn, e_ji, e_ki, e_ij, e_kj, e_js, e_jq, e_jn, e_cs, e_cq, e_jc, e_kc, e_js', e_jcq, e_icj, e_kcj, or_true, true_or, or_false, false_or, and_true, true_and, not_true_eq_false, not_false_eq_true, b_X12_layFun_22, f_X12_node, e16, p1', b_X12_layFun_64, b_X12_layFun_85]
      · obtain ⟨T'', g1, g2, g3⟩ := ih (v + 1) fu T' (x ||| m_ri T (m + 16) (27 * f + v)) (by omega) (by omega) hO hg hx1 (fun r hr' => by
          rw [hy r hr']
          constructor
          · rintro ⟨w, w1, w2, w3⟩; exact ⟨w, by omega, w2, w3⟩
          · rintro ⟨w, w1, w2, w3⟩
            by_cases e : w = v
            · subst e; exact absurd w2 hc
            · exact ⟨w, by omega, w2, w3⟩)
        refine ⟨T'', ?_, g2, g3⟩
        rw [← g1]
        simp only [p_vs] at hc ⊢
        have hvr : v ≠ p_pa P f + p_ct P f - 1 := by omega
        have hvl : p_pa P f ≤ v := by omega
        simp (disch := omega) only [e_let, e_call, e_cal0, e_bind, e_lit, e_ofN, e_neg, nI_add, pk_mul, e_sub, e_ldi, e_sti, e_ldj, e_stj, e_le_t, e_le_f, e_lt_t, e_lt_f, e_eq_t, e_eq_f, e_no_eq, e_no_eq', e_no_rfl, e_no_lt, e_no_le, e_le_no, e_lt_no, if_true, if_false, ↓reduceIte, e_rs, e_rq, e_rn, e_ji, e_ki, e_ij, e_kj, e_js, e_jq, e_jn, e_cs, e_cq, e_jc, e_kc, e_js', e_jcq, e_icj, e_kcj, or_true, true_or, or_false, false_or, and_true, true_and, not_true_eq_false, not_false_eq_true, b_X12_layFun_22, f_X12_node, e16, p1', b_X12_layFun_64, b_X12_layFun_85]
  obtain ⟨T'', g1, g2, g3⟩ := key (p_vs P f) 0 m_fu (m_si T (m + 18) f (nI 0)) (nI 0) (by omega) (by simp only [p_vs]; omega) (e_O.rf.si (by omega) (by omega)) (fun g hg => e_rn hg) (fun r hr => by rw [e_b0]; exact ⟨fun q => (by cases q), fun ⟨w, w1, _⟩ => by omega⟩) (fun r hr => by rw [e_rs, e_b0]; exact ⟨fun q => (by cases q), fun ⟨w, w1, _⟩ => by omega⟩)
  refine ⟨T'', ?_, g2, g3⟩
  rw [← g1]
  obtain ⟨p1, p2, p3⟩ := hP.2.2.1 f hf
  have hvs : p_vs P f = p_pa P f + p_ct P f := rfl
  simp (disch := omega) only [e_let, e_call, e_cal0, e_bind, e_lit, e_ofN, e_neg, nI_add, pk_mul, e_sub, e_ldi, e_sti, e_ldj, e_stj, e_le_t, e_le_f, e_lt_t, e_lt_f, e_eq_t, e_eq_f, e_no_eq, e_no_eq', e_no_rfl, e_no_lt, e_no_le, e_le_no, e_lt_no, if_true, if_false, ↓reduceIte, e_rs, e_rq, e_rn, e_ji, e_ki, e_ij, e_kj, e_js, e_jq, e_jn, e_cs, e_cq, e_jc, e_kc, e_js', e_jcq, e_icj, e_kcj, or_true, true_or, or_false, false_or, and_true, true_and, not_true_eq_false, not_false_eq_true, f_X12_layFun, f_X12_varsOf, p1, p3, hvs]
theorem j_lf328 (hW : p_W P) : ∀ (c f fu : Nat) (T : m_M), f + c = p_fu P → c < fu → r_P (m_ri T (m + 2)) P → d_T0 T m P → d_T1 T m P (p_fu P) 0 → d_TF T m P f →
    ∃ T', b_X12_layRegions_328 m fu T (nI f) = some T' ∧ d_TF T' m P (p_fu P) ∧ e_O (m + 18) (m + 23) T T' := by
  have h5 := hW.1
  intro c
  induction c with
  | zero =>
    intro f fu T hf hfu hP h0 hT hF
    obtain ⟨fu, rfl⟩ : ∃ f, fu = f + 1 := ⟨fu - 1, by omega⟩
    have hf : f = p_fu P := hf
    have p0 := hP.1
    refine ⟨T, ?_, hf ▸ hF, e_O.rf⟩
    simp (disch := omega) only [e_let, e_call, e_cal0, e_bind, e_lit, e_ofN, e_neg, nI_add, pk_mul, e_sub, e_ldi, e_sti, e_ldj, e_stj, e_le_t, e_le_f, e_lt_t, e_lt_f, e_eq_t, e_eq_f, e_no_eq, e_no_eq', e_no_rfl, e_no_lt, e_no_le, e_le_no, e_lt_no, if_true, if_false, ↓reduceIte, e_rs, e_rq, e_rn, e_ji, e_ki, e_ij, e_kj, e_js, e_jq, e_jn, e_cs, e_cq, e_jc, e_kc, e_js', e_jcq, e_icj, e_kcj, or_true, true_or, or_false, false_or, and_true, true_and, not_true_eq_false, not_false_eq_true, b_X12_layRegions_328, p0, hf]
  | succ c ih =>
    intro f fu T hf hfu hP h0 hT hF
    obtain ⟨fu, rfl⟩ : ∃ f, fu = f + 1 := ⟨fu - 1, by omega⟩
    have p0 := hP.1
    obtain ⟨T1, f1, f2, f3⟩ := j_layFun hW (show f < p_fu P by omega) hP h0 hT hF
    have k : ∀ q, q < m + 18 ∨ m + 23 ≤ q → m_ri T1 q = m_ri T q := f3.1
    obtain ⟨T', g1, g2, g3⟩ := ih (f + 1) fu T1 (by omega) (by omega) (by rw [k _ (by omega)]; exact hP) (by simp only [d_T0, k (m + 2) (by omega), k (m + 17) (by omega)]; exact h0) (by simp only [d_T1, k (m + 15) (by omega), k (m + 16) (by omega)]; exact hT) f2
    refine ⟨T', ?_, g2, f3.tr g3⟩
    rw [← g1]
    simp (disch := omega) only [e_let, e_call, e_cal0, e_bind, e_lit, e_ofN, e_neg, nI_add, pk_mul, e_sub, e_ldi, e_sti, e_ldj, e_stj, e_le_t, e_le_f, e_lt_t, e_lt_f, e_eq_t, e_eq_f, e_no_eq, e_no_eq', e_no_rfl, e_no_lt, e_no_le, e_le_no, e_lt_no, if_true, if_false, ↓reduceIte, e_rs, e_rq, e_rn, e_ji, e_ki, e_ij, e_kj, e_js, e_jq, e_jn, e_cs, e_cq, e_jc, e_kc, e_js', e_jcq, e_icj, e_kcj, or_true, true_or, or_false, false_or, and_true, true_and, not_true_eq_false, not_false_eq_true, b_X12_layRegions_328, p0, f1]
/-- what laying regions may write -/
def r_OL (m : Nat) (T T' : m_M) : Prop := (∀ q, q ≠ m → q ≠ m + 2 → (q < m + 12 ∨ m + 23 ≤ q) → m_ri T' q = m_ri T q) ∧ (∀ j, j ≠ 36 → m_ri T' m j = m_ri T m j) ∧ (∀ j, j ≠ 2 → m_ri T' (m + 2) j = m_ri T (m + 2) j) ∧ m_rj T' = m_rj T ∧ m_rr T' = m_rr T
theorem j_layRegions (hW : p_W P) (hP : r_P (m_ri T (m + 2)) P) : ∃ T', f_X12_layRegions m T = some T' ∧ d_TX T' m P ∧ r_OL m T T' := by
  have hfu := m_fu_ge
  have h5 := hW.1
  have hz := d_z_le hW
  obtain ⟨o, s1, -, s3, s4, -⟩ := d_pcs hW
  have hVU : u_V (u_E 30 false P).2 o (d_U P) := s1.2.1
  have hclU : ∀ k, k < (u_E 30 false P).2 → u_cl o (d_U P) k := s1.2.2.2.1
  have hmk : (u_E 200 true P).2 = (u_E 30 false P).2 := s1.1.symm
  have hV : u_V (u_E 200 true P).2 o (u_E 200 true P).1 := by rw [hmk]; exact s1.2.2.1
  have hN : u_NV (u_E 200 true P).2 o (u_E 200 true P).1 (d_Gx P) := by rw [hmk]; exact s3.sim s1.2
  generalize hT0 : m_si (m_si T m 36 (nI 0)) (m + 2) 2 (nI 0) = T0
  have k0 : ∀ q, q ≠ m → q ≠ m + 2 → m_ri T0 q = m_ri T q := fun q a b => by rw [← hT0, e_rq b, e_rq a]
  have k0m : ∀ j, j ≠ 36 → m_ri T0 m j = m_ri T m j := fun j hj => by rw [← hT0, e_rq (by omega), e_rn hj]
  have k02 : ∀ j, j ≠ 2 → m_ri T0 (m + 2) j = m_ri T (m + 2) j := fun j hj => by rw [← hT0, e_rn hj, e_rq (by omega)]
  have k0j : m_rj T0 = m_rj T ∧ m_rr T0 = m_rr T := by rw [← hT0]; exact ⟨rfl, rfl⟩
  have hP0 : r_P (m_ri T0 (m + 2)) P := hP.kep2 hW k02
  obtain ⟨T1, a1, a2, a3⟩ := j_l14 (m := m) 183 0 m_fu T0 (by omega) (by omega) (fun t ht => by omega) (by rw [← hT0, e_rq (by omega), e_rs])
  have hP1 : r_P (m_ri T1 (m + 2)) P := by rw [a3.row (by omega) (by omega) (by omega)]; exact hP0
  obtain ⟨T2, b1, b2, b3⟩ := j_funs hW (p_fu P) 0 m_fu T1 u_0 (fun _ => 0) (by omega) (by omega) u_0_ok (fun _ => Nat.zero_le _) a2 hP1
  have b2 : u_R2 T2 m (u_E 200 true P).1 (u_E 200 true P).2 := b2
  have hP2 : r_P (m_ri T2 (m + 2)) P := by rw [b3.row (by omega) (by omega) (by omega)]; exact hP1
  obtain ⟨T3, c1, c2, c3, c4, c5⟩ := j_l98 (m := m) 24 0 m_fu T2 (by omega) (by omega) (fun j hj => by omega)
  have hR3 : u_R2 T3 m (u_E 200 true P).1 (u_E 200 true P).2 := by
    simp only [u_R2, c3 m (by omega) (by omega), c3 (m + 12) (by omega) (by omega), c3 (m + 13) (by omega) (by omega)]; exact b2
  have hP3 : r_P (m_ri T3 (m + 2)) P := by rw [c3 _ (by omega) (by omega)]; exact hP2
  have h23 : m_ri T3 (m + 2) 2 = nI 0 := by
    rw [c3 _ (by omega) (by omega), b3.row (by omega) (by omega) (by omega), a3.row (by omega) (by omega) (by omega), ← hT0, e_rs]
  have hQ3 : u_Q2 T3 m (u_E 200 true P).2 o (u_E 200 true P).1 u_g0 := ⟨fun k hk => by rw [(c2 k hk).1]; split <;> rfl, h23⟩
  obtain ⟨T4, d1, d2, d3, d4⟩ := j_numf hV hW (p_fu P) 0 m_fu T3 u_g0 (by omega) (by omega) u_g0_NV hR3 hQ3 hP3
  rw [← s4] at d2 d3
  have hR4 := hR3.kep d4
  have hP4 : r_P (m_ri T4 (m + 2)) P := hP3.kep2 hW d4.2.1
  obtain ⟨T5, e1, e2, e3⟩ := j_tells hV hN (u_E 200 true P).2 0 m_fu T4 (by omega) (by have := hV.2.1; omega) hR4 d2 (fun k s hk => by omega)
  have k5 : ∀ q, q ≠ m + 17 → m_ri T5 q = m_ri T4 q := fun q hq => e3.1 q (by omega)
  have hR5 : u_R2 T5 m (u_E 200 true P).1 (u_E 200 true P).2 := by
    simp only [u_R2, k5 m (by omega), k5 (m + 12) (by omega), k5 (m + 13) (by omega)]; exact hR4
  have hQ5 : u_Q2 T5 m (u_E 200 true P).2 o (u_E 200 true P).1 (d_Gx P) := by
    simp only [u_Q2, k5 (m + 14) (by omega), k5 (m + 2) (by omega)]; exact d2
  have hP5 : r_P (m_ri T5 (m + 2)) P := by rw [k5 _ (by omega)]; exact hP4
  have h05 : d_T0 T5 m P := by
    refine ⟨hQ5.2, fun r s hr hs => ?_⟩
    obtain ⟨k, k1, k2⟩ := hN.2.2.2.1 r hr
    have hok := hV.2.2.1 k k1
    obtain ⟨t1, t2⟩ := hV.1 (o k) (by omega)
    have hq := hV.2.2.2.2.2 k k1
    have hql := hV.2.2.2.1 _ t1
    have ho' := hV.2.2.2.2.1 _ t1 t2 hq
    have hok' := hV.2.2.1 ((u_E 200 true P).1.2 ((u_E 200 true P).1.1 (o k)) - 1) (by omega)
    have hg : (d_Gx P).1 (o ((u_E 200 true P).1.2 ((u_E 200 true P).1.1 (o k)) - 1)) = r + 1 := by rw [hN.1 _ (o k) (by omega) (by omega) ho']; exact k2
    have := e2 ((u_E 200 true P).1.2 ((u_E 200 true P).1.1 (o k)) - 1) s (by omega) hs (by rw [ho']; omega) (by rw [hg]; omega)
    rw [hg, Nat.add_sub_cancel] at this
    rw [this, d_s, if_pos ⟨hr, hs⟩, u_sx_k hVU hclU s3 (by rw [← hmk]; omega) hs hg]
  obtain ⟨T6, f1, f2, f3⟩ := j_ptf hW hV hN (p_fu P) 0 m_fu T5 (by omega) (by omega) hP5 hR5 hQ5 h05 (fun g w hg hw h => by omega)
  have k6 : ∀ q, q < m + 15 ∨ m + 17 ≤ q → m_ri T6 q = m_ri T5 q := f3.1
  have hP6 : r_P (m_ri T6 (m + 2)) P := by rw [k6 _ (by omega)]; exact hP5
  have h06 : d_T0 T6 m P := by simp only [d_T0, k6 (m + 2) (by omega), k6 (m + 17) (by omega)]; exact h05
  have hF6 : d_TF T6 m P 0 := ⟨fun f hf => by omega, fun r hr g hg => by
    rw [k6 (m + 22) (by omega), k5 _ (by omega), d4.1 _ (by omega) (by omega), (c2 r (by omega)).2, e_b0]
    exact (Bool.eq_false_iff.mpr (fun q => by have := (d_dec_t.mp q).1; omega)).symm⟩
  obtain ⟨T7, g1, g2, g3⟩ := j_lf328 hW (p_fu P) 0 m_fu T6 (by omega) (by omega) hP6 h06 f2 hF6
  have k7 : ∀ q, q < m + 18 ∨ m + 23 ≤ q → m_ri T7 q = m_ri T6 q := g3.1
  refine ⟨T7, ?_, ⟨?_, ?_, g2⟩, fun q hm h2 hq => ?_, fun j hj => ?_, fun j hj => ?_, ?_, ?_⟩
  · rw [f_X12_layRegions, e_let, e_lit, e_lit, e_sti (by omega) (by omega), e_bind]
    show b_X12_layRegions_14 m m_fu (m_si (m_si T m 36 (nI 0)) (m + 2) 2 (nI 0)) (nI 0) = _
    rw [hT0, a1, b1, c1, d1, e1, f1, g1]
  · simp only [d_T0, k7 (m + 2) (by omega), k7 (m + 17) (by omega)]; exact h06
  · simp only [d_T1, k7 (m + 15) (by omega), k7 (m + 16) (by omega)]; exact f2
  · rw [k7 q (by omega), k6 q (by omega), k5 q (by omega), d4.1 q (by omega) h2, c3 q (by omega) (by omega), b3.1 q hm (by omega) (by omega), a3.1 q hm (by omega) (by omega), k0 q hm h2]
  · rw [k7 m (by omega), k6 m (by omega), k5 m (by omega), d4.1 m (by omega) (by omega), c3 m (by omega) (by omega), b3.2.1 j hj, a3.2.1 j hj, k0m j hj]
  · rw [k7 (m + 2) (by omega), k6 (m + 2) (by omega), k5 (m + 2) (by omega), d4.2.1 j hj, c3 _ (by omega) (by omega), b3.row (by omega) (by omega) (by omega), a3.row (by omega) (by omega) (by omega), k02 j hj]
  · rw [g3.2.1, f3.2.1, e3.2.1, d4.2.2.1, c4, b3.2.2.1, a3.2.2.1]; exact k0j.1
  · rw [g3.2.2, f3.2.2, e3.2.2, d4.2.2.2, c5, b3.2.2.2, a3.2.2.2]; exact k0j.2
/-- so much the machine stands on -/
theorem d_TX.C (hW : p_W P) (hP : r_P (m_ri T (m + 2)) P) (h : d_TX T m P) : r_C T m P (d_of P) (d_z P) := by
  have hz := d_z_le hW
  obtain ⟨⟨h1, h2⟩, h3, h4, h5⟩ := h
  refine ⟨hW, hP, ⟨hz, h1, fun f v hf hv => (h3 f v hf hv (Or.inl hf)).1, fun f v r hf hv hr => (h3 f v hf hv (Or.inl hf)).2 r hr, fun f r hf hr => ?_, fun f r hf hr => ?_, fun f r hf hr => (h4 f hf).1 r hr, fun f i r hr => ?_⟩, d_S_of hW⟩
  · have hs := ((h4 f hf).2.2 r hr).1
    rw [if_neg (by omega)] at hs
    have hle := (d_fs_le (P := P) (f := f) (r := r) (p_ct P f)).1
    have hct := hW.2.2.1 f hf
    have h24 := hW.2.1
    refine ⟨_, ?_, hs, fun i hi => ?_⟩
    · rw [d_sf]; split <;> omega
    · rw [(d_bg_fs hW hf hi).1, d_sf]
      by_cases how : d_ow (d_of P) f r = true
      · rw [if_pos how]; exact ⟨fun h => ⟨how, h⟩, fun h => h.2⟩
      · rw [if_neg how]; exact ⟨fun h => by omega, fun h => absurd h.1 how⟩
  · have hs := ((h4 f hf).2.2 r hr).2
    rw [if_neg (by omega)] at hs
    have hle := (d_fs_le (P := P) (f := f) (r := r) (p_ct P f)).2
    have hct := hW.2.2.1 f hf
    have h24 := hW.2.1
    refine ⟨_, ?_, hs, fun i hi => ?_⟩
    · rw [d_st]; split <;> omega
    · rw [(d_bg_fs hW hf hi).2, d_st]
      by_cases how : d_ow (d_of P) f r = true
      · rw [if_pos how]; exact ⟨fun h => ⟨how, h⟩, fun h => h.2⟩
      · rw [if_neg how]; exact ⟨fun h => by omega, fun h => absurd h.1 how⟩
  · refine ⟨Bool.eq_false_iff.mpr fun q => ?_, Bool.eq_false_iff.mpr fun q => ?_, Bool.eq_false_iff.mpr fun q => ?_⟩
    · have := d_lr_z hW (d_lr_of.mpr (d_dec_t.mp q).2.1); omega
    · have := d_lr_z hW (d_lr_of.mpr (d_dec_t.mp q).2.1); omega
    · obtain ⟨w, -, -, w3⟩ := d_dec_t.mp q
      have := d_rc_z hW (f := f) (v := w) w3; omega
end DJ
