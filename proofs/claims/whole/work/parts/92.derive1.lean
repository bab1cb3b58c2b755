/-! from what points to what, all the rest: the one side -/
def e_bs (x : Int32) (b : Nat → Bool) : Prop := ∀ r, r < 32 → bt x r = b r
section DC
variable {S : m_M} {A p : Nat} {P : pP} {f i : Nat}
theorem d_rn_f {sd : Nat → Nat → Nat} {r : Nat} : ∀ (n q : Nat), d_rn sd (n + 1) (r + 1) q = true → q = r ∨ ∃ s, s < 2 ∧ d_rn sd n (sd r s) q = true := by
  intro n
  induction n with
  | zero =>
    intro q h
    rcases d_rn_s.mp h with h | ⟨q', s, h1, h2, h3, h4⟩
    · have := of_decide_eq_true h; omega
    · have := of_decide_eq_true h3
      have e : q' = r := by omega
      subst e
      exact Or.inr ⟨s, h2, decide_eq_true h4⟩
  | succ n ih =>
    intro q h
    rcases d_rn_s.mp h with h | ⟨q', s', h1, h2, h3, h4⟩
    · rcases ih q h with h | ⟨s, h5, h6⟩
      · exact Or.inl h
      · exact Or.inr ⟨s, h5, d_rn_s.mpr (Or.inl h6)⟩
    · rcases ih q' h3 with h | ⟨s, h5, h6⟩
      · subst h
        refine Or.inr ⟨s', h2, ?_⟩
        rw [h4]; exact d_rn_0 (n + 1)
      · exact Or.inr ⟨s, h5, d_rn_s.mpr (Or.inr ⟨q', s', h1, h2, h6, h4⟩)⟩
theorem d_cl_sd (hW : p_W P) {r s q : Nat} (hr : r < d_z P) (hs : s < 2) (h : d_rn (d_s P) 24 (d_s P r s) q = true) : d_rn (d_s P) 24 (r + 1) q = true := by
  have hz := d_z_le hW
  have hsl : ∀ q s, s < 2 → d_s P q s ≤ d_z P := fun q s _ => d_s_le hW q s
  exact d_rn_in (X := fun q => d_rn (d_s P) 24 (r + 1) q = true) (fun r' he => d_rn_cl hz hsl (by omega) (d_rn_0 24) hs he) (fun q s r' _ h2 h3 h4 => d_rn_cl hz hsl (by omega) h3 h2 h4) 24 q h
/-- numbers of regions and what their sides point to -/
def d_R0 (S : m_M) (A : Nat) (P : pP) : Prop := m_ri S A 0 = nI (d_z P) ∧ ∀ r, r < d_z P → m_ri S (A + 3) r = nO (d_s P r 0) ∧ m_ri S (A + 4) r = nO (d_s P r 1)
def d_Rr (S : m_M) (A : Nat) (P : pP) : Prop := ∀ r, r < d_z P → e_bs (m_ri S (A + 5) r) (d_rn (d_s P) 24 (r + 1))
theorem k_has6 {o : Nat} (hW : p_W P) (h0 : m_ri S A 0 = nI (d_z P)) (ho : o ≤ d_z P) : f_X6_has A S (nO o) = some (nI (if o = 0 then 0 else 1), S) := by
  have hz := d_z_le hW
  by_cases h : o = 0
  · rw [if_pos h, h]
    show f_X6_has A S m_no = _
    simp (disch := omega) only [e_let, e_call, e_cal0, e_bind, e_lit, e_ofN, e_neg, nI_add, pk_mul, e_sub, e_ldi, e_sti, e_ldj, e_stj, e_le_t, e_le_f, e_lt_t, e_lt_f, e_eq_t, e_eq_f, e_no_eq, e_no_eq', e_no_rfl, e_no_lt, e_no_le, e_le_no, e_lt_no, if_true, if_false, ↓reduceIte, e_rs, e_rq, e_rn, e_ji, e_ki, e_ij, e_kj, e_js, e_jq, e_jn, e_cs, e_cq, e_jc, e_kc, e_js', e_jcq, e_icj, e_kcj, or_true, true_or, or_false, false_or, and_true, true_and, not_true_eq_false, not_false_eq_true, f_X6_has, h0, b_X6_has_16, b_X6_has_17]
  · rw [if_neg h, nO_pos (by omega)]
    simp (disch := omega) only [e_let, e_call, e_cal0, e_bind, e_lit, e_ofN, e_neg, nI_add, pk_mul, e_sub, e_ldi, e_sti, e_ldj, e_stj, e_le_t, e_le_f, e_lt_t, e_lt_f, e_eq_t, e_eq_f, e_no_eq, e_no_eq', e_no_rfl, e_no_lt, e_no_le, e_le_no, e_lt_no, if_true, if_false, ↓reduceIte, e_rs, e_rq, e_rn, e_ji, e_ki, e_ij, e_kj, e_js, e_jq, e_jn, e_cs, e_cq, e_jc, e_kc, e_js', e_jcq, e_icj, e_kcj, or_true, true_or, or_false, false_or, and_true, true_and, not_true_eq_false, not_false_eq_true, f_X6_has, h0, b_X6_has_16, b_X6_has_17]
theorem k_reachOf {o : Nat} (hW : p_W P) (h0 : m_ri S A 0 = nI (d_z P)) (ho : o ≤ d_z P) : f_X6_reachOf A S (nO o) = some (if o = 0 then nI 0 else m_ri S (A + 5) (o - 1), S) := by
  have hz := d_z_le hW
  have hh := k_has6 hW h0 ho
  by_cases h : o = 0
  · rw [if_pos h] at hh ⊢
    simp (disch := omega) only [e_let, e_call, e_cal0, e_bind, e_lit, e_ofN, e_neg, nI_add, pk_mul, e_sub, e_ldi, e_sti, e_ldj, e_stj, e_le_t, e_le_f, e_lt_t, e_lt_f, e_eq_t, e_eq_f, e_no_eq, e_no_eq', e_no_rfl, e_no_lt, e_no_le, e_le_no, e_lt_no, if_true, if_false, ↓reduceIte, e_rs, e_rq, e_rn, e_ji, e_ki, e_ij, e_kj, e_js, e_jq, e_jn, e_cs, e_cq, e_jc, e_kc, e_js', e_jcq, e_icj, e_kcj, or_true, true_or, or_false, false_or, and_true, true_and, not_true_eq_false, not_false_eq_true, f_X6_reachOf, hh, b_X6_reachOf_18]
  · rw [if_neg h] at hh ⊢
    rw [nO_pos (by omega)] at hh ⊢
    simp (disch := omega) only [e_let, e_call, e_cal0, e_bind, e_lit, e_ofN, e_neg, nI_add, pk_mul, e_sub, e_ldi, e_sti, e_ldj, e_stj, e_le_t, e_le_f, e_lt_t, e_lt_f, e_eq_t, e_eq_f, e_no_eq, e_no_eq', e_no_rfl, e_no_lt, e_no_le, e_le_no, e_lt_no, if_true, if_false, ↓reduceIte, e_rs, e_rq, e_rn, e_ji, e_ki, e_ij, e_kj, e_js, e_jq, e_jn, e_cs, e_cq, e_jc, e_kc, e_js', e_jcq, e_icj, e_kcj, or_true, true_or, or_false, false_or, and_true, true_and, not_true_eq_false, not_false_eq_true, f_X6_reachOf, hh, b_X6_reachOf_18]
/-- a round: regions below j are one step further -/
def d_Ri (S : m_M) (A : Nat) (P : pP) (t j : Nat) : Prop := ∀ r, r < d_z P → ∀ q, q < 32 → (bt (m_ri S (A + 5) r) q = true → d_rn (d_s P) 24 (r + 1) q = true) ∧ (d_rn (d_s P) (if r < j then t + 1 else t) (r + 1) q = true → bt (m_ri S (A + 5) r) q = true)
theorem k_cr37 {t : Nat} {K : m_M → Int32 → Option m_M} (hW : p_W P) (ht : t < 24) : ∀ (c j fu : Nat) (S : m_M), j + c = d_z P → c < fu → d_R0 S A P → d_Ri S A P t j →
    ∃ S', b_X6_closeReach_37 A K fu S (nI t) (nI j) = K S' (nI (t + 1)) ∧ d_Ri S' A P (t + 1) 0 ∧ e_O (A + 5) (A + 6) S S' := by
  have hz := d_z_le hW
  intro c
  induction c with
  | zero =>
    intro j fu S hj hf h0 hI
    obtain ⟨fu, rfl⟩ : ∃ f, fu = f + 1 := ⟨fu - 1, by omega⟩
    have hj : j = d_z P := hj
    have h00 := h0.1
    refine ⟨S, ?_, fun r hr q hq => ⟨(hI r hr q hq).1, fun h => (hI r hr q hq).2 ?_⟩, e_O.rf⟩
    · simp (disch := omega) only [e_let, e_call, e_cal0, e_bind, e_lit, e_ofN, e_neg, nI_add, pk_mul, e_sub, e_ldi, e_sti, e_ldj, e_stj, e_le_t, e_le_f, e_lt_t, e_lt_f, e_eq_t, e_eq_f, e_no_eq, e_no_eq', e_no_rfl, e_no_lt, e_no_le, e_le_no, e_lt_no, if_true, if_false, ↓reduceIte, e_rs, e_rq, e_rn, e_ji, e_ki, e_ij, e_kj, e_js, e_jq, e_jn, e_cs, e_cq, e_jc, e_kc, e_js', e_jcq, e_icj, e_kcj, or_true, true_or, or_false, false_or, and_true, true_and, not_true_eq_false, not_false_eq_true, b_X6_closeReach_37, h00]
    · rw [if_pos (by omega)]; rw [if_neg (by omega)] at h; exact h
  | succ c ih =>
    intro j fu S hj hf h0 hI
    obtain ⟨fu, rfl⟩ : ∃ f, fu = f + 1 := ⟨fu - 1, by omega⟩
    have h00 := h0.1
    obtain ⟨l0, l1⟩ := h0.2 j (by omega)
    have r0 := k_reachOf hW h00 (d_s_le hW j 0)
    have r1 := k_reachOf hW h00 (d_s_le hW j 1)
    have hb : ∀ s, s < 2 → ∀ q, q < 32 → (bt (if d_s P j s = 0 then nI 0 else m_ri S (A + 5) (d_s P j s - 1)) q = true → d_rn (d_s P) 24 (j + 1) q = true) ∧ (d_rn (d_s P) t (d_s P j s) q = true → bt (if d_s P j s = 0 then nI 0 else m_ri S (A + 5) (d_s P j s - 1)) q = true) := fun s hs q hq => by
      have hle := d_s_le hW j s
      by_cases h : d_s P j s = 0
      · rw [if_pos h, e_b0]
        refine ⟨fun q => (by cases q), fun q => ?_⟩
        rw [h] at q
        exact absurd (d_rn_in (X := fun _ => False) (fun r e => by omega) (fun _ _ _ _ _ h _ => h) t _ q) (fun h => h)
      · rw [if_neg h]
        obtain ⟨i1, i2⟩ := hI (d_s P j s - 1) (by omega) q hq
        refine ⟨fun g => ?_, fun g => ?_⟩
        · have := i1 g
          rw [show d_s P j s - 1 + 1 = d_s P j s by omega] at this
          exact d_cl_sd hW (by omega) hs this
        · apply i2
          rw [show d_s P j s - 1 + 1 = d_s P j s by omega]
          split
          · exact d_rn_s.mpr (Or.inl g)
          · exact g
    generalize hx0 : (if d_s P j 0 = 0 then nI 0 else m_ri S (A + 5) (d_s P j 0 - 1)) = x0 at *
    generalize hx1 : (if d_s P j 1 = 0 then nI 0 else m_ri S (A + 5) (d_s P j 1 - 1)) = x1 at *
    have b0 := hb 0 (by omega)
    have b1 := hb 1 (by omega)
    rw [hx0] at b0
    rw [hx1] at b1
    have h0' : d_R0 (m_si S (A + 5) j (m_ri S (A + 5) j ||| (x0 ||| x1))) A P := by
      simp only [d_R0]; rw [e_rq (by omega), e_rq (by omega), e_rq (by omega)]; exact h0
    obtain ⟨S', g1, g2, g3⟩ := ih (j + 1) fu (m_si S (A + 5) j (m_ri S (A + 5) j ||| (x0 ||| x1))) (by omega) (by omega) h0' (fun r hr q hq => by
      rw [e_rif]
      by_cases hrj : r = j
      · subst hrj
        rw [if_pos rfl, b_or, b_or, if_pos (by omega)]
        obtain ⟨i1, i2⟩ := hI r hr q hq
        refine ⟨fun h => ?_, fun h => ?_⟩
        · simp only [Bool.or_eq_true] at h
          rcases h with h | h | h
          · exact i1 h
          · exact (b0 q hq).1 h
          · exact (b1 q hq).1 h
        · simp only [Bool.or_eq_true]
          rcases d_rn_f t q h with h | ⟨s, h5, h6⟩
          · exact Or.inl (i2 (by rw [h]; exact d_rn_0 _))
          · rcases (by omega : s = 0 ∨ s = 1) with e | e
            · subst e; exact Or.inr (Or.inl ((b0 q hq).2 h6))
            · subst e; exact Or.inr (Or.inr ((b1 q hq).2 h6))
      · rw [if_neg hrj]
        obtain ⟨i1, i2⟩ := hI r hr q hq
        refine ⟨i1, fun h => i2 ?_⟩
        by_cases hlt : r < j
        · rw [if_pos hlt]; rw [if_pos (by omega)] at h; exact h
        · rw [if_neg hlt]; rw [if_neg (by omega)] at h; exact h)
    refine ⟨S', ?_, g2, (e_O.rf.si (by omega) (by omega)).tr g3⟩
    rw [← g1]
    simp (disch := omega) only [e_let, e_call, e_cal0, e_bind, e_lit, e_ofN, e_neg, nI_add, pk_mul, e_sub, e_ldi, e_sti, e_ldj, e_stj, e_le_t, e_le_f, e_lt_t, e_lt_f, e_eq_t, e_eq_f, e_no_eq, e_no_eq', e_no_rfl, e_no_lt, e_no_le, e_le_no, e_lt_no, if_true, if_false, ↓reduceIte, e_rs, e_rq, e_rn, e_ji, e_ki, e_ij, e_kj, e_js, e_jq, e_jn, e_cs, e_cq, e_jc, e_kc, e_js', e_jcq, e_icj, e_kcj, or_true, true_or, or_false, false_or, and_true, true_and, not_true_eq_false, not_false_eq_true, b_X6_closeReach_37, h00, l0, l1, r0, r1]
theorem k_cr27 (hW : p_W P) : ∀ (c t fu : Nat) (S : m_M), t + c = d_z P → c < fu → d_R0 S A P → d_Ri S A P t 0 →
    ∃ S', b_X6_closeReach_27 A fu S (nI t) = some S' ∧ d_Rr S' A P ∧ e_O (A + 5) (A + 6) S S' := by
  have hfu := m_fu_ge
  have hz := d_z_le hW
  intro c
  induction c with
  | zero =>
    intro t fu S ht hf h0 hI
    obtain ⟨fu, rfl⟩ : ∃ f, fu = f + 1 := ⟨fu - 1, by omega⟩
    have ht : t = d_z P := ht
    have h00 := h0.1
    refine ⟨S, ?_, fun r hr q hq => ?_, e_O.rf⟩
    · simp (disch := omega) only [e_let, e_call, e_cal0, e_bind, e_lit, e_ofN, e_neg, nI_add, pk_mul, e_sub, e_ldi, e_sti, e_ldj, e_stj, e_le_t, e_le_f, e_lt_t, e_lt_f, e_eq_t, e_eq_f, e_no_eq, e_no_eq', e_no_rfl, e_no_lt, e_no_le, e_le_no, e_lt_no, if_true, if_false, ↓reduceIte, e_rs, e_rq, e_rn, e_ji, e_ki, e_ij, e_kj, e_js, e_jq, e_jn, e_cs, e_cq, e_jc, e_kc, e_js', e_jcq, e_icj, e_kcj, or_true, true_or, or_false, false_or, and_true, true_and, not_true_eq_false, not_false_eq_true, b_X6_closeReach_27, h00]
    · obtain ⟨i1, i2⟩ := hI r hr q hq
      rw [if_neg (by omega), ht] at i2
      refine Bool.eq_iff_iff.mpr ⟨i1, fun h => i2 ?_⟩
      exact d_rn_24 hz (fun q s _ => d_s_le hW q s) (by omega) h
  | succ c ih =>
    intro t fu S ht hf h0 hI
    obtain ⟨fu, rfl⟩ : ∃ f, fu = f + 1 := ⟨fu - 1, by omega⟩
    have h00 := h0.1
    obtain ⟨S1, f1, f2, f3⟩ := k_cr37 (K := b_X6_closeReach_27 A fu) hW (show t < 24 by omega) (d_z P) 0 m_fu S (by omega) (by omega) h0 hI
    have h0' : d_R0 S1 A P := by
      simp only [d_R0]; rw [f3.1 A (by omega), f3.1 (A + 3) (by omega), f3.1 (A + 4) (by omega)]; exact h0
    obtain ⟨S', g1, g2, g3⟩ := ih (t + 1) fu S1 (by omega) (by omega) h0' f2
    refine ⟨S', ?_, g2, f3.tr g3⟩
    rw [← g1, ← f1, b_X6_closeReach_27, h00, if_neg (by rw [e_le_f (by omega) (by omega)]; exact fun h => h)]
    rfl
theorem k_cr2 (hW : p_W P) : ∀ (c j fu : Nat) (S : m_M), j + c = d_z P → c < fu → d_R0 S A P → (∀ r, r < j → e_bs (m_ri S (A + 5) r) (fun q => decide (r = q))) →
    ∃ S', b_X6_closeReach_2 A fu S (nI j) = b_X6_closeReach_27 A m_fu S' (nI 0) ∧ d_Ri S' A P 0 0 ∧ e_O (A + 5) (A + 6) S S' := by
  have hz := d_z_le hW
  intro c
  induction c with
  | zero =>
    intro j fu S hj hf h0 hI
    obtain ⟨fu, rfl⟩ : ∃ f, fu = f + 1 := ⟨fu - 1, by omega⟩
    have hj : j = d_z P := hj
    have h00 := h0.1
    refine ⟨S, ?_, fun r hr q hq => ?_, e_O.rf⟩
    · simp (disch := omega) only [e_let, e_call, e_cal0, e_bind, e_lit, e_ofN, e_neg, nI_add, pk_mul, e_sub, e_ldi, e_sti, e_ldj, e_stj, e_le_t, e_le_f, e_lt_t, e_lt_f, e_eq_t, e_eq_f, e_no_eq, e_no_eq', e_no_rfl, e_no_lt, e_no_le, e_le_no, e_lt_no, if_true, if_false, ↓reduceIte, e_rs, e_rq, e_rn, e_ji, e_ki, e_ij, e_kj, e_js, e_jq, e_jn, e_cs, e_cq, e_jc, e_kc, e_js', e_jcq, e_icj, e_kcj, or_true, true_or, or_false, false_or, and_true, true_and, not_true_eq_false, not_false_eq_true, b_X6_closeReach_2, h00]
    · rw [hI r (by omega) q hq, if_neg (by omega)]
      refine ⟨fun h => ?_, fun h => ?_⟩
      · rw [← of_decide_eq_true h]; exact d_rn_0 24
      · have := of_decide_eq_true h
        exact decide_eq_true (by omega)
  | succ c ih =>
    intro j fu S hj hf h0 hI
    obtain ⟨fu, rfl⟩ : ∃ f, fu = f + 1 := ⟨fu - 1, by omega⟩
    have h00 := h0.1
    have h0' : d_R0 (m_si S (A + 5) j (nI 1 <<< (nI j &&& nI 31))) A P := by
      simp only [d_R0]; rw [e_rq (by omega), e_rq (by omega), e_rq (by omega)]; exact h0
    obtain ⟨S', g1, g2, g3⟩ := ih (j + 1) fu (m_si S (A + 5) j (nI 1 <<< (nI j &&& nI 31))) (by omega) (by omega) h0' (fun r hr q hq => by
      rw [e_rif]
      by_cases hrj : r = j
      · rw [if_pos hrj, e_b1 (by omega) hq, hrj]
      · rw [if_neg hrj]; exact hI r (by omega) q hq)
    refine ⟨S', ?_, g2, (e_O.rf.si (by omega) (by omega)).tr g3⟩
    rw [← g1]
    simp (disch := omega) only [e_let, e_call, e_cal0, e_bind, e_lit, e_ofN, e_neg, nI_add, pk_mul, e_sub, e_ldi, e_sti, e_ldj, e_stj, e_le_t, e_le_f, e_lt_t, e_lt_f, e_eq_t, e_eq_f, e_no_eq, e_no_eq', e_no_rfl, e_no_lt, e_no_le, e_le_no, e_lt_no, if_true, if_false, ↓reduceIte, e_rs, e_rq, e_rn, e_ji, e_ki, e_ij, e_kj, e_js, e_jq, e_jn, e_cs, e_cq, e_jc, e_kc, e_js', e_jcq, e_icj, e_kcj, or_true, true_or, or_false, false_or, and_true, true_and, not_true_eq_false, not_false_eq_true, b_X6_closeReach_2, h00]
theorem k_closeReach (hW : p_W P) (h0 : d_R0 S A P) : ∃ S', f_X6_closeReach A S = some S' ∧ d_Rr S' A P ∧ e_O (A + 5) (A + 6) S S' := by
  have hfu := m_fu_ge
  have hz := d_z_le hW
  obtain ⟨S1, f1, f2, f3⟩ := k_cr2 hW (d_z P) 0 m_fu S (by omega) (by omega) h0 (fun r hr => by omega)
  have h0' : d_R0 S1 A P := by
    simp only [d_R0]; rw [f3.1 A (by omega), f3.1 (A + 3) (by omega), f3.1 (A + 4) (by omega)]; exact h0
  obtain ⟨S2, g1, g2, g3⟩ := k_cr27 hW (d_z P) 0 m_fu S1 (by omega) (by omega) h0' f2
  refine ⟨S2, ?_, g2, f3.tr g3⟩
  rw [← g1, ← f1]
  rfl
/-! who owns what -/
def d_all (P : pP) (f v r : Nat) : Prop := ∃ w, w < v ∧ d_rc (d_of P) f w r = true
def d_out (P : pP) (f v r : Nat) : Prop := ∃ w, w < v ∧ (w < p_pa P f ∨ w + 1 = p_vs P f) ∧ d_rc (d_of P) f w r = true
def d_PP (S : m_M) (A : Nat) (P : pP) : Prop := ∀ f v, f < p_fu P → v < p_vs P f → m_ri S (A + 1) (f * 27 + v) = nO (d_p P f v)
theorem k_owner (hW : p_W P) (hA : A = p + 8) (hf : f < p_fu P) : ∀ (c v fu : Nat) (S : m_M) (x y : Int32), v + c = p_vs P f → c < fu → p_R S p P → d_R0 S A P → d_Rr S A P → d_PP S A P → (∀ r, r < 32 → (bt x r = true ↔ d_all P f v r)) → (∀ r, r < 32 → (bt y r = true ↔ d_out P f v r)) → (∀ w, w < v → e_bs (m_ri S (A + 2) (f * 27 + w)) (d_rc (d_of P) f w)) →
    ∃ S', b_X6_tellOwner_8 A p fu S (nI f) x y (nI v) = some S' ∧ (∀ w, w < p_vs P f → e_bs (m_ri S' (A + 2) (f * 27 + w)) (d_rc (d_of P) f w)) ∧ e_bs (m_ri S' (A + 8) f) (d_ou (d_of P) f) ∧ e_bs (m_ri S' (A + 9) f) (d_ow (d_of P) f) ∧ (∀ g w, g < p_fu P → w < p_vs P g → g ≠ f → m_ri S' (A + 2) (g * 27 + w) = m_ri S (A + 2) (g * 27 + w)) ∧ (∀ g, g ≠ f → m_ri S' (A + 8) g = m_ri S (A + 8) g ∧ m_ri S' (A + 9) g = m_ri S (A + 9) g) ∧
      (∀ q, q ≠ A + 2 → q ≠ A + 8 → q ≠ A + 9 → m_ri S' q = m_ri S q) ∧ m_rj S' = m_rj S ∧ m_rr S' = m_rr S := by
  subst hA
  have h5 := hW.1
  have h24 := hW.2.1
  have hl := hW.2.2.1 f hf
  have hz := d_z_le hW
  have hG := d_G_of hW
  intro c
  induction c with
  | zero =>
    intro v fu S x y hv hfu hP h0 hr hp hx hy hw
    obtain ⟨fu, rfl⟩ : ∃ f, fu = f + 1 := ⟨fu - 1, by omega⟩
    have hv : v = p_vs P f := hv
    have p2 := hP.2.2.1 f hf
    have p4 := hP.2.2.2.2.1 f hf
    refine ⟨m_si (m_si S (p + 8 + 8) f y) (p + 8 + 9) f (x &&& (y ^^^ m_no)), ?_, fun w hw' => ?_, fun r hr' => ?_, fun r hr' => ?_, fun g w _ _ _ => ?_, fun g hg => ⟨?_, ?_⟩, fun q h2 h8 h9 => ?_, rfl, rfl⟩
    · have hv2 : v = p_pa P f + p_ct P f := hv
      simp (disch := omega) only [e_let, e_call, e_cal0, e_bind, e_lit, e_ofN, e_neg, nI_add, pk_mul, e_sub, e_ldi, e_sti, e_ldj, e_stj, e_le_t, e_le_f, e_lt_t, e_lt_f, e_eq_t, e_eq_f, e_no_eq, e_no_eq', e_no_rfl, e_no_lt, e_no_le, e_le_no, e_lt_no, if_true, if_false, ↓reduceIte, e_rs, e_rq, e_rn, e_ji, e_ki, e_ij, e_kj, e_js, e_jq, e_jn, e_cs, e_cq, e_jc, e_kc, e_js', e_jcq, e_icj, e_kcj, or_true, true_or, or_false, false_or, and_true, true_and, not_true_eq_false, not_false_eq_true, b_X6_tellOwner_8, f_X3_varCount, p2, p4]
    · rw [e_rq (by omega), e_rq (by omega)]; exact hw w (by omega)
    · rw [e_rq (by omega), e_rs]
      refine Bool.eq_iff_iff.mpr ((hy r hr').trans ?_)
      rw [hv]; exact ((hG.2.2.2.1 f r hf).symm)
    · rw [e_rs, b_and, b_xor, show bt m_no r = true from b_m1 r hr']
      refine Bool.eq_iff_iff.mpr ?_
      rw [(hG.2.2.2.2.1 f r hf), Bool.and_eq_true, hx r hr', hv]
      refine and_congr Iff.rfl ?_
      have h1 : bt y r = true ↔ d_ou (d_of P) f r = true := (hy r hr').trans (by rw [hv]; exact (hG.2.2.2.1 f r hf).symm)
      have h2 : bt y r = d_ou (d_of P) f r := Bool.eq_iff_iff.mpr h1
      rw [h2]
      cases d_ou (d_of P) f r <;> simp
    · rw [e_rq (by omega), e_rq (by omega)]
    · rw [e_rq (by omega), e_rn hg]
    · rw [e_rn hg, e_rq (by omega)]
    · rw [e_rq h9, e_rq h8]
  | succ c ih =>
    intro v fu S x y hv hfu hP h0 hr hp hx hy hw
    obtain ⟨fu, rfl⟩ : ∃ f, fu = f + 1 := ⟨fu - 1, by omega⟩
    have p2 := hP.2.2.1 f hf
    have p4 := hP.2.2.2.2.1 f hf
    have hv2 : v + (c + 1) = p_pa P f + p_ct P f := hv
    have hpt := hp f v hf (by omega)
    have hle := d_p_le hW f v
    have hro := k_reachOf hW h0.1 hle
    have hbr : e_bs (if d_p P f v = 0 then nI 0 else m_ri S (p + 8 + 5) (d_p P f v - 1)) (d_rc (d_of P) f v) := fun r hr' => by
      rw [d_rc_of]
      by_cases h : d_p P f v = 0
      · rw [if_pos h, e_b0, h]
        refine (Bool.eq_false_iff.mpr fun q => ?_).symm
        exact d_rn_in (X := fun _ => False) (fun r e => by omega) (fun _ _ _ _ _ h _ => h) 24 _ q
      · rw [if_neg h, hr (d_p P f v - 1) (by omega) r hr', show d_p P f v - 1 + 1 = d_p P f v by omega]
    generalize (if d_p P f v = 0 then nI 0 else m_ri S (p + 8 + 5) (d_p P f v - 1)) = b at *
    have kp : ∀ q, q ≠ p + 8 + 2 → m_ri (m_si S (p + 8 + 2) (f * 27 + v) b) q = m_ri S q := fun q hq => e_rq hq
    have hP1 : p_R (m_si S (p + 8 + 2) (f * 27 + v) b) p P := by
      simp only [p_R, kp p (by omega), kp (p + 2) (by omega), kp (p + 3) (by omega), kp (p + 4) (by omega), kp (p + 5) (by omega), kp (p + 6) (by omega), kp (p + 7) (by omega)]; exact hP
    have h01 : d_R0 (m_si S (p + 8 + 2) (f * 27 + v) b) (p + 8) P := by
      simp only [d_R0, kp (p + 8) (by omega), kp (p + 8 + 3) (by omega), kp (p + 8 + 4) (by omega)]; exact h0
    have hr1 : d_Rr (m_si S (p + 8 + 2) (f * 27 + v) b) (p + 8) P := by
      simp only [d_Rr, kp (p + 8 + 5) (by omega)]; exact hr
    have hp1 : d_PP (m_si S (p + 8 + 2) (f * 27 + v) b) (p + 8) P := by
      simp only [d_PP, kp (p + 8 + 1) (by omega)]; exact hp
    have hx1 : ∀ r, r < 32 → (bt (x ||| b) r = true ↔ d_all P f (v + 1) r) := fun r hr' => by
      rw [b_or, Bool.or_eq_true, hx r hr', hbr r hr']
      constructor
      · rintro (⟨w, w1, w2⟩ | h)
        · exact ⟨w, by omega, w2⟩
        · exact ⟨v, by omega, h⟩
      · rintro ⟨w, w1, w2⟩
        by_cases e : w = v
        · subst e; exact Or.inr w2
        · exact Or.inl ⟨w, by omega, w2⟩
    have hw1 : ∀ w, w < v + 1 → e_bs (m_ri (m_si S (p + 8 + 2) (f * 27 + v) b) (p + 8 + 2) (f * 27 + w)) (d_rc (d_of P) f w) := fun w hw' => by
      rw [e_rif]
      by_cases e : w = v
      · rw [if_pos (by omega), e]; exact hbr
      · rw [if_neg (by omega)]; exact hw w (by omega)
    by_cases hc : v < p_pa P f ∨ v + 1 = p_vs P f
    · have hy1 : ∀ r, r < 32 → (bt (y ||| b) r = true ↔ d_out P f (v + 1) r) := fun r hr' => by
        rw [b_or, Bool.or_eq_true, hy r hr', hbr r hr']
        constructor
        · rintro (⟨w, w1, w2, w3⟩ | h)
          · exact ⟨w, by omega, w2, w3⟩
          · exact ⟨v, by omega, hc, h⟩
        · rintro ⟨w, w1, w2, w3⟩
          by_cases e : w = v
          · subst e; exact Or.inr w3
          · exact Or.inl ⟨w, by omega, w2, w3⟩
      obtain ⟨S', g1, g2, g3, g4, g5, g6, g7, g8, g9⟩ := ih (v + 1) fu _ (x ||| b) (y ||| b) (by omega) (by omega) hP1 h01 hr1 hp1 hx1 hy1 hw1
      refine ⟨S', ?_, g2, g3, g4, fun g w hg hw' hgf => ?_, fun g hg => ?_, fun q h2 h8 h9 => by rw [g7 q h2 h8 h9, e_rq h2], g8, g9⟩
      · rw [← g1]
        by_cases hlt : v < p_pa P f
        · simp (disch := omega) only [e_let, e_call, e_cal0, e_bind, e_lit, e_ofN, e_neg, nI_add, pk_mul, e_sub, e_ldi, e_sti, e_ldj, e_stj, e_le_t, e_le_f, e_lt_t, e_lt_f, e_eq_t, e_eq_f, e_no_eq, e_no_eq', e_no_rfl, e_no_lt, e_no_le, e_le_no, e_lt_no, if_true, if_false, ↓reduceIte, e_rs, e_rq, e_rn, e_ji, e_ki, e_ij, e_kj, e_js, e_jq, e_jn, e_cs, e_cq, e_jc, e_kc, e_js', e_jcq, e_icj, e_kcj, or_true, true_or, or_false, false_or, and_true, true_and, not_true_eq_false, not_false_eq_true, b_X6_tellOwner_8, f_X3_varCount, p2, p4, f_X6_pointedBy, hpt, hro, b_X6_tellOwner_71, b_X6_tellOwner_78]
        · have hvr : v = p_pa P f + p_ct P f - 1 := by rcases hc with h | h <;> simp only [p_vs] at * <;> omega
          simp (disch := omega) only [e_let, e_call, e_cal0, e_bind, e_lit, e_ofN, e_neg, nI_add, pk_mul, e_sub, e_ldi, e_sti, e_ldj, e_stj, e_le_t, e_le_f, e_lt_t, e_lt_f, e_eq_t, e_eq_f, e_no_eq, e_no_eq', e_no_rfl, e_no_lt, e_no_le, e_le_no, e_lt_no, if_true, if_false, ↓reduceIte, e_rs, e_rq, e_rn, e_ji, e_ki, e_ij, e_kj, e_js, e_jq, e_jn, e_cs, e_cq, e_jc, e_kc, e_js', e_jcq, e_icj, e_kcj, or_true, true_or, or_false, false_or, and_true, true_and, not_true_eq_false, not_false_eq_true, b_X6_tellOwner_8, f_X3_varCount, f_X3_resultOf, p2, p4, f_X6_pointedBy, hpt, hro, b_X6_tellOwner_71, b_X6_tellOwner_78]
      · have hgl := hW.2.2.1 g hg
        simp only [p_vs] at hw'
        rw [g5 g w hg (by simp only [p_vs]; omega) hgf, e_rn (by omega)]
      · rw [(g6 g hg).1, (g6 g hg).2, e_rq (by omega), e_rq (by omega)]; exact ⟨rfl, rfl⟩
    · have hy1 : ∀ r, r < 32 → (bt y r = true ↔ d_out P f (v + 1) r) := fun r hr' => by
        rw [hy r hr']
        constructor
        · rintro ⟨w, w1, w2, w3⟩; exact ⟨w, by omega, w2, w3⟩
        · rintro ⟨w, w1, w2, w3⟩
          by_cases e : w = v
          · subst e; exact absurd w2 hc
          · exact ⟨w, by omega, w2, w3⟩
      obtain ⟨S', g1, g2, g3, g4, g5, g6, g7, g8, g9⟩ := ih (v + 1) fu _ (x ||| b) y (by omega) (by omega) hP1 h01 hr1 hp1 hx1 hy1 hw1
      refine ⟨S', ?_, g2, g3, g4, fun g w hg hw' hgf => ?_, fun g hg => ?_, fun q h2 h8 h9 => by rw [g7 q h2 h8 h9, e_rq h2], g8, g9⟩
      · rw [← g1]
        have hvr : v ≠ p_pa P f + p_ct P f - 1 := by simp only [p_vs] at hc; omega
        have hvl : p_pa P f ≤ v := by omega
        simp (disch := omega) only [e_let, e_call, e_cal0, e_bind, e_lit, e_ofN, e_neg, nI_add, pk_mul, e_sub, e_ldi, e_sti, e_ldj, e_stj, e_le_t, e_le_f, e_lt_t, e_lt_f, e_eq_t, e_eq_f, e_no_eq, e_no_eq', e_no_rfl, e_no_lt, e_no_le, e_le_no, e_lt_no, if_true, if_false, ↓reduceIte, e_rs, e_rq, e_rn, e_ji, e_ki, e_ij, e_kj, e_js, e_jq, e_jn, e_cs, e_cq, e_jc, e_kc, e_js', e_jcq, e_icj, e_kcj, or_true, true_or, or_false, false_or, and_true, true_and, not_true_eq_false, not_false_eq_true, b_X6_tellOwner_8, f_X3_varCount, f_X3_resultOf, p2, p4, f_X6_pointedBy, hpt, hro, b_X6_tellOwner_71, b_X6_tellOwner_78]
      · have hgl := hW.2.2.1 g hg
        simp only [p_vs] at hw'
        rw [g5 g w hg (by simp only [p_vs]; omega) hgf, e_rn (by omega)]
      · rw [(g6 g hg).1, (g6 g hg).2, e_rq (by omega), e_rq (by omega)]; exact ⟨rfl, rfl⟩
end DC
