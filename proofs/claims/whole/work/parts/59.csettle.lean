/-! a value is given further; a cell is laid; a line is done: the one side -/
section QI
variable {S : m_M} {a p : Nat} {P : pP} {D : pD} {M : qM} {f i : Nat}
def q_fin (P : pP) (D : pD) (M : qM) : qM := q_lin (q_free P D (q_var M (q_sc M 2 - 1) (p_pa P (q_ff M (q_sc M 2 - 1)) + q_fl M (q_sc M 2 - 1)) (q_sc M 9) (q_gv M)) (q_sc M 2 - 1) (q_ff M (q_sc M 2 - 1)) (d_en D (q_ff M (q_sc M 2 - 1)) (q_fl M (q_sc M 2 - 1)))) (q_sc M 2 - 1) (q_fl M (q_sc M 2 - 1) + 1)
def q_nxt (P : pP) (D : pD) (M : qM) : qM := q_s (q_s (q_fin P D M) 2 (q_sc M 2 - 1)) 11 1
def q_set (P : pP) (D : pD) : Nat → qM → qM
  | 0, M => q_s M 0 2
  | j + 1, M => if q_sc M 2 = 0 then q_s M 0 2 else if q_fl M (q_sc M 2 - 1) + 1 < p_ct P (q_ff M (q_sc M 2 - 1)) then q_fin P D M else q_set P D j (q_nxt P D M)
def q_pre (P : pP) (D : pD) (M : qM) : Prop := q_B P M ∧ (∀ y, y ∈ q_F M → y.1 ≤ q_sc M 2) ∧ (∀ r, r < 24 → d_en D (q_ff M (q_sc M 2 - 1)) (q_fl M (q_sc M 2 - 1)) r = true → (q_sc M 2, r) ∈ q_F M) ∧ (q_fl M (q_sc M 2 - 1) + 1 = p_ct P (q_ff M (q_sc M 2 - 1)) → q_hit D (d_en D (q_ff M (q_sc M 2 - 1)) (q_fl M (q_sc M 2 - 1))) (q_ff M (q_sc M 2 - 1)) (p_pa P (q_ff M (q_sc M 2 - 1)) + q_fl M (q_sc M 2 - 1)) = false)
def q_oks (P : pP) (D : pD) : Nat → qM → Prop
  | 0, _ => True
  | j + 1, M => q_sc M 2 = 0 ∨ (q_pre P D M ∧ (q_fl M (q_sc M 2 - 1) + 1 < p_ct P (q_ff M (q_sc M 2 - 1)) ∨ q_oks P D j (q_nxt P D M)))
theorem q_B.var {k v x : Nat} {y : Int32} (h : q_B P M) (hx : x ≤ 2) : q_B P (q_var M k v x y) := by
  obtain ⟨a1, a2, a3, a4, a5, a6, a7, a8, a9, a10, a11, a12, a13, a14, a15, a16, a17⟩ := h
  refine ⟨a1, a2, a3, a4, fun k' hk => ⟨(a5 k' hk).1, (a5 k' hk).2.1, fun v' => ?_⟩, a6, a7, a8, a9, a10, a11, a12, a13, a14, a15, a16, a17⟩
  show va_up (q_kd M) k (va_up (q_kd M k) v x) k' v' ≤ 2
  rw [q_kvar]
  split
  · exact hx
  · exact (a5 k' hk).2.2 v'
theorem q_free_ff {k f : Nat} {e : Nat → Bool} : q_ff (q_free P D M k f e) = q_ff M ∧ q_fl (q_free P D M k f e) = q_fl M ∧ q_gv (q_free P D M k f e) = q_gv M ∧ ∀ j, j ≠ 4 → j ≠ 11 → q_sc (q_free P D M k f e) j = q_sc M j := by
  rw [q_free]
  split
  · exact ⟨rfl, rfl, rfl, fun _ _ _ => rfl⟩
  · have h := q_frs_ff (e := e) (n := k + 1) 24 0 (q_s M 11 1)
    exact ⟨h.1, h.2.1, h.2.2.2.2.1, fun j h4 h11 => (h.2.2.2.2.2.2.2 j h4).trans (q_sc_ne h11)⟩
theorem k_fin (C : q_P S a p P D) (hM : q_R S a M) (hp : q_pre P D M) (hn : 1 ≤ q_sc M 2) : ∃ S11, f_X2_freeRooms a p (m_si (m_si S (a + 3) ((q_sc M 2 - 1) * 27 + (p_pa P (q_ff M (q_sc M 2 - 1)) + q_fl M (q_sc M 2 - 1))) (nI (q_sc M 9))) (a + 4) ((q_sc M 2 - 1) * 27 + (p_pa P (q_ff M (q_sc M 2 - 1)) + q_fl M (q_sc M 2 - 1))) (q_gv M)) (nI (q_sc M 2 - 1)) (m_ri S (p + 21) (p_fi P (q_ff M (q_sc M 2 - 1)) + q_fl M (q_sc M 2 - 1))) = some S11 ∧
    m_ri S11 (a + 2) (q_sc M 2 - 1) = nI (q_fl M (q_sc M 2 - 1)) ∧ m_ri S11 a 2 = nI (q_sc M 2) ∧ q_R (m_si S11 (a + 2) (q_sc M 2 - 1) (nI (q_fl M (q_sc M 2 - 1) + 1))) a (q_fin P D M) ∧ e_O a (a + 9) S S11 := by
  obtain ⟨hB, hlev, hin, -⟩ := hp
  have T := hB.top hn
  obtain ⟨t1, t2, t3, t4, t5, t6, t7⟩ := T
  have hl := C.2.1.line t5 t6
  have hR := hM.var (k := q_sc M 2 - 1) (v := p_pa P (q_ff M (q_sc M 2 - 1)) + q_fl M (q_sc M 2 - 1)) (x := q_sc M 9) (y := q_gv M) (by omega)
  have hO : e_O a (a + 9) S (m_si (m_si S (a + 3) ((q_sc M 2 - 1) * 27 + (p_pa P (q_ff M (q_sc M 2 - 1)) + q_fl M (q_sc M 2 - 1))) (nI (q_sc M 9))) (a + 4) ((q_sc M 2 - 1) * 27 + (p_pa P (q_ff M (q_sc M 2 - 1)) + q_fl M (q_sc M 2 - 1))) (q_gv M)) := (e_O.rf.si (by omega) (by omega)).si (by omega) (by omega)
  have hBv := hB.var (k := q_sc M 2 - 1) (v := p_pa P (q_ff M (q_sc M 2 - 1)) + q_fl M (q_sc M 2 - 1)) (x := q_sc M 9) (y := q_gv M) hB.2.2.2.2.2.2.2.2.2.2.2.1
  obtain ⟨S11, g1, g2, g3⟩ := k_freeRooms (e := d_en D (q_ff M (q_sc M 2 - 1)) (q_fl M (q_sc M 2 - 1))) (k := q_sc M 2 - 1) (f := q_ff M (q_sc M 2 - 1)) (x := m_ri S (p + 21) (p_fi P (q_ff M (q_sc M 2 - 1)) + q_fl M (q_sc M 2 - 1))) (C.kept hO) hR hBv
    (fun r hr => C.2.2.2.1.2.2.2.1 _ _ r t5 t6 hr) (fun r hr => C.2.2.2.2.1 2 _ _ r hr) t5 (show q_sc M 2 - 1 < q_sc M 2 by omega) rfl (fun y hy => by have := hlev y hy; omega) (fun r h1 h2 => by rw [show q_sc M 2 - 1 + 1 = q_sc M 2 by omega]; exact hin r h1 h2)
  have hff := q_free_ff (P := P) (D := D) (M := q_var M (q_sc M 2 - 1) (p_pa P (q_ff M (q_sc M 2 - 1)) + q_fl M (q_sc M 2 - 1)) (q_sc M 9) (q_gv M)) (k := q_sc M 2 - 1) (f := q_ff M (q_sc M 2 - 1)) (e := d_en D (q_ff M (q_sc M 2 - 1)) (q_fl M (q_sc M 2 - 1)))
  have hs2 : q_sc (q_free P D (q_var M (q_sc M 2 - 1) (p_pa P (q_ff M (q_sc M 2 - 1)) + q_fl M (q_sc M 2 - 1)) (q_sc M 9) (q_gv M)) (q_sc M 2 - 1) (q_ff M (q_sc M 2 - 1)) (d_en D (q_ff M (q_sc M 2 - 1)) (q_fl M (q_sc M 2 - 1)))) 2 = q_sc M 2 := hff.2.2.2 2 (by omega) (by omega)
  refine ⟨S11, g1, ?_, ?_, g2.lin, hO.tr g3⟩
  · rw [g2.2.2.2.2.1 (q_sc M 2 - 1) (by rw [hs2]; omega), hff.2.1]; rfl
  · rw [g2.1 2 (by omega) (by omega) (by omega), hs2]
theorem q_fin_2 : q_sc (q_fin P D M) 2 = q_sc M 2 := q_free_ff.2.2.2 2 (by omega) (by omega)
theorem k_settle : ∀ (j t fu : Nat) (S : m_M) (M : qM), t + j = 12 → j < fu → q_P S a p P D → q_R S a M → q_sc M 2 ≤ 12 → q_oks P D j M →
    ∃ S', b_X2_settle_2 a p fu S (nI t) = some S' ∧ q_R S' a (q_set P D j M) ∧ e_O a (a + 9) S S' := by
  intro j
  induction j with
  | zero =>
    intro t fu S M ht hf C hM h12 _
    have ht : t = 12 := ht
    subst ht
    obtain ⟨fu, rfl⟩ : ∃ f, fu = f + 1 := ⟨fu - 1, by omega⟩
    refine ⟨m_si S a 0 (nI 2), ?_, hM.s (by omega) (by omega) (by omega), e_O.rf.si (by omega) (by omega)⟩
    simp (disch := omega) only [e_let, e_call, e_cal0, e_bind, e_lit, e_ofN, e_neg, nI_add, pk_mul, e_sub, e_ldi, e_sti, e_ldj, e_stj, e_le_t, e_le_f, e_lt_t, e_lt_f, e_eq_t, e_eq_f, e_no_eq, e_no_eq', e_no_rfl, e_no_lt, e_no_le, e_le_no, e_lt_no, if_true, if_false, ↓reduceIte, e_rs, e_rq, e_rn, e_ji, e_ki, e_ij, e_kj, e_js, e_jq, e_jn, e_cs, e_cq, e_jc, e_kc, e_js', e_jcq, e_icj, e_kcj, or_true, true_or, or_false, false_or, and_true, true_and, not_true_eq_false, not_false_eq_true, b_X2_settle_2, b_X2_settle_133]
  | succ j ih =>
    intro t fu S M ht hf C hM h12 hk
    obtain ⟨fu, rfl⟩ : ∃ f, fu = f + 1 := ⟨fu - 1, by omega⟩
    have h2 := hM.1 2 (by omega) (by omega) (by omega)
    by_cases h0 : q_sc M 2 = 0
    · refine ⟨m_si S a 0 (nI 2), ?_, by rw [q_set, if_pos h0]; exact hM.s (by omega) (by omega) (by omega), e_O.rf.si (by omega) (by omega)⟩
      rw [h0] at h2
      simp (disch := omega) only [e_let, e_call, e_cal0, e_bind, e_lit, e_ofN, e_neg, nI_add, pk_mul, e_sub, e_ldi, e_sti, e_ldj, e_stj, e_le_t, e_le_f, e_lt_t, e_lt_f, e_eq_t, e_eq_f, e_no_eq, e_no_eq', e_no_rfl, e_no_lt, e_no_le, e_le_no, e_lt_no, if_true, if_false, ↓reduceIte, e_rs, e_rq, e_rn, e_ji, e_ki, e_ij, e_kj, e_js, e_jq, e_jn, e_cs, e_cq, e_jc, e_kc, e_js', e_jcq, e_icj, e_kcj, or_true, true_or, or_false, false_or, and_true, true_and, not_true_eq_false, not_false_eq_true, b_X2_settle_2, b_X2_settle_133, h2]
    · rcases hk with hk | ⟨hp, hk⟩
      · exact absurd hk h0
      have T := hp.1.top (show 1 ≤ q_sc M 2 by omega)
      obtain ⟨t1, t2, t3, t4, t5, t6, t7⟩ := T
      have hl := C.2.1.line t5 t6
      obtain ⟨S11, g1, g2, g3, g4, g5⟩ := k_fin C hM hp (by omega)
      have h9 := hM.1 9 (by omega) (by omega) (by omega)
      have h10 := hM.2.2.1
      have hff := hM.2.2.2.1 (q_sc M 2 - 1) (by omega)
      have hfl := hM.2.2.2.2.1 (q_sc M 2 - 1) (by omega)
      have hpa := C.2.2.1.2.2.1 _ t5
      have hfi := C.2.2.1.2.2.2.1 _ t5
      have hct := (C.kept (g5.si (q := a + 2) (i := q_sc M 2 - 1) (v := nI (q_fl M (q_sc M 2 - 1) + 1)) (by omega) (by omega))).2.2.1.2.2.2.2.1 _ t5
      have hd := C.1
      have hd3 : p + 3 ≠ a + 4 ∧ p + 3 ≠ a + 3 ∧ p + 21 ≠ a + 4 ∧ p + 21 ≠ a + 3 ∧ p + 4 ≠ a + 2 := by omega
      have hct2 : m_ri S11 (p + 4) (q_ff M (q_sc M 2 - 1)) = nI (p_ct P (q_ff M (q_sc M 2 - 1))) := by rw [← hct, e_rq hd3.2.2.2.2]
      by_cases hlt : q_fl M (q_sc M 2 - 1) + 1 < p_ct P (q_ff M (q_sc M 2 - 1))
      · refine ⟨_, ?_, by rw [q_set, if_neg h0, if_pos hlt]; exact g4, g5.si (by omega) (by omega)⟩
        simp (disch := omega) only [e_let, e_call, e_cal0, e_bind, e_lit, e_ofN, e_neg, nI_add, pk_mul, e_sub, e_ldi, e_sti, e_ldj, e_stj, e_le_t, e_le_f, e_lt_t, e_lt_f, e_eq_t, e_eq_f, e_no_eq, e_no_eq', e_no_rfl, e_no_lt, e_no_le, e_le_no, e_lt_no, if_true, if_false, ↓reduceIte, e_rs, e_rq, e_rn, e_ji, e_ki, e_ij, e_kj, e_js, e_jq, e_jn, e_cs, e_cq, e_jc, e_kc, e_js', e_jcq, e_icj, e_kcj, or_true, true_or, or_false, false_or, and_true, true_and, not_true_eq_false, not_false_eq_true, b_X2_settle_2, h2, hff, hfl, hpa, h9, h10, f_X2_setVar, e_rq hd3.1, e_rq hd3.2.1, e_rq hd3.2.2.1, e_rq hd3.2.2.2.1, hfi, g1, g2, e_rq hd3.2.2.2.2, hct2]
      · have hR1 := g4.pop (v := q_sc M 2 - 1) (by rw [q_fin_2]; omega)
        have hR2 := hR1.s (j := 11) (v := 1) (by omega) (by omega) (by omega)
        have hO2 : e_O a (a + 9) S (m_si (m_si (m_si S11 (a + 2) (q_sc M 2 - 1) (nI (q_fl M (q_sc M 2 - 1) + 1))) a 2 (nI (q_sc M 2 - 1))) a 11 (nI 1)) := ((g5.si (by omega) (by omega)).si (by omega) (by omega)).si (by omega) (by omega)
        have hk2 : q_oks P D j (q_nxt P D M) := by rcases hk with h | h; exact absurd h hlt; exact h
        have e2 : q_sc (q_nxt P D M) 2 = q_sc M 2 - 1 := by simp only [q_nxt]; rw [q_sc_ne (by omega), q_sc_eq]
        obtain ⟨S', f1, f2, f3⟩ := ih (t + 1) fu _ _ (by omega) (by omega) (C.kept hO2) hR2 (by have := e2; simp only [q_nxt] at this; omega) hk2
        refine ⟨S', ?_, by rw [q_set, if_neg h0, if_neg hlt]; exact f2, hO2.tr f3⟩
        rw [← f1]
        simp (disch := omega) only [e_let, e_call, e_cal0, e_bind, e_lit, e_ofN, e_neg, nI_add, pk_mul, e_sub, e_ldi, e_sti, e_ldj, e_stj, e_le_t, e_le_f, e_lt_t, e_lt_f, e_eq_t, e_eq_f, e_no_eq, e_no_eq', e_no_rfl, e_no_lt, e_no_le, e_le_no, e_lt_no, if_true, if_false, ↓reduceIte, e_rs, e_rq, e_rn, e_ji, e_ki, e_ij, e_kj, e_js, e_jq, e_jn, e_cs, e_cq, e_jc, e_kc, e_js', e_jcq, e_icj, e_kcj, or_true, true_or, or_false, false_or, and_true, true_and, not_true_eq_false, not_false_eq_true, b_X2_settle_2, h2, hff, hfl, hpa, h9, h10, f_X2_setVar, e_rq hd3.1, e_rq hd3.2.1, e_rq hd3.2.2.1, e_rq hd3.2.2.2.1, hfi, g1, g2, g3, e_rq hd3.2.2.2.2, hct2]
end QI
