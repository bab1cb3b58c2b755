/-! a cell is laid, a line is worked: the one side -/
section QJ
variable {S : m_M} {a p : Nat} {P : pP} {D : pD} {M : qM} {f i : Nat}
/-- the room of a region that is seen from below n frames -/
def q_vis (w : Nat → Bool) (r : Nat) : Nat → Nat × Nat
  | 0 => (0, r)
  | k + 1 => if w k = true then (k + 1, r) else q_vis w r k
theorem q_vis_2 {w : Nat → Bool} {r : Nat} : ∀ n, (q_vis w r n).2 = r := by
  intro n
  induction n with
  | zero => rfl
  | succ n ih => simp only [q_vis]; split; · rfl
                 · exact ih
def q_at (D : pD) (M : qM) (n r : Nat) : Nat × Nat := q_vis (fun k => d_ow D (q_ff M k) r) r n
/-- the first cell that is free -/
def q_fc (c : Nat → Option (Nat × Nat)) : Nat → Nat → Nat
  | 0, k => k
  | d + 1, k => if c k = none then k else q_fc c d (k + 1)
theorem q_fc_ok {c : Nat → Option (Nat × Nat)} : ∀ d k, (∃ j, k ≤ j ∧ j < k + d ∧ c j = none) → k ≤ q_fc c d k ∧ q_fc c d k < k + d ∧ c (q_fc c d k) = none ∧ ∀ j, k ≤ j → j < q_fc c d k → c j ≠ none := by
  intro d
  induction d with
  | zero => rintro k ⟨j, h1, h2, -⟩; omega
  | succ d ih =>
    rintro k ⟨j, h1, h2, h3⟩
    by_cases hc : c k = none
    · have e : q_fc c (d + 1) k = k := by simp only [q_fc]; rw [if_pos hc]
      rw [e]; exact ⟨by omega, by omega, hc, fun j _ _ => by omega⟩
    · have e : q_fc c (d + 1) k = q_fc c d (k + 1) := by simp only [q_fc]; rw [if_neg hc]
      have hjk : j ≠ k := fun q => hc (q ▸ h3)
      obtain ⟨g1, g2, g3, g4⟩ := ih (k + 1) ⟨j, by omega, by omega, h3⟩
      rw [e]
      refine ⟨by omega, by omega, g3, fun j' h1' h2' => ?_⟩
      by_cases hjk' : j' = k
      · subst hjk'; exact hc
      · exact g4 j' (by omega) h2'
theorem k_fcl (hM : q_R S a M) (hl : (q_F M).length ≤ 312) (hm : ∀ c y, c < 200 → q_ce M c = some y → y ∈ q_F M) : ∀ (d k fu : Nat), k + d = 200 → d < fu → (∃ j, k ≤ j ∧ j < k + d ∧ q_ce M j = none) → b_X2_freeCell_2 a fu S (nI k) = some (nI (q_fc (q_ce M) d k), S) := by
  intro d
  induction d with
  | zero => rintro k fu hk hf ⟨j, h1, h2, -⟩; omega
  | succ d ih =>
    rintro k fu hk hf ⟨j, h1, h2, h3⟩
    obtain ⟨fu, rfl⟩ : ∃ f, fu = f + 1 := ⟨fu - 1, by omega⟩
    have h9 := hM.2.2.2.2.2.2.2.2.1 k (by omega)
    cases hce : q_ce M k with
    | none =>
      rw [hce] at h9
      have h9 : m_ri S (a + 6) k = m_no := h9
      have e : q_fc (q_ce M) (d + 1) k = k := by simp only [q_fc]; rw [if_pos hce]
      rw [e]
      simp (disch := omega) only [e_let, e_call, e_cal0, e_bind, e_lit, e_ofN, e_neg, nI_add, pk_mul, e_sub, e_ldi, e_sti, e_ldj, e_stj, e_le_t, e_le_f, e_lt_t, e_lt_f, e_eq_t, e_eq_f, e_no_eq, e_no_eq', e_no_rfl, e_no_lt, e_no_le, e_le_no, e_lt_no, if_true, if_false, ↓reduceIte, e_rs, e_rq, e_rn, e_ji, e_ki, e_ij, e_kj, e_js, e_jq, e_jn, e_cs, e_cq, e_jc, e_kc, e_js', e_jcq, e_icj, e_kcj, or_true, true_or, or_false, false_or, and_true, true_and, not_true_eq_false, not_false_eq_true, b_X2_freeCell_2, h9]
    | some y =>
      rw [hce] at h9
      have h9 : m_ri S (a + 6) k = nI ((q_F M).idxOf y) := h9
      have hy := List.idxOf_lt_length_of_mem (hm k y (by omega) hce)
      have e : q_fc (q_ce M) (d + 1) k = q_fc (q_ce M) d (k + 1) := by simp only [q_fc]; rw [if_neg (by rw [hce]; intro h; cases h)]
      have hjk : j ≠ k := fun q => by rw [q, hce] at h3; cases h3
      rw [e, ← ih (k + 1) fu (by omega) (by omega) ⟨j, by omega, by omega, h3⟩]
      simp (disch := omega) only [e_let, e_call, e_cal0, e_bind, e_lit, e_ofN, e_neg, nI_add, pk_mul, e_sub, e_ldi, e_sti, e_ldj, e_stj, e_le_t, e_le_f, e_lt_t, e_lt_f, e_eq_t, e_eq_f, e_no_eq, e_no_eq', e_no_rfl, e_no_lt, e_no_le, e_le_no, e_lt_no, if_true, if_false, ↓reduceIte, e_rs, e_rq, e_rn, e_ji, e_ki, e_ij, e_kj, e_js, e_jq, e_jn, e_cs, e_cq, e_jc, e_kc, e_js', e_jcq, e_icj, e_kcj, or_true, true_or, or_false, false_or, and_true, true_and, not_true_eq_false, not_false_eq_true, b_X2_freeCell_2, h9]
def q_lay (P : pP) (M : qM) (l c : Nat) (x : Nat × Nat) : qM :=
  ((fun j => if j = 4 then q_sc M 4 + 1 else if j = 7 then q_sc M 7 + 1 else if j = 5 then (if q_sc M 5 < q_sc M 4 + 1 then q_sc M 4 + 1 else q_sc M 5) else q_sc M j), q_ff M, q_fl M, q_kd M, q_vl M, q_F M, va_up (q_ce M) c (some x), va_up (q_sk M) c (fun s => q_K P M l s), va_up (q_sv M) c (fun s => q_V P M l s), q_gv M)
theorem k_layCell (C : q_P S a p P D) (hM : q_R S a M) (hB : q_B P M) (T : q_top P M f i) (ho : p_op P (p_fi P f + i) = 2) {r : Nat} (hr : d_pt D f (p_pa P f + i) = r + 1) (hx : q_at D M (q_sc M 2) r ∈ q_F M) (hmx : ∀ y, y ∈ q_F M → y.2 = r → y.1 ≤ (q_at D M (q_sc M 2) r).1) (h200 : q_sc M 4 < 200) :
    ∃ S', f_X2_layCell a p S (nI f) (nI (p_fi P f + i)) = some (nI (q_fc (q_ce M) 200 0), S') ∧ q_R S' a (q_lay P M (p_fi P f + i) (q_fc (q_ce M) 200 0) (q_at D M (q_sc M 2) r)) ∧ e_O a (a + 9) S S' := by
  have hfu := m_fu_ge
  have T' := T
  obtain ⟨t1, t2, t3, t4, t5, t6, t7⟩ := T
  have hl := C.2.1.line t5 t6
  have hex : ∃ j, 0 ≤ j ∧ j < 0 + 200 ∧ q_ce M j = none := by
    rw [hB.2.2.2.2.2.2.1] at h200
    have := fb_ct_not (fun c => (q_ce M c).isSome) 200
    obtain ⟨k, hk, hk2⟩ := fb_ct_pos.mp (show 0 < fb_ct (fun k => !(q_ce M k).isSome) 200 by omega)
    refine ⟨k, by omega, by omega, ?_⟩
    cases h : q_ce M k with
    | none => rfl
    | some y => rw [h] at hk2; cases hk2
  obtain ⟨-, c2, c3, c4⟩ := q_fc_ok 200 0 hex
  have hfc := k_fcl hM hB.2.1 hB.2.2.2.2.2.1 200 0 m_fu (by omega) (by omega) hex
  have hx2 : (q_at D M (q_sc M 2) r).2 = r := q_vis_2 _
  have hlt := k_latest hM hB hx (fun y hy h => hmx y hy (h.trans hx2))
  rw [hx2] at hlt
  have hixl := List.idxOf_lt_length_of_mem hx
  have hl312 := hB.2.1
  have hpa := C.2.2.1.2.2.1 _ t5
  have hfi := C.2.2.1.2.2.2.1 _ t5
  have hpt := C.2.2.2.1.1 f (p_pa P f + i) t5 (by simp only [p_vs]; omega)
  rw [hr, nO_s] at hpt
  have hpl : p_pa P f + (p_fi P f + i) - p_fi P f = p_pa P f + i := by omega
  have u0 := p_us_0 (P := P) (l := p_fi P f + i) (by omega)
  have u1 := p_us_1 (P := P) (l := p_fi P f + i) (by omega)
  have o0 := (C.2.2.1.2.2.2.2.2 f i t5 t6).2.2.2 0 (by omega) (by rw [p_sl_ne (by omega)]; exact u0)
  have o1 := (C.2.2.1.2.2.2.2.2 f i t5 t6).2.2.2 1 (by omega) (by rw [p_sl_ne (by omega)]; exact u1)
  rw [p_sl_ne (by omega)] at o0 o1
  have v0 := (C.2.1.2.2.2.2 f i t5 t6).2.2.2 _ u0
  have v1 := (C.2.1.2.2.2.2 f i t5 t6).2.2.2 _ u1
  have k0 := hM.2.2.2.2.2.1 (q_sc M 2 - 1) (p_va P (p_fi P f + i) 0) (by omega) (by omega)
  have k1 := hM.2.2.2.2.2.1 (q_sc M 2 - 1) (p_va P (p_fi P f + i) 1) (by omega) (by omega)
  have w0 := hM.2.2.2.2.2.2.1 (q_sc M 2 - 1) (p_va P (p_fi P f + i) 0) (by omega) (by omega)
  have w1 := hM.2.2.2.2.2.2.1 (q_sc M 2 - 1) (p_va P (p_fi P f + i) 1) (by omega) (by omega)
  have s2 := hM.1 2 (by omega) (by omega) (by omega)
  have s4 := hM.1 4 (by omega) (by omega) (by omega)
  have s7 := hM.1 7 (by omega) (by omega) (by omega)
  have s5 := hM.1 5 (by omega) (by omega) (by omega)
  have b5 := hB.2.2.2.2.2.2.2.1
  have b7 := hB.2.2.2.2.2.2.2.2.2.1
  have hd := C.1
  have hd7 : p + 7 ≠ a ∧ p + 7 ≠ a + 6 ∧ p + 7 ≠ a + 7 ∧ p + 7 ≠ a + 8 := by omega
  generalize hc : q_fc (q_ce M) 200 0 = c at *
  generalize hxx : q_at D M (q_sc M 2) r = x at *
  obtain ⟨u, hu⟩ : ∃ u, m_fu = u + 3 := ⟨m_fu - 3, by omega⟩
  have hmost : (if nI (q_sc M 5) < nI (q_sc M 4 + 1) then nI (q_sc M 4 + 1) else nI (q_sc M 5)) = nI (if q_sc M 5 < q_sc M 4 + 1 then q_sc M 4 + 1 else q_sc M 5) := by
    by_cases hq : q_sc M 5 < q_sc M 4 + 1
    · simp (disch := omega) only [e_let, e_call, e_cal0, e_bind, e_lit, e_ofN, e_neg, nI_add, pk_mul, e_sub, e_ldi, e_sti, e_ldj, e_stj, e_le_t, e_le_f, e_lt_t, e_lt_f, e_eq_t, e_eq_f, e_no_eq, e_no_eq', e_no_rfl, e_no_lt, e_no_le, e_le_no, e_lt_no, if_true, if_false, ↓reduceIte, e_rs, e_rq, e_rn, e_ji, e_ki, e_ij, e_kj, e_js, e_jq, e_jn, e_cs, e_cq, e_jc, e_kc, e_js', e_jcq, e_icj, e_kcj, or_true, true_or, or_false, false_or, and_true, true_and, not_true_eq_false, not_false_eq_true, hq]
    · simp (disch := omega) only [e_let, e_call, e_cal0, e_bind, e_lit, e_ofN, e_neg, nI_add, pk_mul, e_sub, e_ldi, e_sti, e_ldj, e_stj, e_le_t, e_le_f, e_lt_t, e_lt_f, e_eq_t, e_eq_f, e_no_eq, e_no_eq', e_no_rfl, e_no_lt, e_no_le, e_le_no, e_lt_no, if_true, if_false, ↓reduceIte, e_rs, e_rq, e_rn, e_ji, e_ki, e_ij, e_kj, e_js, e_jq, e_jn, e_cs, e_cq, e_jc, e_kc, e_js', e_jcq, e_icj, e_kcj, or_true, true_or, or_false, false_or, and_true, true_and, not_true_eq_false, not_false_eq_true, hq]
  refine ⟨m_si (m_si (m_si (m_si (m_si (m_si (m_si (m_si S (a + 6) c (nI ((q_F M).idxOf x))) (a + 7) (2 * c + 0) (nI (q_K P M (p_fi P f + i) 0))) (a + 8) (2 * c + 0) (q_V P M (p_fi P f + i) 0)) (a + 7) (2 * c + 1) (nI (q_K P M (p_fi P f + i) 1))) (a + 8) (2 * c + 1) (q_V P M (p_fi P f + i) 1)) a 4 (nI (q_sc M 4 + 1))) a 7 (nI (q_sc M 7 + 1))) a 5 (nI (if q_sc M 5 < q_sc M 4 + 1 then q_sc M 4 + 1 else q_sc M 5)), ?_, ?_, ?_⟩
  · simp (disch := omega) only [e_let, e_call, e_cal0, e_bind, e_lit, e_ofN, e_neg, nI_add, pk_mul, e_sub, e_ldi, e_sti, e_ldj, e_stj, e_le_t, e_le_f, e_lt_t, e_lt_f, e_eq_t, e_eq_f, e_no_eq, e_no_eq', e_no_rfl, e_no_lt, e_no_le, e_le_no, e_lt_no, if_true, if_false, ↓reduceIte, e_rs, e_rq, e_rn, e_ji, e_ki, e_ij, e_kj, e_js, e_jq, e_jn, e_cs, e_cq, e_jc, e_kc, e_js', e_jcq, e_icj, e_kcj, or_true, true_or, or_false, false_or, and_true, true_and, not_true_eq_false, not_false_eq_true, f_X2_layCell, f_X2_freeCell, hfc, f_X3_varOfLine, hpa, hfi, f_X6_pointedBy, hpl, hpt, hlt]
    rw [hu]
    simp (disch := omega) only [e_let, e_call, e_cal0, e_bind, e_lit, e_ofN, e_neg, nI_add, pk_mul, e_sub, e_ldi, e_sti, e_ldj, e_stj, e_le_t, e_le_f, e_lt_t, e_lt_f, e_eq_t, e_eq_f, e_no_eq, e_no_eq', e_no_rfl, e_no_lt, e_no_le, e_le_no, e_lt_no, if_true, if_false, ↓reduceIte, e_rs, e_rq, e_rn, e_ji, e_ki, e_ij, e_kj, e_js, e_jq, e_jn, e_cs, e_cq, e_jc, e_kc, e_js', e_jcq, e_icj, e_kcj, or_true, true_or, or_false, false_or, and_true, true_and, not_true_eq_false, not_false_eq_true, b_X2_layCell_52, f_X2_kindAt, f_X2_valueAt, f_X3_operandAt, s2, e_rq hd7.1, e_rq hd7.2.1, e_rq hd7.2.2.1, e_rq hd7.2.2.2, o0, o1, k0, k1, w0, w1, s4, s7, s5, q_K, q_V, Nat.reduceAdd, hmost]
  · obtain ⟨r1, r2, r3b, r4, r5, r6, r7, r8, r9, r10, r11⟩ := hM
    refine ⟨fun j hj h3' h10' => ?_, ?_, ?_, fun k' hk => ?_, fun k' hk => ?_, fun k' w hk hw => ?_, fun k' w hk hw => ?_, fun j y hy => ?_, fun c' hc' => ?_, fun c' s hc' hs hl' => ?_, fun c' s hc' hs hl' => ?_⟩
    · show _ = nI (if j = 4 then _ else _)
      by_cases j5 : j = 5
      · subst j5; rw [e_rs]; rfl
      · rw [e_rn j5]
        by_cases j7 : j = 7
        · subst j7; rw [e_rs]; rfl
        · rw [e_rn j7]
          by_cases j4 : j = 4
          · subst j4; rw [e_rs]; rfl
          · simp (disch := omega) only [e_let, e_call, e_cal0, e_bind, e_lit, e_ofN, e_neg, nI_add, pk_mul, e_sub, e_ldi, e_sti, e_ldj, e_stj, e_le_t, e_le_f, e_lt_t, e_lt_f, e_eq_t, e_eq_f, e_no_eq, e_no_eq', e_no_rfl, e_no_lt, e_no_le, e_le_no, e_lt_no, if_true, if_false, ↓reduceIte, e_rs, e_rq, e_rn, e_ji, e_ki, e_ij, e_kj, e_js, e_jq, e_jn, e_cs, e_cq, e_jc, e_kc, e_js', e_jcq, e_icj, e_kcj, or_true, true_or, or_false, false_or, and_true, true_and, not_true_eq_false, not_false_eq_true, r1 j hj h3' h10', j4, j5, j7]
    · simp (disch := omega) only [e_let, e_call, e_cal0, e_bind, e_lit, e_ofN, e_neg, nI_add, pk_mul, e_sub, e_ldi, e_sti, e_ldj, e_stj, e_le_t, e_le_f, e_lt_t, e_lt_f, e_eq_t, e_eq_f, e_no_eq, e_no_eq', e_no_rfl, e_no_lt, e_no_le, e_le_no, e_lt_no, if_true, if_false, ↓reduceIte, e_rs, e_rq, e_rn, e_ji, e_ki, e_ij, e_kj, e_js, e_jq, e_jn, e_cs, e_cq, e_jc, e_kc, e_js', e_jcq, e_icj, e_kcj, or_true, true_or, or_false, false_or, and_true, true_and, not_true_eq_false, not_false_eq_true, r2]; rfl
    · simp (disch := omega) only [e_let, e_call, e_cal0, e_bind, e_lit, e_ofN, e_neg, nI_add, pk_mul, e_sub, e_ldi, e_sti, e_ldj, e_stj, e_le_t, e_le_f, e_lt_t, e_lt_f, e_eq_t, e_eq_f, e_no_eq, e_no_eq', e_no_rfl, e_no_lt, e_no_le, e_le_no, e_lt_no, if_true, if_false, ↓reduceIte, e_rs, e_rq, e_rn, e_ji, e_ki, e_ij, e_kj, e_js, e_jq, e_jn, e_cs, e_cq, e_jc, e_kc, e_js', e_jcq, e_icj, e_kcj, or_true, true_or, or_false, false_or, and_true, true_and, not_true_eq_false, not_false_eq_true, r3b]; rfl
    · simp (disch := omega) only [e_let, e_call, e_cal0, e_bind, e_lit, e_ofN, e_neg, nI_add, pk_mul, e_sub, e_ldi, e_sti, e_ldj, e_stj, e_le_t, e_le_f, e_lt_t, e_lt_f, e_eq_t, e_eq_f, e_no_eq, e_no_eq', e_no_rfl, e_no_lt, e_no_le, e_le_no, e_lt_no, if_true, if_false, ↓reduceIte, e_rs, e_rq, e_rn, e_ji, e_ki, e_ij, e_kj, e_js, e_jq, e_jn, e_cs, e_cq, e_jc, e_kc, e_js', e_jcq, e_icj, e_kcj, or_true, true_or, or_false, false_or, and_true, true_and, not_true_eq_false, not_false_eq_true]; exact r4 k' hk
    · simp (disch := omega) only [e_let, e_call, e_cal0, e_bind, e_lit, e_ofN, e_neg, nI_add, pk_mul, e_sub, e_ldi, e_sti, e_ldj, e_stj, e_le_t, e_le_f, e_lt_t, e_lt_f, e_eq_t, e_eq_f, e_no_eq, e_no_eq', e_no_rfl, e_no_lt, e_no_le, e_le_no, e_lt_no, if_true, if_false, ↓reduceIte, e_rs, e_rq, e_rn, e_ji, e_ki, e_ij, e_kj, e_js, e_jq, e_jn, e_cs, e_cq, e_jc, e_kc, e_js', e_jcq, e_icj, e_kcj, or_true, true_or, or_false, false_or, and_true, true_and, not_true_eq_false, not_false_eq_true]; exact r5 k' hk
    · simp (disch := omega) only [e_let, e_call, e_cal0, e_bind, e_lit, e_ofN, e_neg, nI_add, pk_mul, e_sub, e_ldi, e_sti, e_ldj, e_stj, e_le_t, e_le_f, e_lt_t, e_lt_f, e_eq_t, e_eq_f, e_no_eq, e_no_eq', e_no_rfl, e_no_lt, e_no_le, e_le_no, e_lt_no, if_true, if_false, ↓reduceIte, e_rs, e_rq, e_rn, e_ji, e_ki, e_ij, e_kj, e_js, e_jq, e_jn, e_cs, e_cq, e_jc, e_kc, e_js', e_jcq, e_icj, e_kcj, or_true, true_or, or_false, false_or, and_true, true_and, not_true_eq_false, not_false_eq_true]; exact r6 k' w hk hw
    · simp (disch := omega) only [e_let, e_call, e_cal0, e_bind, e_lit, e_ofN, e_neg, nI_add, pk_mul, e_sub, e_ldi, e_sti, e_ldj, e_stj, e_le_t, e_le_f, e_lt_t, e_lt_f, e_eq_t, e_eq_f, e_no_eq, e_no_eq', e_no_rfl, e_no_lt, e_no_le, e_le_no, e_lt_no, if_true, if_false, ↓reduceIte, e_rs, e_rq, e_rn, e_ji, e_ki, e_ij, e_kj, e_js, e_jq, e_jn, e_cs, e_cq, e_jc, e_kc, e_js', e_jcq, e_icj, e_kcj, or_true, true_or, or_false, false_or, and_true, true_and, not_true_eq_false, not_false_eq_true]; exact r7 k' w hk hw
    · simp (disch := omega) only [e_let, e_call, e_cal0, e_bind, e_lit, e_ofN, e_neg, nI_add, pk_mul, e_sub, e_ldi, e_sti, e_ldj, e_stj, e_le_t, e_le_f, e_lt_t, e_lt_f, e_eq_t, e_eq_f, e_no_eq, e_no_eq', e_no_rfl, e_no_lt, e_no_le, e_le_no, e_lt_no, if_true, if_false, ↓reduceIte, e_rs, e_rq, e_rn, e_ji, e_ki, e_ij, e_kj, e_js, e_jq, e_jn, e_cs, e_cq, e_jc, e_kc, e_js', e_jcq, e_icj, e_kcj, or_true, true_or, or_false, false_or, and_true, true_and, not_true_eq_false, not_false_eq_true]; exact r8 j y hy
    · show _ = q_ix (q_F M) (va_up (q_ce M) c (some x) c')
      by_cases hcc : c' = c
      · subst hcc; rw [va_up_self]; simp (disch := omega) only [e_let, e_call, e_cal0, e_bind, e_lit, e_ofN, e_neg, nI_add, pk_mul, e_sub, e_ldi, e_sti, e_ldj, e_stj, e_le_t, e_le_f, e_lt_t, e_lt_f, e_eq_t, e_eq_f, e_no_eq, e_no_eq', e_no_rfl, e_no_lt, e_no_le, e_le_no, e_lt_no, if_true, if_false, ↓reduceIte, e_rs, e_rq, e_rn, e_ji, e_ki, e_ij, e_kj, e_js, e_jq, e_jn, e_cs, e_cq, e_jc, e_kc, e_js', e_jcq, e_icj, e_kcj, or_true, true_or, or_false, false_or, and_true, true_and, not_true_eq_false, not_false_eq_true]; rfl
      · rw [va_up_ne _ _ hcc]; simp (disch := omega) only [e_let, e_call, e_cal0, e_bind, e_lit, e_ofN, e_neg, nI_add, pk_mul, e_sub, e_ldi, e_sti, e_ldj, e_stj, e_le_t, e_le_f, e_lt_t, e_lt_f, e_eq_t, e_eq_f, e_no_eq, e_no_eq', e_no_rfl, e_no_lt, e_no_le, e_le_no, e_lt_no, if_true, if_false, ↓reduceIte, e_rs, e_rq, e_rn, e_ji, e_ki, e_ij, e_kj, e_js, e_jq, e_jn, e_cs, e_cq, e_jc, e_kc, e_js', e_jcq, e_icj, e_kcj, or_true, true_or, or_false, false_or, and_true, true_and, not_true_eq_false, not_false_eq_true]; exact r9 c' hc'
    · show _ = nI (va_up (q_sk M) c (fun s => q_K P M (p_fi P f + i) s) c' s)
      by_cases hcc : c' = c
      · subst hcc
        rw [va_up_self]
        by_cases h1 : s = 1
        · subst h1; simp (disch := omega) only [e_let, e_call, e_cal0, e_bind, e_lit, e_ofN, e_neg, nI_add, pk_mul, e_sub, e_ldi, e_sti, e_ldj, e_stj, e_le_t, e_le_f, e_lt_t, e_lt_f, e_eq_t, e_eq_f, e_no_eq, e_no_eq', e_no_rfl, e_no_lt, e_no_le, e_le_no, e_lt_no, if_true, if_false, ↓reduceIte, e_rs, e_rq, e_rn, e_ji, e_ki, e_ij, e_kj, e_js, e_jq, e_jn, e_cs, e_cq, e_jc, e_kc, e_js', e_jcq, e_icj, e_kcj, or_true, true_or, or_false, false_or, and_true, true_and, not_true_eq_false, not_false_eq_true]
        · have h0 : s = 0 := by omega
          subst h0; simp (disch := omega) only [e_let, e_call, e_cal0, e_bind, e_lit, e_ofN, e_neg, nI_add, pk_mul, e_sub, e_ldi, e_sti, e_ldj, e_stj, e_le_t, e_le_f, e_lt_t, e_lt_f, e_eq_t, e_eq_f, e_no_eq, e_no_eq', e_no_rfl, e_no_lt, e_no_le, e_le_no, e_lt_no, if_true, if_false, ↓reduceIte, e_rs, e_rq, e_rn, e_ji, e_ki, e_ij, e_kj, e_js, e_jq, e_jn, e_cs, e_cq, e_jc, e_kc, e_js', e_jcq, e_icj, e_kcj, or_true, true_or, or_false, false_or, and_true, true_and, not_true_eq_false, not_false_eq_true]
      · have hl' : va_up (q_ce M) c (some x) c' ≠ none := hl'
        rw [va_up_ne _ _ hcc] at hl' ⊢
        simp (disch := omega) only [e_let, e_call, e_cal0, e_bind, e_lit, e_ofN, e_neg, nI_add, pk_mul, e_sub, e_ldi, e_sti, e_ldj, e_stj, e_le_t, e_le_f, e_lt_t, e_lt_f, e_eq_t, e_eq_f, e_no_eq, e_no_eq', e_no_rfl, e_no_lt, e_no_le, e_le_no, e_lt_no, if_true, if_false, ↓reduceIte, e_rs, e_rq, e_rn, e_ji, e_ki, e_ij, e_kj, e_js, e_jq, e_jn, e_cs, e_cq, e_jc, e_kc, e_js', e_jcq, e_icj, e_kcj, or_true, true_or, or_false, false_or, and_true, true_and, not_true_eq_false, not_false_eq_true]; exact r10 c' s hc' hs hl'
    · show _ = va_up (q_sv M) c (fun s => q_V P M (p_fi P f + i) s) c' s
      by_cases hcc : c' = c
      · subst hcc
        rw [va_up_self]
        by_cases h1 : s = 1
        · subst h1; simp (disch := omega) only [e_let, e_call, e_cal0, e_bind, e_lit, e_ofN, e_neg, nI_add, pk_mul, e_sub, e_ldi, e_sti, e_ldj, e_stj, e_le_t, e_le_f, e_lt_t, e_lt_f, e_eq_t, e_eq_f, e_no_eq, e_no_eq', e_no_rfl, e_no_lt, e_no_le, e_le_no, e_lt_no, if_true, if_false, ↓reduceIte, e_rs, e_rq, e_rn, e_ji, e_ki, e_ij, e_kj, e_js, e_jq, e_jn, e_cs, e_cq, e_jc, e_kc, e_js', e_jcq, e_icj, e_kcj, or_true, true_or, or_false, false_or, and_true, true_and, not_true_eq_false, not_false_eq_true]
        · have h0 : s = 0 := by omega
          subst h0; simp (disch := omega) only [e_let, e_call, e_cal0, e_bind, e_lit, e_ofN, e_neg, nI_add, pk_mul, e_sub, e_ldi, e_sti, e_ldj, e_stj, e_le_t, e_le_f, e_lt_t, e_lt_f, e_eq_t, e_eq_f, e_no_eq, e_no_eq', e_no_rfl, e_no_lt, e_no_le, e_le_no, e_lt_no, if_true, if_false, ↓reduceIte, e_rs, e_rq, e_rn, e_ji, e_ki, e_ij, e_kj, e_js, e_jq, e_jn, e_cs, e_cq, e_jc, e_kc, e_js', e_jcq, e_icj, e_kcj, or_true, true_or, or_false, false_or, and_true, true_and, not_true_eq_false, not_false_eq_true]
      · have hl' : va_up (q_ce M) c (some x) c' ≠ none := hl'
        rw [va_up_ne _ _ hcc] at hl' ⊢
        simp (disch := omega) only [e_let, e_call, e_cal0, e_bind, e_lit, e_ofN, e_neg, nI_add, pk_mul, e_sub, e_ldi, e_sti, e_ldj, e_stj, e_le_t, e_le_f, e_lt_t, e_lt_f, e_eq_t, e_eq_f, e_no_eq, e_no_eq', e_no_rfl, e_no_lt, e_no_le, e_le_no, e_lt_no, if_true, if_false, ↓reduceIte, e_rs, e_rq, e_rn, e_ji, e_ki, e_ij, e_kj, e_js, e_jq, e_jn, e_cs, e_cq, e_jc, e_kc, e_js', e_jcq, e_icj, e_kcj, or_true, true_or, or_false, false_or, and_true, true_and, not_true_eq_false, not_false_eq_true]; exact r11 c' s hc' hs hl'
  · refine e_O.si (e_O.si (e_O.si (e_O.si (e_O.si (e_O.si (e_O.si (e_O.si e_O.rf ?_ ?_) ?_ ?_) ?_ ?_) ?_ ?_) ?_ ?_) ?_ ?_) ?_ ?_) ?_ ?_ <;> omega
end QJ
