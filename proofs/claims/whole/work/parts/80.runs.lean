/-! runs: both sides -/
def q_run (P : pP) (D : pD) : Nat → qM → qM
  | 0, M => M
  | n + 1, M => if q_sc M 0 = 1 then q_run P D n (q_step P D M) else M
def w_run (P : pP) (D : pD) : Nat → qM → Nat → Nat
  | 0, _, w => w
  | n + 1, M, w => if q_sc M 0 = 1 then w_run P D n (q_step P D M) (if w < w_dr P (q_step P D M) then w_dr P (q_step P D M) else w) else w
def q_cnt (P : pP) (D : pD) : Nat → qM → Nat
  | 0, _ => 0
  | n + 1, M => if q_sc M 0 = 1 then q_cnt P D n (q_step P D M) + 1 else 0
section RA
variable {S : m_M} {x : Nat} {P : pP} {D : pD} {M : qM}
theorem q_Q.B (h : q_Q P D M) : q_B P M ∧ q_L P M := by
  rcases h with ⟨z0, zI, -⟩ | ⟨-, z1, z2⟩
  · exact ⟨zI.1, zI.live (by omega)⟩
  · exact ⟨z1, z2⟩
theorem q_Q.Z (h : q_Q P D M) (h0 : q_sc M 0 = 1) : q_Z P D M := by
  rcases h with h | ⟨h, -⟩
  · exact h
  · exact absurd h0 h
theorem q_run_no {n : Nat} (h : q_sc M 0 ≠ 1) : q_run P D n M = M ∧ (∀ w, w_run P D n M w = w) ∧ q_cnt P D n M = 0 := by
  cases n with
  | zero => exact ⟨rfl, fun _ => rfl, rfl⟩
  | succ n => exact ⟨by rw [q_run, if_neg h], fun w => by rw [w_run, if_neg h], by rw [q_cnt, if_neg h]⟩
theorem q_run_Q (hW : p_W P) (hSd : d_S D) (hG : d_G P D) : ∀ (n : Nat) (M : qM), q_Q P D M → q_Q P D (q_run P D n M) := by
  intro n
  induction n with
  | zero => intro M h; exact h
  | succ n ih =>
    intro M h
    rw [q_run]
    by_cases h0 : q_sc M 0 = 1
    · rw [if_pos h0]; exact ih _ (i_step hW hSd hG (h.Z h0)).2.2.1
    · rw [if_neg h0]; exact h
theorem q_run_end (hW : p_W P) (hSd : d_S D) (hG : d_G P D) : ∀ (n : Nat) (M : qM), q_Q P D M → (q_sc M 0 = 1 → 5001 ≤ n + q_sc M 6) → q_sc (q_run P D n M) 0 ≠ 1 := by
  intro n
  induction n with
  | zero =>
    intro M h hn h0
    have := (h.Z h0).2.2.2.1
    have := hn h0
    omega
  | succ n ih =>
    intro M h hn
    rw [q_run]
    by_cases h0 : q_sc M 0 = 1
    · rw [if_pos h0]
      obtain ⟨-, -, i3, i4⟩ := i_step hW hSd hG (h.Z h0)
      exact ih _ i3 (fun _ => by have := hn h0; omega)
    · rw [if_neg h0]; exact h0
theorem w_dr_le (hB : q_B P M) : w_dr P M ≤ 200 := by
  have h1 := hB.2.2.2.2.2.2.1
  have h2 := fb_ct_le (fun c => (q_ce M c).isSome) 200
  simp only [w_dr]; omega
theorem k_run (hW : p_W P) (hSd : d_S D) (hG : d_G P D) : ∀ (n i fu : Nat) (S : m_M) (M : qM) (w : Nat), n < fu → q_Q P D M → (q_sc M 0 = 1 → i = q_sc M 6 ∧ 5001 ≤ n + i ∧ w_dr P M ≤ w) → i ≤ 5001 → w ≤ 200 → q_P S (x + 84) (x + 48) P D → q_R S (x + 84) M →
    ∃ S', b_X11_run_25 x fu S (nI w) (nI i) = b_X11_run_115 x S' (nI (w_run P D n M w)) ∧ q_R S' (x + 84) (q_run P D n M) ∧ e_O (x + 84) (x + 96) S S' := by
  intro n
  induction n with
  | zero =>
    intro i fu S M w hf hQ hr hi hw C hM
    obtain ⟨fu, rfl⟩ : ∃ f, fu = f + 1 := ⟨fu - 1, by omega⟩
    have h0 : q_sc M 0 ≠ 1 := fun h0 => by
      have := (hQ.Z h0).2.2.2.1
      have := hr h0
      omega
    have h4 := hQ.B.1.2.2.2.2.2.2.2.2.2.2.2.2.1
    have s0 := hM.1 0 (by omega) (by omega) (by omega)
    refine ⟨S, ?_, hM, e_O.rf⟩
    show _ = b_X11_run_115 x S (nI w)
    by_cases h5 : 5000 < i
    · simp (disch := omega) only [e_let, e_call, e_cal0, e_bind, e_lit, e_ofN, e_neg, nI_add, pk_mul, e_sub, e_ldi, e_sti, e_ldj, e_stj, e_le_t, e_le_f, e_lt_t, e_lt_f, e_eq_t, e_eq_f, e_no_eq, e_no_eq', e_no_rfl, e_no_lt, e_no_le, e_le_no, e_lt_no, if_true, if_false, ↓reduceIte, e_rs, e_rq, e_rn, e_ji, e_ki, e_ij, e_kj, e_js, e_jq, e_jn, e_cs, e_cq, e_jc, e_kc, e_js', e_jcq, e_icj, e_kcj, or_true, true_or, or_false, false_or, and_true, true_and, not_true_eq_false, not_false_eq_true, b_X11_run_25]
    · simp (disch := omega) only [e_let, e_call, e_cal0, e_bind, e_lit, e_ofN, e_neg, nI_add, pk_mul, e_sub, e_ldi, e_sti, e_ldj, e_stj, e_le_t, e_le_f, e_lt_t, e_lt_f, e_eq_t, e_eq_f, e_no_eq, e_no_eq', e_no_rfl, e_no_lt, e_no_le, e_le_no, e_lt_no, if_true, if_false, ↓reduceIte, e_rs, e_rq, e_rn, e_ji, e_ki, e_ij, e_kj, e_js, e_jq, e_jn, e_cs, e_cq, e_jc, e_kc, e_js', e_jcq, e_icj, e_kcj, or_true, true_or, or_false, false_or, and_true, true_and, not_true_eq_false, not_false_eq_true, b_X11_run_25, s0]
  | succ n ih =>
    intro i fu S M w hf hQ hr hi hw C hM
    obtain ⟨fu, rfl⟩ : ∃ f, fu = f + 1 := ⟨fu - 1, by omega⟩
    have h4 := hQ.B.1.2.2.2.2.2.2.2.2.2.2.2.2.1
    have s0 := hM.1 0 (by omega) (by omega) (by omega)
    by_cases h0 : q_sc M 0 = 1
    · have hZ := hQ.Z h0
      obtain ⟨r1, r2, r3⟩ := hr h0
      obtain ⟨p1, p2, p3, p4⟩ := i_step hW hSd hG hZ
      have h5 := hZ.2.2.2.1
      rw [h0] at s0
      obtain ⟨S1, f1, f2, f3⟩ := k_step C hM p1
      have C1 := C.kept f3
      obtain ⟨hB1, hL1⟩ := p3.B
      have s11 := f2.1 11 (by omega) (by omega) (by omega)
      have s4 := f2.1 4 (by omega) (by omega) (by omega)
      have b11 := hB1.2.2.2.2.2.2.2.2.2.2.2.2.2.2.1
      have hdl := w_dr_le hB1
      have hlen := (w_dr_un hB1 hL1).2
      have hc4 : q_sc (q_step P D M) 4 ≤ 200 := by rw [hB1.2.2.2.2.2.2.1]; exact fb_ct_le _ _
      have f3' : e_O (x + 84) (x + 96) S S1 := f3.wide (by omega) (by omega)
      rw [q_run, if_pos h0, w_run, if_pos h0]
      by_cases hl : q_sc (q_step P D M) 11 = 0
      · rw [hl] at s11
        have hdr := w_step hW hSd hG hZ hl
        rw [if_neg (by omega)]
        obtain ⟨S', g1, g2, g3⟩ := ih (i + 1) fu S1 _ w (by omega) p3 (fun _ => ⟨by omega, by omega, by omega⟩) (by omega) hw C1 f2
        refine ⟨S', ?_, g2, f3'.tr g3⟩
        rw [← g1]
        simp (disch := omega) only [e_let, e_call, e_cal0, e_bind, e_lit, e_ofN, e_neg, nI_add, pk_mul, e_sub, e_ldi, e_sti, e_ldj, e_stj, e_le_t, e_le_f, e_lt_t, e_lt_f, e_eq_t, e_eq_f, e_no_eq, e_no_eq', e_no_rfl, e_no_lt, e_no_le, e_le_no, e_lt_no, if_true, if_false, ↓reduceIte, e_rs, e_rq, e_rn, e_ji, e_ki, e_ij, e_kj, e_js, e_jq, e_jn, e_cs, e_cq, e_jc, e_kc, e_js', e_jcq, e_icj, e_kcj, or_true, true_or, or_false, false_or, and_true, true_and, not_true_eq_false, not_false_eq_true, b_X11_run_25, s0, f1, s11, b_X11_run_109]
      · by_cases hc : q_sc (q_step P D M) 4 ≤ w
        · have hdr : w_dr P (q_step P D M) ≤ w := by simp only [w_dr]; omega
          rw [if_neg (by omega)]
          obtain ⟨S', g1, g2, g3⟩ := ih (i + 1) fu S1 _ w (by omega) p3 (fun _ => ⟨by omega, by omega, by omega⟩) (by omega) hw C1 f2
          refine ⟨S', ?_, g2, f3'.tr g3⟩
          rw [← g1]
          simp (disch := omega) only [e_let, e_call, e_cal0, e_bind, e_lit, e_ofN, e_neg, nI_add, pk_mul, e_sub, e_ldi, e_sti, e_ldj, e_stj, e_le_t, e_le_f, e_lt_t, e_lt_f, e_eq_t, e_eq_f, e_no_eq, e_no_eq', e_no_rfl, e_no_lt, e_no_le, e_le_no, e_lt_no, if_true, if_false, ↓reduceIte, e_rs, e_rq, e_rn, e_ji, e_ki, e_ij, e_kj, e_js, e_jq, e_jn, e_cs, e_cq, e_jc, e_kc, e_js', e_jcq, e_icj, e_kcj, or_true, true_or, or_false, false_or, and_true, true_and, not_true_eq_false, not_false_eq_true, b_X11_run_25, s0, f1, s11, s4, hl, b_X11_run_109]
        · obtain ⟨S2, d1, -, d3⟩ := k_count (a := x + 84) (b := x + 93) (p := x + 48) ⟨by omega, by omega⟩ C1 f2 hB1 hL1
          have hO2 : e_O (x + 84) (x + 96) S S2 := f3'.tr (d3.wide (by omega) (by omega))
          have hap : w_ap (x + 84) (x + 93) (x + 48) := ⟨by omega, by omega⟩
          obtain ⟨S', g1, g2, g3⟩ := ih (i + 1) fu S2 _ (if w < w_dr P (q_step P D M) then w_dr P (q_step P D M) else w) (by omega) p3 (fun _ => ⟨by omega, by omega, by split <;> omega⟩) (by omega) (by split <;> omega) (w_kP C1 hap d3) (w_kR f2 hap d3)
          refine ⟨S', ?_, g2, hO2.tr g3⟩
          rw [← g1]
          have hdr : q_sc (q_step P D M) 4 - (w_all P (q_step P D M)).length = w_dr P (q_step P D M) := rfl
          by_cases hlt : w < w_dr P (q_step P D M)
          · rw [if_pos hlt]
            simp (disch := omega) only [e_let, e_call, e_cal0, e_bind, e_lit, e_ofN, e_neg, nI_add, pk_mul, e_sub, e_ldi, e_sti, e_ldj, e_stj, e_le_t, e_le_f, e_lt_t, e_lt_f, e_eq_t, e_eq_f, e_no_eq, e_no_eq', e_no_rfl, e_no_lt, e_no_le, e_le_no, e_lt_no, if_true, if_false, ↓reduceIte, e_rs, e_rq, e_rn, e_ji, e_ki, e_ij, e_kj, e_js, e_jq, e_jn, e_cs, e_cq, e_jc, e_kc, e_js', e_jcq, e_icj, e_kcj, or_true, true_or, or_false, false_or, and_true, true_and, not_true_eq_false, not_false_eq_true, b_X11_run_25, s0, f1, s11, s4, hl, d1, hdr, b_X11_run_109]
          · rw [if_neg hlt]
            simp (disch := omega) only [e_let, e_call, e_cal0, e_bind, e_lit, e_ofN, e_neg, nI_add, pk_mul, e_sub, e_ldi, e_sti, e_ldj, e_stj, e_le_t, e_le_f, e_lt_t, e_lt_f, e_eq_t, e_eq_f, e_no_eq, e_no_eq', e_no_rfl, e_no_lt, e_no_le, e_le_no, e_lt_no, if_true, if_false, ↓reduceIte, e_rs, e_rq, e_rn, e_ji, e_ki, e_ij, e_kj, e_js, e_jq, e_jn, e_cs, e_cq, e_jc, e_kc, e_js', e_jcq, e_icj, e_kcj, or_true, true_or, or_false, false_or, and_true, true_and, not_true_eq_false, not_false_eq_true, b_X11_run_25, s0, f1, s11, s4, hl, d1, hdr, b_X11_run_109]
    · rw [q_run, if_neg h0, w_run, if_neg h0]
      refine ⟨S, ?_, hM, e_O.rf⟩
      by_cases h5 : 5000 < i
      · simp (disch := omega) only [e_let, e_call, e_cal0, e_bind, e_lit, e_ofN, e_neg, nI_add, pk_mul, e_sub, e_ldi, e_sti, e_ldj, e_stj, e_le_t, e_le_f, e_lt_t, e_lt_f, e_eq_t, e_eq_f, e_no_eq, e_no_eq', e_no_rfl, e_no_lt, e_no_le, e_le_no, e_lt_no, if_true, if_false, ↓reduceIte, e_rs, e_rq, e_rn, e_ji, e_ki, e_ij, e_kj, e_js, e_jq, e_jn, e_cs, e_cq, e_jc, e_kc, e_js', e_jcq, e_icj, e_kcj, or_true, true_or, or_false, false_or, and_true, true_and, not_true_eq_false, not_false_eq_true, b_X11_run_25]
      · simp (disch := omega) only [e_let, e_call, e_cal0, e_bind, e_lit, e_ofN, e_neg, nI_add, pk_mul, e_sub, e_ldi, e_sti, e_ldj, e_stj, e_le_t, e_le_f, e_lt_t, e_lt_f, e_eq_t, e_eq_f, e_no_eq, e_no_eq', e_no_rfl, e_no_lt, e_no_le, e_le_no, e_lt_no, if_true, if_false, ↓reduceIte, e_rs, e_rq, e_rn, e_ji, e_ki, e_ij, e_kj, e_js, e_jq, e_jn, e_cs, e_cq, e_jc, e_kc, e_js', e_jcq, e_icj, e_kcj, or_true, true_or, or_false, false_or, and_true, true_and, not_true_eq_false, not_false_eq_true, b_X11_run_25, s0]
theorem k_ends (hW : p_W P) (hSd : d_S D) (hG : d_G P D) : ∀ (n i fu : Nat) (S : m_M) (M : qM), n < fu → q_Q P D M → (q_sc M 0 = 1 → i = q_sc M 6 ∧ 5001 ≤ n + i) → i ≤ 5001 → q_P S (x + 84) (x + 48) P D → q_R S (x + 84) M →
    ∃ S', b_X11_endsByDraws_73 x fu S (nI i) = some (nI (if q_sc (q_run P D n M) 0 = 2 then 1 else 0), S') ∧ e_O (x + 84) (x + 93) S S' := by
  have fin : ∀ (S : m_M) (M : qM), q_R S (x + 84) M → q_Q P D M → b_X11_endsByDraws_112 x S = some (nI (if q_sc M 0 = 2 then 1 else 0), S) := fun S M hM hQ => by
    have h4 := hQ.B.1.2.2.2.2.2.2.2.2.2.2.2.2.1
    have s0 := hM.1 0 (by omega) (by omega) (by omega)
    by_cases h2 : q_sc M 0 = 2
    · rw [if_pos h2]; rw [h2] at s0
      simp (disch := omega) only [e_let, e_call, e_cal0, e_bind, e_lit, e_ofN, e_neg, nI_add, pk_mul, e_sub, e_ldi, e_sti, e_ldj, e_stj, e_le_t, e_le_f, e_lt_t, e_lt_f, e_eq_t, e_eq_f, e_no_eq, e_no_eq', e_no_rfl, e_no_lt, e_no_le, e_le_no, e_lt_no, if_true, if_false, ↓reduceIte, e_rs, e_rq, e_rn, e_ji, e_ki, e_ij, e_kj, e_js, e_jq, e_jn, e_cs, e_cq, e_jc, e_kc, e_js', e_jcq, e_icj, e_kcj, or_true, true_or, or_false, false_or, and_true, true_and, not_true_eq_false, not_false_eq_true, b_X11_endsByDraws_112, s0, b_X11_endsByDraws_128]
    · rw [if_neg h2]
      simp (disch := omega) only [e_let, e_call, e_cal0, e_bind, e_lit, e_ofN, e_neg, nI_add, pk_mul, e_sub, e_ldi, e_sti, e_ldj, e_stj, e_le_t, e_le_f, e_lt_t, e_lt_f, e_eq_t, e_eq_f, e_no_eq, e_no_eq', e_no_rfl, e_no_lt, e_no_le, e_le_no, e_lt_no, if_true, if_false, ↓reduceIte, e_rs, e_rq, e_rn, e_ji, e_ki, e_ij, e_kj, e_js, e_jq, e_jn, e_cs, e_cq, e_jc, e_kc, e_js', e_jcq, e_icj, e_kcj, or_true, true_or, or_false, false_or, and_true, true_and, not_true_eq_false, not_false_eq_true, b_X11_endsByDraws_112, s0, b_X11_endsByDraws_128]
  intro n
  induction n with
  | zero =>
    intro i fu S M hf hQ hr hi C hM
    obtain ⟨fu, rfl⟩ : ∃ f, fu = f + 1 := ⟨fu - 1, by omega⟩
    have h0 : q_sc M 0 ≠ 1 := fun h0 => by
      have := (hQ.Z h0).2.2.2.1
      have := hr h0
      omega
    have h4 := hQ.B.1.2.2.2.2.2.2.2.2.2.2.2.2.1
    have s0 := hM.1 0 (by omega) (by omega) (by omega)
    refine ⟨S, ?_, e_O.rf⟩
    show _ = some (nI (if q_sc M 0 = 2 then 1 else 0), S)
    rw [← fin S M hM hQ]
    by_cases h5 : 5000 < i
    · simp (disch := omega) only [e_let, e_call, e_cal0, e_bind, e_lit, e_ofN, e_neg, nI_add, pk_mul, e_sub, e_ldi, e_sti, e_ldj, e_stj, e_le_t, e_le_f, e_lt_t, e_lt_f, e_eq_t, e_eq_f, e_no_eq, e_no_eq', e_no_rfl, e_no_lt, e_no_le, e_le_no, e_lt_no, if_true, if_false, ↓reduceIte, e_rs, e_rq, e_rn, e_ji, e_ki, e_ij, e_kj, e_js, e_jq, e_jn, e_cs, e_cq, e_jc, e_kc, e_js', e_jcq, e_icj, e_kcj, or_true, true_or, or_false, false_or, and_true, true_and, not_true_eq_false, not_false_eq_true, b_X11_endsByDraws_73]
    · simp (disch := omega) only [e_let, e_call, e_cal0, e_bind, e_lit, e_ofN, e_neg, nI_add, pk_mul, e_sub, e_ldi, e_sti, e_ldj, e_stj, e_le_t, e_le_f, e_lt_t, e_lt_f, e_eq_t, e_eq_f, e_no_eq, e_no_eq', e_no_rfl, e_no_lt, e_no_le, e_le_no, e_lt_no, if_true, if_false, ↓reduceIte, e_rs, e_rq, e_rn, e_ji, e_ki, e_ij, e_kj, e_js, e_jq, e_jn, e_cs, e_cq, e_jc, e_kc, e_js', e_jcq, e_icj, e_kcj, or_true, true_or, or_false, false_or, and_true, true_and, not_true_eq_false, not_false_eq_true, b_X11_endsByDraws_73, s0]
  | succ n ih =>
    intro i fu S M hf hQ hr hi C hM
    obtain ⟨fu, rfl⟩ : ∃ f, fu = f + 1 := ⟨fu - 1, by omega⟩
    have h4 := hQ.B.1.2.2.2.2.2.2.2.2.2.2.2.2.1
    have s0 := hM.1 0 (by omega) (by omega) (by omega)
    by_cases h0 : q_sc M 0 = 1
    · have hZ := hQ.Z h0
      obtain ⟨r1, r2⟩ := hr h0
      obtain ⟨p1, p2, p3, p4⟩ := i_step hW hSd hG hZ
      have h5 := hZ.2.2.2.1
      rw [h0] at s0
      obtain ⟨S1, f1, f2, f3⟩ := k_step C hM p1
      obtain ⟨S', g1, g2⟩ := ih (i + 1) fu S1 _ (by omega) p3 (fun _ => ⟨by omega, by omega⟩) (by omega) (C.kept f3) f2
      rw [q_run, if_pos h0]
      refine ⟨S', ?_, f3.tr g2⟩
      rw [← g1]
      simp (disch := omega) only [e_let, e_call, e_cal0, e_bind, e_lit, e_ofN, e_neg, nI_add, pk_mul, e_sub, e_ldi, e_sti, e_ldj, e_stj, e_le_t, e_le_f, e_lt_t, e_lt_f, e_eq_t, e_eq_f, e_no_eq, e_no_eq', e_no_rfl, e_no_lt, e_no_le, e_le_no, e_lt_no, if_true, if_false, ↓reduceIte, e_rs, e_rq, e_rn, e_ji, e_ki, e_ij, e_kj, e_js, e_jq, e_jn, e_cs, e_cq, e_jc, e_kc, e_js', e_jcq, e_icj, e_kcj, or_true, true_or, or_false, false_or, and_true, true_and, not_true_eq_false, not_false_eq_true, b_X11_endsByDraws_73, s0, f1]
    · rw [q_run, if_neg h0]
      refine ⟨S, ?_, e_O.rf⟩
      rw [← fin S M hM hQ]
      by_cases h5 : 5000 < i
      · simp (disch := omega) only [e_let, e_call, e_cal0, e_bind, e_lit, e_ofN, e_neg, nI_add, pk_mul, e_sub, e_ldi, e_sti, e_ldj, e_stj, e_le_t, e_le_f, e_lt_t, e_lt_f, e_eq_t, e_eq_f, e_no_eq, e_no_eq', e_no_rfl, e_no_lt, e_no_le, e_le_no, e_lt_no, if_true, if_false, ↓reduceIte, e_rs, e_rq, e_rn, e_ji, e_ki, e_ij, e_kj, e_js, e_jq, e_jn, e_cs, e_cq, e_jc, e_kc, e_js', e_jcq, e_icj, e_kcj, or_true, true_or, or_false, false_or, and_true, true_and, not_true_eq_false, not_false_eq_true, b_X11_endsByDraws_73]
      · simp (disch := omega) only [e_let, e_call, e_cal0, e_bind, e_lit, e_ofN, e_neg, nI_add, pk_mul, e_sub, e_ldi, e_sti, e_ldj, e_stj, e_le_t, e_le_f, e_lt_t, e_lt_f, e_eq_t, e_eq_f, e_no_eq, e_no_eq', e_no_rfl, e_no_lt, e_no_le, e_le_no, e_lt_no, if_true, if_false, ↓reduceIte, e_rs, e_rq, e_rn, e_ji, e_ki, e_ij, e_kj, e_js, e_jq, e_jn, e_cs, e_cq, e_jc, e_kc, e_js', e_jcq, e_icj, e_kcj, or_true, true_or, or_false, false_or, and_true, true_and, not_true_eq_false, not_false_eq_true, b_X11_endsByDraws_73, s0]
theorem k_steps (hW : p_W P) (hSd : d_S D) (hG : d_G P D) {nx n : Nat} (hn : n ≤ 500) : ∀ (d j fu : Nat) (S : m_M) (M : qM), j + d = n → d < fu → q_Q P D M → q_P S (x + 70) (x + 48) P D → q_R S (x + 70) M →
    ∃ S', b_X11_steps_48 nx x fu S (nI n) (nI j) (nI j) = some (nI (j + q_cnt P D d M), S') ∧ q_R S' (x + 70) (q_run P D d M) ∧ e_O (x + 70) (x + 79) S S' := by
  intro d
  induction d with
  | zero =>
    intro j fu S M hj hf hQ C hM
    obtain ⟨fu, rfl⟩ : ∃ f, fu = f + 1 := ⟨fu - 1, by omega⟩
    refine ⟨S, ?_, hM, e_O.rf⟩
    show _ = some (nI j, S)
    simp (disch := omega) only [e_let, e_call, e_cal0, e_bind, e_lit, e_ofN, e_neg, nI_add, pk_mul, e_sub, e_ldi, e_sti, e_ldj, e_stj, e_le_t, e_le_f, e_lt_t, e_lt_f, e_eq_t, e_eq_f, e_no_eq, e_no_eq', e_no_rfl, e_no_lt, e_no_le, e_le_no, e_lt_no, if_true, if_false, ↓reduceIte, e_rs, e_rq, e_rn, e_ji, e_ki, e_ij, e_kj, e_js, e_jq, e_jn, e_cs, e_cq, e_jc, e_kc, e_js', e_jcq, e_icj, e_kcj, or_true, true_or, or_false, false_or, and_true, true_and, not_true_eq_false, not_false_eq_true, b_X11_steps_48, b_X11_steps_93]
  | succ d ih =>
    intro j fu S M hj hf hQ C hM
    obtain ⟨fu, rfl⟩ : ∃ f, fu = f + 1 := ⟨fu - 1, by omega⟩
    have h4 := hQ.B.1.2.2.2.2.2.2.2.2.2.2.2.2.1
    have s0 := hM.1 0 (by omega) (by omega) (by omega)
    rw [q_run, q_cnt]
    by_cases h0 : q_sc M 0 = 1
    · obtain ⟨p1, p2, p3, p4⟩ := i_step hW hSd hG (hQ.Z h0)
      rw [h0] at s0
      obtain ⟨S1, f1, f2, f3⟩ := k_step C hM p1
      obtain ⟨S', g1, g2, g3⟩ := ih (j + 1) fu S1 _ (by omega) (by omega) p3 (C.kept f3) f2
      rw [if_pos h0, if_pos h0]
      refine ⟨S', ?_, g2, f3.tr g3⟩
      rw [show j + (q_cnt P D d (q_step P D M) + 1) = j + 1 + q_cnt P D d (q_step P D M) by omega, ← g1]
      simp (disch := omega) only [e_let, e_call, e_cal0, e_bind, e_lit, e_ofN, e_neg, nI_add, pk_mul, e_sub, e_ldi, e_sti, e_ldj, e_stj, e_le_t, e_le_f, e_lt_t, e_lt_f, e_eq_t, e_eq_f, e_no_eq, e_no_eq', e_no_rfl, e_no_lt, e_no_le, e_le_no, e_lt_no, if_true, if_false, ↓reduceIte, e_rs, e_rq, e_rn, e_ji, e_ki, e_ij, e_kj, e_js, e_jq, e_jn, e_cs, e_cq, e_jc, e_kc, e_js', e_jcq, e_icj, e_kcj, or_true, true_or, or_false, false_or, and_true, true_and, not_true_eq_false, not_false_eq_true, b_X11_steps_48, s0, f1]
    · rw [if_neg h0, if_neg h0]
      refine ⟨S, ?_, hM, e_O.rf⟩
      show _ = some (nI j, S)
      simp (disch := omega) only [e_let, e_call, e_cal0, e_bind, e_lit, e_ofN, e_neg, nI_add, pk_mul, e_sub, e_ldi, e_sti, e_ldj, e_stj, e_le_t, e_le_f, e_lt_t, e_lt_f, e_eq_t, e_eq_f, e_no_eq, e_no_eq', e_no_rfl, e_no_lt, e_no_le, e_le_no, e_lt_no, if_true, if_false, ↓reduceIte, e_rs, e_rq, e_rn, e_ji, e_ki, e_ij, e_kj, e_js, e_jq, e_jn, e_cs, e_cq, e_jc, e_kc, e_js', e_jcq, e_icj, e_kcj, or_true, true_or, or_false, false_or, and_true, true_and, not_true_eq_false, not_false_eq_true, b_X11_steps_48, s0, b_X11_steps_93]
end RA
/-! the other side -/
def r_O3 (m : Nat) (T T' : m_M) : Prop := (∀ q, q ≠ m → q ≠ m + 2 → q ≠ m + 23 → q ≠ m + 24 → q ≠ m + 25 → q ≠ m + 26 → q ≠ m + 28 → m_ri T' q = m_ri T q) ∧ (∀ j, j ≠ 41 → j ≠ 45 → m_ri T' m j = m_ri T m j) ∧ (∀ j, j < 210 ∨ 2405 ≤ j → m_ri T' (m + 2) j = m_ri T (m + 2) j) ∧ m_rj T' = m_rj T ∧ m_rr T' = m_rr T
section RB
variable {T : m_M} {m z : Nat} {P : pP} {D : pD} {M : qM}
theorem r_O3.rf : r_O3 m T T := ⟨fun _ _ _ _ _ _ _ _ => rfl, fun _ _ _ => rfl, fun _ _ => rfl, rfl, rfl⟩
theorem r_O3.tr {T' T'' : m_M} (h : r_O3 m T T') (h' : r_O3 m T' T'') : r_O3 m T T'' := ⟨fun q h1 h2 h3 h4 h5 h6 h7 => (h'.1 q h1 h2 h3 h4 h5 h6 h7).trans (h.1 q h1 h2 h3 h4 h5 h6 h7), fun j h1 h2 => (h'.2.1 j h1 h2).trans (h.2.1 j h1 h2), fun j hj => (h'.2.2.1 j hj).trans (h.2.2.1 j hj), h'.2.2.2.1.trans h.2.2.2.1, h'.2.2.2.2.trans h.2.2.2.2⟩
theorem r_O.to3 {T' : m_M} (h : r_O m T T') : r_O3 m T T' := ⟨fun q _ h2 h3 h4 _ _ _ => h.1 q h2 h3 h4, fun j _ _ => by rw [h.1 m (by omega) (by omega) (by omega)], h.2.1, h.2.2.1, h.2.2.2⟩
theorem w_O.to3 {T' : m_M} (h : w_O m T T') : r_O3 m T T' := ⟨fun q h1 _ _ _ h5 h6 _ => h.1 q h1 h5 h6, fun j h1 _ => h.2.1 j h1, fun j _ => by rw [h.now], h.2.2.1, h.2.2.2⟩
theorem r_O3.drn {T' : m_M} {j : Nat} {v : Int32} (h : r_O3 m T T') : r_O3 m T (m_si T' (m + 28) j v) := ⟨fun q h1 h2 h3 h4 h5 h6 h7 => by rw [e_rq h7]; exact h.1 q h1 h2 h3 h4 h5 h6 h7, fun j h1 h2 => by rw [e_rq (by omega)]; exact h.2.1 j h1 h2, fun j hj => by rw [e_rq (by omega)]; exact h.2.2.1 j hj, h.2.2.2.1, h.2.2.2.2⟩
theorem r_O3.sed {T' : m_M} {v : Int32} (h : r_O3 m T T') : r_O3 m T (m_si T' m 45 v) := ⟨fun q h1 h2 h3 h4 h5 h6 h7 => by rw [e_rq h1]; exact h.1 q h1 h2 h3 h4 h5 h6 h7, fun j h1 h2 => by rw [e_rn h2]; exact h.2.1 j h1 h2, fun j hj => by rw [e_rq (by omega)]; exact h.2.2.1 j hj, h.2.2.2.1, h.2.2.2.2⟩
theorem r_C.kep3 {T' : m_M} (h : r_C T m P D z) (w : r_O3 m T T') : r_C T' m P D z := by
  obtain ⟨h1, h2, h3, h4⟩ := h
  refine ⟨h1, h2.cong h1 (fun t ht => w.2.2.1 t (by omega)), ?_, h4⟩
  simp only [r_D, w.1 (m + 15) (by omega) (by omega) (by omega) (by omega) (by omega) (by omega) (by omega), w.1 (m + 16) (by omega) (by omega) (by omega) (by omega) (by omega) (by omega) (by omega), w.1 (m + 18) (by omega) (by omega) (by omega) (by omega) (by omega) (by omega) (by omega), w.1 (m + 20) (by omega) (by omega) (by omega) (by omega) (by omega) (by omega) (by omega), w.1 (m + 21) (by omega) (by omega) (by omega) (by omega) (by omega) (by omega) (by omega), w.2.2.1 2 (by omega)]
  exact h3
theorem j_drag (C : r_C T m P D z) (hM : r_R (m_ri T (m + 2)) M) (hB : q_B P M) (hL : q_L P M) : ∃ T', f_X12_dragNow m T = some (nI (w_dr P M), T') ∧ w_O m T T' := by
  obtain ⟨T1, f1, -, f3⟩ := j_mark C.1 C.2.1 hM hB hL
  have s4 := hM.2.2.2.1
  have hlen := (w_dr_un hB hL).2
  have hc4 : q_sc M 4 ≤ 200 := by rw [hB.2.2.2.2.2.2.1]; exact fb_ct_le _ _
  refine ⟨T1, ?_, f3⟩
  have hdr : q_sc M 4 - (w_all P M).length = w_dr P M := rfl
  simp (disch := omega) only [e_let, e_call, e_cal0, e_bind, e_lit, e_ofN, e_neg, nI_add, pk_mul, e_sub, e_ldi, e_sti, e_ldj, e_stj, e_le_t, e_le_f, e_lt_t, e_lt_f, e_eq_t, e_eq_f, e_no_eq, e_no_eq', e_no_rfl, e_no_lt, e_no_le, e_le_no, e_lt_no, if_true, if_false, ↓reduceIte, e_rs, e_rq, e_rn, e_ji, e_ki, e_ij, e_kj, e_js, e_jq, e_jn, e_cs, e_cq, e_jc, e_kc, e_js', e_jcq, e_icj, e_kcj, or_true, true_or, or_false, false_or, and_true, true_and, not_true_eq_false, not_false_eq_true, f_X12_dragNow, s4, f1, hdr]
theorem j_run (hSd : d_S D) (hG : d_G P D) : ∀ (n fu : Nat) (T : m_M) (M : qM) (w : Nat), n < fu → q_Q P D M → w ≤ 200 → r_C T m P D z → r_R (m_ri T (m + 2)) M →
    ∃ T' fu', b_X12_run_37 m fu T (nI w) = b_X12_run_37 m (fu' + 1) T' (nI (w_run P D n M w)) ∧ r_R (m_ri T' (m + 2)) (q_run P D n M) ∧ w_run P D n M w ≤ 200 ∧ r_O3 m T T' := by
  intro n
  induction n with
  | zero =>
    intro fu T M w hf hQ hw C hM
    obtain ⟨fu, rfl⟩ : ∃ f, fu = f + 1 := ⟨fu - 1, by omega⟩
    exact ⟨T, fu, rfl, hM, hw, r_O3.rf⟩
  | succ n ih =>
    intro fu T M w hf hQ hw C hM
    obtain ⟨fu, rfl⟩ : ∃ f, fu = f + 1 := ⟨fu - 1, by omega⟩
    have s0 := hM.1
    rw [q_run, w_run]
    by_cases h0 : q_sc M 0 = 1
    · rw [if_pos h0, if_pos h0]
      rw [h0] at s0
      obtain ⟨p1, p2, p3, p4⟩ := i_step C.1 hSd hG (hQ.Z h0)
      obtain ⟨T1, f1, f2, f3⟩ := j_step C hM p1 p2
      have C1 := C.kept f3
      obtain ⟨hB1, hL1⟩ := p3.B
      have hdl := w_dr_le hB1
      obtain ⟨T2, g1, g2⟩ := j_drag C1 f2 hB1 hL1
      have C2 := C1.kep3 g2.to3
      have hR2 : r_R (m_ri T2 (m + 2)) (q_step P D M) := by rw [g2.now]; exact f2
      by_cases hlt : w < w_dr P (q_step P D M)
      · obtain ⟨T3, h1, h2⟩ := j_drag C2 hR2 hB1 hL1
        obtain ⟨T', fu', k1, k2, k3, k4⟩ := ih fu T3 _ (w_dr P (q_step P D M)) (by omega) p3 hdl (C2.kep3 h2.to3) (by rw [h2.now]; exact hR2)
        rw [if_pos hlt]
        refine ⟨T', fu', ?_, k2, k3, ((f3.to3.tr g2.to3).tr h2.to3).tr k4⟩
        rw [← k1, b_X12_run_37]
        simp (disch := omega) only [e_let, e_call, e_cal0, e_bind, e_lit, e_ofN, e_neg, nI_add, pk_mul, e_sub, e_ldi, e_sti, e_ldj, e_stj, e_le_t, e_le_f, e_lt_t, e_lt_f, e_eq_t, e_eq_f, e_no_eq, e_no_eq', e_no_rfl, e_no_lt, e_no_le, e_le_no, e_lt_no, if_true, if_false, ↓reduceIte, e_rs, e_rq, e_rn, e_ji, e_ki, e_ij, e_kj, e_js, e_jq, e_jn, e_cs, e_cq, e_jc, e_kc, e_js', e_jcq, e_icj, e_kcj, or_true, true_or, or_false, false_or, and_true, true_and, not_true_eq_false, not_false_eq_true, s0, f1, g1, h1]
      · obtain ⟨T', fu', k1, k2, k3, k4⟩ := ih fu T2 _ w (by omega) p3 hw C2 hR2
        rw [if_neg hlt]
        refine ⟨T', fu', ?_, k2, k3, (f3.to3.tr g2.to3).tr k4⟩
        rw [← k1, b_X12_run_37]
        simp (disch := omega) only [e_let, e_call, e_cal0, e_bind, e_lit, e_ofN, e_neg, nI_add, pk_mul, e_sub, e_ldi, e_sti, e_ldj, e_stj, e_le_t, e_le_f, e_lt_t, e_lt_f, e_eq_t, e_eq_f, e_no_eq, e_no_eq', e_no_rfl, e_no_lt, e_no_le, e_le_no, e_lt_no, if_true, if_false, ↓reduceIte, e_rs, e_rq, e_rn, e_ji, e_ki, e_ij, e_kj, e_js, e_jq, e_jn, e_cs, e_cq, e_jc, e_kc, e_js', e_jcq, e_icj, e_kcj, or_true, true_or, or_false, false_or, and_true, true_and, not_true_eq_false, not_false_eq_true, s0, f1, g1]
    · rw [if_neg h0, if_neg h0]
      exact ⟨T, fu, rfl, hM, hw, r_O3.rf⟩
theorem j_endl (hSd : d_S D) (hG : d_G P D) : ∀ (n fu : Nat) (T : m_M) (M : qM), n < fu → q_Q P D M → (q_sc M 0 = 1 → 5001 ≤ n + q_sc M 6) → r_C T m P D z → r_R (m_ri T (m + 2)) M →
    ∃ T', b_X12_ends_48 m fu T = some (nI (if q_sc (q_run P D n M) 0 = 2 then 1 else 0), T') ∧ r_O m T T' := by
  intro n
  induction n with
  | zero =>
    intro fu T M hf hQ hr C hM
    obtain ⟨fu, rfl⟩ : ∃ f, fu = f + 1 := ⟨fu - 1, by omega⟩
    have h0 : q_sc M 0 ≠ 1 := fun h0 => by
      have := (hQ.Z h0).2.2.2.1
      have := hr h0
      omega
    have h4 := hQ.B.1.2.2.2.2.2.2.2.2.2.2.2.2.1
    have s0 := hM.1
    refine ⟨T, ?_, r_O.rf⟩
    show _ = some (nI (if q_sc M 0 = 2 then 1 else 0), T)
    by_cases h2 : q_sc M 0 = 2
    · rw [if_pos h2]; rw [h2] at s0
      simp (disch := omega) only [e_let, e_call, e_cal0, e_bind, e_lit, e_ofN, e_neg, nI_add, pk_mul, e_sub, e_ldi, e_sti, e_ldj, e_stj, e_le_t, e_le_f, e_lt_t, e_lt_f, e_eq_t, e_eq_f, e_no_eq, e_no_eq', e_no_rfl, e_no_lt, e_no_le, e_le_no, e_lt_no, if_true, if_false, ↓reduceIte, e_rs, e_rq, e_rn, e_ji, e_ki, e_ij, e_kj, e_js, e_jq, e_jn, e_cs, e_cq, e_jc, e_kc, e_js', e_jcq, e_icj, e_kcj, or_true, true_or, or_false, false_or, and_true, true_and, not_true_eq_false, not_false_eq_true, b_X12_ends_48, s0, b_X12_ends_84]
    · rw [if_neg h2]
      simp (disch := omega) only [e_let, e_call, e_cal0, e_bind, e_lit, e_ofN, e_neg, nI_add, pk_mul, e_sub, e_ldi, e_sti, e_ldj, e_stj, e_le_t, e_le_f, e_lt_t, e_lt_f, e_eq_t, e_eq_f, e_no_eq, e_no_eq', e_no_rfl, e_no_lt, e_no_le, e_le_no, e_lt_no, if_true, if_false, ↓reduceIte, e_rs, e_rq, e_rn, e_ji, e_ki, e_ij, e_kj, e_js, e_jq, e_jn, e_cs, e_cq, e_jc, e_kc, e_js', e_jcq, e_icj, e_kcj, or_true, true_or, or_false, false_or, and_true, true_and, not_true_eq_false, not_false_eq_true, b_X12_ends_48, s0, b_X12_ends_84]
  | succ n ih =>
    intro fu T M hf hQ hr C hM
    obtain ⟨fu, rfl⟩ : ∃ f, fu = f + 1 := ⟨fu - 1, by omega⟩
    have h4 := hQ.B.1.2.2.2.2.2.2.2.2.2.2.2.2.1
    have s0 := hM.1
    rw [q_run]
    by_cases h0 : q_sc M 0 = 1
    · rw [if_pos h0]
      rw [h0] at s0
      obtain ⟨p1, p2, p3, p4⟩ := i_step C.1 hSd hG (hQ.Z h0)
      obtain ⟨T1, f1, f2, f3⟩ := j_step C hM p1 p2
      obtain ⟨T', g1, g2⟩ := ih fu T1 _ (by omega) p3 (fun _ => by have := hr h0; omega) (C.kept f3) f2
      refine ⟨T', ?_, f3.tr g2⟩
      rw [← g1]
      simp (disch := omega) only [e_let, e_call, e_cal0, e_bind, e_lit, e_ofN, e_neg, nI_add, pk_mul, e_sub, e_ldi, e_sti, e_ldj, e_stj, e_le_t, e_le_f, e_lt_t, e_lt_f, e_eq_t, e_eq_f, e_no_eq, e_no_eq', e_no_rfl, e_no_lt, e_no_le, e_le_no, e_lt_no, if_true, if_false, ↓reduceIte, e_rs, e_rq, e_rn, e_ji, e_ki, e_ij, e_kj, e_js, e_jq, e_jn, e_cs, e_cq, e_jc, e_kc, e_js', e_jcq, e_icj, e_kcj, or_true, true_or, or_false, false_or, and_true, true_and, not_true_eq_false, not_false_eq_true, b_X12_ends_48, s0, f1]
    · rw [if_neg h0]
      refine ⟨T, ?_, r_O.rf⟩
      by_cases h2 : q_sc M 0 = 2
      · rw [if_pos h2]; rw [h2] at s0
        simp (disch := omega) only [e_let, e_call, e_cal0, e_bind, e_lit, e_ofN, e_neg, nI_add, pk_mul, e_sub, e_ldi, e_sti, e_ldj, e_stj, e_le_t, e_le_f, e_lt_t, e_lt_f, e_eq_t, e_eq_f, e_no_eq, e_no_eq', e_no_rfl, e_no_lt, e_no_le, e_le_no, e_lt_no, if_true, if_false, ↓reduceIte, e_rs, e_rq, e_rn, e_ji, e_ki, e_ij, e_kj, e_js, e_jq, e_jn, e_cs, e_cq, e_jc, e_kc, e_js', e_jcq, e_icj, e_kcj, or_true, true_or, or_false, false_or, and_true, true_and, not_true_eq_false, not_false_eq_true, b_X12_ends_48, s0, b_X12_ends_84]
      · rw [if_neg h2]
        simp (disch := omega) only [e_let, e_call, e_cal0, e_bind, e_lit, e_ofN, e_neg, nI_add, pk_mul, e_sub, e_ldi, e_sti, e_ldj, e_stj, e_le_t, e_le_f, e_lt_t, e_lt_f, e_eq_t, e_eq_f, e_no_eq, e_no_eq', e_no_rfl, e_no_lt, e_no_le, e_le_no, e_lt_no, if_true, if_false, ↓reduceIte, e_rs, e_rq, e_rn, e_ji, e_ki, e_ij, e_kj, e_js, e_jq, e_jn, e_cs, e_cq, e_jc, e_kc, e_js', e_jcq, e_icj, e_kcj, or_true, true_or, or_false, false_or, and_true, true_and, not_true_eq_false, not_false_eq_true, b_X12_ends_48, s0, b_X12_ends_84]
theorem j_steps (hSd : d_S D) (hG : d_G P D) {n : Nat} (hn : n ≤ 500) : ∀ (d j fu : Nat) (T : m_M) (M : qM), j + d = n → d < fu → q_Q P D M → r_C T m P D z → r_R (m_ri T (m + 2)) M →
    ∃ T', b_X12_steps_38 m fu T (nI n) (nI j) = some (nI (j + q_cnt P D d M), T') ∧ r_R (m_ri T' (m + 2)) (q_run P D d M) ∧ r_O m T T' := by
  intro d
  induction d with
  | zero =>
    intro j fu T M hj hf hQ C hM
    obtain ⟨fu, rfl⟩ : ∃ f, fu = f + 1 := ⟨fu - 1, by omega⟩
    refine ⟨T, ?_, hM, r_O.rf⟩
    show _ = some (nI j, T)
    simp (disch := omega) only [e_let, e_call, e_cal0, e_bind, e_lit, e_ofN, e_neg, nI_add, pk_mul, e_sub, e_ldi, e_sti, e_ldj, e_stj, e_le_t, e_le_f, e_lt_t, e_lt_f, e_eq_t, e_eq_f, e_no_eq, e_no_eq', e_no_rfl, e_no_lt, e_no_le, e_le_no, e_lt_no, if_true, if_false, ↓reduceIte, e_rs, e_rq, e_rn, e_ji, e_ki, e_ij, e_kj, e_js, e_jq, e_jn, e_cs, e_cq, e_jc, e_kc, e_js', e_jcq, e_icj, e_kcj, or_true, true_or, or_false, false_or, and_true, true_and, not_true_eq_false, not_false_eq_true, b_X12_steps_38, b_X12_steps_65]
  | succ d ih =>
    intro j fu T M hj hf hQ C hM
    obtain ⟨fu, rfl⟩ : ∃ f, fu = f + 1 := ⟨fu - 1, by omega⟩
    have h4 := hQ.B.1.2.2.2.2.2.2.2.2.2.2.2.2.1
    have s0 := hM.1
    rw [q_run, q_cnt]
    by_cases h0 : q_sc M 0 = 1
    · obtain ⟨p1, p2, p3, p4⟩ := i_step C.1 hSd hG (hQ.Z h0)
      rw [h0] at s0
      obtain ⟨T1, f1, f2, f3⟩ := j_step C hM p1 p2
      obtain ⟨T', g1, g2, g3⟩ := ih (j + 1) fu T1 _ (by omega) (by omega) p3 (C.kept f3) f2
      rw [if_pos h0, if_pos h0]
      refine ⟨T', ?_, g2, f3.tr g3⟩
      rw [show j + (q_cnt P D d (q_step P D M) + 1) = j + 1 + q_cnt P D d (q_step P D M) by omega, ← g1]
      simp (disch := omega) only [e_let, e_call, e_cal0, e_bind, e_lit, e_ofN, e_neg, nI_add, pk_mul, e_sub, e_ldi, e_sti, e_ldj, e_stj, e_le_t, e_le_f, e_lt_t, e_lt_f, e_eq_t, e_eq_f, e_no_eq, e_no_eq', e_no_rfl, e_no_lt, e_no_le, e_le_no, e_lt_no, if_true, if_false, ↓reduceIte, e_rs, e_rq, e_rn, e_ji, e_ki, e_ij, e_kj, e_js, e_jq, e_jn, e_cs, e_cq, e_jc, e_kc, e_js', e_jcq, e_icj, e_kcj, or_true, true_or, or_false, false_or, and_true, true_and, not_true_eq_false, not_false_eq_true, b_X12_steps_38, s0, f1]
    · rw [if_neg h0, if_neg h0]
      refine ⟨T, ?_, hM, r_O.rf⟩
      show _ = some (nI j, T)
      simp (disch := omega) only [e_let, e_call, e_cal0, e_bind, e_lit, e_ofN, e_neg, nI_add, pk_mul, e_sub, e_ldi, e_sti, e_ldj, e_stj, e_le_t, e_le_f, e_lt_t, e_lt_f, e_eq_t, e_eq_f, e_no_eq, e_no_eq', e_no_rfl, e_no_lt, e_no_le, e_le_no, e_lt_no, if_true, if_false, ↓reduceIte, e_rs, e_rq, e_rn, e_ji, e_ki, e_ij, e_kj, e_js, e_jq, e_jn, e_cs, e_cq, e_jc, e_kc, e_js', e_jcq, e_icj, e_kcj, or_true, true_or, or_false, false_or, and_true, true_and, not_true_eq_false, not_false_eq_true, b_X12_steps_38, s0, b_X12_steps_65]
end RB
