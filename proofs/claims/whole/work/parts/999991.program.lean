/-! program: both sides -/
theorem q_emp_B {P : pP} : q_B P q_emp := by
  refine ⟨by show 0 ≤ 12; omega, by show 0 ≤ 312; omega, List.nodup_nil, fun x hx => (by cases hx), fun k hk => absurd hk (Nat.not_lt_zero k), fun c x hc hx => (by cases hx), ?_, by show 0 ≤ 200; omega, by show 0 ≤ 5001; omega, by show 0 ≤ 5001; omega, by show 0 ≤ 5001; omega, by show 0 ≤ 2; omega, by show 0 < 4; omega, by show 0 < 6; omega, by show 0 < 2; omega, fun c s hc hs hl => absurd rfl hl, List.Pairwise.nil⟩
  exact (fb_ct_zero.mpr (fun k hk => rfl)).symm
theorem q_emp_L {P : pP} : q_L P q_emp :=
  ⟨fun k v hk => absurd hk (Nat.not_lt_zero k), fun c hc hl => absurd rfl hl, fun h => (by cases h)⟩
theorem q_emp_Q {P : pP} {D : pD} : q_Q P D q_emp := Or.inr ⟨fun h => (by cases h), q_emp_B, q_emp_L⟩
def v_P0 : pP := fun _ _ => 0
theorem v_W_0 : v_W v_P0 := ⟨by show 0 ≤ 5; omega, by show 0 ≤ 24; omega, fun f hf => absurd hf (Nat.not_lt_zero f), fun f g _ hg => absurd hg (Nat.not_lt_zero g), fun f i hf => absurd hf (Nat.not_lt_zero f), fun _ => rfl, fun f i hf => absurd hf (Nat.not_lt_zero f)⟩
theorem p_W_0 : p_W v_P0 := ⟨by show 0 ≤ 5; omega, by show 0 ≤ 24; omega, fun f hf => absurd hf (Nat.not_lt_zero f), fun f g _ hg => absurd hg (Nat.not_lt_zero g), fun f i hf => absurd hf (Nat.not_lt_zero f)⟩
section PG
variable {S S' T T' : m_M} {x m : Nat} {s : sT} {t : Nat → Nat} {N : Nat} {I : Nat → Option wT} {U : List qM}
theorem j_p9 : ∀ (c k fu : Nat) (T : m_M), k + c = 210 → c < fu →
    ∃ T', b_X12_program_9 m fu T (nI k) = b_X12_program_31 m m_fu T' (nI 0) ∧ (∀ t, k ≤ t → t < 210 → m_ri T' (m + 3) t = nI 0) ∧ (∀ t, t < k → m_ri T' (m + 3) t = m_ri T (m + 3) t) ∧ e_O (m + 3) (m + 4) T T' := by
  intro c
  induction c with
  | zero =>
    intro k fu T hk hf
    obtain ⟨fu, rfl⟩ : ∃ f, fu = f + 1 := ⟨fu - 1, by omega⟩
    obtain rfl : k = 210 := by omega
    refine ⟨T, ?_, fun t h1 h2 => by omega, fun _ _ => rfl, e_O.rf⟩
    rw [b_X12_program_9, if_pos (show (210 : Int32) ≤ nI 210 by decide)]
    rfl
  | succ c ih =>
    intro k fu T hk hf
    obtain ⟨fu, rfl⟩ : ∃ f, fu = f + 1 := ⟨fu - 1, by omega⟩
    obtain ⟨T', a1, a2, a3, a4⟩ := ih (k + 1) fu (m_si T (m + 3) k (nI 0)) (by omega) (by omega)
    refine ⟨T', ?_, fun t h1 h2 => ?_, fun t h => ?_, (e_O.rf.si (by omega) (by omega)).tr a4⟩
    · rw [← a1, b_X12_program_9, if_neg (by rw [show (210 : Int32) = nI 210 from rfl, e_le (by omega) (by omega)]; omega), e_sti (by omega) (by omega), e_bind, e_let, show (1 : Int32) = nI 1 from rfl, nI_add]
      rfl
    · by_cases e : t = k
      · rw [a3 t (by omega), e, e_rs]
      · exact a2 t (by omega) h2
    · rw [a3 t (by omega), e_rn (by omega)]
/-- a text is opened: the other side -/
theorem j_begin {L : Nat} (hL : L ≤ 900) (hN : N ≤ 940) (ht : ∀ i, t i < 256) (hr : r_tp T m t N) : ∃ T', f_X12_begin m T (nI L) = some T' ∧ t_yj T' m t N L 0 ∧ m_ri T' m 2 = nI 0 ∧ (∀ j, 11 ≤ j → m_ri T' m j = m_ri T m j) ∧ (∀ q, q ≠ m → m_ri T' q = m_ri T q ∧ m_rj T' q = m_rj T q) ∧ m_rr T' = m_rr T := by
  obtain ⟨d1, d2⟩ := hr
  have hY : t_Y (m_si (m_si (m_si (m_si (m_si (m_si T m 0 (nI 0)) m 2 (nI 0)) m 3 (nI N)) m 4 (nI L)) m 10 (nI 0)) m 5 (nI 0)) m t N L := by
    refine ⟨?_, ?_, fun i hi => ?_, hN, hL, ht⟩
    · simp (disch := omega) only [e_let, e_call, e_cal0, e_bind, e_lit, e_ofN, e_neg, nI_add, pk_mul, e_sub, e_ldi, e_sti, e_ldj, e_stj, e_le_t, e_le_f, e_lt_t, e_lt_f, e_eq_t, e_eq_f, e_no_eq, e_no_eq', e_no_rfl, e_no_lt, e_no_le, e_le_no, e_lt_no, if_true, if_false, ↓reduceIte, e_rs, e_rq, e_rn, e_ji, e_ki, e_ij, e_kj, e_js, e_jq, e_jn, e_cs, e_cq, e_jc, e_kc, e_js', e_jcq, e_icj, e_kcj, or_true, true_or, or_false, false_or, and_true, true_and, not_true_eq_false, not_false_eq_true]
    · simp (disch := omega) only [e_let, e_call, e_cal0, e_bind, e_lit, e_ofN, e_neg, nI_add, pk_mul, e_sub, e_ldi, e_sti, e_ldj, e_stj, e_le_t, e_le_f, e_lt_t, e_lt_f, e_eq_t, e_eq_f, e_no_eq, e_no_eq', e_no_rfl, e_no_lt, e_no_le, e_le_no, e_lt_no, if_true, if_false, ↓reduceIte, e_rs, e_rq, e_rn, e_ji, e_ki, e_ij, e_kj, e_js, e_jq, e_jn, e_cs, e_cq, e_jc, e_kc, e_js', e_jcq, e_icj, e_kcj, or_true, true_or, or_false, false_or, and_true, true_and, not_true_eq_false, not_false_eq_true]
    · simp (disch := omega) only [e_let, e_call, e_cal0, e_bind, e_lit, e_ofN, e_neg, nI_add, pk_mul, e_sub, e_ldi, e_sti, e_ldj, e_stj, e_le_t, e_le_f, e_lt_t, e_lt_f, e_eq_t, e_eq_f, e_no_eq, e_no_eq', e_no_rfl, e_no_lt, e_no_le, e_le_no, e_lt_no, if_true, if_false, ↓reduceIte, e_rs, e_rq, e_rn, e_ji, e_ki, e_ij, e_kj, e_js, e_jq, e_jn, e_cs, e_cq, e_jc, e_kc, e_js', e_jcq, e_icj, e_kcj, or_true, true_or, or_false, false_or, and_true, true_and, not_true_eq_false, not_false_eq_true]; exact d2 i hi
  obtain ⟨T', a1, a2, a3⟩ := j_go hY (p := 0) (by simp (disch := omega) only [e_let, e_call, e_cal0, e_bind, e_lit, e_ofN, e_neg, nI_add, pk_mul, e_sub, e_ldi, e_sti, e_ldj, e_stj, e_le_t, e_le_f, e_lt_t, e_lt_f, e_eq_t, e_eq_f, e_no_eq, e_no_eq', e_no_rfl, e_no_lt, e_no_le, e_le_no, e_lt_no, if_true, if_false, ↓reduceIte, e_rs, e_rq, e_rn, e_ji, e_ki, e_ij, e_kj, e_js, e_jq, e_jn, e_cs, e_cq, e_jc, e_kc, e_js', e_jcq, e_icj, e_kcj, or_true, true_or, or_false, false_or, and_true, true_and, not_true_eq_false, not_false_eq_true]) (by omega)
  refine ⟨T', ?_, ⟨a3.Y hY, a2, by omega, ?_⟩, ?_, fun j hj => ?_, fun q hq => ?_, ?_⟩
  · simp (disch := omega) only [e_let, e_call, e_cal0, e_bind, e_lit, e_ofN, e_neg, nI_add, pk_mul, e_sub, e_ldi, e_sti, e_ldj, e_stj, e_le_t, e_le_f, e_lt_t, e_lt_f, e_eq_t, e_eq_f, e_no_eq, e_no_eq', e_no_rfl, e_no_lt, e_no_le, e_le_no, e_lt_no, if_true, if_false, ↓reduceIte, e_rs, e_rq, e_rn, e_ji, e_ki, e_ij, e_kj, e_js, e_jq, e_jn, e_cs, e_cq, e_jc, e_kc, e_js', e_jcq, e_icj, e_kcj, or_true, true_or, or_false, false_or, and_true, true_and, not_true_eq_false, not_false_eq_true, f_X12_begin, f_X12_take, d1, a1]
  · rw [a3.1 10 (by omega)]; simp (disch := omega) only [e_let, e_call, e_cal0, e_bind, e_lit, e_ofN, e_neg, nI_add, pk_mul, e_sub, e_ldi, e_sti, e_ldj, e_stj, e_le_t, e_le_f, e_lt_t, e_lt_f, e_eq_t, e_eq_f, e_no_eq, e_no_eq', e_no_rfl, e_no_lt, e_no_le, e_le_no, e_lt_no, if_true, if_false, ↓reduceIte, e_rs, e_rq, e_rn, e_ji, e_ki, e_ij, e_kj, e_js, e_jq, e_jn, e_cs, e_cq, e_jc, e_kc, e_js', e_jcq, e_icj, e_kcj, or_true, true_or, or_false, false_or, and_true, true_and, not_true_eq_false, not_false_eq_true]
  · rw [a3.1 2 (by omega)]; simp (disch := omega) only [e_let, e_call, e_cal0, e_bind, e_lit, e_ofN, e_neg, nI_add, pk_mul, e_sub, e_ldi, e_sti, e_ldj, e_stj, e_le_t, e_le_f, e_lt_t, e_lt_f, e_eq_t, e_eq_f, e_no_eq, e_no_eq', e_no_rfl, e_no_lt, e_no_le, e_le_no, e_lt_no, if_true, if_false, ↓reduceIte, e_rs, e_rq, e_rn, e_ji, e_ki, e_ij, e_kj, e_js, e_jq, e_jn, e_cs, e_cq, e_jc, e_kc, e_js', e_jcq, e_icj, e_kcj, or_true, true_or, or_false, false_or, and_true, true_and, not_true_eq_false, not_false_eq_true]
  · by_cases e : j ≤ 9
    · omega
    · rw [a3.1 j (by omega)]; simp (disch := omega) only [e_let, e_call, e_cal0, e_bind, e_lit, e_ofN, e_neg, nI_add, pk_mul, e_sub, e_ldi, e_sti, e_ldj, e_stj, e_le_t, e_le_f, e_lt_t, e_lt_f, e_eq_t, e_eq_f, e_no_eq, e_no_eq', e_no_rfl, e_no_lt, e_no_le, e_le_no, e_lt_no, if_true, if_false, ↓reduceIte, e_rs, e_rq, e_rn, e_ji, e_ki, e_ij, e_kj, e_js, e_jq, e_jn, e_cs, e_cq, e_jc, e_kc, e_js', e_jcq, e_icj, e_kcj, or_true, true_or, or_false, false_or, and_true, true_and, not_true_eq_false, not_false_eq_true]
  · rw [(a3.2.2.1 q (by omega)).1, (a3.2.2.1 q (by omega)).2]; exact ⟨by simp (disch := omega) only [e_let, e_call, e_cal0, e_bind, e_lit, e_ofN, e_neg, nI_add, pk_mul, e_sub, e_ldi, e_sti, e_ldj, e_stj, e_le_t, e_le_f, e_lt_t, e_lt_f, e_eq_t, e_eq_f, e_no_eq, e_no_eq', e_no_rfl, e_no_lt, e_no_le, e_le_no, e_lt_no, if_true, if_false, ↓reduceIte, e_rs, e_rq, e_rn, e_ji, e_ki, e_ij, e_kj, e_js, e_jq, e_jn, e_cs, e_cq, e_jc, e_kc, e_js', e_jcq, e_icj, e_kcj, or_true, true_or, or_false, false_or, and_true, true_and, not_true_eq_false, not_false_eq_true], rfl⟩
  · rw [a3.2.2.2]; rfl
theorem c_G.kep (h : c_G S x I) (hV : ∀ k W, I k = some W → w_V W) (hA : c_A S x) (w : ∀ q, x + 131 ≤ q → m_ri S' q = m_ri S q) (wj : ∀ q, x + 131 ≤ q → m_rj S' q = m_rj S q) (w' : m_rr S' = m_rr S) : c_G S' x I := by
  intro k hk
  obtain ⟨h1, h2⟩ := h k hk
  refine ⟨fun e => by rw [w']; exact h1 e, fun W e => ?_⟩
  obtain ⟨b, g1, g2⟩ := h2 W e
  have := hA.2.1 _ b hk g1
  exact ⟨b, by rw [w']; exact g1, g2.kept (hV k W e).1 (fun q h _ => w q (by omega)) (wj _ (by omega))⟩
theorem t_Z_of (hc : c_tp S x t N) (hN : N ≤ 940) (ht : ∀ i, t i < 256) : t_Z S x t N := ⟨hc.2.1, hc.2.2.1, ⟨hN, hc.2.2.2.2.1⟩, ht⟩
theorem s_program (hV : s_V s) (hC : s_C S x s) (hR : s_R T m s) : s_OK S T x m (f_X11_program x S) (f_X12_program m T) := by
  have hfu := m_fu_ge
  have hN := hV.1
  have ht := hV.2.1
  have hc := hC.1
  obtain ⟨S3, hS3⟩ : ∃ S3, S3 = m_si (m_si (m_si (m_si S x 1 (nI 0)) (x + 3) 0 (nI 0)) (x + 3) 1 (nI 0)) (x + 2) 3 (nI 0) := ⟨_, rfl⟩
  have k3 : ∀ q, q ≠ x → q ≠ x + 3 → q ≠ x + 2 → m_ri S3 q = m_ri S q := fun q h1 h2 h3 => by rw [hS3]; simp (disch := omega) only [e_let, e_call, e_cal0, e_bind, e_lit, e_ofN, e_neg, nI_add, pk_mul, e_sub, e_ldi, e_sti, e_ldj, e_stj, e_le_t, e_le_f, e_lt_t, e_lt_f, e_eq_t, e_eq_f, e_no_eq, e_no_eq', e_no_rfl, e_no_lt, e_no_le, e_le_no, e_lt_no, if_true, if_false, ↓reduceIte, e_rs, e_rq, e_rn, e_ji, e_ki, e_ij, e_kj, e_js, e_jq, e_jn, e_cs, e_cq, e_jc, e_kc, e_js', e_jcq, e_icj, e_kcj, or_true, true_or, or_false, false_or, and_true, true_and, not_true_eq_false, not_false_eq_true]
  have k3x : ∀ j, j ≠ 1 → m_ri S3 x j = m_ri S x j := fun j hj => by rw [hS3]; simp (disch := omega) only [e_let, e_call, e_cal0, e_bind, e_lit, e_ofN, e_neg, nI_add, pk_mul, e_sub, e_ldi, e_sti, e_ldj, e_stj, e_le_t, e_le_f, e_lt_t, e_lt_f, e_eq_t, e_eq_f, e_no_eq, e_no_eq', e_no_rfl, e_no_lt, e_no_le, e_le_no, e_lt_no, if_true, if_false, ↓reduceIte, e_rs, e_rq, e_rn, e_ji, e_ki, e_ij, e_kj, e_js, e_jq, e_jn, e_cs, e_cq, e_jc, e_kc, e_js', e_jcq, e_icj, e_kcj, or_true, true_or, or_false, false_or, and_true, true_and, not_true_eq_false, not_false_eq_true]
  have k31 : m_ri S3 x 1 = nI 0 := by rw [hS3]; simp (disch := omega) only [e_let, e_call, e_cal0, e_bind, e_lit, e_ofN, e_neg, nI_add, pk_mul, e_sub, e_ldi, e_sti, e_ldj, e_stj, e_le_t, e_le_f, e_lt_t, e_lt_f, e_eq_t, e_eq_f, e_no_eq, e_no_eq', e_no_rfl, e_no_lt, e_no_le, e_le_no, e_lt_no, if_true, if_false, ↓reduceIte, e_rs, e_rq, e_rn, e_ji, e_ki, e_ij, e_kj, e_js, e_jq, e_jn, e_cs, e_cq, e_jc, e_kc, e_js', e_jcq, e_icj, e_kcj, or_true, true_or, or_false, false_or, and_true, true_and, not_true_eq_false, not_false_eq_true]
  have k3j : m_rj S3 = m_rj S := by rw [hS3]; rfl
  have k3r : m_rr S3 = m_rr S := by rw [hS3]; rfl
  have k38 : m_ri S3 (x + 3) 0 = nI 0 ∧ m_ri S3 (x + 3) 1 = nI 0 ∧ m_ri S3 (x + 2) 3 = nI 0 := by rw [hS3]; exact ⟨by simp (disch := omega) only [e_let, e_call, e_cal0, e_bind, e_lit, e_ofN, e_neg, nI_add, pk_mul, e_sub, e_ldi, e_sti, e_ldj, e_stj, e_le_t, e_le_f, e_lt_t, e_lt_f, e_eq_t, e_eq_f, e_no_eq, e_no_eq', e_no_rfl, e_no_lt, e_no_le, e_le_no, e_lt_no, if_true, if_false, ↓reduceIte, e_rs, e_rq, e_rn, e_ji, e_ki, e_ij, e_kj, e_js, e_jq, e_jn, e_cs, e_cq, e_jc, e_kc, e_js', e_jcq, e_icj, e_kcj, or_true, true_or, or_false, false_or, and_true, true_and, not_true_eq_false, not_false_eq_true], by simp (disch := omega) only [e_let, e_call, e_cal0, e_bind, e_lit, e_ofN, e_neg, nI_add, pk_mul, e_sub, e_ldi, e_sti, e_ldj, e_stj, e_le_t, e_le_f, e_lt_t, e_lt_f, e_eq_t, e_eq_f, e_no_eq, e_no_eq', e_no_rfl, e_no_lt, e_no_le, e_le_no, e_lt_no, if_true, if_false, ↓reduceIte, e_rs, e_rq, e_rn, e_ji, e_ki, e_ij, e_kj, e_js, e_jq, e_jn, e_cs, e_cq, e_jc, e_kc, e_js', e_jcq, e_icj, e_kcj, or_true, true_or, or_false, false_or, and_true, true_and, not_true_eq_false, not_false_eq_true], by simp (disch := omega) only [e_let, e_call, e_cal0, e_bind, e_lit, e_ofN, e_neg, nI_add, pk_mul, e_sub, e_ldi, e_sti, e_ldj, e_stj, e_le_t, e_le_f, e_lt_t, e_lt_f, e_eq_t, e_eq_f, e_no_eq, e_no_eq', e_no_rfl, e_no_lt, e_no_le, e_le_no, e_lt_no, if_true, if_false, ↓reduceIte, e_rs, e_rq, e_rn, e_ji, e_ki, e_ij, e_kj, e_js, e_jq, e_jn, e_cs, e_cq, e_jc, e_kc, e_js', e_jcq, e_icj, e_kcj, or_true, true_or, or_false, false_or, and_true, true_and, not_true_eq_false, not_false_eq_true]⟩
  have hZ3 : t_Z S3 x (s_t s) (s_N s) := ⟨fun i hi => by rw [k3 _ (by omega) (by omega) (by omega)]; exact hc.2.1 i hi, fun i hi => by rw [k3j]; exact hc.2.2.1 i hi, ⟨hN, by rw [k3 _ (by omega) (by omega) (by omega)]; exact hc.2.2.2.2.1⟩, ht⟩
  obtain ⟨S4, o1, o2, o3, o4, _, o6⟩ := k_open (L := 900) hZ3 rfl
  have ec : f_X11_program x S = m_call (b_X4_readsAll_23 x m_fu S4 (nI 0)) fun v4 S3 => m_let (m_si S3 x 5 (m_ri S3 (x + 25) 15)) fun S5 => if v4 = 0 then (some (((-1 : Int32) - (m_ri S5 (x + 25) 16)), S5)) else (m_cal0 (f_X5_findAll (x + 42) (x + 3) S5) fun S7 => m_cal0 (f_X6_derive (x + 11) (x + 3) S7) fun S8 => m_cal0 (f_X3_copyFrom (x + 48) (x + 3) S8) fun S9 => m_cal0 (f_X2_clear (x + 70) S9) fun S10 => m_cal0 (f_X7_clear (x + 79) S10) fun S11 => m_cal0 (f_X0_clear (x + 96) S11) fun S12 => some (((m_ri S12 (x + 3) 0) + (m_ri S12 (x + 3) 1)), S12)) := by
    rw [f_X11_program, f_X11_takeTape, e_let, e_let, e_call, hc.1, f_X4_readsAll, f_X3_clear, e_let, e_let, e_cal0, e_let, show m_si (m_si (m_si (m_si S x 1 (0 : Int32)) (x + 3) 0 (0 : Int32)) (x + 3) 1 (0 : Int32)) (x + 2) 3 (0 : Int32) = S3 from hS3.symm, o1, e_cal0]
    rfl
  obtain ⟨T1, p1, p2, p3, p4, p5, p6⟩ := j_begin (L := 900) (by omega) hN ht hR.1
  obtain ⟨T2, q1, q2, _, q4⟩ := j_p9 (m := m) 210 0 m_fu T1 rfl (by omega)
  have er : f_X12_program m T = b_X12_program_31 m m_fu T2 (nI 0) := by
    rw [f_X12_program, show (900 : Int32) = nI 900 from rfl, p1, e_cal0]; exact q1
  have hJ : v_J S4 T2 x m (s_t s) (s_N s) 900 0 := ⟨⟨o3, o2, o4⟩, p2.kept (fun i _ _ => by rw [q4.1 m (by omega)]) (by rw [q4.2.1]) (q4.1 (m + 1) (by omega))⟩
  have hQS : v_QS S4 x v_P0 (fun _ => 0) (fun _ => 0) := by
    refine ⟨⟨?_, ?_, fun f hf => absurd hf (Nat.not_lt_zero f), fun f hf => absurd hf (Nat.not_lt_zero f), fun f hf => absurd hf (Nat.not_lt_zero f), fun f i hf => absurd hf (Nat.not_lt_zero f)⟩, fun f hf => absurd hf (Nat.not_lt_zero f), ?_, fun v hv => absurd hv (Nat.not_lt_zero v)⟩
    · rw [(o6.1 (x + 3) (by omega)).1]; exact k38.1
    · rw [(o6.1 (x + 3) (by omega)).1]; exact k38.2.1
    · rw [(o6.1 (x + 2) (by omega)).1]; exact k38.2.2
  have hQT : v_QT T2 m v_P0 (fun _ => 0) (fun _ => 0) :=
    ⟨⟨q2 0 (by omega) (by omega), q2 1 (by omega) (by omega), fun f hf => absurd hf (Nat.not_lt_zero f), fun f i hf => absurd hf (Nat.not_lt_zero f)⟩, fun f _ h => ⟨q2 _ (by omega) (by omega), q2 _ (by omega) (by omega)⟩, fun f hf => absurd hf (Nat.not_lt_zero f), fun v hv => absurd hv (Nat.not_lt_zero v)⟩
  obtain ⟨S5, T5, r1, r2, r3⟩ := v_loop 30 m_fu m_fu 0 S4 T2 v_P0 _ _ rfl (by omega) (by omega) v_W_0 hJ hQS hQT
  rw [show p_fu v_P0 + p_ln v_P0 = 0 from rfl] at r3
  have kS : ∀ q, q ≠ x → (q < x + 2 ∨ x + 31 ≤ q) → m_ri S5 q = m_ri S q := fun q h1 h2 => by
    rw [(r1.1.1 q h2).1, (o6.1 q (by omega)).1, k3 q h1 (by omega) (by omega)]
  have kSx : ∀ j, j ≠ 1 → m_ri S5 x j = m_ri S x j := fun j hj => by rw [(r1.1.1 x (by omega)).1, (o6.1 x (by omega)).1, k3x j hj]
  have kS1 : m_ri S5 x 1 = nI 0 := by rw [(r1.1.1 x (by omega)).1, (o6.1 x (by omega)).1, k31]
  have kSj : ∀ q, (q < x + 2 ∨ x + 31 ≤ q) → m_rj S5 q = m_rj S q := fun q h2 => by
    rw [(r1.1.1 q h2).2, (o6.1 q (by omega)).2, k3j]
  have kSk : ∀ i, i < 22 → m_rj S5 (x + 26) i = t_kw i := fun i hi => by rw [r1.2]; exact o3.2.1 i hi
  have kSr : m_rr S5 = m_rr S := by rw [r1.1.2, o6.2, k3r]
  have kT : ∀ q, q ≠ m → q ≠ m + 3 → m_ri T5 q = m_ri T q := fun q h1 h2 => by rw [r2.2.2.1 q h1 h2, q4.1 q (by omega), (p5 q h1).1]
  have kTm : ∀ j, 12 ≤ j → m_ri T5 m j = m_ri T m j := fun j hj => by rw [r2.1 j (by omega), q4.1 m (by omega), p4 j (by omega)]
  have kT2 : m_ri T5 m 2 = nI 0 := by rw [r2.1 2 (by omega), q4.1 m (by omega), p3]
  have kTj : ∀ q, q ≠ m → q ≠ m + 8 → q ≠ m + 10 → m_rj T5 q = m_rj T q := fun q h1 h2 h3 => by rw [r2.2.2.2.1 q h1 h2 h3, q4.2.1, (p5 q h1).2]
  have kTr : m_rr T5 = m_rr T := by rw [r2.2.2.2.2, q4.2.2, p6]
  rw [ec, er]
  rcases r3 with ⟨f1, f2, κ, pl, b1, b2, b3, b4, b5, b6, b7, b8⟩ | ⟨P, n, w, f1, f2, hS5, hT5, hW, ⟨z1, z0⟩, z2⟩
  · rw [f1, f2]
    refine ⟨m_si S5 x 5 (nI κ), T5, (-1 : Int32) - nI pl, ((s_t s, 0, κ), s.2), ?_, ?_, hV.up rfl (show 0 ≤ 940 by omega) ht b2, ?_, ?_, fun q h1 h2 => ⟨?_, ?_, ?_⟩, ⟨fun q hq => ⟨?_, ?_⟩, ?_⟩⟩
    · rw [e_call, e_let, b4, if_pos (show nI 0 = (0 : Int32) from rfl), e_rq (by omega), b6]
    · rw [b7]
    · refine hC.up hV rfl ⟨?_, fun i hi => absurd hi (Nat.not_lt_zero i), ⟨kSk, fun i hi => by show m_rj S5 _ i = _; rw [kSj _ (by omega)]; exact hc.2.2.2.1 i hi, by rw [e_rq (by omega)]; exact b8, by rw [e_rq (by omega), kS _ (by omega) (by omega)]; exact hc.2.2.2.2.2⟩⟩ (by rw [e_rs]; rfl) ?_ (fun q hq => ?_) (fun q hq => ?_) kSr
      · rw [e_rn (by omega)]; exact kS1
      · rw [e_rn (by omega)]; exact kSx 12 (by omega)
      · rw [e_rq (by omega)]; exact kS q (by omega) (by omega)
      · exact kSj q (by omega)
    · exact hR.up rfl ⟨kT2, fun i hi => absurd hi (Nat.not_lt_zero i)⟩ b5 (fun j hj => kTm j (by omega)) (fun q hq => kT q (by omega) (by omega)) (fun q hq => kTj q (by omega) (by omega) (by omega))
    · rw [e_rq (by omega)]; exact kS q (by omega) (by omega)
    · exact kSj q (by omega)
    · show m_rr S5 q = _; rw [kSr]
    · exact kT q (by omega) (by omega)
    · exact kTj q (by omega) (by omega) (by omega)
    · exact kTr
  · rw [f1, f2]
    have hP6 : p_R (m_si S5 x 5 (nI 0)) (x + 3) P := hS5.1.kept (fun q h1 h2 => by rw [e_rq (by omega)])
    obtain ⟨S7, S8, g1, g2, g3, g4, g5, g6, g7⟩ := k_regions (a := x + 42) hW (Or.inl (by omega)) hP6
    have hc8 : c_P S8 (x + 3) P n := ⟨g3, g4, fun f hf => by rw [g6]; exact hS5.2.1 f hf⟩
    obtain ⟨S9, h1, i1⟩ := k_copyP (S := S8) (a := x + 48) (o := x + 3) (Or.inr (by omega))
    have hc9 : c_P S9 (x + 48) P n := hc8.cp hW i1.1 (i1.2.2.2.2.1 (by omega))
    obtain ⟨S10, h2, i2, i3⟩ := k_clear (S := S9) (a := x + 70)
    obtain ⟨S12, hS12⟩ : ∃ S12, S12 = m_si (m_si (m_si (m_si S10 (x + 79) 0 (nI 0)) (x + 79) 1 (nI 0)) (x + 79) 2 (nI 0)) (x + 96) 2 (nI 0) := ⟨_, rfl⟩
    have k12 : ∀ q, q ≠ x + 79 → q ≠ x + 96 → m_ri S12 q = m_ri S10 q := fun q h1 h2 => by rw [hS12]; simp (disch := omega) only [e_let, e_call, e_cal0, e_bind, e_lit, e_ofN, e_neg, nI_add, pk_mul, e_sub, e_ldi, e_sti, e_ldj, e_stj, e_le_t, e_le_f, e_lt_t, e_lt_f, e_eq_t, e_eq_f, e_no_eq, e_no_eq', e_no_rfl, e_no_lt, e_no_le, e_le_no, e_lt_no, if_true, if_false, ↓reduceIte, e_rs, e_rq, e_rn, e_ji, e_ki, e_ij, e_kj, e_js, e_jq, e_jn, e_cs, e_cq, e_jc, e_kc, e_js', e_jcq, e_icj, e_kcj, or_true, true_or, or_false, false_or, and_true, true_and, not_true_eq_false, not_false_eq_true]
    have k12j : m_rj S12 = m_rj S10 := by rw [hS12]; rfl
    have k12r : m_rr S12 = m_rr S10 := by rw [hS12]; rfl
    have kA : ∀ q, q ≠ x → (q < x + 2 ∨ x + 84 ≤ q) → q ≠ x + 96 → m_ri S12 q = m_ri S q := fun q h1 h2 h3 => by
      rw [k12 q (by omega) h3, i3.1 q (by omega), i1.2.1 q (by omega), g5 q (by omega) (by omega), e_rq h1, kS q h1 (by omega)]
    have kx : ∀ j, j ≠ 1 → j ≠ 5 → m_ri S12 x j = m_ri S x j := fun j h1 h2 => by
      rw [k12 x (by omega) (by omega), i3.1 x (by omega), i1.2.1 x (by omega), g5 x (by omega) (by omega), e_rn h2, kSx j h1]
    have kx1 : m_ri S12 x 1 = nI 0 ∧ m_ri S12 x 5 = nI 0 := by
      rw [k12 x (by omega) (by omega), i3.1 x (by omega), i1.2.1 x (by omega), g5 x (by omega) (by omega)]
      exact ⟨by rw [e_rn (by omega)]; exact kS1, by rw [e_rs]⟩
    have kj : ∀ q, (q < x + 2 ∨ x + 31 ≤ q) → q ≠ x + 49 → m_rj S12 q = m_rj S q := fun q h1 h2 => by
      rw [k12j, i3.2.1, i1.2.2.1 q (by omega), g6]; exact kSj q h1
    have kr : m_rr S12 = m_rr S := by rw [k12r, i3.2.2, i1.2.2.2.2.2, g7]; exact kSr
    have k91 : m_ri S12 (x + 96) 1 = m_ri S (x + 96) 1 ∧ m_ri S12 (x + 96) 2 = nI 0 := by
      have : m_ri S10 (x + 96) = m_ri S (x + 96) := by rw [i3.1 _ (by omega), i1.2.1 _ (by omega), g5 _ (by omega) (by omega), e_rq (by omega), kS _ (by omega) (by omega)]
      refine ⟨?_, by rw [hS12]; simp (disch := omega) only [e_let, e_call, e_cal0, e_bind, e_lit, e_ofN, e_neg, nI_add, pk_mul, e_sub, e_ldi, e_sti, e_ldj, e_stj, e_le_t, e_le_f, e_lt_t, e_lt_f, e_eq_t, e_eq_f, e_no_eq, e_no_eq', e_no_rfl, e_no_lt, e_no_le, e_le_no, e_lt_no, if_true, if_false, ↓reduceIte, e_rs, e_rq, e_rn, e_ji, e_ki, e_ij, e_kj, e_js, e_jq, e_jn, e_cs, e_cq, e_jc, e_kc, e_js', e_jcq, e_icj, e_kcj, or_true, true_or, or_false, false_or, and_true, true_and, not_true_eq_false, not_false_eq_true]⟩
      rw [← this, hS12]; simp (disch := omega) only [e_let, e_call, e_cal0, e_bind, e_lit, e_ofN, e_neg, nI_add, pk_mul, e_sub, e_ldi, e_sti, e_ldj, e_stj, e_le_t, e_le_f, e_lt_t, e_lt_f, e_eq_t, e_eq_f, e_no_eq, e_no_eq', e_no_rfl, e_no_lt, e_no_le, e_le_no, e_lt_no, if_true, if_false, ↓reduceIte, e_rs, e_rq, e_rn, e_ji, e_ki, e_ij, e_kj, e_js, e_jq, e_jn, e_cs, e_cq, e_jc, e_kc, e_js', e_jcq, e_icj, e_kcj, or_true, true_or, or_false, false_or, and_true, true_and, not_true_eq_false, not_false_eq_true]
    obtain ⟨T6, u1, u2, u3, u4, u5, u6, u7, u8, u9, u10, u11⟩ := j_prog (l := nI (p_fu P + p_ln P)) hW hT5
    obtain ⟨v1, v2, v3, v4, v5, v6, v7, v8⟩ := hV
    obtain ⟨_, _, y3, ⟨y4, y4'⟩, ⟨f, y5, y6, _⟩, y7, y8⟩ := hC
    have e8 : m_ri S12 (x + 3) 0 = nI (p_fu P) ∧ m_ri S12 (x + 3) 1 = nI (p_ln P) := by
      rw [k12 _ (by omega) (by omega), i3.1 _ (by omega), i1.2.1 _ (by omega)]
      exact ⟨g3.1, g3.2.1⟩
    refine ⟨S12, T6, nI (p_fu P + p_ln P), ((s_t s, 0, 0), (P, n, q_emp, z_0), (s_h s, s_r s), [], s_g s), ?_, u1, ?_, ?_, ?_, fun q h1 h2 => ⟨?_, ?_, ?_⟩, ⟨fun q hq => ⟨?_, ?_⟩, ?_⟩⟩
    · rw [e_call, e_let, z1, if_neg (by decide), g1, e_cal0, show x + 11 = x + 3 + 8 from rfl, g2, e_cal0, h1, e_cal0, h2, e_cal0, f_X7_clear, e_let, e_let, e_let, e_cal0, f_X0_clear, e_let, e_cal0, show m_si (m_si (m_si (m_si S10 (x + 79) 0 (0 : Int32)) (x + 79) 1 (0 : Int32)) (x + 79) 2 (0 : Int32)) (x + 96) 2 (0 : Int32) = S12 from hS12.symm, e8.1, e8.2, nI_add]
    · exact ⟨show 0 ≤ 940 by omega, v2, show 0 ≤ 4 by omega, ⟨hW, q_emp_Q, ⟨show 0 ≤ 1 by omega, fun h => (by cases h)⟩⟩, v5, show 0 ≤ 8 by omega, fun M hM => (by cases hM), v8⟩
    · refine ⟨⟨kx1.1, fun i hi => absurd hi (Nat.not_lt_zero i), ⟨fun i hi => ?_, fun i hi => ?_, ?_, ?_⟩⟩, kx1.2, ⟨?_, ?_, ?_, fun h => (by cases h)⟩, ⟨?_, fun h i hi => ?_⟩, ⟨f, y5, by rw [k91.1]; exact y6, k91.2, fun i M h => (by cases h)⟩, ?_, y8.kept kr⟩
      · rw [k12j, i3.2.1, i1.2.2.1 _ (by omega), g6]; exact kSk i hi
      · rw [kj _ (by omega) (by omega)]; exact hc.2.2.2.1 i hi
      · rw [k12 _ (by omega) (by omega), i3.1 _ (by omega), i1.2.1 _ (by omega), g5 _ (by omega) (by omega), e_rq (by omega)]; exact z0
      · rw [k12 _ (by omega) (by omega), i3.1 _ (by omega), i1.2.1 _ (by omega), g5 _ (by omega) (by omega), e_rq (by omega), kS _ (by omega) (by omega)]; exact hc.2.2.2.2.2
      · exact hc9.kept hW (fun q h1 h2 => by rw [k12 q (by omega) (by omega), i3.1 q (by omega)]) (by rw [k12j, i3.2.1])
      · exact i2.kept (fun q h1 h2 => k12 q (by omega) (by omega))
      · show m_ri S12 (x + 79) 0 = nI 0; rw [hS12]; simp (disch := omega) only [e_let, e_call, e_cal0, e_bind, e_lit, e_ofN, e_neg, nI_add, pk_mul, e_sub, e_ldi, e_sti, e_ldj, e_stj, e_le_t, e_le_f, e_lt_t, e_lt_f, e_eq_t, e_eq_f, e_no_eq, e_no_eq', e_no_rfl, e_no_lt, e_no_le, e_le_no, e_lt_no, if_true, if_false, ↓reduceIte, e_rs, e_rq, e_rn, e_ji, e_ki, e_ij, e_kj, e_js, e_jq, e_jn, e_cs, e_cq, e_jc, e_kc, e_js', e_jcq, e_icj, e_kcj, or_true, true_or, or_false, false_or, and_true, true_and, not_true_eq_false, not_false_eq_true]
      · rw [kx 12 (by omega) (by omega)]; exact y4
      · rw [kA (x + 99) (by omega) (by omega) (by omega)]; exact y4' h i hi
      · exact y7.kep v8 y8 (fun q hq => kA q (by omega) (by omega) (by omega)) (fun q hq => kj q (by omega) (by omega)) kr
    · refine ⟨⟨?_, fun i hi => absurd hi (Nat.not_lt_zero i)⟩, ?_, ⟨⟨u3, u4, u5 2405 (by omega) (by omega), fun h => (by cases h)⟩, u2, u6⟩, ?_, ⟨u7, fun i M h => (by cases h)⟩, ?_⟩
      · rw [u9 2 (by omega) (by omega)]; exact kT2
      · rw [u9 10 (by omega) (by omega)]; exact z2
      · have := hR.2.2.2.1
        refine ⟨by rw [u9 44 (by omega) (by omega), kTm 44 (by omega)]; exact this.1, fun h i hi => ?_⟩
        rw [u8 (m + 27) (by omega) (by omega) (by omega), kT _ (by omega) (by omega)]; exact this.2 h i hi
      · have := hR.2.2.2.2.2
        simp only [r_G] at *
        rw [u8 (m + 11) (by omega) (by omega) (by omega), kT _ (by omega) (by omega), u8 (m + 4) (by omega) (by omega) (by omega), kT _ (by omega) (by omega), u10 (m + 9) (by omega), kTj _ (by omega) (by omega) (by omega)]
        exact this
    · exact kA q (by omega) (by omega) (by omega)
    · exact kj q (by omega) (by omega)
    · rw [kr]
    · rw [u8 q (by omega) (by omega) (by omega)]; exact kT q (by omega) (by omega)
    · rw [u10 q (by omega)]; exact kTj q (by omega) (by omega) (by omega)
    · rw [u11]; exact kTr
end PG
