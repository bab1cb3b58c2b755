/-! sentence: both sides -/
section ZS
variable {S S' T T' : m_M} {x m : Nat} {s : sT}
theorem j_st79 : ∀ (c k fl : Nat) (T : m_M), k + c = 240 → c < fl →
    ∃ T', b_X12_sentence_79 m fl T (nI k) = some (m_ri T m 48, T') ∧ (∀ t, k ≤ t → t < 240 → m_ri T' (m + 2) (2407 + t) = m_ri T (m + 29) t) ∧ (∀ t, t < 2407 + k ∨ 2647 ≤ t → m_ri T' (m + 2) t = m_ri T (m + 2) t) ∧ e_O (m + 2) (m + 3) T T' := by
  intro c
  induction c with
  | zero =>
    intro k fl T hk hf
    obtain ⟨fl, rfl⟩ : ∃ f, fl = f + 1 := ⟨fl - 1, by omega⟩
    obtain rfl : k = 240 := by omega
    refine ⟨T, ?_, fun t h1 h2 => by omega, fun _ _ => rfl, e_O.rf⟩
    rw [b_X12_sentence_79, if_pos (show (240 : Int32) ≤ nI 240 by decide)]
  | succ c ih =>
    intro k fl T hk hf
    obtain ⟨fl, rfl⟩ : ∃ f, fl = f + 1 := ⟨fl - 1, by omega⟩
    obtain ⟨T', a1, a2, a3, a4⟩ := ih (k + 1) fl (m_si T (m + 2) (2407 + k) (m_ri T (m + 29) k)) (by omega) (by omega)
    refine ⟨T', ?_, fun t h1 h2 => ?_, fun t h => ?_, (e_O.rf.si (by omega) (by omega)).tr a4⟩
    · rw [b_X12_sentence_79, if_neg (by rw [show (240 : Int32) = nI 240 from rfl, e_le (by omega) (by omega)]; omega), e_ldi (by omega) (by omega), e_bind, show (2407 : Int32) = nI 2407 from rfl, nI_add, e_sti (by omega) (by omega), e_bind, e_let, show (1 : Int32) = nI 1 from rfl, nI_add, a1, e_rq (by omega)]
    · by_cases e : t = k
      · rw [a3 _ (by omega), e, e_rs]
      · rw [a2 t (by omega) h2, e_rq (by omega)]
    · rw [a3 t (by omega), e_rn (by omega)]
theorem s_sentence (hV : s_V s) (hC : s_C S x s) (hR : s_R T m s) : s_OK S T x m (f_X11_sentence x S) (f_X12_sentence m T) := by
  have hfu := m_fu_ge
  have hN := hV.1
  have ht := hV.2.1
  have hc := hC.1
  have hW := hV.2.2.2.1.1
  have n10 : ¬ (nI 1 = (0 : Int32)) := by decide
  have y00 : nI 0 = (0 : Int32) := rfl
  obtain ⟨S3, hS3⟩ : ∃ S3, S3 = m_si (m_si (m_si (m_si S x 1 (nI 0)) (x + 32) 0 (nI 0)) (x + 32) 1 (nI 0)) (x + 32) 2 (nI 0) := ⟨_, rfl⟩
  have k3 : ∀ q, q ≠ x → q ≠ x + 32 → m_ri S3 q = m_ri S q := fun q h1 h2 => by rw [hS3]; simp (disch := omega) only [e_let, e_call, e_cal0, e_bind, e_lit, e_ofN, e_neg, nI_add, pk_mul, e_sub, e_ldi, e_sti, e_ldj, e_stj, e_le_t, e_le_f, e_lt_t, e_lt_f, e_eq_t, e_eq_f, e_no_eq, e_no_eq', e_no_rfl, e_no_lt, e_no_le, e_le_no, e_lt_no, if_true, if_false, ↓reduceIte, e_rs, e_rq, e_rn, e_ji, e_ki, e_ij, e_kj, e_js, e_jq, e_jn, e_cs, e_cq, e_jc, e_kc, e_js', e_jcq, e_icj, e_kcj, or_true, true_or, or_false, false_or, and_true, true_and, not_true_eq_false, not_false_eq_true]
  have k3x : ∀ j, j ≠ 1 → m_ri S3 x j = m_ri S x j := fun j hj => by rw [hS3]; simp (disch := omega) only [e_let, e_call, e_cal0, e_bind, e_lit, e_ofN, e_neg, nI_add, pk_mul, e_sub, e_ldi, e_sti, e_ldj, e_stj, e_le_t, e_le_f, e_lt_t, e_lt_f, e_eq_t, e_eq_f, e_no_eq, e_no_eq', e_no_rfl, e_no_lt, e_no_le, e_le_no, e_lt_no, if_true, if_false, ↓reduceIte, e_rs, e_rq, e_rn, e_ji, e_ki, e_ij, e_kj, e_js, e_jq, e_jn, e_cs, e_cq, e_jc, e_kc, e_js', e_jcq, e_icj, e_kcj, or_true, true_or, or_false, false_or, and_true, true_and, not_true_eq_false, not_false_eq_true]
  have k31 : m_ri S3 x 1 = nI 0 := by rw [hS3]; simp (disch := omega) only [e_let, e_call, e_cal0, e_bind, e_lit, e_ofN, e_neg, nI_add, pk_mul, e_sub, e_ldi, e_sti, e_ldj, e_stj, e_le_t, e_le_f, e_lt_t, e_lt_f, e_eq_t, e_eq_f, e_no_eq, e_no_eq', e_no_rfl, e_no_lt, e_no_le, e_le_no, e_lt_no, if_true, if_false, ↓reduceIte, e_rs, e_rq, e_rn, e_ji, e_ki, e_ij, e_kj, e_js, e_jq, e_jn, e_cs, e_cq, e_jc, e_kc, e_js', e_jcq, e_icj, e_kcj, or_true, true_or, or_false, false_or, and_true, true_and, not_true_eq_false, not_false_eq_true]
  have k3j : m_rj S3 = m_rj S := by rw [hS3]; rfl
  have k3r : m_rr S3 = m_rr S := by rw [hS3]; rfl
  have k32 : m_ri S3 (x + 32) 1 = nI 0 ∧ m_ri S3 (x + 32) 2 = nI 0 := by rw [hS3]; exact ⟨by simp (disch := omega) only [e_let, e_call, e_cal0, e_bind, e_lit, e_ofN, e_neg, nI_add, pk_mul, e_sub, e_ldi, e_sti, e_ldj, e_stj, e_le_t, e_le_f, e_lt_t, e_lt_f, e_eq_t, e_eq_f, e_no_eq, e_no_eq', e_no_rfl, e_no_lt, e_no_le, e_le_no, e_lt_no, if_true, if_false, ↓reduceIte, e_rs, e_rq, e_rn, e_ji, e_ki, e_ij, e_kj, e_js, e_jq, e_jn, e_cs, e_cq, e_jc, e_kc, e_js', e_jcq, e_icj, e_kcj, or_true, true_or, or_false, false_or, and_true, true_and, not_true_eq_false, not_false_eq_true], by simp (disch := omega) only [e_let, e_call, e_cal0, e_bind, e_lit, e_ofN, e_neg, nI_add, pk_mul, e_sub, e_ldi, e_sti, e_ldj, e_stj, e_le_t, e_le_f, e_lt_t, e_lt_f, e_eq_t, e_eq_f, e_no_eq, e_no_eq', e_no_rfl, e_no_lt, e_no_le, e_le_no, e_lt_no, if_true, if_false, ↓reduceIte, e_rs, e_rq, e_rn, e_ji, e_ki, e_ij, e_kj, e_js, e_jq, e_jn, e_cs, e_cq, e_jc, e_kc, e_js', e_jcq, e_icj, e_kcj, or_true, true_or, or_false, false_or, and_true, true_and, not_true_eq_false, not_false_eq_true]⟩
  have hZ3 : t_Zs S3 x (s_t s) (s_N s) := ⟨fun i hi => by rw [k3 _ (by omega) (by omega)]; exact hc.2.1 i hi, fun i hi => by rw [k3j]; exact hc.2.2.2.1 i hi, ⟨hN, by rw [k3 _ (by omega) (by omega)]; exact hc.2.2.2.2.2⟩, ht⟩
  obtain ⟨S4, o1, o2, o3, o4, _, o6⟩ := k_opens (L := 200) hZ3 rfl
  have ec : f_X11_sentence x S = m_call (m_call (f_X8_readsCond (f_X8_readsOne 12) x (x + 48) S4 (nI 0)) fun v4 S3 => if v4 = 0 then (if (0 : Int32) = 0 ∨ (0 : Int32) = 1 then some ((0 : Int32), S3) else none) else (if (m_ri S3 (x + 37) 9) = 0 then (b_X8_readsAll_46 x (x + 48) S3 (1 : Int32)) else (b_X8_readsAll_46 x (x + 48) S3 (0 : Int32)))) fun v4 S3 => m_let (m_si S3 x 5 (m_ri S3 (x + 37) 15)) fun S5 => if v4 = 0 then (some (((-1 : Int32) - (m_ri S5 (x + 37) 16)), S5)) else (m_cal0 (f_X7_copyFrom (x + 79) (x + 32) S5) fun S7 => some ((m_ri S7 (x + 79) 1), S7)) := by
    rw [f_X11_sentence, f_X11_takeTape, e_let, e_let, e_call, hc.1, f_X8_readsAll, f_X7_clear, e_let, e_let, e_let, e_cal0, show m_si (m_si (m_si (m_si S x 1 (0 : Int32)) (x + 32) 0 (0 : Int32)) (x + 32) 1 (0 : Int32)) (x + 32) 2 (0 : Int32) = S3 from hS3.symm, o1, e_cal0]
    rfl
  obtain ⟨T1, p1, p2, p3, p4, p5, p6⟩ := j_begin (L := 200) (by omega) hN ht hR.1
  obtain ⟨T2, hT2⟩ : ∃ T2, T2 = m_si (m_si (m_si T1 m 47 (nI 0)) m 48 (nI 0)) m 49 (nI 0) := ⟨_, rfl⟩
  have q2 : ∀ q, q ≠ m → m_ri T2 q = m_ri T1 q := fun q hq => by rw [hT2]; simp (disch := omega) only [e_let, e_call, e_cal0, e_bind, e_lit, e_ofN, e_neg, nI_add, pk_mul, e_sub, e_ldi, e_sti, e_ldj, e_stj, e_le_t, e_le_f, e_lt_t, e_lt_f, e_eq_t, e_eq_f, e_no_eq, e_no_eq', e_no_rfl, e_no_lt, e_no_le, e_le_no, e_lt_no, if_true, if_false, ↓reduceIte, e_rs, e_rq, e_rn, e_ji, e_ki, e_ij, e_kj, e_js, e_jq, e_jn, e_cs, e_cq, e_jc, e_kc, e_js', e_jcq, e_icj, e_kcj, or_true, true_or, or_false, false_or, and_true, true_and, not_true_eq_false, not_false_eq_true]
  have q2m : ∀ j, j < 47 ∨ 49 < j → m_ri T2 m j = m_ri T1 m j := fun j hj => by rw [hT2]; simp (disch := omega) only [e_let, e_call, e_cal0, e_bind, e_lit, e_ofN, e_neg, nI_add, pk_mul, e_sub, e_ldi, e_sti, e_ldj, e_stj, e_le_t, e_le_f, e_lt_t, e_lt_f, e_eq_t, e_eq_f, e_no_eq, e_no_eq', e_no_rfl, e_no_lt, e_no_le, e_le_no, e_lt_no, if_true, if_false, ↓reduceIte, e_rs, e_rq, e_rn, e_ji, e_ki, e_ij, e_kj, e_js, e_jq, e_jn, e_cs, e_cq, e_jc, e_kc, e_js', e_jcq, e_icj, e_kcj, or_true, true_or, or_false, false_or, and_true, true_and, not_true_eq_false, not_false_eq_true]
  have q2j : m_rj T2 = m_rj T1 := by rw [hT2]; rfl
  have q2r : m_rr T2 = m_rr T1 := by rw [hT2]; rfl
  have q47 : m_ri T2 m 47 = nI 0 ∧ m_ri T2 m 48 = nI 0 ∧ m_ri T2 m 49 = nI 0 := by rw [hT2]; exact ⟨by simp (disch := omega) only [e_let, e_call, e_cal0, e_bind, e_lit, e_ofN, e_neg, nI_add, pk_mul, e_sub, e_ldi, e_sti, e_ldj, e_stj, e_le_t, e_le_f, e_lt_t, e_lt_f, e_eq_t, e_eq_f, e_no_eq, e_no_eq', e_no_rfl, e_no_lt, e_no_le, e_le_no, e_lt_no, if_true, if_false, ↓reduceIte, e_rs, e_rq, e_rn, e_ji, e_ki, e_ij, e_kj, e_js, e_jq, e_jn, e_cs, e_cq, e_jc, e_kc, e_js', e_jcq, e_icj, e_kcj, or_true, true_or, or_false, false_or, and_true, true_and, not_true_eq_false, not_false_eq_true], by simp (disch := omega) only [e_let, e_call, e_cal0, e_bind, e_lit, e_ofN, e_neg, nI_add, pk_mul, e_sub, e_ldi, e_sti, e_ldj, e_stj, e_le_t, e_le_f, e_lt_t, e_lt_f, e_eq_t, e_eq_f, e_no_eq, e_no_eq', e_no_rfl, e_no_lt, e_no_le, e_le_no, e_lt_no, if_true, if_false, ↓reduceIte, e_rs, e_rq, e_rn, e_ji, e_ki, e_ij, e_kj, e_js, e_jq, e_jn, e_cs, e_cq, e_jc, e_kc, e_js', e_jcq, e_icj, e_kcj, or_true, true_or, or_false, false_or, and_true, true_and, not_true_eq_false, not_false_eq_true], by simp (disch := omega) only [e_let, e_call, e_cal0, e_bind, e_lit, e_ofN, e_neg, nI_add, pk_mul, e_sub, e_ldi, e_sti, e_ldj, e_stj, e_le_t, e_le_f, e_lt_t, e_lt_f, e_eq_t, e_eq_f, e_no_eq, e_no_eq', e_no_rfl, e_no_lt, e_no_le, e_le_no, e_lt_no, if_true, if_false, ↓reduceIte, e_rs, e_rq, e_rn, e_ji, e_ki, e_ij, e_kj, e_js, e_jq, e_jn, e_cs, e_cq, e_jc, e_kc, e_js', e_jcq, e_icj, e_kcj, or_true, true_or, or_false, false_or, and_true, true_and, not_true_eq_false, not_false_eq_true]⟩
  have er : f_X12_sentence m T = m_call (f_X12_readOr (f_X12_readSaid 12) m T2) fun v6 S5 => if v6 = 0 then (some (((-1 : Int32) - (m_ri S5 m 11)), S5)) else (if (m_ri S5 m 7) = 0 then ((m_sti S5 (m + 2) 2647 (2405 : Int32) (1 : Int32)).bind fun S9 => (m_sti S9 (m + 2) 2647 (2406 : Int32) (m_ri S9 m 50)).bind fun S10 => b_X12_sentence_79 m m_fu S10 (0 : Int32)) else (m_call (f_X12_bad m S5 (1 : Int32)) fun v12 S11 => some (((-1 : Int32) - (m_ri S11 m 11)), S11))) := by
    rw [f_X12_sentence, show (200 : Int32) = nI 200 from rfl, p1, e_cal0, e_let, e_let, e_let, show m_si (m_si (m_si T1 m 47 (0 : Int32)) m 48 (0 : Int32)) m 49 (0 : Int32) = T2 from hT2.symm]
  have hJ : v_Js S4 T2 x m (s_t s) (s_N s) 200 0 := ⟨⟨o3, o2, o4⟩, p2.kept (fun i _ _ => q2m i (by omega)) (by rw [q2j]) (q2 (m + 1) (by omega))⟩
  have hz0 : z_J S4 T2 x m (p_fu (w_p (s_w s))) 0 0 0 z_0 := ⟨⟨by rw [(o6.1 _ (by omega)).1]; exact k32.1, by rw [(o6.1 _ (by omega)).1]; exact k32.2, fun k hk => absurd hk (Nat.not_lt_zero k)⟩, ⟨q47.2.1, q47.2.2, q47.1, fun k hk => absurd hk (Nat.not_lt_zero k)⟩, fun k hk => absurd hk (Nat.not_lt_zero k), by omega, by omega⟩
  have hP : p_R S (x + 48) (w_p (s_w s)) := hC.2.2.1.1.1
  have hnames : ∀ f, f < p_fu (w_p (s_w s)) → m_rj S (x + 49) f = w_n (s_w s) f := hC.2.2.1.1.2.2
  have hnm : z_nm S4 T2 x m (p_fu (w_p (s_w s))) (w_n (s_w s)) := ⟨hW.1, by rw [(o6.1 _ (by omega)).1, k3 _ (by omega) (by omega)]; exact hP.1, fun f hf => by rw [(o6.1 _ (by omega)).2, k3j]; exact hnames f hf, by rw [q2 _ (by omega), (p5 _ (by omega)).1]; exact hR.2.2.1.1.1.1, fun f hf => by rw [q2j, (p5 _ (by omega)).2]; exact hR.2.2.1.2.2 f hf⟩
  obtain ⟨S5, T5, r, a1, a2, a3, a4, a5⟩ := v_ors (v_ands (v_said1 (x := x) (m := m) (t := s_t s) (N := s_N s) (L := 200) (fu := p_fu (w_p (s_w s))) (nm := w_n (s_w s)) 12 0 (by omega) (by omega))) S4 T2 0 0 0 z_0 hJ hz0 hnm
  dsimp only at a1 a2
  rw [ec, er, a1, a2, e_call, e_call]
  have gS : ∀ S6, z_oS x S4 S6 → (∀ q, q ≠ x → (q < x + 31 ∨ x + 42 ≤ q) → m_ri S6 q = m_ri S q) ∧ (∀ j, j ≠ 1 → m_ri S6 x j = m_ri S x j) ∧ m_ri S6 x 1 = nI 0 ∧ (∀ q, (q < x + 31 ∨ x + 42 ≤ q) → m_rj S6 q = m_rj S q) ∧ (∀ i, i < 22 → m_rj S6 (x + 38) i = t_kw i) ∧ m_rr S6 = m_rr S := fun S6 h => by
    refine ⟨fun q h1 h2 => ?_, fun j hj => ?_, ?_, fun q h2 => ?_, fun i hi => ?_, ?_⟩
    · rw [(h.1.1 q h2).1, (o6.1 q (by omega)).1, k3 q h1 (by omega)]
    · rw [(h.1.1 x (by omega)).1, (o6.1 x (by omega)).1, k3x j hj]
    · rw [(h.1.1 x (by omega)).1, (o6.1 x (by omega)).1, k31]
    · rw [(h.1.1 q h2).2, (o6.1 q (by omega)).2, k3j]
    · rw [h.2]; exact o3.2.1 i hi
    · rw [h.1.2, o6.2, k3r]
  have gT : ∀ T6, z_FT m T2 T6 → (∀ q, q ≠ m → q ≠ m + 29 → m_ri T6 q = m_ri T q) ∧ (∀ j, (13 < j ∧ j < 47) → m_ri T6 m j = m_ri T m j) ∧ m_ri T6 m 2 = nI 0 ∧ (∀ q, q ≠ m → m_rj T6 q = m_rj T q) ∧ m_rr T6 = m_rr T := fun T6 h => by
    refine ⟨fun q h1 h2 => ?_, fun j hj => ?_, ?_, fun q h1 => ?_, ?_⟩
    · rw [h.2.2.1 q h1 h2, q2 q h1, (p5 q h1).1]
    · rw [h.1 j (by omega), q2m j (by omega), p4 j (by omega)]
    · rw [h.1 2 (by omega), q2m 2 (by omega), p3]
    · rw [h.2.2.2.1 q h1, q2j, (p5 q h1).2]
    · rw [h.2.2.2.2, q2r, p6]
  have failing : ∀ S6 T6, z_oS x S4 S6 → z_FT m T2 T6 → v_Bs S6 T6 x m → s_OK S T x m (m_call (some (nI 0, S6)) fun v4 S3 => m_let (m_si S3 x 5 (m_ri S3 (x + 37) 15)) fun S5 => if v4 = 0 then (some (((-1 : Int32) - (m_ri S5 (x + 37) 16)), S5)) else (m_cal0 (f_X7_copyFrom (x + 79) (x + 32) S5) fun S7 => some ((m_ri S7 (x + 79) 1), S7))) (some (((-1 : Int32) - (m_ri T6 m 11)), T6)) := fun S6 T6 h1 h2 hB => by
    obtain ⟨κ, pl, b1, b2, b3, b4, b5, b6, b7, b8⟩ := hB
    obtain ⟨s1, s2, s3, s4, s5, s6⟩ := gS S6 h1
    obtain ⟨t1, t2, t3, t4, t5⟩ := gT T6 h2
    refine ⟨m_si S6 x 5 (nI κ), T6, (-1 : Int32) - nI pl, ((s_t s, 0, κ), s.2), ?_, ?_, hV.up rfl (show 0 ≤ 940 by omega) ht b2, ?_, ?_, fun q h1 h2 => ⟨?_, ?_, ?_⟩, ⟨fun q hq => ⟨?_, ?_⟩, t5⟩⟩
    · rw [e_call, e_let, b4, if_pos y00, e_rq (by omega), b6]
    · rw [b7]
    · refine hC.up hV rfl ⟨?_, fun i hi => absurd hi (Nat.not_lt_zero i), ⟨fun i hi => by show m_rj S6 _ i = _; rw [s4 _ (by omega)]; exact hc.2.2.1 i hi, s5, by rw [e_rq (by omega), s1 _ (by omega) (by omega)]; exact hc.2.2.2.2.1, by rw [e_rq (by omega)]; exact b8⟩⟩ (by rw [e_rs]; rfl) ?_ (fun q hq => ?_) (fun q hq => ?_) s6
      · rw [e_rn (by omega)]; exact s3
      · rw [e_rn (by omega)]; exact s2 12 (by omega)
      · rw [e_rq (by omega)]; exact s1 q (by omega) (by omega)
      · exact s4 q (by omega)
    · exact hR.up rfl ⟨t3, fun i hi => absurd hi (Nat.not_lt_zero i)⟩ b5 (fun j hj => t2 j (by omega)) (fun q hq => t1 q (by omega) (by omega)) (fun q hq => t4 q (by omega))
    · rw [e_rq (by omega)]; exact s1 q (by omega) (by omega)
    · exact s4 q (by omega)
    · show m_rr S6 q = _; rw [s6]
    · exact t1 q (by omega) (by omega)
    · exact t4 q (by omega)
  rcases a5 with ⟨e, hB⟩ | ⟨e, p', o', c', Z', hJ', hz', h50, hc1, hzb, _, hle, _, _⟩
  · subst e
    rw [if_pos y00, if_pos y00]
    exact failing S5 T5 a3 a4 hB
  · subst e
    rw [if_neg n10, if_neg n10]
    have hK5 := t_K_5 (t := s_t s) (N := s_N s) (L := 200) (p := p')
    have k9 := hJ'.1.tk.1
    have j7 := hJ'.2.2.1.2.1
    by_cases g0 : t_K (s_t s) (s_N s) 200 p' = 0
    · rw [g0] at k9 j7
      rw [k9, if_pos y00, j7, if_pos (show nI (t_j 0) = (0 : Int32) from rfl)]
      obtain ⟨⟨z1, z2, z3⟩, ⟨z4, z5, z6, z7⟩, z8, z9, z10⟩ := hz'
      obtain ⟨s1, s2, s3, s4, s5, s6⟩ := gS S5 a3
      obtain ⟨t1, t2, t3, t4, t5⟩ := gT T5 a4
      obtain ⟨Zn, hZn⟩ : ∃ Zn : zT, Zn = (1, c', Z'.2.2) := ⟨_, rfl⟩
      have hZ1 : z_t Zn = 1 := by rw [hZn]; rfl
      have hZ2 : z_n Zn = c' := by rw [hZn]; rfl
      have hZC : z_C (m_si (m_si S5 (x + 32) 0 (nI 1)) x 5 (nI 0)) (x + 32) Zn c' := fun k hk => by
        rw [e_rq (by omega), e_rq (by omega), e_rq (by omega), e_rq (by omega), e_rq (by omega), e_rq (by omega), hZn]
        exact z3 k hk
      generalize hU : m_si (m_si S5 (x + 32) 0 (nI 1)) x 5 (nI 0) = U
      have u0 : m_ri U (x + 32) 0 = nI 1 ∧ m_ri U (x + 32) 1 = nI o' ∧ m_ri U (x + 32) 2 = nI c' := by
        rw [← hU]
        refine ⟨?_, ?_, ?_⟩
        · simp (disch := omega) only [e_let, e_call, e_cal0, e_bind, e_lit, e_ofN, e_neg, nI_add, pk_mul, e_sub, e_ldi, e_sti, e_ldj, e_stj, e_le_t, e_le_f, e_lt_t, e_lt_f, e_eq_t, e_eq_f, e_no_eq, e_no_eq', e_no_rfl, e_no_lt, e_no_le, e_le_no, e_lt_no, if_true, if_false, ↓reduceIte, e_rs, e_rq, e_rn, e_ji, e_ki, e_ij, e_kj, e_js, e_jq, e_jn, e_cs, e_cq, e_jc, e_kc, e_js', e_jcq, e_icj, e_kcj, or_true, true_or, or_false, false_or, and_true, true_and, not_true_eq_false, not_false_eq_true]
        · simp (disch := omega) only [e_let, e_call, e_cal0, e_bind, e_lit, e_ofN, e_neg, nI_add, pk_mul, e_sub, e_ldi, e_sti, e_ldj, e_stj, e_le_t, e_le_f, e_lt_t, e_lt_f, e_eq_t, e_eq_f, e_no_eq, e_no_eq', e_no_rfl, e_no_lt, e_no_le, e_le_no, e_lt_no, if_true, if_false, ↓reduceIte, e_rs, e_rq, e_rn, e_ji, e_ki, e_ij, e_kj, e_js, e_jq, e_jn, e_cs, e_cq, e_jc, e_kc, e_js', e_jcq, e_icj, e_kcj, or_true, true_or, or_false, false_or, and_true, true_and, not_true_eq_false, not_false_eq_true, z1]
        · simp (disch := omega) only [e_let, e_call, e_cal0, e_bind, e_lit, e_ofN, e_neg, nI_add, pk_mul, e_sub, e_ldi, e_sti, e_ldj, e_stj, e_le_t, e_le_f, e_lt_t, e_lt_f, e_eq_t, e_eq_f, e_no_eq, e_no_eq', e_no_rfl, e_no_lt, e_no_le, e_le_no, e_lt_no, if_true, if_false, ↓reduceIte, e_rs, e_rq, e_rn, e_ji, e_ki, e_ij, e_kj, e_js, e_jq, e_jn, e_cs, e_cq, e_jc, e_kc, e_js', e_jcq, e_icj, e_kcj, or_true, true_or, or_false, false_or, and_true, true_and, not_true_eq_false, not_false_eq_true, z2]
      have uq : ∀ q, q ≠ x → q ≠ x + 32 → m_ri U q = m_ri S5 q := fun q h1 h2 => by rw [← hU, e_rq h1, e_rq h2]
      have ux : ∀ j, j ≠ 5 → m_ri U x j = m_ri S5 x j := fun j hj => by rw [← hU, e_rn hj, e_rq (by omega)]
      have u6 : m_ri U x 5 = nI 0 := by rw [← hU, e_rs]
      have uj : m_rj U = m_rj S5 := by rw [← hU]; rfl
      have ur : m_rr U = m_rr S5 := by rw [← hU]; rfl
      rw [hU] at hZC
      have hzR : z_R U (x + 32) Zn := ⟨by rw [hZ1]; exact u0.1, fun _ => ⟨by rw [hZ2]; exact u0.2.2, by rw [hZ2]; exact hZC⟩⟩
      obtain ⟨S7, c1, c2⟩ := k_copyZ (S := U) (a := x + 79) (o := x + 32) (Or.inr (by omega)) (Or.inr u0.1)
      have hzR7 : z_R S7 (x + 79) Zn := hzR.cp (fun _ => by rw [hZ2]; omega) c2.1
      have rj7 := c2.2.2.2.1 rfl
      have rr7 := c2.2.2.2.2.2
      have e71 : m_ri S7 (x + 79) 1 = nI o' := by
        have h : m_ri S7 (x + 79 + 0) 1 = m_ri U (x + 32 + 0) 1 := c2.1 0 1 (by omega) (by decide)
        exact h.trans u0.2.1
      obtain ⟨T6, d1, d2, d3, d4⟩ := j_st79 (m := m) 240 0 m_fu (m_si (m_si T5 (m + 2) 2405 (nI 1)) (m + 2) 2406 (nI (c' - 1))) rfl (by omega)
      have v0 : ∀ q, q ≠ m + 2 → m_ri T6 q = m_ri T5 q := fun q hq => by rw [d4.1 q (by omega), e_rq hq, e_rq hq]
      have v2 : ∀ j, j < 2405 → m_ri T6 (m + 2) j = m_ri T (m + 2) j := fun j hj => by rw [d3 j (by omega), e_rn (by omega), e_rn (by omega), t1 _ (by omega) (by omega)]
      have v5 : m_ri T6 (m + 2) 2405 = nI 1 ∧ m_ri T6 (m + 2) 2406 = nI (c' - 1) := ⟨by rw [d3 _ (by omega), e_rn (by omega), e_rs], by rw [d3 _ (by omega), e_rs]⟩
      have vN : ∀ i, i < 240 → m_ri T6 (m + 2) (2407 + i) = m_ri T5 (m + 29) i := fun i hi => by rw [d2 i (by omega) hi, e_rq (by omega), e_rq (by omega)]
      have hZN : z_N (fun i => m_ri T6 (m + 2) (2407 + i)) Zn c' := fun k hk => by
        have := z7 k hk
        dsimp only
        rw [vN _ (by omega), vN _ (by omega), vN _ (by omega), vN _ (by omega), hZn]
        exact this
      have vj : m_rj T6 = m_rj T5 := d4.2.1
      have vr : m_rr T6 = m_rr T5 := d4.2.2
      have f15 : m_ri S5 (x + 37) 15 = nI 0 := hJ'.1.2.2
      have f10 : m_ri T5 m 10 = nI 0 := hJ'.2.2.2.2
      obtain ⟨w1, w2, w3, w4, w5, w6, w7, w8⟩ := hV
      obtain ⟨y1, y2, y3, y4, y5, y6, y7⟩ := hC
      have kS : ∀ q, q ≠ x → (q < x + 31 ∨ x + 42 ≤ q) → (q < x + 79 ∨ x + 84 ≤ q) → m_ri S7 q = m_ri S q := fun q h1 h2 h3 => by rw [c2.2.1 q (by omega), uq q h1 (by omega), s1 q h1 h2]
      have kx : ∀ j, j ≠ 5 → m_ri S7 x j = m_ri S5 x j := fun j hj => by rw [c2.2.1 x (by omega), ux j hj]
      have kj : ∀ q, (q < x + 31 ∨ x + 42 ≤ q) → m_rj S7 q = m_rj S q := fun q h => by rw [rj7, uj, s4 q h]
      have kr : m_rr S7 = m_rr S := by rw [rr7, ur, s6]
      refine ⟨S7, T6, nI o', ((s_t s, 0, 0), (w_p (s_w s), w_n (s_w s), w_m (s_w s), Zn), s.2.2.1, s_hi s, s_g s), ?_, ?_, ⟨show 0 ≤ 940 by omega, w2, show 0 ≤ 4 by omega, ⟨w4.1, w4.2.1, ⟨by show z_t Zn ≤ 1; omega, fun _ => ⟨by show 1 ≤ z_n Zn; omega, by show z_n Zn ≤ 40; omega, ?_, ?_⟩⟩⟩, w5, w6, w7, w8⟩, ?_, ?_, fun q h1 h2 => ⟨?_, ?_, ?_⟩, ⟨fun q hq => ⟨?_, ?_⟩, ?_⟩⟩
      · have e48 : b_X8_readsAll_46 x (x + 48) S5 (1 : Int32) = some (nI 1, m_si S5 (x + 32) 0 (nI 1)) := by
          rw [b_X8_readsAll_46, if_pos (Or.inr rfl), e_let, e_rs, if_neg (by decide)]; rfl
        rw [e48, e_call, e_rq (by omega), f15, e_let, hU, if_neg n10, c1, e_cal0, e71]
      · rw [show (2405 : Int32) = nI 2405 from rfl, e_sti (by omega) (by omega), e_bind, e_rq (by omega), h50, show (2406 : Int32) = nI 2406 from rfl, e_sti (by omega) (by omega), e_bind]
        refine (show _ = _ from d1).trans ?_
        rw [e_rq (by omega), e_rq (by omega), z4]
      · show z_X (p_fu (w_p (s_w s))) Zn (z_n Zn)
        rw [hZ2, hZn]; exact z8
      · show z_b Zn (z_n Zn - 1) = 0
        rw [hZ2, hZn]; exact hzb
      · refine ⟨⟨?_, fun i hi => absurd hi (Nat.not_lt_zero i), ⟨fun i hi => ?_, fun i hi => ?_, ?_, ?_⟩⟩, ?_, ⟨?_, ?_, hzR7⟩, ⟨?_, fun h i hi => ?_⟩, ?_, ?_, y7.kept kr⟩
        · rw [kx 1 (by omega)]; exact s3
        · rw [kj _ (by omega)]; exact hc.2.2.1 i hi
        · rw [rj7, uj]; exact s5 i hi
        · rw [kS _ (by omega) (by omega) (by omega)]; exact hc.2.2.2.2.1
        · rw [c2.2.1 _ (by omega), uq _ (by omega) (by omega)]; exact hJ'.1.1.2.2.1.2
        · rw [c2.2.1 x (by omega)]; exact u6
        · exact y3.1.kept w4.1 (fun q h1 h2 => kS q (by omega) (by omega) (by omega)) (kj _ (by omega))
        · exact y3.2.1.kept (fun q h1 h2 => kS q (by omega) (by omega) (by omega))
        · rw [kx 12 (by omega), s2 12 (by omega)]; exact y4.1
        · rw [kS _ (by omega) (by omega) (by omega)]; exact y4.2 h i hi
        · exact y5.kept y7 (fun q hq => kS q (by omega) (by omega) (by omega)) kr
        · exact y6.kep w8 y7 (fun q hq => kS q (by omega) (by omega) (by omega)) (fun q hq => kj q (by omega)) kr
      · obtain ⟨⟨r1, r1'⟩, r2, ⟨⟨r3, r3', _⟩, r4, r5⟩, ⟨r6, r6'⟩, ⟨r7, r7'⟩, r8⟩ := hR
        refine ⟨⟨?_, fun i hi => absurd hi (Nat.not_lt_zero i)⟩, ?_, ⟨⟨?_, ?_, ⟨?_, fun _ => ⟨?_, ?_⟩⟩⟩, ?_, fun f hf => ?_⟩, ⟨?_, fun h i hi => ?_⟩, ⟨?_, fun i M hi => ?_⟩, ?_⟩
        · rw [v0 m (by omega)]; exact t3
        · rw [v0 m (by omega)]; exact f10
        · exact r3.cong w4.1 (fun t ht => v2 t (by omega))
        · exact r3'.cong (fun t _ h2 => v2 t h2)
        · show m_ri T6 (m + 2) 2405 = nI (z_t Zn); rw [hZ1]; exact v5.1
        · show m_ri T6 (m + 2) 2406 = nI (z_n Zn - 1); rw [hZ2]; exact v5.2
        · show z_N _ Zn (z_n Zn); rw [hZ2]; exact hZN
        · obtain ⟨⟨x1, x2⟩, x3, x4⟩ := r4
          refine ⟨⟨by rw [v2 2 (by omega)]; exact x1, fun r s hr hs => by rw [v0 (m + 17) (by omega), t1 _ (by omega) (by omega)]; exact x2 r s hr hs⟩, ?_⟩
          have hq : ∀ q, m + 15 ≤ q → q < m + 23 → m_ri T6 q = m_ri T q := fun q h1 h2 => by rw [v0 q (by omega), t1 q (by omega) (by omega)]
          simp only [d_T1, d_TF, d_Sp] at *
          rw [hq (m + 15) (by omega) (by omega), hq (m + 16) (by omega) (by omega), hq (m + 18) (by omega) (by omega), hq (m + 19) (by omega) (by omega), hq (m + 20) (by omega) (by omega), hq (m + 21) (by omega) (by omega), hq (m + 22) (by omega) (by omega)]
          exact ⟨x3, x4⟩
        · rw [vj, t4 _ (by omega)]; exact r5 f hf
        · rw [v0 m (by omega), t2 44 (by omega)]; exact r6
        · rw [v0 _ (by omega), t1 _ (by omega) (by omega)]; exact r6' h i hi
        · rw [v0 m (by omega), t2 24 (by omega)]; exact r7
        · rw [v0 _ (by omega), t1 _ (by omega) (by omega)]; exact r7' i M hi
        · simp only [r_G] at *
          rw [v0 (m + 11) (by omega), t1 _ (by omega) (by omega), v0 (m + 4) (by omega), t1 _ (by omega) (by omega), vj, t4 _ (by omega)]
          exact r8
      · exact kS q (by omega) (by omega) (by omega)
      · exact kj q (by omega)
      · rw [kr]
      · rw [v0 q (by omega)]; exact t1 q (by omega) (by omega)
      · rw [vj]; exact t4 q (by omega)
      · rw [vr]; exact t5
    · have k90 : ¬ nI (t_K (s_t s) (s_N s) 200 p') = (0 : Int32) := fun q => (e_eq_f (a := t_K (s_t s) (s_N s) 200 p') (b := 0) g0 (by omega) (by omega)).mp q
      have hj : t_j (t_K (s_t s) (s_N s) 200 p') < 5 ∧ t_j (t_K (s_t s) (s_N s) 200 p') ≠ 0 := by simp only [t_j]; split <;> omega
      have j70 : ¬ nI (t_j (t_K (s_t s) (s_N s) 200 p')) = (0 : Int32) := fun q => (e_eq_f (a := t_j (t_K (s_t s) (s_N s) 200 p')) (b := 0) hj.2 (by omega) (by omega)).mp q
      have hJ2 : v_Js (m_si S5 (x + 32) 0 (nI 0)) T5 x m (s_t s) (s_N s) 200 p' := ⟨hJ'.1.kept fun q h1 h2 => ⟨by rw [e_rq (by omega)], rfl⟩, hJ'.2⟩
      obtain ⟨S6, T6, b1, b2, b3, b4, b5, _⟩ := z_RS.fail (κ := 1) hJ2 (fun h => rfl) (by omega) (by omega)
      have e48 : b_X8_readsAll_46 x (x + 48) S5 (0 : Int32) = some (nI 0, S6) := by
        rw [b_X8_readsAll_46, if_pos (Or.inl rfl), e_let, e_rs, if_pos rfl, show (0 : Int32) = nI 0 from rfl, show (1 : Int32) = nI 1 from rfl, b1]; rfl
      rw [k9, if_neg k90, e48, j7, if_neg j70, show (1 : Int32) = nI 1 from rfl, b2]
      exact failing S6 T6 (a3.tr ((z_oS.rf.si (by omega) (by omega)).tr b3)) (a4.tr b4) b5
end ZS
