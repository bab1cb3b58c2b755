/-! runs to the end by numbers: both sides -/
section RU
variable {S S' T T' : m_M} {x m : Nat} {s s' : sT} {t : Nat → Nat} {N : Nat} {i : Int32}
theorem j_sav {o n1 b : Nat} (ho : o ≠ m + 2) (hb : b + 2195 ≤ n1) (hn : n1 < 50000) : ∀ (c k fu : Nat) (T : m_M), k + c = 2195 → c < fu →
    ∃ T', b_X12_save_2 m o n1 fu T (nI b) (nI k) = some T' ∧ (∀ i, k ≤ i → i < 2195 → m_ri T' o (b + i) = m_ri T (m + 2) (210 + i)) ∧ (∀ t, t < b + k ∨ b + 2195 ≤ t → m_ri T' o t = m_ri T o t) ∧ e_O o (o + 1) T T' := by
  intro c
  induction c with
  | zero =>
    intro k fu T hk hf
    obtain ⟨fu, rfl⟩ : ∃ f, fu = f + 1 := ⟨fu - 1, by omega⟩
    obtain rfl : k = 2195 := by omega
    refine ⟨T, ?_, fun t h1 h2 => by omega, fun _ _ => rfl, e_O.rf⟩
    rw [b_X12_save_2, if_pos (show (2195 : Int32) ≤ nI 2195 by decide)]
  | succ c ih =>
    intro k fu T hk hf
    obtain ⟨fu, rfl⟩ : ∃ f, fu = f + 1 := ⟨fu - 1, by omega⟩
    obtain ⟨T', a1, a2, a3, a4⟩ := ih (k + 1) fu (m_si T o (b + k) (m_ri T (m + 2) (210 + k))) (by omega) (by omega)
    refine ⟨T', ?_, fun t h1 h2 => ?_, fun t h => ?_, (e_O.rf.si (by omega) (by omega)).tr a4⟩
    · rw [← a1, b_X12_save_2, if_neg (by rw [show (2195 : Int32) = nI 2195 from rfl, e_le (by omega) (by omega)]; omega), show (210 : Int32) = nI 210 from rfl, nI_add, e_ldi (by omega) (by omega), e_bind, nI_add, e_sti (by omega) (by omega), e_bind, e_let, show (1 : Int32) = nI 1 from rfl, nI_add]
    · by_cases e : t = k
      · rw [a3 _ (by omega), e, e_rs]
      · rw [a2 t (by omega) h2, e_rq (Ne.symm ho)]
    · rw [a3 t (by omega), e_rn (by omega)]
theorem j_save {o n1 b : Nat} (ho : o ≠ m + 2) (hb : b + 2195 ≤ n1) (hn : n1 < 50000) (T : m_M) : ∃ T', f_X12_save m o n1 T (nI b) = some T' ∧ (∀ i, i < 2195 → m_ri T' o (b + i) = m_ri T (m + 2) (210 + i)) ∧ (∀ t, t < b ∨ b + 2195 ≤ t → m_ri T' o t = m_ri T o t) ∧ e_O o (o + 1) T T' := by
  obtain ⟨T', a1, a2, a3, a4⟩ := j_sav (m := m) ho hb hn 2195 0 m_fu T rfl (by have := m_fu_ge; omega)
  exact ⟨T', a1, fun i hi => a2 i (by omega) hi, fun t ht => a3 t (by omega), a4⟩
theorem j_bck {o n1 b : Nat} (ho : o ≠ m + 2) (hb : b + 2195 ≤ n1) (hn : n1 < 50000) : ∀ (c k fu : Nat) (T : m_M), k + c = 2195 → c < fu →
    ∃ T', b_X12_comeBack_2 m o n1 fu T (nI b) (nI k) = some T' ∧ (∀ i, k ≤ i → i < 2195 → m_ri T' (m + 2) (210 + i) = m_ri T o (b + i)) ∧ (∀ t, t < 210 + k ∨ 2405 ≤ t → m_ri T' (m + 2) t = m_ri T (m + 2) t) ∧ e_O (m + 2) (m + 3) T T' := by
  intro c
  induction c with
  | zero =>
    intro k fu T hk hf
    obtain ⟨fu, rfl⟩ : ∃ f, fu = f + 1 := ⟨fu - 1, by omega⟩
    obtain rfl : k = 2195 := by omega
    refine ⟨T, ?_, fun t h1 h2 => by omega, fun _ _ => rfl, e_O.rf⟩
    rw [b_X12_comeBack_2, if_pos (show (2195 : Int32) ≤ nI 2195 by decide)]
  | succ c ih =>
    intro k fu T hk hf
    obtain ⟨fu, rfl⟩ : ∃ f, fu = f + 1 := ⟨fu - 1, by omega⟩
    obtain ⟨T', a1, a2, a3, a4⟩ := ih (k + 1) fu (m_si T (m + 2) (210 + k) (m_ri T o (b + k))) (by omega) (by omega)
    refine ⟨T', ?_, fun t h1 h2 => ?_, fun t h => ?_, (e_O.rf.si (by omega) (by omega)).tr a4⟩
    · rw [← a1, b_X12_comeBack_2, if_neg (by rw [show (2195 : Int32) = nI 2195 from rfl, e_le (by omega) (by omega)]; omega), nI_add, e_ldi (by omega) (by omega), e_bind, show (210 : Int32) = nI 210 from rfl, nI_add, e_sti (by omega) (by omega), e_bind, e_let, show (1 : Int32) = nI 1 from rfl, nI_add]
    · by_cases e : t = k
      · rw [a3 _ (by omega), e, e_rs]
      · rw [a2 t (by omega) h2, e_rq ho]
    · rw [a3 t (by omega), e_rn (by omega)]
theorem j_back {o n1 b : Nat} (ho : o ≠ m + 2) (hb : b + 2195 ≤ n1) (hn : n1 < 50000) (T : m_M) : ∃ T', f_X12_comeBack m o n1 T (nI b) = some T' ∧ (∀ i, i < 2195 → m_ri T' (m + 2) (210 + i) = m_ri T o (b + i)) ∧ (∀ t, t < 210 ∨ 2405 ≤ t → m_ri T' (m + 2) t = m_ri T (m + 2) t) ∧ e_O (m + 2) (m + 3) T T' := by
  obtain ⟨T', a1, a2, a3, a4⟩ := j_bck (m := m) ho hb hn 2195 0 m_fu T rfl (by have := m_fu_ge; omega)
  exact ⟨T', a1, fun i hi => a2 i (by omega) hi, fun t ht => a3 t (by omega), a4⟩
/-- tape, fault and what ran are new, the rest stays -/
theorem s_C.up2 (hV : s_V s) (h : s_C S x s) (e1 : s_w s' = s_w s) (e4 : s_hi s' = s_hi s) (e5 : s_g s' = s_g s) (ht : c_tp S' x (s_t s') (s_N s')) (hf : m_ri S' x 5 = nI (s_f s')) (hr : c_rn S' x (s_h s') (s_r s')) (w : ∀ q, (x + 47 ≤ q ∧ q < x + 83) ∨ x + 96 ≤ q → q ≠ x + 99 → m_ri S' q = m_ri S q) (wj : ∀ q, x + 47 ≤ q → m_rj S' q = m_rj S q) (wr : m_rr S' = m_rr S) : s_C S' x s' := by
  obtain ⟨_, _, h5, _, h7, h8, h9⟩ := h
  obtain ⟨_, _, _, v4, _, _, _, v8⟩ := hV
  refine ⟨ht, hf, ?_, hr, ?_, ?_, h9.kept wr⟩
  · rw [e1]
    exact ⟨h5.1.kept v4.1 (fun q a b => w q (by omega) (by omega)) (wj _ (by omega)), h5.2.1.kept (fun q a b => w q (by omega) (by omega)), h5.2.2.kept (fun q a b => w q (by omega) (by omega))⟩
  · rw [e4]
    obtain ⟨f, h1, h2, h3, h4⟩ := h7
    refine ⟨f, h1, by rw [w _ (by omega) (by omega)]; exact h2, by rw [w _ (by omega) (by omega)]; exact h3, fun i M hi => ?_⟩
    obtain ⟨b, g1, g2⟩ := h4 i M hi
    have := h9.1 _ b (Nat.mod_lt _ (by omega)) g1
    exact ⟨b, by rw [wr]; exact g1, g2.kept (fun q h _ => w q (by omega) (by omega))⟩
  · rw [e5]; exact h8.kep v8 h9 (fun q h => w q (by omega) (by omega)) (fun q h => wj q (by omega)) wr
theorem s_R.up2 (h : s_R T m s) (e1 : s_w s' = s_w s) (e4 : s_hi s' = s_hi s) (e5 : s_g s' = s_g s) (ht : r_tp T' m (s_t s') (s_N s')) (hf : m_ri T' m 10 = nI (s_f s')) (hr : r_rn T' m (s_h s') (s_r s')) (hk : m_ri T' m 24 = m_ri T m 24) (w2 : ∀ q, q = m + 2 ∨ q = m + 4 ∨ q = m + 5 ∨ q = m + 11 ∨ (m + 15 ≤ q ∧ q < m + 23) → m_ri T' q = m_ri T q) (w3 : ∀ q, q = m + 7 ∨ q = m + 9 → m_rj T' q = m_rj T q) : s_R T' m s' := by
  obtain ⟨_, _, ⟨h3, h4, h5⟩, h6, h7, h8⟩ := h
  have hd := h4.kept (T' := T') (fun q hq => w2 q (by omega))
  refine ⟨ht, hf, ?_, hr, ?_, ?_⟩
  · rw [e1]
    exact ⟨by rw [w2 (m + 2) (by omega)]; exact h3, hd, fun f hf => by rw [w3 _ (by omega)]; exact h5 f hf⟩
  · rw [e4]; simp only [r_H] at *; rw [hk, w2 (m + 5) (by omega)]; exact h7
  · rw [e5]; simp only [r_G] at *; rw [w2 (m + 11) (by omega), w2 (m + 4) (by omega), w3 (m + 9) (by omega)]; exact h8
theorem e_t255 : ∀ b, b < 256 → t_b b &&& nI 255 = nI b := by decide +kernel
theorem s_qP2 (hV : s_V s) (hC : s_C S x s) : q_P S (x + 84) (x + 48) (w_p (s_w s)) (d_of (w_p (s_w s))) := by
  have hW := hV.2.2.2.1.1
  exact ⟨Or.inr (by omega), hW, hC.2.2.1.1.1, d_XX.R hW hC.2.2.1.1.2.1, d_S_of hW⟩
/-- whether main takes so many numbers -/
def w_fit (P : pP) (N : Nat) : Prop := 0 < p_fu P ∧ N = p_pa P (p_fu P - 1)
theorem k_fits {P : pP} (hW : p_W P) (hP : p_R S (x + 48) P) (hN : N ≤ 940) : (w_fit P N → f_X11_fitsMain x S (nI N) = some (nI 1, S)) ∧ (¬ w_fit P N → f_X11_fitsMain x S (nI N) = some (nI 0, S)) := by
  have h5 := hW.1
  have h0 := hP.1
  by_cases e : p_fu P = 0
  · rw [e] at h0
    refine ⟨fun h => absurd h.1 (by omega), fun _ => ?_⟩
    simp (disch := omega) only [e_let, e_call, e_cal0, e_bind, e_lit, e_ofN, e_neg, nI_add, pk_mul, e_sub, e_ldi, e_sti, e_ldj, e_stj, e_le_t, e_le_f, e_lt_t, e_lt_f, e_eq_t, e_eq_f, e_no_eq, e_no_eq', e_no_rfl, e_no_lt, e_no_le, e_le_no, e_lt_no, if_true, if_false, ↓reduceIte, e_rs, e_rq, e_rn, e_ji, e_ki, e_ij, e_kj, e_js, e_jq, e_jn, e_cs, e_cq, e_jc, e_kc, e_js', e_jcq, e_icj, e_kcj, or_true, true_or, or_false, false_or, and_true, true_and, not_true_eq_false, not_false_eq_true, f_X11_fitsMain, b_X11_fitsMain_34, b_X11_fitsMain_35, h0]
  · have ha : m_ri S (x + 50) (p_fu P - 1) = nI (p_pa P (p_fu P - 1)) := hP.2.2.1 _ (by omega)
    have h3 := (hW.2.2.1 (p_fu P - 1) (by omega)).1
    refine ⟨fun h => ?_, fun h => ?_⟩
    · have h2 := h.2
      simp (disch := omega) only [e_let, e_call, e_cal0, e_bind, e_lit, e_ofN, e_neg, nI_add, pk_mul, e_sub, e_ldi, e_sti, e_ldj, e_stj, e_le_t, e_le_f, e_lt_t, e_lt_f, e_eq_t, e_eq_f, e_no_eq, e_no_eq', e_no_rfl, e_no_lt, e_no_le, e_le_no, e_lt_no, if_true, if_false, ↓reduceIte, e_rs, e_rq, e_rn, e_ji, e_ki, e_ij, e_kj, e_js, e_jq, e_jn, e_cs, e_cq, e_jc, e_kc, e_js', e_jcq, e_icj, e_kcj, or_true, true_or, or_false, false_or, and_true, true_and, not_true_eq_false, not_false_eq_true, f_X11_fitsMain, b_X11_fitsMain_35, h0, ha]
    · have h2 : N ≠ p_pa P (p_fu P - 1) := fun q => h ⟨by omega, q⟩
      simp (disch := omega) only [e_let, e_call, e_cal0, e_bind, e_lit, e_ofN, e_neg, nI_add, pk_mul, e_sub, e_ldi, e_sti, e_ldj, e_stj, e_le_t, e_le_f, e_lt_t, e_lt_f, e_eq_t, e_eq_f, e_no_eq, e_no_eq', e_no_rfl, e_no_lt, e_no_le, e_le_no, e_lt_no, if_true, if_false, ↓reduceIte, e_rs, e_rq, e_rn, e_ji, e_ki, e_ij, e_kj, e_js, e_jq, e_jn, e_cs, e_cq, e_jc, e_kc, e_js', e_jcq, e_icj, e_kcj, or_true, true_or, or_false, false_or, and_true, true_and, not_true_eq_false, not_false_eq_true, f_X11_fitsMain, b_X11_fitsMain_34, b_X11_fitsMain_35, h0, ha]
theorem j_fits {P : pP} (hW : p_W P) (hP : r_P (m_ri T (m + 2)) P) (hN : N ≤ 940) : (w_fit P N → f_X12_canLoad m T (nI N) = some (nI 1, T)) ∧ (¬ w_fit P N → f_X12_canLoad m T (nI N) = some (nI 0, T)) := by
  have h5 := hW.1
  have h0 := hP.1
  by_cases e : p_fu P = 0
  · rw [e] at h0
    refine ⟨fun h => absurd h.1 (by omega), fun _ => ?_⟩
    simp (disch := omega) only [e_let, e_call, e_cal0, e_bind, e_lit, e_ofN, e_neg, nI_add, pk_mul, e_sub, e_ldi, e_sti, e_ldj, e_stj, e_le_t, e_le_f, e_lt_t, e_lt_f, e_eq_t, e_eq_f, e_no_eq, e_no_eq', e_no_rfl, e_no_lt, e_no_le, e_le_no, e_lt_no, if_true, if_false, ↓reduceIte, e_rs, e_rq, e_rn, e_ji, e_ki, e_ij, e_kj, e_js, e_jq, e_jn, e_cs, e_cq, e_jc, e_kc, e_js', e_jcq, e_icj, e_kcj, or_true, true_or, or_false, false_or, and_true, true_and, not_true_eq_false, not_false_eq_true, f_X12_canLoad, b_X12_canLoad_28, b_X12_canLoad_29, h0]
  · have ha := (hP.2.2.1 (p_fu P - 1) (by omega)).1
    have h3 := (hW.2.2.1 (p_fu P - 1) (by omega)).1
    refine ⟨fun h => ?_, fun h => ?_⟩
    · have h2 := h.2
      simp (disch := omega) only [e_let, e_call, e_cal0, e_bind, e_lit, e_ofN, e_neg, nI_add, pk_mul, e_sub, e_ldi, e_sti, e_ldj, e_stj, e_le_t, e_le_f, e_lt_t, e_lt_f, e_eq_t, e_eq_f, e_no_eq, e_no_eq', e_no_rfl, e_no_lt, e_no_le, e_le_no, e_lt_no, if_true, if_false, ↓reduceIte, e_rs, e_rq, e_rn, e_ji, e_ki, e_ij, e_kj, e_js, e_jq, e_jn, e_cs, e_cq, e_jc, e_kc, e_js', e_jcq, e_icj, e_kcj, or_true, true_or, or_false, false_or, and_true, true_and, not_true_eq_false, not_false_eq_true, f_X12_canLoad, b_X12_canLoad_29, f_X12_mainFun, h0, ha]
    · have h2 : N ≠ p_pa P (p_fu P - 1) := fun q => h ⟨by omega, q⟩
      simp (disch := omega) only [e_let, e_call, e_cal0, e_bind, e_lit, e_ofN, e_neg, nI_add, pk_mul, e_sub, e_ldi, e_sti, e_ldj, e_stj, e_le_t, e_le_f, e_lt_t, e_lt_f, e_eq_t, e_eq_f, e_no_eq, e_no_eq', e_no_rfl, e_no_lt, e_no_le, e_le_no, e_lt_no, if_true, if_false, ↓reduceIte, e_rs, e_rq, e_rn, e_ji, e_ki, e_ij, e_kj, e_js, e_jq, e_jn, e_cs, e_cq, e_jc, e_kc, e_js', e_jcq, e_icj, e_kcj, or_true, true_or, or_false, false_or, and_true, true_and, not_true_eq_false, not_false_eq_true, f_X12_canLoad, b_X12_canLoad_28, b_X12_canLoad_29, f_X12_mainFun, h0, ha]
/-- the tape is taken: what a call begins with on both sides -/
theorem s_take (hV : s_V s) (hC : s_C S x s) (hR : s_R T m s) : s_V ((s_t s, 0, s_f s), s.2) ∧ s_C (m_si S x 1 (nI 0)) x ((s_t s, 0, s_f s), s.2) ∧ s_R (m_si (m_si T m 0 (nI 0)) m 2 (nI 0)) m ((s_t s, 0, s_f s), s.2) := by
  refine ⟨hV.up rfl (show 0 ≤ 940 by omega) hV.2.1 hV.2.2.1, ?_, ?_⟩
  · exact hC.up hV rfl ⟨by rw [e_rs]; rfl, fun i hi => absurd hi (Nat.not_lt_zero i), hC.1.2.2.kept ⟨rfl, rfl, by rw [e_rq (by omega)], by rw [e_rq (by omega)]⟩⟩ (by rw [e_rn (by omega)]; exact hC.2.1) (by rw [e_rn (by omega)]) (fun q hq => by rw [e_rq (by omega)]) (fun _ _ => rfl) rfl
  · exact hR.up rfl ⟨by rw [e_rs]; rfl, fun i hi => absurd hi (Nat.not_lt_zero i)⟩ (by rw [e_rn (by omega), e_rn (by omega)]; exact hR.2.1) (fun j hj => by rw [e_rn (by omega), e_rn (by omega)]) (fun q hq => by rw [e_rq (by omega), e_rq (by omega)]) (fun _ _ => rfl)
end RU
