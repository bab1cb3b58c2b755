/-! the words of a line, both sides -/
def v_B (S T : m_M) (x m : Nat) : Prop := ∃ κ pl, 1 ≤ κ ∧ κ ≤ 4 ∧ pl ≤ 940 ∧ m_ri S (x + 25) 15 = nI κ ∧ m_ri T m 10 = nI κ ∧ m_ri S (x + 25) 16 = nI pl ∧ m_ri T m 11 = nI pl ∧ m_ri S (x + 25) 0 = nI 900
def v_J (S T : m_M) (x m : Nat) (t : Nat → Nat) (N L p : Nat) : Prop := t_cz S x t N L p ∧ t_yj T m t N L p
section VS
variable {S S' S'' T T' T'' : m_M} {x m l : Nat} {t : Nat → Nat} {N L p : Nat} {P : pP} {n w : Nat → Int64}
theorem t_F_le (h : t_yj T m t N L p) : t_F t N L p ≤ 940 := by
  have h1 := h.1.2.2.2.1
  have h2 := h.1.2.2.2.2.1
  have h3 := t_S_le (t := t) (N := N) (N - p) p rfl h.2.2.1
  rw [t_F]; split <;> omega
theorem v_fail {κ : Nat} (h : v_J S T x m t N L p) (hκ : t_K t N L p = 1 → κ = 1) (h1 : 1 ≤ κ) (h4 : κ ≤ 4) : f_X9_failsBy x S (nI κ) = some (nI 0, m_si (m_si S (x + 25) 15 (nI κ)) (x + 25) 16 (nI (t_F t N L p))) ∧ f_X12_bad m T (nI κ) = some (nI 0, m_si (m_si T m 10 (nI κ)) m 11 (nI (t_F t N L p))) ∧ v_B (m_si (m_si S (x + 25) 15 (nI κ)) (x + 25) 16 (nI (t_F t N L p))) (m_si (m_si T m 10 (nI κ)) m 11 (nI (t_F t N L p))) x m := by
  refine ⟨k_fails h.1, j_bad h.2 hκ, κ, t_F t N L p, h1, h4, t_F_le h.2, ?_, ?_, e_rs, e_rs, ?_⟩
  · rw [e_rn (by omega), e_rs]
  · rw [e_rn (by omega), e_rs]
  · rw [e_rn (by omega), e_rn (by omega)]; exact h.1.1.2.2.1.2
/-- one var -/
theorem v_var1 {a h k kb : Nat} (hJ : v_J S T x m t N L p) (hS : v_QS S x P n w) (hT : v_QT T m P n w) (hW : v_W P) (hf : 0 < p_fu P) (hl : l < 24) (hk : k < 5) (hkb : kb < 5) (ha : k < a + h) (hah : a + h ≤ 5) :
    ∃ S' T' r, (∀ fu, b_X4_takesVars_3 x (fu + 1) S (nI l) (nI a) (nI h) (nI k) = if r = 1 then b_X4_takesVars_3 x fu S' (nI l) (nI a) (nI h) (nI (k + 1)) else some (nI 0, S')) ∧ f_X12_readVar m T (nI l) (nI kb) = some (nI r, T') ∧ v_fs x l S S' ∧ v_ft m l T T' ∧ m_ri S' (x + 8) = m_ri S (x + 8) ∧ m_ri S' (x + 9) = m_ri S (x + 9) ∧ (∀ j, j ≠ l * 5 + k → m_ri S' (x + 10) j = m_ri S (x + 10) j) ∧ (∀ j, j ≠ 66 + 5 * l + kb → m_ri T' (m + 3) j = m_ri T (m + 3) j) ∧
      ((r = 0 ∧ v_B S' T' x m) ∨ (r = 1 ∧ ∃ v, v < v_n P ∧ v_J S' T' x m t N L (t_E t N p) ∧ m_ri S' (x + 10) (l * 5 + k) = nI v ∧ m_ri T' (m + 3) (66 + 5 * l + kb) = nI v)) := by
  have h27 := v_n_le hW
  obtain ⟨k9, k10, _, _, _, k14⟩ := hJ.1.tk
  have hK5 := t_K_5 (t := t) (N := N) (L := L) (p := p)
  have hnm := j_isName hJ.2
  have hvr := fun W => k_varOf (W := W) hS hW
  have hfv := j_findVar hT hW hf
  have hfin : ∀ κ, (t_K t N L p = 1 → κ = 1) → 1 ≤ κ → κ ≤ 4 → (∀ fu, b_X4_takesVars_3 x (fu + 1) S (nI l) (nI a) (nI h) (nI k) = m_call (f_X9_failsBy x S (nI κ)) fun v S9 => if v = 0 ∨ v = 1 then some (v, S9) else none) → (f_X12_readVar m T (nI l) (nI kb) = m_call (f_X12_bad m T (nI κ)) fun v S9 => if v = 0 ∨ v = 1 then some (v, S9) else none) → ∃ S' T' r, (∀ fu, b_X4_takesVars_3 x (fu + 1) S (nI l) (nI a) (nI h) (nI k) = if r = 1 then b_X4_takesVars_3 x fu S' (nI l) (nI a) (nI h) (nI (k + 1)) else some (nI 0, S')) ∧ f_X12_readVar m T (nI l) (nI kb) = some (nI r, T') ∧ v_fs x l S S' ∧ v_ft m l T T' ∧ m_ri S' (x + 8) = m_ri S (x + 8) ∧ m_ri S' (x + 9) = m_ri S (x + 9) ∧ (∀ j, j ≠ l * 5 + k → m_ri S' (x + 10) j = m_ri S (x + 10) j) ∧ (∀ j, j ≠ 66 + 5 * l + kb → m_ri T' (m + 3) j = m_ri T (m + 3) j) ∧
      ((r = 0 ∧ v_B S' T' x m) ∨ (r = 1 ∧ ∃ v, v < v_n P ∧ v_J S' T' x m t N L (t_E t N p) ∧ m_ri S' (x + 10) (l * 5 + k) = nI v ∧ m_ri T' (m + 3) (66 + 5 * l + kb) = nI v)) := by
    intro κ h1 h2 h3 g1 g2
    obtain ⟨b1, b2, b3⟩ := v_fail hJ h1 h2 h3
    refine ⟨_, _, 0, fun fu => ?_, ?_, v_fs.rf.sl.sl, (v_ft.rf.sl (by omega) (by omega)).sl (by omega) (by omega), ?_, ?_, fun j _ => ?_, fun j _ => ?_, Or.inl ⟨rfl, b3⟩⟩
    · rw [g1, b1, if_neg (by omega)]; rfl
    · rw [g2, b2]; rfl
    · rw [e_rq (by omega), e_rq (by omega)]
    · rw [e_rq (by omega), e_rq (by omega)]
    · rw [e_rq (by omega), e_rq (by omega)]
    · rw [e_rq (by omega), e_rq (by omega)]
  have hN2 : ¬ (nI (a + h) ≤ nI k) := by rw [e_le (by omega) (by omega)]; omega
  by_cases g : t_K t N L p = 2
  · rw [if_pos g] at hnm k14
    rw [g] at k9
    have h12 := hJ.2.2.1.2.2.2.1 (Or.inl g)
    rw [h12] at hfv
    have hv := hvr (t_W t N p)
    by_cases e : v_lk w (t_W t N p) (v_n P) < v_n P
    · have ean : v_an w (t_W t N p) (v_n P) = nI (v_lk w (t_W t N p) (v_n P)) := by rw [v_an, if_pos e]
      rw [ean] at hv hfv
      generalize hvv : v_lk w (t_W t N p) (v_n P) = v at *
      obtain ⟨S2, a1, a2, a3, a4⟩ := k_go2 (S := m_si S (x + 10) (l * 5 + k) (nI v)) (hJ.1.kept fun q h1 h2 => ⟨e_rq (by omega), rfl⟩) (by omega)
      obtain ⟨T2, b1, b2, b3⟩ := j_go2 (T := m_si T (m + 3) (66 + 5 * l + kb) (nI v)) (hJ.2.kept (fun i _ _ => by rw [e_rq (by omega)]) rfl (e_rq (by omega))) (by omega)
      refine ⟨S2, T2, 1, fun fu => ?_, ?_, (v_fs.rf.s5 (by omega) (by omega)).tr (v_fs.of a4), (v_ft.rf.s3 (by omega)).tr (v_ft.of b3), ?_, ?_, fun j hj => ?_, fun j hj => ?_, Or.inr ⟨rfl, v, e, ⟨a2, b2⟩, ?_, ?_⟩⟩
      · rw [if_pos rfl, b_X4_takesVars_3, nI_add, if_neg hN2, k9, if_pos (show nI 2 = (2 : Int32) from rfl), k14, hv, e_call]
        simp (disch := omega) only [e_let, e_call, e_cal0, e_bind, e_lit, e_ofN, e_neg, nI_add, pk_mul, e_sub, e_ldi, e_sti, e_ldj, e_stj, e_le_t, e_le_f, e_lt_t, e_lt_f, e_eq_t, e_eq_f, e_no_eq, e_no_eq', e_no_rfl, e_no_lt, e_no_le, e_le_no, e_lt_no, if_true, if_false, ↓reduceIte, e_rs, e_rq, e_rn, e_ji, e_ki, e_ij, e_kj, e_js, e_jq, e_jn, e_cs, e_cq, e_jc, e_kc, e_js', e_jcq, e_icj, e_kcj, or_true, true_or, or_false, false_or, and_true, true_and, not_true_eq_false, not_false_eq_true, a1]
      · rw [f_X12_readVar, hnm, e_call, if_neg (show ¬ nI 1 = (0 : Int32) by decide), hfv, e_call]
        simp (disch := omega) only [e_let, e_call, e_cal0, e_bind, e_lit, e_ofN, e_neg, nI_add, pk_mul, e_sub, e_ldi, e_sti, e_ldj, e_stj, e_le_t, e_le_f, e_lt_t, e_lt_f, e_eq_t, e_eq_f, e_no_eq, e_no_eq', e_no_rfl, e_no_lt, e_no_le, e_le_no, e_lt_no, if_true, if_false, ↓reduceIte, e_rs, e_rq, e_rn, e_ji, e_ki, e_ij, e_kj, e_js, e_jq, e_jn, e_cs, e_cq, e_jc, e_kc, e_js', e_jcq, e_icj, e_kcj, or_true, true_or, or_false, false_or, and_true, true_and, not_true_eq_false, not_false_eq_true, b1]
      · rw [(a4.1 (x + 8) (by omega)).1, e_rq (by omega)]
      · rw [(a4.1 (x + 9) (by omega)).1, e_rq (by omega)]
      · rw [(a4.1 (x + 10) (by omega)).1, e_rn hj]
      · rw [(b3.2.2.1 (m + 3) (by omega)).1, e_rn hj]
      · rw [(a4.1 (x + 10) (by omega)).1, e_rs]
      · rw [(b3.2.2.1 (m + 3) (by omega)).1, e_rs]
    · have ean : v_an w (t_W t N p) (v_n P) = m_no := by rw [v_an, if_neg e]
      rw [ean] at hv hfv
      refine hfin 3 (fun q => by omega) (by omega) (by omega) (fun fu => ?_) ?_
      · rw [b_X4_takesVars_3, nI_add, if_neg hN2, k9, if_pos (show nI 2 = (2 : Int32) from rfl), k14, hv, e_call, if_pos (show m_no = (-1 : Int32) from rfl)]
        rfl
      · rw [f_X12_readVar, hnm, e_call, if_neg (show ¬ nI 1 = (0 : Int32) by decide), hfv, e_call, if_pos (show m_no = (-1 : Int32) from rfl)]
        rfl
  · rw [if_neg g] at hnm
    have h92 : ¬ (nI (t_K t N L p) = (2 : Int32)) := by
      have := e_eq_f (a := t_K t N L p) (b := 2) g (by omega) (by omega)
      exact fun q => this.mp q
    refine hfin 1 (fun _ => rfl) (by omega) (by omega) (fun fu => ?_) ?_
    · rw [b_X4_takesVars_3, nI_add, if_neg hN2, k9, if_neg h92]
      rfl
    · rw [f_X12_readVar, hnm, e_call, if_pos (show nI 0 = (0 : Int32) from rfl)]
      rfl
end VS
