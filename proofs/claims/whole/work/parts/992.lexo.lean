/-! the pieces of a text: the one side, all -/
section TC
variable {S : m_M} {x : Nat} {t : Nat → Nat} {N L p q k K s : Nat}
theorem k_piece_w (hZ : t_Z S x t N) (hp : p < N) (hw : t p = 32 ∨ t p = 10) (h6 : m_ri S (x + 25) 6 = nI p) : f_X9_readPiece x S = some (m_si S (x + 25) 6 (nI (p + 1))) := by
  have hN := hZ.2.2.1
  have hb := hZ.1 p hp
  have e1 := k_isLt (S := S) (hZ.2.2.2 p)
  have e2 := k_isDg (S := S) (hZ.2.2.2 p)
  rw [if_neg (by omega)] at e1
  rw [if_neg (by omega)] at e2
  rw [t_b_p (by omega)] at hb e1 e2
  rcases hw with hw | hw <;> rw [hw] at hb e1 e2 <;> rw [f_X9_readPiece, h6, e_ldi (by omega) (by omega), e_bind, hb, e1, e_call] <;> simp (disch := omega) only [e_let, e_call, e_cal0, e_bind, e_lit, e_ofN, e_neg, nI_add, pk_mul, e_sub, e_ldi, e_sti, e_ldj, e_stj, e_le_t, e_le_f, e_lt_t, e_lt_f, e_eq_t, e_eq_f, e_no_eq, e_no_eq', e_no_rfl, e_no_lt, e_no_le, e_le_no, e_lt_no, if_true, if_false, ↓reduceIte, e_rs, e_rq, e_rn, e_ji, e_ki, e_ij, e_kj, e_js, e_jq, e_jn, e_cs, e_cq, e_jc, e_kc, e_js', e_jcq, e_icj, e_kcj, or_true, true_or, or_false, false_or, and_true, true_and, not_true_eq_false, not_false_eq_true, e2, h6, b_X9_readPiece_100]
theorem k_piece (hZ : t_Z S x t N) (hp : p < N) (hn : ¬ (t p = 32 ∨ t p = 10)) (h5 : m_ri S (x + 25) 5 = nI N) (h6 : m_ri S (x + 25) 6 = nI p) (h7 : m_ri S (x + 25) 7 = nI s) (hs : s < 901) :
    ∃ S', f_X9_readPiece x S = some S' ∧ t_c2 S' x t N s p ∧ t_h S S' x s (if t_w (t p) then t_R t N p else p + 1) := by
  have hN := hZ.2.2.1
  have hb := hZ.1 p hp
  have ht := hZ.2.2.2 p
  have e1 := k_isLt (S := S) ht
  have e2 := k_isDg (S := S) ht
  by_cases hw : t_w (t p)
  · obtain ⟨S', a1, a2, a3⟩ := k_rl hZ hp hw h5 h6 h7 hs
    rw [if_pos hw]
    refine ⟨S', ?_, a2, a3⟩
    by_cases hl : t_l (t p)
    · rw [if_pos hl] at e1
      rw [f_X9_readPiece, h6, e_ldi (by omega) (by omega), e_bind, hb, e1, e_call]
      simp (disch := omega) only [e_let, e_call, e_cal0, e_bind, e_lit, e_ofN, e_neg, nI_add, pk_mul, e_sub, e_ldi, e_sti, e_ldj, e_stj, e_le_t, e_le_f, e_lt_t, e_lt_f, e_eq_t, e_eq_f, e_no_eq, e_no_eq', e_no_rfl, e_no_lt, e_no_le, e_le_no, e_lt_no, if_true, if_false, ↓reduceIte, e_rs, e_rq, e_rn, e_ji, e_ki, e_ij, e_kj, e_js, e_jq, e_jn, e_cs, e_cq, e_jc, e_kc, e_js', e_jcq, e_icj, e_kcj, or_true, true_or, or_false, false_or, and_true, true_and, not_true_eq_false, not_false_eq_true, b_X9_readPiece_21, a1]
    · rw [if_neg hl] at e1
      rw [if_pos (hw.resolve_left hl)] at e2
      rw [f_X9_readPiece, h6, e_ldi (by omega) (by omega), e_bind, hb, e1, e_call]
      rw [if_pos (show nI 0 = (0 : Int32) from rfl), e2, e_call]
      simp (disch := omega) only [e_let, e_call, e_cal0, e_bind, e_lit, e_ofN, e_neg, nI_add, pk_mul, e_sub, e_ldi, e_sti, e_ldj, e_stj, e_le_t, e_le_f, e_lt_t, e_lt_f, e_eq_t, e_eq_f, e_no_eq, e_no_eq', e_no_rfl, e_no_lt, e_no_le, e_le_no, e_lt_no, if_true, if_false, ↓reduceIte, e_rs, e_rq, e_rn, e_ji, e_ki, e_ij, e_kj, e_js, e_jq, e_jn, e_cs, e_cq, e_jc, e_kc, e_js', e_jcq, e_icj, e_kcj, or_true, true_or, or_false, false_or, and_true, true_and, not_true_eq_false, not_false_eq_true, b_X9_readPiece_21, a1]
  · rw [if_neg hw]
    rw [if_neg (fun g => hw (Or.inl g))] at e1
    rw [if_neg (fun g => hw (Or.inr g))] at e2
    have hpt := fun (a b : Int32) (c : Int64) => k_put (S := S) (x := x) (a := a) (b := b) (c := c) hZ.2.2.1.2 h7 hs
    have hq := fun (c : Nat) (hc : c < 128) => t_b_eq ht hc
    have q1 := hq 32 (by omega)
    have q2 := hq 10 (by omega)
    have q3 := hq 59 (by omega)
    have q4 := hq 60 (by omega)
    have q5 := hq 61 (by omega)
    have q6 := hq 62 (by omega)
    have q7 := hq 40 (by omega)
    have q8 := hq 41 (by omega)
    have n1 : ¬ t p = 32 := fun g => hn (Or.inl g)
    have n2 : ¬ t p = 10 := fun g => hn (Or.inr g)
    have hth : ∀ (a b : Int32) (c : Int64), t_h S (m_si (t_pt x S s a b c) (x + 25) 6 (nI (p + 1))) x s (p + 1) := fun a b c => by
      obtain ⟨b1, b2, b3, b4, b5, b6, b7, b8⟩ := t_h_pt (S := S) (S0 := S) (x := x) (s := s) (a := a) (b := b) (c := c) h6 (fun _ _ => rfl) e_O.rf
      refine ⟨e_rs, ?_, fun i h h' => ?_, fun j hj => ?_, ?_, b6, b7, b8.si (by omega) (by omega)⟩
      · rw [e_rn (by omega)]; exact b2
      · rw [e_rn h]; exact b3 i h h'
      · rw [e_rq (by omega), e_rq (by omega), e_ji]; exact b4 j hj
      · rw [e_rq (by omega)]; exact b5
    have hv : ∀ (a : Int32) (c : Int64), m_ri (m_si (t_pt x S s a (nI p) c) (x + 25) 6 (nI (p + 1))) (x + 27) s = a ∧ m_ri (m_si (t_pt x S s a (nI p) c) (x + 25) 6 (nI (p + 1))) (x + 28) s = nI p ∧ m_rj (m_si (t_pt x S s a (nI p) c) (x + 25) 6 (nI (p + 1))) (x + 29) s = c := fun a c => by
      rw [e_rq (by omega), e_rq (by omega), e_ji]; exact t_pt_v
    have h6' : ∀ (a b : Int32) (c : Int64), m_ri (t_pt x S s a b c) (x + 25) 6 = nI p := fun a b c => by simp (disch := omega) only [e_let, e_call, e_cal0, e_bind, e_lit, e_ofN, e_neg, nI_add, pk_mul, e_sub, e_ldi, e_sti, e_ldj, e_stj, e_le_t, e_le_f, e_lt_t, e_lt_f, e_eq_t, e_eq_f, e_no_eq, e_no_eq', e_no_rfl, e_no_lt, e_no_le, e_le_no, e_lt_no, if_true, if_false, ↓reduceIte, e_rs, e_rq, e_rn, e_ji, e_ki, e_ij, e_kj, e_js, e_jq, e_jn, e_cs, e_cq, e_jc, e_kc, e_js', e_jcq, e_icj, e_kcj, or_true, true_or, or_false, false_or, and_true, true_and, not_true_eq_false, not_false_eq_true, t_pt, h6]
    by_cases hg : t_g (t p)
    · have hk : t_k t N p = 5 := by rw [t_k, if_neg hw, if_pos hg]
      refine ⟨m_si (t_pt x S s (nI 5) (nI p) (t_b (t p)).toInt64) (x + 25) 6 (nI (p + 1)), ?_, ?_, hth _ _ _⟩
      · rcases hg with g | g | g | g | g | g <;> rw [f_X9_readPiece, h6, e_ldi (by omega) (by omega), e_bind, hb, e1, e_call] <;> rw [if_pos (show nI 0 = (0 : Int32) from rfl), e2, e_call, if_pos (show nI 0 = (0 : Int32) from rfl)] <;> simp (disch := omega) only [e_let, e_call, e_cal0, e_bind, e_lit, e_ofN, e_neg, nI_add, pk_mul, e_sub, e_ldi, e_sti, e_ldj, e_stj, e_le_t, e_le_f, e_lt_t, e_lt_f, e_eq_t, e_eq_f, e_no_eq, e_no_eq', e_no_rfl, e_no_lt, e_no_le, e_le_no, e_lt_no, if_true, if_false, ↓reduceIte, e_rs, e_rq, e_rn, e_ji, e_ki, e_ij, e_kj, e_js, e_jq, e_jn, e_cs, e_cq, e_jc, e_kc, e_js', e_jcq, e_icj, e_kcj, or_true, true_or, or_false, false_or, and_true, true_and, not_true_eq_false, not_false_eq_true, h6, q1, q2, q3, q4, q5, q6, q7, q8, n1, n2, g, b_X9_readPiece_75, b_X9_readPiece_80, b_X9_readPiece_91, hpt, b_X9_readPiece_100, h6'] <;> (rw [t_b_p (by omega)]) <;> rfl
      · simp only [t_c2, hk]
        obtain ⟨v1, v2, v3⟩ := hv (nI 5) (t_b (t p)).toInt64
        refine ⟨v1, v2, fun h => by omega, fun h => by omega, fun h => by omega, fun _ => ?_⟩
        rw [v3, t_b_p (by omega)]
    · have hk : t_k t N p = 1 := by rw [t_k, if_neg hw, if_neg hg]
      have n3 : ¬ t p = 59 := fun g => hg (by omega)
      have n4 : ¬ t p = 60 := fun g => hg (by omega)
      have n5 : ¬ t p = 61 := fun g => hg (by omega)
      have n6 : ¬ t p = 62 := fun g => hg (by omega)
      have n7 : ¬ t p = 40 := fun g => hg (by omega)
      have n8 : ¬ t p = 41 := fun g => hg (by omega)
      refine ⟨m_si (t_pt x S s (nI 1) (nI p) (t_b (t p)).toInt64) (x + 25) 6 (nI (p + 1)), ?_, ?_, hth _ _ _⟩
      · rw [f_X9_readPiece, h6, e_ldi (by omega) (by omega), e_bind, hb, e1, e_call]
        rw [if_pos (show nI 0 = (0 : Int32) from rfl), e2, e_call, if_pos (show nI 0 = (0 : Int32) from rfl)]
        simp (disch := omega) only [e_let, e_call, e_cal0, e_bind, e_lit, e_ofN, e_neg, nI_add, pk_mul, e_sub, e_ldi, e_sti, e_ldj, e_stj, e_le_t, e_le_f, e_lt_t, e_lt_f, e_eq_t, e_eq_f, e_no_eq, e_no_eq', e_no_rfl, e_no_lt, e_no_le, e_le_no, e_lt_no, if_true, if_false, ↓reduceIte, e_rs, e_rq, e_rn, e_ji, e_ki, e_ij, e_kj, e_js, e_jq, e_jn, e_cs, e_cq, e_jc, e_kc, e_js', e_jcq, e_icj, e_kcj, or_true, true_or, or_false, false_or, and_true, true_and, not_true_eq_false, not_false_eq_true, h6, q1, q2, q3, q4, q5, q6, q7, q8, n1, n2, n3, n4, n5, n6, n7, n8, b_X9_readPiece_75, b_X9_readPiece_80, b_X9_readPiece_91, hpt, b_X9_readPiece_100, h6']
      · simp only [t_c2, hk]
        obtain ⟨v1, v2, v3⟩ := hv (nI 1) (t_b (t p)).toInt64
        exact ⟨v1, v2, fun h => by omega, fun h => by omega, fun h => by omega, fun h => by omega⟩
/-- s pieces are kept, and p is looked at -/
def t_I (S : m_M) (x : Nat) (t : Nat → Nat) (N L s p : Nat) : Prop := m_ri S (x + 25) 5 = nI N ∧ m_ri S (x + 25) 6 = nI p ∧ m_ri S (x + 25) 7 = nI s ∧ p ≤ N ∧ (∀ j, j < s → t_c1 S x t N L j (t_P t N j)) ∧ t_S t N p = t_S t N (t_P t N s)
/-- what the reading of pieces changes -/
def t_H (S S' : m_M) (x : Nat) : Prop := (∀ i, i ≠ 6 → i ≠ 7 → m_ri S' (x + 25) i = m_ri S (x + 25) i) ∧ m_rj S' (x + 26) = m_rj S (x + 26) ∧ t_O (x + 25) (x + 30) S S'
theorem t_H.tr {S S' S'' : m_M} (h : t_H S S' x) (h' : t_H S' S'' x) : t_H S S'' x := ⟨fun i a b => (h'.1 i a b).trans (h.1 i a b), h'.2.1.trans h.2.1, h.2.2.tr h'.2.2⟩
theorem t_H.Z {S S' : m_M} (h : t_H S S' x) (hZ : t_Z S x t N) : t_Z S' x t N := ⟨fun i hi => by rw [(h.2.2.1 (x + 1) (by omega)).1]; exact hZ.1 i hi, fun i hi => by rw [h.2.1]; exact hZ.2.1 i hi, ⟨hZ.2.2.1.1, by rw [h.1 0 (by omega) (by omega)]; exact hZ.2.2.1.2⟩, hZ.2.2.2⟩
theorem t_c1_of {S S' : m_M} {e : Nat} (h : t_h S S' x s e) {j : Nat} (hj : j ≠ s) (hc : t_c1 S x t N L j p) : t_c1 S' x t N L j p := by
  obtain ⟨a, b, c⟩ := h.2.2.2.1 j hj
  simp only [t_c1]; rw [a, b, c]; exact hc
theorem k_op45 {M : Nat} (hM : M = if N < L then N else L) (hL : L ≤ 900) : ∀ (c i fu s p : Nat) (S : m_M), i + c = M → c < fu → s ≤ i → i ≤ p → t_Z S x t N → t_I S x t N L s p →
    ∃ S' s' p', b_X9_open_45 x fu S (nI M) (nI i) = b_X9_open_70 x S' (nI M) ∧ t_I S' x t N L s' p' ∧ s' ≤ M ∧ M ≤ p' ∧ t_H S S' x := by
  have hMN : M ≤ N := by split at hM <;> omega
  have hML : M ≤ L := by split at hM <;> omega
  intro c
  induction c with
  | zero =>
    intro i fu s p S h1 hf h2 h3 hZ hI
    obtain ⟨fu, rfl⟩ : ∃ f, fu = f + 1 := ⟨fu - 1, by omega⟩
    refine ⟨S, s, p, ?_, hI, by omega, by omega, fun _ _ _ => rfl, rfl, t_O.rf⟩
    simp (disch := omega) only [e_let, e_call, e_cal0, e_bind, e_lit, e_ofN, e_neg, nI_add, pk_mul, e_sub, e_ldi, e_sti, e_ldj, e_stj, e_le_t, e_le_f, e_lt_t, e_lt_f, e_eq_t, e_eq_f, e_no_eq, e_no_eq', e_no_rfl, e_no_lt, e_no_le, e_le_no, e_lt_no, if_true, if_false, ↓reduceIte, e_rs, e_rq, e_rn, e_ji, e_ki, e_ij, e_kj, e_js, e_jq, e_jn, e_cs, e_cq, e_jc, e_kc, e_js', e_jcq, e_icj, e_kcj, or_true, true_or, or_false, false_or, and_true, true_and, not_true_eq_false, not_false_eq_true, b_X9_open_45]
  | succ c ih =>
    intro i fu s p S h1 hf h2 h3 hZ hI
    obtain ⟨fu, rfl⟩ : ∃ f, fu = f + 1 := ⟨fu - 1, by omega⟩
    obtain ⟨i5, i6, i7, i8, i9, i0⟩ := hI
    have hN := hZ.2.2.1
    by_cases hp : M ≤ p
    · refine ⟨S, s, p, ?_, ⟨i5, i6, i7, i8, i9, i0⟩, by omega, by omega, fun _ _ _ => rfl, rfl, t_O.rf⟩
      simp (disch := omega) only [e_let, e_call, e_cal0, e_bind, e_lit, e_ofN, e_neg, nI_add, pk_mul, e_sub, e_ldi, e_sti, e_ldj, e_stj, e_le_t, e_le_f, e_lt_t, e_lt_f, e_eq_t, e_eq_f, e_no_eq, e_no_eq', e_no_rfl, e_no_lt, e_no_le, e_le_no, e_lt_no, if_true, if_false, ↓reduceIte, e_rs, e_rq, e_rn, e_ji, e_ki, e_ij, e_kj, e_js, e_jq, e_jn, e_cs, e_cq, e_jc, e_kc, e_js', e_jcq, e_icj, e_kcj, or_true, true_or, or_false, false_or, and_true, true_and, not_true_eq_false, not_false_eq_true, b_X9_open_45, i6]
    · by_cases hw : t p = 32 ∨ t p = 10
      · have hr := k_piece_w hZ (by omega) hw i6
        have hH : t_H S (m_si S (x + 25) 6 (nI (p + 1))) x := ⟨fun i a b => by rw [e_rn a], rfl, t_O.rf.si (by omega) (by omega)⟩
        obtain ⟨S', s', p', b1, b2, b3, b4, b5⟩ := ih (i + 1) fu s (p + 1) (m_si S (x + 25) 6 (nI (p + 1))) (by omega) (by omega) (by omega) (by omega) (hH.Z hZ)
          ⟨by rw [e_rn (by omega)]; exact i5, e_rs, by rw [e_rn (by omega)]; exact i7, by omega, fun j hj => by simp only [t_c1]; rw [e_rq (by omega), e_rq (by omega)]; exact i9 j hj, by rw [← i0]; exact (t_sp (by omega) hw).symm⟩
        refine ⟨S', s', p', ?_, b2, b3, b4, hH.tr b5⟩
        rw [← b1]
        simp (disch := omega) only [e_let, e_call, e_cal0, e_bind, e_lit, e_ofN, e_neg, nI_add, pk_mul, e_sub, e_ldi, e_sti, e_ldj, e_stj, e_le_t, e_le_f, e_lt_t, e_lt_f, e_eq_t, e_eq_f, e_no_eq, e_no_eq', e_no_rfl, e_no_lt, e_no_le, e_le_no, e_lt_no, if_true, if_false, ↓reduceIte, e_rs, e_rq, e_rn, e_ji, e_ki, e_ij, e_kj, e_js, e_jq, e_jn, e_cs, e_cq, e_jc, e_kc, e_js', e_jcq, e_icj, e_kcj, or_true, true_or, or_false, false_or, and_true, true_and, not_true_eq_false, not_false_eq_true, b_X9_open_45, i6, hr]
      · obtain ⟨S1, a1, a2, a3⟩ := k_piece hZ (by omega) hw i5 i6 i7 (by omega)
        have hsp : t_S t N p = p := by rw [t_S_e, if_neg (fun g => hw g.2)]
        have hS : t_S t N (t_P t N s) = p := by rw [← i0, hsp]
        have hH : t_H S S1 x := ⟨a3.2.2.1, a3.2.2.2.2.2.2.1, a3.2.2.2.2.2.2.2⟩
        have hE : t_P t N (s + 1) = (if t_w (t p) then t_R t N p else p + 1) := by rw [t_P, t_E, hS]
        have hEl := t_E_le (t := t) (N := N) (p := p) (by omega) (by omega)
        have hE' : t_E t N p = t_P t N (s + 1) := by rw [t_P, t_E, t_E, hS, hsp]
        rw [← hE] at a3
        have hK : t_K t N L (t_P t N s) = t_k t N p := by rw [t_K, hS, if_neg (by omega), if_pos (by omega)]
        have hF : t_F t N L (t_P t N s) = p := by rw [t_F, hS, if_neg (by omega)]
        obtain ⟨S', s', p', b1, b2, b3, b4, b5⟩ := ih (i + 1) fu (s + 1) (t_P t N (s + 1)) S1 (by omega) (by omega) (by omega) (by omega) (hH.Z hZ)
          ⟨by rw [a3.2.2.1 5 (by omega) (by omega)]; exact i5, a3.1, a3.2.1, by omega, fun j hj => by
            by_cases hjs : j = s
            · subst hjs
              simp only [t_c1, hK, hF, t_W, t_M, t_G, hS]
              exact a2
            · exact t_c1_of a3 hjs (i9 j (by omega)), rfl⟩
        refine ⟨S', s', p', ?_, b2, b3, b4, hH.tr b5⟩
        rw [← b1]
        simp (disch := omega) only [e_let, e_call, e_cal0, e_bind, e_lit, e_ofN, e_neg, nI_add, pk_mul, e_sub, e_ldi, e_sti, e_ldj, e_stj, e_le_t, e_le_f, e_lt_t, e_lt_f, e_eq_t, e_eq_f, e_no_eq, e_no_eq', e_no_rfl, e_no_lt, e_no_le, e_le_no, e_lt_no, if_true, if_false, ↓reduceIte, e_rs, e_rq, e_rn, e_ji, e_ki, e_ij, e_kj, e_js, e_jq, e_jn, e_cs, e_cq, e_jc, e_kc, e_js', e_jcq, e_icj, e_kcj, or_true, true_or, or_false, false_or, and_true, true_and, not_true_eq_false, not_false_eq_true, b_X9_open_45, i6, a1]
/-- the next piece is looked at -/
def t_ad (x : Nat) (S : m_M) (k : Nat) (a b c d e : Int32) (w : Int64) : m_M := m_sj (m_si (m_si (m_si (m_si (m_si (m_si S (x + 25) 8 (nI k)) (x + 25) 9 a) (x + 25) 10 b) (x + 25) 11 c) (x + 25) 12 d) (x + 25) 13 e) (x + 25) 14 w
theorem k_ad125 {κ : Nat} {v : Int32} (h8 : m_ri S (x + 25) 8 = nI k) (h9 : m_ri S (x + 25) 9 = nI κ) (hk : k < 901) (hκ : κ < 6) : b_X9_advance_125 x S v = some (m_sj (m_si S (x + 25) 13 v) (x + 25) 14 (if κ = 2 then m_rj S (x + 29) k else -1)) := by
  rw [b_X9_advance_125, e_let, e_rn (by omega), h9]
  by_cases h : κ = 2
  · rw [if_pos h, h]; simp (disch := omega) only [e_let, e_call, e_cal0, e_bind, e_lit, e_ofN, e_neg, nI_add, pk_mul, e_sub, e_ldi, e_sti, e_ldj, e_stj, e_le_t, e_le_f, e_lt_t, e_lt_f, e_eq_t, e_eq_f, e_no_eq, e_no_eq', e_no_rfl, e_no_lt, e_no_le, e_le_no, e_lt_no, if_true, if_false, ↓reduceIte, e_rs, e_rq, e_rn, e_ji, e_ki, e_ij, e_kj, e_js, e_jq, e_jn, e_cs, e_cq, e_jc, e_kc, e_js', e_jcq, e_icj, e_kcj, or_true, true_or, or_false, false_or, and_true, true_and, not_true_eq_false, not_false_eq_true, h8, b_X9_advance_152]
  · rw [if_neg h]; simp (disch := omega) only [e_let, e_call, e_cal0, e_bind, e_lit, e_ofN, e_neg, nI_add, pk_mul, e_sub, e_ldi, e_sti, e_ldj, e_stj, e_le_t, e_le_f, e_lt_t, e_lt_f, e_eq_t, e_eq_f, e_no_eq, e_no_eq', e_no_rfl, e_no_lt, e_no_le, e_le_no, e_lt_no, if_true, if_false, ↓reduceIte, e_rs, e_rq, e_rn, e_ji, e_ki, e_ij, e_kj, e_js, e_jq, e_jn, e_cs, e_cq, e_jc, e_kc, e_js', e_jcq, e_icj, e_kcj, or_true, true_or, or_false, false_or, and_true, true_and, not_true_eq_false, not_false_eq_true, h8, b_X9_advance_152]
theorem k_ad99 {κ : Nat} {v : Int32} (h8 : m_ri S (x + 25) 8 = nI k) (h9 : m_ri S (x + 25) 9 = nI κ) (hk : k < 901) (hκ : κ < 6) : b_X9_advance_99 x S v = b_X9_advance_125 x (m_si S (x + 25) 12 v) (if κ = 5 then (m_rj S (x + 29) k).toInt32 else m_no) := by
  rw [b_X9_advance_99, e_let, e_rn (by omega), h9]
  by_cases h : κ = 5
  · rw [if_pos h, h]; simp (disch := omega) only [e_let, e_call, e_cal0, e_bind, e_lit, e_ofN, e_neg, nI_add, pk_mul, e_sub, e_ldi, e_sti, e_ldj, e_stj, e_le_t, e_le_f, e_lt_t, e_lt_f, e_eq_t, e_eq_f, e_no_eq, e_no_eq', e_no_rfl, e_no_lt, e_no_le, e_le_no, e_lt_no, if_true, if_false, ↓reduceIte, e_rs, e_rq, e_rn, e_ji, e_ki, e_ij, e_kj, e_js, e_jq, e_jn, e_cs, e_cq, e_jc, e_kc, e_js', e_jcq, e_icj, e_kcj, or_true, true_or, or_false, false_or, and_true, true_and, not_true_eq_false, not_false_eq_true, h8]
  · rw [if_neg h]; simp (disch := omega) only [e_let, e_call, e_cal0, e_bind, e_lit, e_ofN, e_neg, nI_add, pk_mul, e_sub, e_ldi, e_sti, e_ldj, e_stj, e_le_t, e_le_f, e_lt_t, e_lt_f, e_eq_t, e_eq_f, e_no_eq, e_no_eq', e_no_rfl, e_no_lt, e_no_le, e_le_no, e_lt_no, if_true, if_false, ↓reduceIte, e_rs, e_rq, e_rn, e_ji, e_ki, e_ij, e_kj, e_js, e_jq, e_jn, e_cs, e_cq, e_jc, e_kc, e_js', e_jcq, e_icj, e_kcj, or_true, true_or, or_false, false_or, and_true, true_and, not_true_eq_false, not_false_eq_true, h8]
theorem k_ad73 {κ : Nat} {v : Int32} (h8 : m_ri S (x + 25) 8 = nI k) (h9 : m_ri S (x + 25) 9 = nI κ) (hk : k < 901) (hκ : κ < 6) : b_X9_advance_73 x S v = b_X9_advance_99 x (m_si S (x + 25) 11 v) (if κ = 4 then (m_rj S (x + 29) k).toInt32 else m_no) := by
  rw [b_X9_advance_73, e_let, e_rn (by omega), h9]
  by_cases h : κ = 4
  · rw [if_pos h, h]; simp (disch := omega) only [e_let, e_call, e_cal0, e_bind, e_lit, e_ofN, e_neg, nI_add, pk_mul, e_sub, e_ldi, e_sti, e_ldj, e_stj, e_le_t, e_le_f, e_lt_t, e_lt_f, e_eq_t, e_eq_f, e_no_eq, e_no_eq', e_no_rfl, e_no_lt, e_no_le, e_le_no, e_lt_no, if_true, if_false, ↓reduceIte, e_rs, e_rq, e_rn, e_ji, e_ki, e_ij, e_kj, e_js, e_jq, e_jn, e_cs, e_cq, e_jc, e_kc, e_js', e_jcq, e_icj, e_kcj, or_true, true_or, or_false, false_or, and_true, true_and, not_true_eq_false, not_false_eq_true, h8]
  · rw [if_neg h]; simp (disch := omega) only [e_let, e_call, e_cal0, e_bind, e_lit, e_ofN, e_neg, nI_add, pk_mul, e_sub, e_ldi, e_sti, e_ldj, e_stj, e_le_t, e_le_f, e_lt_t, e_lt_f, e_eq_t, e_eq_f, e_no_eq, e_no_eq', e_no_rfl, e_no_lt, e_no_le, e_le_no, e_lt_no, if_true, if_false, ↓reduceIte, e_rs, e_rq, e_rn, e_ji, e_ki, e_ij, e_kj, e_js, e_jq, e_jn, e_cs, e_cq, e_jc, e_kc, e_js', e_jcq, e_icj, e_kcj, or_true, true_or, or_false, false_or, and_true, true_and, not_true_eq_false, not_false_eq_true, h8]
theorem k_adf {κ : Nat} {v : Int32} (h8 : m_ri S (x + 25) 8 + nI 1 = nI k) (h7 : m_ri S (x + 25) 7 = nI (K + 1)) (hk : k ≤ K) (hK : K ≤ 900) (c1 : m_ri S (x + 27) k = nI κ) (c2 : m_ri S (x + 28) k = v) (hκ : κ < 6) : f_X9_advance x S = some (t_ad x S k (nI κ) v (if κ = 3 then (m_rj S (x + 29) k).toInt32 else m_no) (if κ = 4 then (m_rj S (x + 29) k).toInt32 else m_no) (if κ = 5 then (m_rj S (x + 29) k).toInt32 else m_no) (if κ = 2 then m_rj S (x + 29) k else -1)) := by
  have e : f_X9_advance x S = b_X9_advance_73 x (m_si (m_si (m_si S (x + 25) 8 (nI k)) (x + 25) 9 (nI κ)) (x + 25) 10 v) (if κ = 3 then (m_rj S (x + 29) k).toInt32 else m_no) := by
    rw [f_X9_advance, show ((1 : Int32)) = nI 1 from rfl, h8, h7, if_pos (by rw [e_lt (by omega) (by omega)]; omega), e_let, e_rs, e_ldi (by omega) (by omega), e_bind, e_rq (by omega), c1, e_let, e_rn (by omega), e_rs, e_ldi (by omega) (by omega), e_bind, e_rq (by omega), e_rq (by omega), c2, e_let, e_rn (by omega), e_rs]
    by_cases h : κ = 3
    · rw [if_pos h, h]; simp (disch := omega) only [e_let, e_call, e_cal0, e_bind, e_lit, e_ofN, e_neg, nI_add, pk_mul, e_sub, e_ldi, e_sti, e_ldj, e_stj, e_le_t, e_le_f, e_lt_t, e_lt_f, e_eq_t, e_eq_f, e_no_eq, e_no_eq', e_no_rfl, e_no_lt, e_no_le, e_le_no, e_lt_no, if_true, if_false, ↓reduceIte, e_rs, e_rq, e_rn, e_ji, e_ki, e_ij, e_kj, e_js, e_jq, e_jn, e_cs, e_cq, e_jc, e_kc, e_js', e_jcq, e_icj, e_kcj, or_true, true_or, or_false, false_or, and_true, true_and, not_true_eq_false, not_false_eq_true]
    · rw [if_neg h]; simp (disch := omega) only [e_let, e_call, e_cal0, e_bind, e_lit, e_ofN, e_neg, nI_add, pk_mul, e_sub, e_ldi, e_sti, e_ldj, e_stj, e_le_t, e_le_f, e_lt_t, e_lt_f, e_eq_t, e_eq_f, e_no_eq, e_no_eq', e_no_rfl, e_no_lt, e_no_le, e_le_no, e_lt_no, if_true, if_false, ↓reduceIte, e_rs, e_rq, e_rn, e_ji, e_ki, e_ij, e_kj, e_js, e_jq, e_jn, e_cs, e_cq, e_jc, e_kc, e_js', e_jcq, e_icj, e_kcj, or_true, true_or, or_false, false_or, and_true, true_and, not_true_eq_false, not_false_eq_true]
  rw [e, k_ad73 (k := k) (κ := κ) (by simp (disch := omega) only [e_let, e_call, e_cal0, e_bind, e_lit, e_ofN, e_neg, nI_add, pk_mul, e_sub, e_ldi, e_sti, e_ldj, e_stj, e_le_t, e_le_f, e_lt_t, e_lt_f, e_eq_t, e_eq_f, e_no_eq, e_no_eq', e_no_rfl, e_no_lt, e_no_le, e_le_no, e_lt_no, if_true, if_false, ↓reduceIte, e_rs, e_rq, e_rn, e_ji, e_ki, e_ij, e_kj, e_js, e_jq, e_jn, e_cs, e_cq, e_jc, e_kc, e_js', e_jcq, e_icj, e_kcj, or_true, true_or, or_false, false_or, and_true, true_and, not_true_eq_false, not_false_eq_true]) (by simp (disch := omega) only [e_let, e_call, e_cal0, e_bind, e_lit, e_ofN, e_neg, nI_add, pk_mul, e_sub, e_ldi, e_sti, e_ldj, e_stj, e_le_t, e_le_f, e_lt_t, e_lt_f, e_eq_t, e_eq_f, e_no_eq, e_no_eq', e_no_rfl, e_no_lt, e_no_le, e_le_no, e_lt_no, if_true, if_false, ↓reduceIte, e_rs, e_rq, e_rn, e_ji, e_ki, e_ij, e_kj, e_js, e_jq, e_jn, e_cs, e_cq, e_jc, e_kc, e_js', e_jcq, e_icj, e_kcj, or_true, true_or, or_false, false_or, and_true, true_and, not_true_eq_false, not_false_eq_true]) (by omega) hκ, k_ad99 (k := k) (κ := κ) (by simp (disch := omega) only [e_let, e_call, e_cal0, e_bind, e_lit, e_ofN, e_neg, nI_add, pk_mul, e_sub, e_ldi, e_sti, e_ldj, e_stj, e_le_t, e_le_f, e_lt_t, e_lt_f, e_eq_t, e_eq_f, e_no_eq, e_no_eq', e_no_rfl, e_no_lt, e_no_le, e_le_no, e_lt_no, if_true, if_false, ↓reduceIte, e_rs, e_rq, e_rn, e_ji, e_ki, e_ij, e_kj, e_js, e_jq, e_jn, e_cs, e_cq, e_jc, e_kc, e_js', e_jcq, e_icj, e_kcj, or_true, true_or, or_false, false_or, and_true, true_and, not_true_eq_false, not_false_eq_true]) (by simp (disch := omega) only [e_let, e_call, e_cal0, e_bind, e_lit, e_ofN, e_neg, nI_add, pk_mul, e_sub, e_ldi, e_sti, e_ldj, e_stj, e_le_t, e_le_f, e_lt_t, e_lt_f, e_eq_t, e_eq_f, e_no_eq, e_no_eq', e_no_rfl, e_no_lt, e_no_le, e_le_no, e_lt_no, if_true, if_false, ↓reduceIte, e_rs, e_rq, e_rn, e_ji, e_ki, e_ij, e_kj, e_js, e_jq, e_jn, e_cs, e_cq, e_jc, e_kc, e_js', e_jcq, e_icj, e_kcj, or_true, true_or, or_false, false_or, and_true, true_and, not_true_eq_false, not_false_eq_true]) (by omega) hκ, k_ad125 (k := k) (κ := κ) (by simp (disch := omega) only [e_let, e_call, e_cal0, e_bind, e_lit, e_ofN, e_neg, nI_add, pk_mul, e_sub, e_ldi, e_sti, e_ldj, e_stj, e_le_t, e_le_f, e_lt_t, e_lt_f, e_eq_t, e_eq_f, e_no_eq, e_no_eq', e_no_rfl, e_no_lt, e_no_le, e_le_no, e_lt_no, if_true, if_false, ↓reduceIte, e_rs, e_rq, e_rn, e_ji, e_ki, e_ij, e_kj, e_js, e_jq, e_jn, e_cs, e_cq, e_jc, e_kc, e_js', e_jcq, e_icj, e_kcj, or_true, true_or, or_false, false_or, and_true, true_and, not_true_eq_false, not_false_eq_true]) (by simp (disch := omega) only [e_let, e_call, e_cal0, e_bind, e_lit, e_ofN, e_neg, nI_add, pk_mul, e_sub, e_ldi, e_sti, e_ldj, e_stj, e_le_t, e_le_f, e_lt_t, e_lt_f, e_eq_t, e_eq_f, e_no_eq, e_no_eq', e_no_rfl, e_no_lt, e_no_le, e_le_no, e_lt_no, if_true, if_false, ↓reduceIte, e_rs, e_rq, e_rn, e_ji, e_ki, e_ij, e_kj, e_js, e_jq, e_jn, e_cs, e_cq, e_jc, e_kc, e_js', e_jcq, e_icj, e_kcj, or_true, true_or, or_false, false_or, and_true, true_and, not_true_eq_false, not_false_eq_true]) (by omega) hκ]
  rfl
theorem k_adv0 (hA : t_A S x t N L K) (hk : k ≤ K) (h8 : m_ri S (x + 25) 8 + nI 1 = nI k) : ∃ S', f_X9_advance x S = some S' ∧ t_C S' x t N L (t_P t N k) ∧ (∀ i, i < 8 ∨ 13 < i → m_ri S' (x + 25) i = m_ri S (x + 25) i) ∧ t_O (x + 25) (x + 26) S S' := by
  obtain ⟨h7, hK, hc, hl⟩ := hA
  obtain ⟨c1, c2, c3, c4, c5, c6⟩ := hc k hk
  have hK5 := t_K_5 (t := t) (N := N) (L := L) (p := t_P t N k)
  refine ⟨t_ad x S k (nI (t_K t N L (t_P t N k))) (nI (t_F t N L (t_P t N k))) (if t_K t N L (t_P t N k) = 3 then nI (t_ki (t_W t N (t_P t N k))) else m_no) (if t_K t N L (t_P t N k) = 4 then nI (t_M t N (t_P t N k)) else m_no) (if t_K t N L (t_P t N k) = 5 then nI (t_G t N (t_P t N k)) else m_no) (if t_K t N L (t_P t N k) = 2 then t_W t N (t_P t N k) else -1), ?_, ⟨k, K, hk, ⟨?_, hK, fun j hj => ?_, hl⟩, rfl, ?_, ?_, ?_, ?_, ?_, ?_, ?_⟩, fun i hi => ?_, ?_⟩
  · rw [k_adf h8 h7 hk hK c1 c2 (by omega)]
    have q3 : (if t_K t N L (t_P t N k) = 3 then (m_rj S (x + 29) k).toInt32 else m_no) = (if t_K t N L (t_P t N k) = 3 then nI (t_ki (t_W t N (t_P t N k))) else m_no) := by
      split
      · rename_i h; rw [c4 h, e_j32]
      · rfl
    have q4 : (if t_K t N L (t_P t N k) = 4 then (m_rj S (x + 29) k).toInt32 else m_no) = (if t_K t N L (t_P t N k) = 4 then nI (t_M t N (t_P t N k)) else m_no) := by
      split
      · rename_i h; rw [c5 h, e_j32]
      · rfl
    have q5 : (if t_K t N L (t_P t N k) = 5 then (m_rj S (x + 29) k).toInt32 else m_no) = (if t_K t N L (t_P t N k) = 5 then nI (t_G t N (t_P t N k)) else m_no) := by
      split
      · rename_i h; rw [c6 h, e_j32]
      · rfl
    have q2 : (if t_K t N L (t_P t N k) = 2 then m_rj S (x + 29) k else -1) = (if t_K t N L (t_P t N k) = 2 then t_W t N (t_P t N k) else -1) := by
      split
      · rename_i h; rw [c3 h]
      · rfl
    rw [q3, q4, q5, q2]
  · rw [← h7]; simp (disch := omega) only [e_let, e_call, e_cal0, e_bind, e_lit, e_ofN, e_neg, nI_add, pk_mul, e_sub, e_ldi, e_sti, e_ldj, e_stj, e_le_t, e_le_f, e_lt_t, e_lt_f, e_eq_t, e_eq_f, e_no_eq, e_no_eq', e_no_rfl, e_no_lt, e_no_le, e_le_no, e_lt_no, if_true, if_false, ↓reduceIte, e_rs, e_rq, e_rn, e_ji, e_ki, e_ij, e_kj, e_js, e_jq, e_jn, e_cs, e_cq, e_jc, e_kc, e_js', e_jcq, e_icj, e_kcj, or_true, true_or, or_false, false_or, and_true, true_and, not_true_eq_false, not_false_eq_true, t_ad]
  · have := hc j hj
    simp only [t_c1] at this ⊢
    rw [show m_ri (t_ad x S k (nI (t_K t N L (t_P t N k))) (nI (t_F t N L (t_P t N k))) (if t_K t N L (t_P t N k) = 3 then nI (t_ki (t_W t N (t_P t N k))) else m_no) (if t_K t N L (t_P t N k) = 4 then nI (t_M t N (t_P t N k)) else m_no) (if t_K t N L (t_P t N k) = 5 then nI (t_G t N (t_P t N k)) else m_no) (if t_K t N L (t_P t N k) = 2 then t_W t N (t_P t N k) else -1)) (x + 27) = m_ri S (x + 27) by simp (disch := omega) only [e_let, e_call, e_cal0, e_bind, e_lit, e_ofN, e_neg, nI_add, pk_mul, e_sub, e_ldi, e_sti, e_ldj, e_stj, e_le_t, e_le_f, e_lt_t, e_lt_f, e_eq_t, e_eq_f, e_no_eq, e_no_eq', e_no_rfl, e_no_lt, e_no_le, e_le_no, e_lt_no, if_true, if_false, ↓reduceIte, e_rs, e_rq, e_rn, e_ji, e_ki, e_ij, e_kj, e_js, e_jq, e_jn, e_cs, e_cq, e_jc, e_kc, e_js', e_jcq, e_icj, e_kcj, or_true, true_or, or_false, false_or, and_true, true_and, not_true_eq_false, not_false_eq_true, t_ad],
      show m_ri (t_ad x S k (nI (t_K t N L (t_P t N k))) (nI (t_F t N L (t_P t N k))) (if t_K t N L (t_P t N k) = 3 then nI (t_ki (t_W t N (t_P t N k))) else m_no) (if t_K t N L (t_P t N k) = 4 then nI (t_M t N (t_P t N k)) else m_no) (if t_K t N L (t_P t N k) = 5 then nI (t_G t N (t_P t N k)) else m_no) (if t_K t N L (t_P t N k) = 2 then t_W t N (t_P t N k) else -1)) (x + 28) = m_ri S (x + 28) by simp (disch := omega) only [e_let, e_call, e_cal0, e_bind, e_lit, e_ofN, e_neg, nI_add, pk_mul, e_sub, e_ldi, e_sti, e_ldj, e_stj, e_le_t, e_le_f, e_lt_t, e_lt_f, e_eq_t, e_eq_f, e_no_eq, e_no_eq', e_no_rfl, e_no_lt, e_no_le, e_le_no, e_lt_no, if_true, if_false, ↓reduceIte, e_rs, e_rq, e_rn, e_ji, e_ki, e_ij, e_kj, e_js, e_jq, e_jn, e_cs, e_cq, e_jc, e_kc, e_js', e_jcq, e_icj, e_kcj, or_true, true_or, or_false, false_or, and_true, true_and, not_true_eq_false, not_false_eq_true, t_ad],
      show m_rj (t_ad x S k (nI (t_K t N L (t_P t N k))) (nI (t_F t N L (t_P t N k))) (if t_K t N L (t_P t N k) = 3 then nI (t_ki (t_W t N (t_P t N k))) else m_no) (if t_K t N L (t_P t N k) = 4 then nI (t_M t N (t_P t N k)) else m_no) (if t_K t N L (t_P t N k) = 5 then nI (t_G t N (t_P t N k)) else m_no) (if t_K t N L (t_P t N k) = 2 then t_W t N (t_P t N k) else -1)) (x + 29) = m_rj S (x + 29) by simp (disch := omega) only [e_let, e_call, e_cal0, e_bind, e_lit, e_ofN, e_neg, nI_add, pk_mul, e_sub, e_ldi, e_sti, e_ldj, e_stj, e_le_t, e_le_f, e_lt_t, e_lt_f, e_eq_t, e_eq_f, e_no_eq, e_no_eq', e_no_rfl, e_no_lt, e_no_le, e_le_no, e_lt_no, if_true, if_false, ↓reduceIte, e_rs, e_rq, e_rn, e_ji, e_ki, e_ij, e_kj, e_js, e_jq, e_jn, e_cs, e_cq, e_jc, e_kc, e_js', e_jcq, e_icj, e_kcj, or_true, true_or, or_false, false_or, and_true, true_and, not_true_eq_false, not_false_eq_true, t_ad]]
    exact this
  · simp (disch := omega) only [e_let, e_call, e_cal0, e_bind, e_lit, e_ofN, e_neg, nI_add, pk_mul, e_sub, e_ldi, e_sti, e_ldj, e_stj, e_le_t, e_le_f, e_lt_t, e_lt_f, e_eq_t, e_eq_f, e_no_eq, e_no_eq', e_no_rfl, e_no_lt, e_no_le, e_le_no, e_lt_no, if_true, if_false, ↓reduceIte, e_rs, e_rq, e_rn, e_ji, e_ki, e_ij, e_kj, e_js, e_jq, e_jn, e_cs, e_cq, e_jc, e_kc, e_js', e_jcq, e_icj, e_kcj, or_true, true_or, or_false, false_or, and_true, true_and, not_true_eq_false, not_false_eq_true, t_ad]
  · simp (disch := omega) only [e_let, e_call, e_cal0, e_bind, e_lit, e_ofN, e_neg, nI_add, pk_mul, e_sub, e_ldi, e_sti, e_ldj, e_stj, e_le_t, e_le_f, e_lt_t, e_lt_f, e_eq_t, e_eq_f, e_no_eq, e_no_eq', e_no_rfl, e_no_lt, e_no_le, e_le_no, e_lt_no, if_true, if_false, ↓reduceIte, e_rs, e_rq, e_rn, e_ji, e_ki, e_ij, e_kj, e_js, e_jq, e_jn, e_cs, e_cq, e_jc, e_kc, e_js', e_jcq, e_icj, e_kcj, or_true, true_or, or_false, false_or, and_true, true_and, not_true_eq_false, not_false_eq_true, t_ad]
  · simp (disch := omega) only [e_let, e_call, e_cal0, e_bind, e_lit, e_ofN, e_neg, nI_add, pk_mul, e_sub, e_ldi, e_sti, e_ldj, e_stj, e_le_t, e_le_f, e_lt_t, e_lt_f, e_eq_t, e_eq_f, e_no_eq, e_no_eq', e_no_rfl, e_no_lt, e_no_le, e_le_no, e_lt_no, if_true, if_false, ↓reduceIte, e_rs, e_rq, e_rn, e_ji, e_ki, e_ij, e_kj, e_js, e_jq, e_jn, e_cs, e_cq, e_jc, e_kc, e_js', e_jcq, e_icj, e_kcj, or_true, true_or, or_false, false_or, and_true, true_and, not_true_eq_false, not_false_eq_true, t_ad]
  · simp (disch := omega) only [e_let, e_call, e_cal0, e_bind, e_lit, e_ofN, e_neg, nI_add, pk_mul, e_sub, e_ldi, e_sti, e_ldj, e_stj, e_le_t, e_le_f, e_lt_t, e_lt_f, e_eq_t, e_eq_f, e_no_eq, e_no_eq', e_no_rfl, e_no_lt, e_no_le, e_le_no, e_lt_no, if_true, if_false, ↓reduceIte, e_rs, e_rq, e_rn, e_ji, e_ki, e_ij, e_kj, e_js, e_jq, e_jn, e_cs, e_cq, e_jc, e_kc, e_js', e_jcq, e_icj, e_kcj, or_true, true_or, or_false, false_or, and_true, true_and, not_true_eq_false, not_false_eq_true, t_ad]
  · simp (disch := omega) only [e_let, e_call, e_cal0, e_bind, e_lit, e_ofN, e_neg, nI_add, pk_mul, e_sub, e_ldi, e_sti, e_ldj, e_stj, e_le_t, e_le_f, e_lt_t, e_lt_f, e_eq_t, e_eq_f, e_no_eq, e_no_eq', e_no_rfl, e_no_lt, e_no_le, e_le_no, e_lt_no, if_true, if_false, ↓reduceIte, e_rs, e_rq, e_rn, e_ji, e_ki, e_ij, e_kj, e_js, e_jq, e_jn, e_cs, e_cq, e_jc, e_kc, e_js', e_jcq, e_icj, e_kcj, or_true, true_or, or_false, false_or, and_true, true_and, not_true_eq_false, not_false_eq_true, t_ad]
  · simp (disch := omega) only [e_let, e_call, e_cal0, e_bind, e_lit, e_ofN, e_neg, nI_add, pk_mul, e_sub, e_ldi, e_sti, e_ldj, e_stj, e_le_t, e_le_f, e_lt_t, e_lt_f, e_eq_t, e_eq_f, e_no_eq, e_no_eq', e_no_rfl, e_no_lt, e_no_le, e_le_no, e_lt_no, if_true, if_false, ↓reduceIte, e_rs, e_rq, e_rn, e_ji, e_ki, e_ij, e_kj, e_js, e_jq, e_jn, e_cs, e_cq, e_jc, e_kc, e_js', e_jcq, e_icj, e_kcj, or_true, true_or, or_false, false_or, and_true, true_and, not_true_eq_false, not_false_eq_true, t_ad]
  · simp (disch := omega) only [e_let, e_call, e_cal0, e_bind, e_lit, e_ofN, e_neg, nI_add, pk_mul, e_sub, e_ldi, e_sti, e_ldj, e_stj, e_le_t, e_le_f, e_lt_t, e_lt_f, e_eq_t, e_eq_f, e_no_eq, e_no_eq', e_no_rfl, e_no_lt, e_no_le, e_le_no, e_lt_no, if_true, if_false, ↓reduceIte, e_rs, e_rq, e_rn, e_ji, e_ki, e_ij, e_kj, e_js, e_jq, e_jn, e_cs, e_cq, e_jc, e_kc, e_js', e_jcq, e_icj, e_kcj, or_true, true_or, or_false, false_or, and_true, true_and, not_true_eq_false, not_false_eq_true, t_ad]
  · simp (disch := omega) only [e_let, e_call, e_cal0, e_bind, e_lit, e_ofN, e_neg, nI_add, pk_mul, e_sub, e_ldi, e_sti, e_ldj, e_stj, e_le_t, e_le_f, e_lt_t, e_lt_f, e_eq_t, e_eq_f, e_no_eq, e_no_eq', e_no_rfl, e_no_lt, e_no_le, e_le_no, e_lt_no, if_true, if_false, ↓reduceIte, e_rs, e_rq, e_rn, e_ji, e_ki, e_ij, e_kj, e_js, e_jq, e_jn, e_cs, e_cq, e_jc, e_kc, e_js', e_jcq, e_icj, e_kcj, or_true, true_or, or_false, false_or, and_true, true_and, not_true_eq_false, not_false_eq_true, t_ad]
  · exact ((((((t_O.rf.si (by omega) (by omega)).si (by omega) (by omega)).si (by omega) (by omega)).si (by omega) (by omega)).si (by omega) (by omega)).si (by omega) (by omega)).sj (by omega) (by omega)
/-- behind a good piece -/
theorem k_adv (hC : t_C S x t N L p) (h2 : 2 ≤ t_K t N L p) : ∃ S', f_X9_advance x S = some S' ∧ t_C S' x t N L (t_E t N p) ∧ (∀ i, i < 8 ∨ 13 < i → m_ri S' (x + 25) i = m_ri S (x + 25) i) ∧ t_O (x + 25) (x + 26) S S' := by
  obtain ⟨k, K, h, hA, e, h8, _⟩ := hC
  subst e
  have : k < K := by
    rcases Nat.lt_or_ge k K with g | g
    · exact g
    · have := hA.2.2.2
      rw [show K = k by omega] at this
      omega
  exact k_adv0 hA (k := k + 1) (by omega) (by rw [h8, nI_add])
theorem k_open (hc : t_Z S x t N) (hLE : L = 900) : ∃ S', f_X9_open x S (nI N) = some S' ∧ t_C S' x t N L 0 ∧ t_Z S' x t N ∧ m_ri S' (x + 25) 15 = nI 0 ∧ m_ri S' (x + 25) 16 = nI 0 ∧ t_O (x + 25) (x + 30) S S' := by
  have hfu := m_fu_ge
  have hL : L ≤ 900 := by omega
  have hN := hc.2.2.1.1
  have hz0 : m_ri S (x + 25) 0 = nI L := by rw [hLE]; exact hc.2.2.1.2
  generalize hS6 : m_si (m_si (m_si (m_si (m_si S (x + 25) 5 (nI N)) (x + 25) 15 (nI 0)) (x + 25) 16 (nI 0)) (x + 25) 7 (nI 0)) (x + 25) 6 (nI 0) = S6
  have hO6 : t_O (x + 25) (x + 30) S S6 := by
    rw [← hS6]; exact ((((t_O.rf.si (by omega) (by omega)).si (by omega) (by omega)).si (by omega) (by omega)).si (by omega) (by omega)).si (by omega) (by omega)
  have hj6 : m_rj S6 = m_rj S := by rw [← hS6]; rfl
  have hZ6 : t_Z S6 x t N := ⟨fun i hi => by rw [(hO6.1 (x + 1) (by omega)).1]; exact hc.1 i hi, fun i hi => by rw [hj6]; exact hc.2.1 i hi, ⟨hN, by rw [← hS6]; simp (disch := omega) only [e_let, e_call, e_cal0, e_bind, e_lit, e_ofN, e_neg, nI_add, pk_mul, e_sub, e_ldi, e_sti, e_ldj, e_stj, e_le_t, e_le_f, e_lt_t, e_lt_f, e_eq_t, e_eq_f, e_no_eq, e_no_eq', e_no_rfl, e_no_lt, e_no_le, e_le_no, e_lt_no, if_true, if_false, ↓reduceIte, e_rs, e_rq, e_rn, e_ji, e_ki, e_ij, e_kj, e_js, e_jq, e_jn, e_cs, e_cq, e_jc, e_kc, e_js', e_jcq, e_icj, e_kcj, or_true, true_or, or_false, false_or, and_true, true_and, not_true_eq_false, not_false_eq_true, hc.2.2.1.2]⟩, hc.2.2.2⟩
  have hI6 : t_I S6 x t N L 0 0 := ⟨by rw [← hS6]; simp (disch := omega) only [e_let, e_call, e_cal0, e_bind, e_lit, e_ofN, e_neg, nI_add, pk_mul, e_sub, e_ldi, e_sti, e_ldj, e_stj, e_le_t, e_le_f, e_lt_t, e_lt_f, e_eq_t, e_eq_f, e_no_eq, e_no_eq', e_no_rfl, e_no_lt, e_no_le, e_le_no, e_lt_no, if_true, if_false, ↓reduceIte, e_rs, e_rq, e_rn, e_ji, e_ki, e_ij, e_kj, e_js, e_jq, e_jn, e_cs, e_cq, e_jc, e_kc, e_js', e_jcq, e_icj, e_kcj, or_true, true_or, or_false, false_or, and_true, true_and, not_true_eq_false, not_false_eq_true], by rw [← hS6]; simp (disch := omega) only [e_let, e_call, e_cal0, e_bind, e_lit, e_ofN, e_neg, nI_add, pk_mul, e_sub, e_ldi, e_sti, e_ldj, e_stj, e_le_t, e_le_f, e_lt_t, e_lt_f, e_eq_t, e_eq_f, e_no_eq, e_no_eq', e_no_rfl, e_no_lt, e_no_le, e_le_no, e_lt_no, if_true, if_false, ↓reduceIte, e_rs, e_rq, e_rn, e_ji, e_ki, e_ij, e_kj, e_js, e_jq, e_jn, e_cs, e_cq, e_jc, e_kc, e_js', e_jcq, e_icj, e_kcj, or_true, true_or, or_false, false_or, and_true, true_and, not_true_eq_false, not_false_eq_true], by rw [← hS6]; simp (disch := omega) only [e_let, e_call, e_cal0, e_bind, e_lit, e_ofN, e_neg, nI_add, pk_mul, e_sub, e_ldi, e_sti, e_ldj, e_stj, e_le_t, e_le_f, e_lt_t, e_lt_f, e_eq_t, e_eq_f, e_no_eq, e_no_eq', e_no_rfl, e_no_lt, e_no_le, e_le_no, e_lt_no, if_true, if_false, ↓reduceIte, e_rs, e_rq, e_rn, e_ji, e_ki, e_ij, e_kj, e_js, e_jq, e_jn, e_cs, e_cq, e_jc, e_kc, e_js', e_jcq, e_icj, e_kcj, or_true, true_or, or_false, false_or, and_true, true_and, not_true_eq_false, not_false_eq_true], Nat.zero_le _, fun j hj => absurd hj (Nat.not_lt_zero j), rfl⟩
  have hf6 : m_ri S6 (x + 25) 15 = nI 0 ∧ m_ri S6 (x + 25) 16 = nI 0 := by constructor <;> (rw [← hS6]; simp (disch := omega) only [e_let, e_call, e_cal0, e_bind, e_lit, e_ofN, e_neg, nI_add, pk_mul, e_sub, e_ldi, e_sti, e_ldj, e_stj, e_le_t, e_le_f, e_lt_t, e_lt_f, e_eq_t, e_eq_f, e_no_eq, e_no_eq', e_no_rfl, e_no_lt, e_no_le, e_le_no, e_lt_no, if_true, if_false, ↓reduceIte, e_rs, e_rq, e_rn, e_ji, e_ki, e_ij, e_kj, e_js, e_jq, e_jn, e_cs, e_cq, e_jc, e_kc, e_js', e_jcq, e_icj, e_kcj, or_true, true_or, or_false, false_or, and_true, true_and, not_true_eq_false, not_false_eq_true])
  generalize hM : (if N < L then N else L) = M
  have hMN : M ≤ N := by split at hM <;> omega
  obtain ⟨S1, s, p, a1, a2, a3, a4, a5⟩ := k_op45 (x := x) (t := t) (N := N) (L := L) hM.symm hL M 0 m_fu 0 0 S6 (by omega) (by omega) (Nat.le_refl 0) (Nat.le_refl 0) hZ6 hI6
  obtain ⟨i5, i6, i7, i8, i9, i0⟩ := a2
  have hSp := t_S_le (t := t) (N := N) (N - p) p rfl i8
  have hM9 : M ≤ 900 := by split at hM <;> omega
  generalize hk0 : (if N ≤ M then 0 else 1) = k0
  have hp := k_put (S := S1) (x := x) (a := nI k0) (b := nI M) (c := -1) (by rw [a5.1 0 (by omega) (by omega)]; exact hZ6.2.2.1.2) i7 (by omega)
  have hKs : t_K t N L (t_P t N s) = k0 ∧ t_F t N L (t_P t N s) = M := by
    rw [t_K, t_F, ← i0, ← hk0]
    by_cases h : N ≤ M
    · have : ¬ (L < N ∧ L ≤ t_S t N p) := fun g => by split at hM <;> omega
      rw [if_pos h, if_neg this, if_neg (by omega), if_neg this]; exact ⟨rfl, by omega⟩
    · have : L < N ∧ L ≤ t_S t N p := by split at hM <;> omega
      rw [if_neg h, if_pos this, if_pos this]; exact ⟨rfl, by split at hM <;> omega⟩
  have hth := t_h_pt (S := S1) (S0 := S1) (x := x) (s := s) (a := nI k0) (b := nI M) (c := -1) i6 (fun _ _ => rfl) e_O.rf
  obtain ⟨v1, v2, v3⟩ := t_pt_v (S := S1) (x := x) (s := s) (a := nI k0) (b := nI M) (c := -1)
  have hk01 : k0 ≤ 1 := by rw [← hk0]; split <;> omega
  generalize hS2 : t_pt x S1 s (nI k0) (nI M) (-1) = S2 at *
  have hA : t_A (m_si S2 (x + 25) 8 m_no) x t N L s := by
    refine ⟨by rw [e_rn (by omega)]; exact hth.2.1, by omega, fun j hj => ?_, by rw [hKs.1]; exact hk01⟩
    simp only [t_c1]
    rw [e_rq (by omega), e_rq (by omega), e_ji]
    by_cases hjs : j = s
    · subst hjs
      rw [hKs.1, hKs.2]
      exact ⟨v1, v2, fun h => by omega, fun h => by omega, fun h => by omega, fun h => by omega⟩
    · exact t_c1_of hth hjs (i9 j (by omega))
  obtain ⟨S3, b1, b2, b3, b4⟩ := k_adv0 hA (Nat.zero_le s) (by rw [e_rs]; exact e_inc0)
  have hO13 : t_O (x + 25) (x + 30) S1 S3 := (hth.2.2.2.2.2.2.2.si (by omega) (by omega)).tr (b4.wide (by omega) (by omega))
  have hO3 : t_O (x + 25) (x + 30) S S3 := (hO6.tr a5.2.2).tr hO13
  refine ⟨S3, ?_, b2, ?_, ?_, ?_, hO3⟩
  · have e0 : f_X9_open x S (nI N) = b_X9_open_45 x m_fu S6 (nI M) (nI 0) := by
      rw [← hS6, ← hM]
      by_cases h : N < L
      · rw [if_pos h]; simp (disch := omega) only [e_let, e_call, e_cal0, e_bind, e_lit, e_ofN, e_neg, nI_add, pk_mul, e_sub, e_ldi, e_sti, e_ldj, e_stj, e_le_t, e_le_f, e_lt_t, e_lt_f, e_eq_t, e_eq_f, e_no_eq, e_no_eq', e_no_rfl, e_no_lt, e_no_le, e_le_no, e_lt_no, if_true, if_false, ↓reduceIte, e_rs, e_rq, e_rn, e_ji, e_ki, e_ij, e_kj, e_js, e_jq, e_jn, e_cs, e_cq, e_jc, e_kc, e_js', e_jcq, e_icj, e_kcj, or_true, true_or, or_false, false_or, and_true, true_and, not_true_eq_false, not_false_eq_true, f_X9_open, hz0]
      · rw [if_neg h]
        by_cases h' : L < N
        · simp (disch := omega) only [e_let, e_call, e_cal0, e_bind, e_lit, e_ofN, e_neg, nI_add, pk_mul, e_sub, e_ldi, e_sti, e_ldj, e_stj, e_le_t, e_le_f, e_lt_t, e_lt_f, e_eq_t, e_eq_f, e_no_eq, e_no_eq', e_no_rfl, e_no_lt, e_no_le, e_le_no, e_lt_no, if_true, if_false, ↓reduceIte, e_rs, e_rq, e_rn, e_ji, e_ki, e_ij, e_kj, e_js, e_jq, e_jn, e_cs, e_cq, e_jc, e_kc, e_js', e_jcq, e_icj, e_kcj, or_true, true_or, or_false, false_or, and_true, true_and, not_true_eq_false, not_false_eq_true, f_X9_open, hz0]
        · obtain rfl : L = N := by omega
          simp (disch := omega) only [e_let, e_call, e_cal0, e_bind, e_lit, e_ofN, e_neg, nI_add, pk_mul, e_sub, e_ldi, e_sti, e_ldj, e_stj, e_le_t, e_le_f, e_lt_t, e_lt_f, e_eq_t, e_eq_f, e_no_eq, e_no_eq', e_no_rfl, e_no_lt, e_no_le, e_le_no, e_lt_no, if_true, if_false, ↓reduceIte, e_rs, e_rq, e_rn, e_ji, e_ki, e_ij, e_kj, e_js, e_jq, e_jn, e_cs, e_cq, e_jc, e_kc, e_js', e_jcq, e_icj, e_kcj, or_true, true_or, or_false, false_or, and_true, true_and, not_true_eq_false, not_false_eq_true, f_X9_open, hz0]
    rw [e0, a1]
    by_cases h : N ≤ M
    · rw [if_pos h] at hk0
      subst hk0
      simp (disch := omega) only [e_let, e_call, e_cal0, e_bind, e_lit, e_ofN, e_neg, nI_add, pk_mul, e_sub, e_ldi, e_sti, e_ldj, e_stj, e_le_t, e_le_f, e_lt_t, e_lt_f, e_eq_t, e_eq_f, e_no_eq, e_no_eq', e_no_rfl, e_no_lt, e_no_le, e_le_no, e_lt_no, if_true, if_false, ↓reduceIte, e_rs, e_rq, e_rn, e_ji, e_ki, e_ij, e_kj, e_js, e_jq, e_jn, e_cs, e_cq, e_jc, e_kc, e_js', e_jcq, e_icj, e_kcj, or_true, true_or, or_false, false_or, and_true, true_and, not_true_eq_false, not_false_eq_true, b_X9_open_70, i5, b_X9_open_84, hp, b1]
    · rw [if_neg h] at hk0
      subst hk0
      simp (disch := omega) only [e_let, e_call, e_cal0, e_bind, e_lit, e_ofN, e_neg, nI_add, pk_mul, e_sub, e_ldi, e_sti, e_ldj, e_stj, e_le_t, e_le_f, e_lt_t, e_lt_f, e_eq_t, e_eq_f, e_no_eq, e_no_eq', e_no_rfl, e_no_lt, e_no_le, e_le_no, e_lt_no, if_true, if_false, ↓reduceIte, e_rs, e_rq, e_rn, e_ji, e_ki, e_ij, e_kj, e_js, e_jq, e_jn, e_cs, e_cq, e_jc, e_kc, e_js', e_jcq, e_icj, e_kcj, or_true, true_or, or_false, false_or, and_true, true_and, not_true_eq_false, not_false_eq_true, b_X9_open_70, i5, b_X9_open_84, hp, b1]
  · refine ⟨fun i hi => by rw [(hO3.1 (x + 1) (by omega)).1]; exact hc.1 i hi, fun i hi => ?_, ⟨hN, ?_⟩, hc.2.2.2⟩
    · rw [(b4.1 (x + 26) (by omega)).2, e_ji, hth.2.2.2.2.2.2.1, a5.2.1, hj6]; exact hc.2.1 i hi
    · rw [b3 0 (by omega), e_rn (by omega), hth.2.2.1 0 (by omega) (by omega), a5.1 0 (by omega) (by omega)]; exact hZ6.2.2.1.2
  · rw [b3 15 (by omega), e_rn (by omega), hth.2.2.1 15 (by omega) (by omega), a5.1 15 (by omega) (by omega)]; exact hf6.1
  · rw [b3 16 (by omega), e_rn (by omega), hth.2.2.1 16 (by omega) (by omega), a5.1 16 (by omega) (by omega)]; exact hf6.2
end TC
