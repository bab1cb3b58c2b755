/-! a program that is being read: both sides -/
def v_W (P : pP) : Prop :=
  p_fu P ≤ 5 ∧ p_ln P ≤ 24 ∧
  (∀ f, f < p_fu P → p_pa P f ≤ 3 ∧ (f + 1 < p_fu P → 1 ≤ p_ct P f) ∧ p_fi P f + p_ct P f ≤ p_ln P ∧ (f + 1 = p_fu P → p_fi P f + p_ct P f = p_ln P)) ∧
  (∀ f g, f < g → g < p_fu P → p_fi P f + p_ct P f ≤ p_fi P g) ∧
  (∀ f i, f < p_fu P → i < p_ct P f → p_op P (p_fi P f + i) ≤ 9 ∧ p_nu P (p_fi P f + i) ≤ 999 ∧
    (8 ≤ p_op P (p_fi P f + i) → p_ca P (p_fi P f + i) < p_fu P) ∧
    ∀ k, p_us P (p_fi P f + i) k → p_va P (p_fi P f + i) k < p_pa P f + i) ∧ (p_fu P = 0 → p_ln P = 0) ∧ ∀ f i, f < p_fu P → i < p_ct P f → 8 ≤ p_op P (p_fi P f + i) → p_ca P (p_fi P f + i) ≤ f
/-- how many vars there are -/
def v_n (P : pP) : Nat := if p_fu P = 0 then 0 else p_vs P (p_fu P - 1)
def v_QS (S : m_M) (x : Nat) (P : pP) (n w : Nat → Int64) : Prop := p_R S (x + 3) P ∧ (∀ f, f < p_fu P → m_rj S (x + 4) f = n f) ∧ m_ri S (x + 2) 3 = nI (v_n P) ∧ ∀ v, v < v_n P → m_rj S (x + 30) v = w v
def v_QT (T : m_M) (m : Nat) (P : pP) (n w : Nat → Int64) : Prop := r_P (m_ri T (m + 3)) P ∧ (∀ f, p_fu P ≤ f → f < 5 → m_ri T (m + 3) (3 + f) = nI 0 ∧ m_ri T (m + 3) (13 + f) = nI 0) ∧ (∀ f, f < p_fu P → m_rj T (m + 8) f = n f) ∧ ∀ v, v < v_n P → m_rj T (m + 10) (27 * (p_fu P - 1) + v) = w v
theorem v_n_le {P : pP} (h : v_W P) : v_n P ≤ 27 := by
  rw [v_n]
  split
  · omega
  · have := h.2.2.1 (p_fu P - 1) (by omega)
    have := h.2.1
    simp only [p_vs]; omega
/-- what reading the words of a line changes -/
def v_fs (x l : Nat) (S S' : m_M) : Prop := (∀ q, q ≠ x + 25 → q ≠ x + 8 → q ≠ x + 9 → q ≠ x + 10 → m_ri S' q = m_ri S q) ∧ (∀ q, q ≠ x + 25 → m_rj S' q = m_rj S q) ∧ m_rr S' = m_rr S ∧ (∀ j, j ≠ l → m_ri S' (x + 8) j = m_ri S (x + 8) j ∧ m_ri S' (x + 9) j = m_ri S (x + 9) j) ∧ ∀ j, j < l * 5 ∨ l * 5 + 5 ≤ j → m_ri S' (x + 10) j = m_ri S (x + 10) j
def v_ft (m l : Nat) (T T' : m_M) : Prop := (∀ i, i < 5 ∨ 11 < i → m_ri T' m i = m_ri T m i) ∧ (∀ i, i ≠ 12 → m_rj T' m i = m_rj T m i) ∧ (∀ q, q ≠ m → q ≠ m + 3 → m_ri T' q = m_ri T q) ∧ (∀ q, q ≠ m → m_rj T' q = m_rj T q) ∧ m_rr T' = m_rr T ∧ ∀ j, j ≠ 18 + l → j ≠ 42 + l → j ≠ 186 + l → j < 66 + 5 * l ∨ 66 + 5 * l + 5 ≤ j → m_ri T' (m + 3) j = m_ri T (m + 3) j
section VS
variable {S S' S'' T T' T'' : m_M} {x m l : Nat} {t : Nat → Nat} {N L p : Nat} {P : pP} {n w : Nat → Int64}
theorem v_fs.rf : v_fs x l S S := ⟨fun _ _ _ _ _ => rfl, fun _ _ => rfl, rfl, fun _ _ => ⟨rfl, rfl⟩, fun _ _ => rfl⟩
theorem v_fs.tr (h : v_fs x l S S') (h' : v_fs x l S' S'') : v_fs x l S S'' := ⟨fun q a b c d => (h'.1 q a b c d).trans (h.1 q a b c d), fun q a => (h'.2.1 q a).trans (h.2.1 q a), h'.2.2.1.trans h.2.2.1, fun j a => ⟨(h'.2.2.2.1 j a).1.trans (h.2.2.2.1 j a).1, (h'.2.2.2.1 j a).2.trans (h.2.2.2.1 j a).2⟩, fun j a => (h'.2.2.2.2 j a).trans (h.2.2.2.2 j a)⟩
theorem v_fs.of (h : t_O (x + 25) (x + 26) S S') : v_fs x l S S' := ⟨fun q a _ _ _ => (h.1 q (by omega)).1, fun q a => (h.1 q (by omega)).2, h.2, fun j _ => ⟨by rw [(h.1 (x + 8) (by omega)).1], by rw [(h.1 (x + 9) (by omega)).1]⟩, fun j _ => by rw [(h.1 (x + 10) (by omega)).1]⟩
theorem v_fs.sl {i : Nat} {v : Int32} (h : v_fs x l S S') : v_fs x l S (m_si S' (x + 25) i v) := h.tr (v_fs.of (t_O.rf.si (by omega) (by omega)))
theorem v_fs.s3 {v : Int32} (h : v_fs x l S S') : v_fs x l S (m_si S' (x + 8) l v) := h.tr ⟨fun q _ a _ _ => by rw [e_rq a], fun _ _ => rfl, rfl, fun j a => ⟨by rw [e_rn a], by rw [e_rq (by omega)]⟩, fun j _ => by rw [e_rq (by omega)]⟩
theorem v_fs.s4 {v : Int32} (h : v_fs x l S S') : v_fs x l S (m_si S' (x + 9) l v) := h.tr ⟨fun q _ _ a _ => by rw [e_rq a], fun _ _ => rfl, rfl, fun j a => ⟨by rw [e_rq (by omega)], by rw [e_rn a]⟩, fun j _ => by rw [e_rq (by omega)]⟩
theorem v_fs.s5 {k : Nat} {v : Int32} (h : v_fs x l S S') (h1 : l * 5 ≤ k) (h2 : k < l * 5 + 5) : v_fs x l S (m_si S' (x + 10) k v) := h.tr ⟨fun q _ _ _ a => by rw [e_rq a], fun _ _ => rfl, rfl, fun j a => ⟨by rw [e_rq (by omega)], by rw [e_rq (by omega)]⟩, fun j _ => by rw [e_rn (by omega)]⟩
theorem v_ft.rf : v_ft m l T T := ⟨fun _ _ => rfl, fun _ _ => rfl, fun _ _ _ => rfl, fun _ _ => rfl, rfl, fun _ _ _ _ _ => rfl⟩
theorem v_ft.tr (h : v_ft m l T T') (h' : v_ft m l T' T'') : v_ft m l T T'' := ⟨fun q a => (h'.1 q a).trans (h.1 q a), fun q a => (h'.2.1 q a).trans (h.2.1 q a), fun q a b => (h'.2.2.1 q a b).trans (h.2.2.1 q a b), fun q a => (h'.2.2.2.1 q a).trans (h.2.2.2.1 q a), h'.2.2.2.2.1.trans h.2.2.2.2.1, fun j a b c d => (h'.2.2.2.2.2 j a b c d).trans (h.2.2.2.2.2 j a b c d)⟩
theorem v_ft.of (h : t_N m T T') : v_ft m l T T' := ⟨fun i a => h.1 i (by omega), h.2.1, fun q a _ => (h.2.2.1 q (by omega)).1, fun q a => (h.2.2.1 q (by omega)).2, h.2.2.2, fun j _ _ _ _ => by rw [(h.2.2.1 (m + 3) (by omega)).1]⟩
theorem v_ft.sl {i : Nat} {v : Int32} (h : v_ft m l T T') (h1 : 5 ≤ i) (h2 : i ≤ 11) : v_ft m l T (m_si T' m i v) := h.tr ⟨fun j a => by rw [e_rn (by omega)], fun _ _ => rfl, fun q a _ => by rw [e_rq a], fun _ _ => rfl, rfl, fun j _ _ _ _ => by rw [e_rq (by omega)]⟩
theorem v_ft.s3 {k : Nat} {v : Int32} (h : v_ft m l T T') (h1 : k = 18 + l ∨ k = 42 + l ∨ k = 186 + l ∨ (66 + 5 * l ≤ k ∧ k < 66 + 5 * l + 5)) : v_ft m l T (m_si T' (m + 3) k v) := h.tr ⟨fun j a => by rw [e_rq (by omega)], fun _ _ => rfl, fun q _ a => by rw [e_rq a], fun _ _ => rfl, rfl, fun j _ _ _ _ => by rw [e_rn (by omega)]⟩
theorem v_QS.kept (h : v_QS S x P n w) (hW : v_W P) (w' : v_fs x (p_ln P) S S') : v_QS S' x P n w := by
  obtain ⟨⟨r1, r2, r3, r4, r5, r6⟩, h2, h3, h4⟩ := h
  obtain ⟨w1, w2, w3, w4, w5⟩ := w'
  refine ⟨⟨?_, ?_, fun f hf => ?_, fun f hf => ?_, fun f hf => ?_, fun f i hf hi => ?_⟩, fun f hf => ?_, ?_, fun v hv => ?_⟩
  · rw [w1 _ (by omega) (by omega) (by omega) (by omega)]; exact r1
  · rw [w1 _ (by omega) (by omega) (by omega) (by omega)]; exact r2
  · rw [w1 _ (by omega) (by omega) (by omega) (by omega)]; exact r3 f hf
  · rw [w1 _ (by omega) (by omega) (by omega) (by omega)]; exact r4 f hf
  · rw [w1 _ (by omega) (by omega) (by omega) (by omega)]; exact r5 f hf
  · have hl := (hW.2.2.1 f hf).2.2.1
    obtain ⟨g1, g2, g3, g4⟩ := r6 f i hf hi
    refine ⟨?_, fun h => ?_, fun h => ?_, fun s hs h => ?_⟩
    · rw [show x + 3 + 5 = x + 8 from rfl, (w4 _ (by omega)).1]; exact g1
    · rw [show x + 3 + 6 = x + 9 from rfl, (w4 _ (by omega)).2]; exact g2 h
    · rw [show x + 3 + 7 = x + 10 from rfl, w5 _ (by omega)]; exact g3 h
    · rw [show x + 3 + 7 = x + 10 from rfl, w5 _ (by omega)]; exact g4 s hs h
  · rw [w2 _ (by omega)]; exact h2 f hf
  · rw [w1 _ (by omega) (by omega) (by omega) (by omega)]; exact h3
  · rw [w2 _ (by omega)]; exact h4 v hv
theorem v_QT.kept (h : v_QT T m P n w) (hW : v_W P) (w' : v_ft m (p_ln P) T T') (hl : p_ln P < 24) : v_QT T' m P n w := by
  obtain ⟨⟨r1, r2, r3, r4⟩, h2, h3, h4⟩ := h
  obtain ⟨_, _, _, w4, _, w6⟩ := w'
  have hf5 := hW.1
  refine ⟨⟨?_, ?_, fun f hf => ?_, fun f i hf hi => ?_⟩, fun f hf hf' => ?_, fun f hf => ?_, fun v hv => ?_⟩
  · rw [w6 _ (by omega) (by omega) (by omega) (by omega)]; exact r1
  · rw [w6 _ (by omega) (by omega) (by omega) (by omega)]; exact r2
  · rw [w6 _ (by omega) (by omega) (by omega) (by omega), w6 _ (by omega) (by omega) (by omega) (by omega), w6 _ (by omega) (by omega) (by omega) (by omega)]; exact r3 f hf
  · have hl := (hW.2.2.1 f hf).2.2.1
    obtain ⟨g1, g2, g3, g4⟩ := r4 f i hf hi
    refine ⟨?_, fun h => ?_, fun h => ?_, fun k hk => ?_⟩
    · rw [w6 _ (by omega) (by omega) (by omega) (by omega)]; exact g1
    · rw [w6 _ (by omega) (by omega) (by omega) (by omega)]; exact g2 h
    · rw [w6 _ (by omega) (by omega) (by omega) (by omega)]; exact g3 h
    · rw [w6 _ (by omega) (by omega) (by omega) (by omega)]; exact g4 k hk
  · rw [w6 _ (by omega) (by omega) (by omega) (by omega), w6 _ (by omega) (by omega) (by omega) (by omega)]; exact h2 f hf hf'
  · rw [w4 _ (by omega)]; exact h3 f hf
  · rw [w4 _ (by omega)]; exact h4 v hv
/-- where a name stands, or how many there are -/
def v_ix (w : Nat → Int64) (W : Int64) : Nat → Nat → Nat
  | 0, i => i
  | c + 1, i => if w i = W then i else v_ix w W c (i + 1)
theorem v_ix_le {W : Int64} : ∀ (c i : Nat), v_ix w W c i ≤ i + c := by
  intro c
  induction c with
  | zero => intro i; exact Nat.le_refl i
  | succ c ih => intro i; rw [v_ix]; have := ih (i + 1); split <;> omega
def v_lk (w : Nat → Int64) (W : Int64) (h : Nat) : Nat := v_ix w W h 0
/-- the answer of a search -/
def v_an (w : Nat → Int64) (W : Int64) (h : Nat) : Int32 := if v_lk w W h < h then nI (v_lk w W h) else m_no
theorem k_varOf {W : Int64} (hQ : v_QS S x P n w) (hW : v_W P) : f_X4_varOf x S W = some (v_an w W (v_n P), S) := by
  have hfu := m_fu_ge
  have h27 := v_n_le hW
  obtain ⟨_, _, h3, h4⟩ := hQ
  have : ∀ (c i fu : Nat), i + c = v_n P → c < fu → b_X4_varOf_2 x fu S W (nI i) = some (if v_ix w W c i < v_n P then nI (v_ix w W c i) else m_no, S) := by
    intro c
    induction c with
    | zero =>
      intro i fu h hf
      obtain ⟨fu, rfl⟩ : ∃ f, fu = f + 1 := ⟨fu - 1, by omega⟩
      rw [v_ix, if_neg (by omega)]
      simp (disch := omega) only [e_let, e_call, e_cal0, e_bind, e_lit, e_ofN, e_neg, nI_add, pk_mul, e_sub, e_ldi, e_sti, e_ldj, e_stj, e_le_t, e_le_f, e_lt_t, e_lt_f, e_eq_t, e_eq_f, e_no_eq, e_no_eq', e_no_rfl, e_no_lt, e_no_le, e_le_no, e_lt_no, if_true, if_false, ↓reduceIte, e_rs, e_rq, e_rn, e_ji, e_ki, e_ij, e_kj, e_js, e_jq, e_jn, e_cs, e_cq, e_jc, e_kc, e_js', e_jcq, e_icj, e_kcj, or_true, true_or, or_false, false_or, and_true, true_and, not_true_eq_false, not_false_eq_true, b_X4_varOf_2, h3]
    | succ c ih =>
      intro i fu h hf
      obtain ⟨fu, rfl⟩ : ∃ f, fu = f + 1 := ⟨fu - 1, by omega⟩
      have hi := h4 i (by omega)
      have hn := ih (i + 1) fu (by omega) (by omega)
      rw [v_ix]
      by_cases hw : w i = W
      · rw [if_pos hw, if_pos (by omega)]
        simp (disch := omega) only [e_let, e_call, e_cal0, e_bind, e_lit, e_ofN, e_neg, nI_add, pk_mul, e_sub, e_ldi, e_sti, e_ldj, e_stj, e_le_t, e_le_f, e_lt_t, e_lt_f, e_eq_t, e_eq_f, e_no_eq, e_no_eq', e_no_rfl, e_no_lt, e_no_le, e_le_no, e_lt_no, if_true, if_false, ↓reduceIte, e_rs, e_rq, e_rn, e_ji, e_ki, e_ij, e_kj, e_js, e_jq, e_jn, e_cs, e_cq, e_jc, e_kc, e_js', e_jcq, e_icj, e_kcj, or_true, true_or, or_false, false_or, and_true, true_and, not_true_eq_false, not_false_eq_true, b_X4_varOf_2, h3, hi, e_lg, hw]
      · rw [if_neg hw, ← hn]
        simp (disch := omega) only [e_let, e_call, e_cal0, e_bind, e_lit, e_ofN, e_neg, nI_add, pk_mul, e_sub, e_ldi, e_sti, e_ldj, e_stj, e_le_t, e_le_f, e_lt_t, e_lt_f, e_eq_t, e_eq_f, e_no_eq, e_no_eq', e_no_rfl, e_no_lt, e_no_le, e_le_no, e_lt_no, if_true, if_false, ↓reduceIte, e_rs, e_rq, e_rn, e_ji, e_ki, e_ij, e_kj, e_js, e_jq, e_jn, e_cs, e_cq, e_jc, e_kc, e_js', e_jcq, e_icj, e_kcj, or_true, true_or, or_false, false_or, and_true, true_and, not_true_eq_false, not_false_eq_true, b_X4_varOf_2, h3, hi, e_lg, hw]
  rw [f_X4_varOf]
  exact this (v_n P) 0 m_fu (by omega) (by omega)
theorem k_funOf {W : Int64} (hQ : v_QS S x P n w) (hW : v_W P) : f_X3_funOf (x + 3) S W = some (v_an n W (p_fu P), S) := by
  have hfu := m_fu_ge
  have h5 := hW.1
  obtain ⟨⟨r1, _⟩, h2, _⟩ := hQ
  have : ∀ (c i fu : Nat), i + c = p_fu P → c < fu → b_X3_funOf_2 (x + 3) fu S W (nI i) = some (if v_ix n W c i < p_fu P then nI (v_ix n W c i) else m_no, S) := by
    intro c
    induction c with
    | zero =>
      intro i fu h hf
      obtain ⟨fu, rfl⟩ : ∃ f, fu = f + 1 := ⟨fu - 1, by omega⟩
      rw [v_ix, if_neg (by omega)]
      simp (disch := omega) only [e_let, e_call, e_cal0, e_bind, e_lit, e_ofN, e_neg, nI_add, pk_mul, e_sub, e_ldi, e_sti, e_ldj, e_stj, e_le_t, e_le_f, e_lt_t, e_lt_f, e_eq_t, e_eq_f, e_no_eq, e_no_eq', e_no_rfl, e_no_lt, e_no_le, e_le_no, e_lt_no, if_true, if_false, ↓reduceIte, e_rs, e_rq, e_rn, e_ji, e_ki, e_ij, e_kj, e_js, e_jq, e_jn, e_cs, e_cq, e_jc, e_kc, e_js', e_jcq, e_icj, e_kcj, or_true, true_or, or_false, false_or, and_true, true_and, not_true_eq_false, not_false_eq_true, b_X3_funOf_2, r1]
    | succ c ih =>
      intro i fu h hf
      obtain ⟨fu, rfl⟩ : ∃ f, fu = f + 1 := ⟨fu - 1, by omega⟩
      have hi : m_rj S (x + 3 + 1) i = n i := h2 i (by omega)
      have hn := ih (i + 1) fu (by omega) (by omega)
      rw [v_ix]
      by_cases hw : n i = W
      · rw [if_pos hw, if_pos (by omega)]
        simp (disch := omega) only [e_let, e_call, e_cal0, e_bind, e_lit, e_ofN, e_neg, nI_add, pk_mul, e_sub, e_ldi, e_sti, e_ldj, e_stj, e_le_t, e_le_f, e_lt_t, e_lt_f, e_eq_t, e_eq_f, e_no_eq, e_no_eq', e_no_rfl, e_no_lt, e_no_le, e_le_no, e_lt_no, if_true, if_false, ↓reduceIte, e_rs, e_rq, e_rn, e_ji, e_ki, e_ij, e_kj, e_js, e_jq, e_jn, e_cs, e_cq, e_jc, e_kc, e_js', e_jcq, e_icj, e_kcj, or_true, true_or, or_false, false_or, and_true, true_and, not_true_eq_false, not_false_eq_true, b_X3_funOf_2, r1, hi, e_lg, hw]
      · rw [if_neg hw, ← hn]
        simp (disch := omega) only [e_let, e_call, e_cal0, e_bind, e_lit, e_ofN, e_neg, nI_add, pk_mul, e_sub, e_ldi, e_sti, e_ldj, e_stj, e_le_t, e_le_f, e_lt_t, e_lt_f, e_eq_t, e_eq_f, e_no_eq, e_no_eq', e_no_rfl, e_no_lt, e_no_le, e_le_no, e_lt_no, if_true, if_false, ↓reduceIte, e_rs, e_rq, e_rn, e_ji, e_ki, e_ij, e_kj, e_js, e_jq, e_jn, e_cs, e_cq, e_jc, e_kc, e_js', e_jcq, e_icj, e_kcj, or_true, true_or, or_false, false_or, and_true, true_and, not_true_eq_false, not_false_eq_true, b_X3_funOf_2, r1, hi, e_lg, hw]
  rw [f_X3_funOf]
  exact this (p_fu P) 0 m_fu (by omega) (by omega)
theorem j_findIn {o n0 b h : Nat} {W : Int64} (hb : b + h ≤ n0) (hn : n0 < 1000) (hw : ∀ i, i < h → m_rj T o (b + i) = w i) : f_X12_findIn o n0 T (nI b) (nI h) W = some (v_an w W h, T) := by
  have hfu := m_fu_ge
  have : ∀ (c i fu : Nat), i + c = h → c < fu → b_X12_findIn_3 o n0 fu T (nI b) (nI h) W (nI i) = some (if v_ix w W c i < h then nI (v_ix w W c i) else m_no, T) := by
    intro c
    induction c with
    | zero =>
      intro i fu h1 hf
      obtain ⟨fu, rfl⟩ : ∃ f, fu = f + 1 := ⟨fu - 1, by omega⟩
      rw [v_ix, if_neg (by omega)]
      simp (disch := omega) only [e_let, e_call, e_cal0, e_bind, e_lit, e_ofN, e_neg, nI_add, pk_mul, e_sub, e_ldi, e_sti, e_ldj, e_stj, e_le_t, e_le_f, e_lt_t, e_lt_f, e_eq_t, e_eq_f, e_no_eq, e_no_eq', e_no_rfl, e_no_lt, e_no_le, e_le_no, e_lt_no, if_true, if_false, ↓reduceIte, e_rs, e_rq, e_rn, e_ji, e_ki, e_ij, e_kj, e_js, e_jq, e_jn, e_cs, e_cq, e_jc, e_kc, e_js', e_jcq, e_icj, e_kcj, or_true, true_or, or_false, false_or, and_true, true_and, not_true_eq_false, not_false_eq_true, b_X12_findIn_3]
    | succ c ih =>
      intro i fu h1 hf
      obtain ⟨fu, rfl⟩ : ∃ f, fu = f + 1 := ⟨fu - 1, by omega⟩
      have hi := hw i (by omega)
      have hn := ih (i + 1) fu (by omega) (by omega)
      rw [v_ix]
      by_cases hw : w i = W
      · rw [if_pos hw, if_pos (by omega)]
        simp (disch := omega) only [e_let, e_call, e_cal0, e_bind, e_lit, e_ofN, e_neg, nI_add, pk_mul, e_sub, e_ldi, e_sti, e_ldj, e_stj, e_le_t, e_le_f, e_lt_t, e_lt_f, e_eq_t, e_eq_f, e_no_eq, e_no_eq', e_no_rfl, e_no_lt, e_no_le, e_le_no, e_lt_no, if_true, if_false, ↓reduceIte, e_rs, e_rq, e_rn, e_ji, e_ki, e_ij, e_kj, e_js, e_jq, e_jn, e_cs, e_cq, e_jc, e_kc, e_js', e_jcq, e_icj, e_kcj, or_true, true_or, or_false, false_or, and_true, true_and, not_true_eq_false, not_false_eq_true, b_X12_findIn_3, hi, e_lg, hw]
      · rw [if_neg hw, ← hn]
        simp (disch := omega) only [e_let, e_call, e_cal0, e_bind, e_lit, e_ofN, e_neg, nI_add, pk_mul, e_sub, e_ldi, e_sti, e_ldj, e_stj, e_le_t, e_le_f, e_lt_t, e_lt_f, e_eq_t, e_eq_f, e_no_eq, e_no_eq', e_no_rfl, e_no_lt, e_no_le, e_le_no, e_lt_no, if_true, if_false, ↓reduceIte, e_rs, e_rq, e_rn, e_ji, e_ki, e_ij, e_kj, e_js, e_jq, e_jn, e_cs, e_cq, e_jc, e_kc, e_js', e_jcq, e_icj, e_kcj, or_true, true_or, or_false, false_or, and_true, true_and, not_true_eq_false, not_false_eq_true, b_X12_findIn_3, hi, e_lg, hw]
  rw [f_X12_findIn]
  exact this h 0 m_fu (by omega) (by omega)
theorem j_findVar (hQ : v_QT T m P n w) (hW : v_W P) (hf : 0 < p_fu P) : f_X12_findVar m T = some (v_an w (m_rj T m 12) (v_n P), T) := by
  have h27 := v_n_le hW
  have hf5 := hW.1
  obtain ⟨⟨r1, _, r3, _⟩, _, _, h4⟩ := hQ
  obtain ⟨a1, _, a3⟩ := r3 (p_fu P - 1) (by omega)
  have hv : v_n P = p_pa P (p_fu P - 1) + p_ct P (p_fu P - 1) := by rw [v_n, if_neg (by omega)]; rfl
  have hfi := j_findIn (T := T) (o := m + 10) (n0 := 135) (b := 27 * (p_fu P - 1)) (h := v_n P) (w := w) (W := m_rj T m 12) (by omega) (by omega) h4
  rw [hv] at hfi ⊢
  simp (disch := omega) only [e_let, e_call, e_cal0, e_bind, e_lit, e_ofN, e_neg, nI_add, pk_mul, e_sub, e_ldi, e_sti, e_ldj, e_stj, e_le_t, e_le_f, e_lt_t, e_lt_f, e_eq_t, e_eq_f, e_no_eq, e_no_eq', e_no_rfl, e_no_lt, e_no_le, e_le_no, e_lt_no, if_true, if_false, ↓reduceIte, e_rs, e_rq, e_rn, e_ji, e_ki, e_ij, e_kj, e_js, e_jq, e_jn, e_cs, e_cq, e_jc, e_kc, e_js', e_jcq, e_icj, e_kcj, or_true, true_or, or_false, false_or, and_true, true_and, not_true_eq_false, not_false_eq_true, f_X12_findVar, f_X12_funNow, r1, f_X12_varsOf, a1, a3, hfi]
end VS
