/-! a sentence being read: both sides -/
def z_up (Z : zT) (c w s n l b : Nat) : zT := (z_t Z, z_n Z, va_up (z_w Z) c w, va_up (z_s Z) c s, va_up (z_m Z) c n, va_up (z_l Z) c l, va_up (z_b Z) c b)
/-- what stands below c is the same -/
def z_ag (Z Z' : zT) (c : Nat) : Prop := ∀ k, k < c → z_w Z' k = z_w Z k ∧ z_s Z' k = z_s Z k ∧ z_m Z' k = z_m Z k ∧ z_l Z' k = z_l Z k ∧ z_b Z' k = z_b Z k
section ZP
variable {S S' S'' T T' T'' : m_M} {x m : Nat} {Z Z' Z'' : zT} {c c' fu w s n l b k o wi : Nat} {t : Nat → Nat} {N L p : Nat} {nm : Nat → Int64}
theorem z_up_w : z_w (z_up Z c w s n l b) k = if k = c then w else z_w Z k := rfl
theorem z_up_s : z_s (z_up Z c w s n l b) k = if k = c then s else z_s Z k := rfl
theorem z_up_m : z_m (z_up Z c w s n l b) k = if k = c then n else z_m Z k := rfl
theorem z_up_l : z_l (z_up Z c w s n l b) k = if k = c then l else z_l Z k := rfl
theorem z_up_b : z_b (z_up Z c w s n l b) k = if k = c then b else z_b Z k := rfl
theorem z_ag.rf : z_ag Z Z c := fun _ _ => ⟨rfl, rfl, rfl, rfl, rfl⟩
theorem z_ag.tr (h : z_ag Z Z' c) (h' : z_ag Z' Z'' c') (hc : c ≤ c') : z_ag Z Z'' c := fun k hk => by
  obtain ⟨a1, a2, a3, a4, a5⟩ := h k hk
  obtain ⟨b1, b2, b3, b4, b5⟩ := h' k (by omega)
  exact ⟨b1.trans a1, b2.trans a2, b3.trans a3, b4.trans a4, b5.trans a5⟩
theorem z_ag.up : z_ag Z (z_up Z c w s n l b) c := fun k hk => by
  rw [z_up_w, z_up_s, z_up_m, z_up_l, z_up_b, if_neg (by omega), if_neg (by omega), if_neg (by omega), if_neg (by omega), if_neg (by omega)]
  exact ⟨rfl, rfl, rfl, rfl, rfl⟩
theorem z_X.up (h : z_X fu Z c) (h1 : 11 ≤ w) (h2 : w ≤ 21) (h3 : b ≤ c) (h13 : w = 13 → 1 ≤ c ∧ b = z_b Z (c - 1)) (h11 : w = 11 ∨ w = 12 → 1 ≤ c ∧ l + 1 = z_b Z (c - 1) ∧ b = z_b Z l ∧ l < c) (h14 : 14 ≤ w → b = c) (h17 : w = 17 ∨ w = 18 → n < fu) (h19 : 19 ≤ w → n ≤ 999 ∧ 60 ≤ s ∧ s ≤ 62) : z_X fu (z_up Z c w s n l b) (c + 1) := by
  intro k hk
  rw [z_up_w, z_up_s, z_up_m, z_up_l, z_up_b, z_up_b, z_up_b]
  by_cases e : k = c
  · subst e
    simp only [if_true]
    refine ⟨h1, h2, h3, fun h => ?_, fun h => ?_, h14, h17, h19⟩
    · have := h13 h
      rw [if_neg (by omega)]; exact this
    · have := h11 h
      rw [if_neg (by omega), if_neg (by omega)]; exact ⟨this.1, this.2.1, this.2.2.1⟩
  · simp only [if_neg e]
    obtain ⟨x1, x2, x3, x4, x5, x6, x7, x8⟩ := h k (by omega)
    refine ⟨x1, x2, x3, fun h => ?_, fun h' => ?_, x6, x7, x8⟩
    · have := x4 h
      rw [if_neg (by omega)]; exact this
    · have := x5 h'
      have hb := (h (k - 1) (by omega)).2.2.1
      rw [if_neg (by omega), if_neg (by omega)]; exact this
/-- both sides hold the words so far: o ones, c words, wi within -/
def z_J (S T : m_M) (x m fu o c wi : Nat) (Z : zT) : Prop := (m_ri S (x + 32) 1 = nI o ∧ m_ri S (x + 32) 2 = nI c ∧ z_C S (x + 32) Z c) ∧ (m_ri T m 48 = nI o ∧ m_ri T m 49 = nI wi ∧ m_ri T m 47 = nI c ∧ z_N (m_ri T (m + 29)) Z c) ∧ z_X fu Z c ∧ o ≤ 20 ∧ c ≤ 2 * o
/-- the funs' names on both sides -/
def z_nm (S T : m_M) (x m fu : Nat) (nm : Nat → Int64) : Prop := fu ≤ 5 ∧ m_ri S (x + 48) 0 = nI fu ∧ (∀ f, f < fu → m_rj S (x + 49) f = nm f) ∧ m_ri T (m + 2) 0 = nI fu ∧ ∀ f, f < fu → m_rj T (m + 7) f = nm f
/-- what reading a sentence changes -/
def z_oS (x : Nat) (S S' : m_M) : Prop := t_O (x + 31) (x + 42) S S' ∧ m_rj S' (x + 38) = m_rj S (x + 38)
def z_FT (m : Nat) (T T' : m_M) : Prop := (∀ i, i < 5 ∨ (13 < i ∧ i < 47) ∨ 50 < i → m_ri T' m i = m_ri T m i) ∧ (∀ i, i ≠ 12 → m_rj T' m i = m_rj T m i) ∧ (∀ q, q ≠ m → q ≠ m + 29 → m_ri T' q = m_ri T q) ∧ (∀ q, q ≠ m → m_rj T' q = m_rj T q) ∧ m_rr T' = m_rr T
theorem z_oS.rf : z_oS x S S := ⟨t_O.rf, rfl⟩
theorem z_oS.tr (h : z_oS x S S') (h' : z_oS x S' S'') : z_oS x S S'' := ⟨h.1.tr h'.1, h'.2.trans h.2⟩
theorem z_oS.si {q i : Nat} {v : Int32} (h : z_oS x S S') (h1 : x + 31 ≤ q) (h2 : q < x + 42) : z_oS x S (m_si S' q i v) := ⟨h.1.si h1 h2, h.2⟩
theorem z_oS.of3 (h : t_O (x + 37) (x + 38) S S') : z_oS x S S' := ⟨h.wide (by omega) (by omega), (h.1 (x + 38) (by omega)).2⟩
theorem z_FT.rf : z_FT m T T := ⟨fun _ _ => rfl, fun _ _ => rfl, fun _ _ _ => rfl, fun _ _ => rfl, rfl⟩
theorem z_FT.tr (h : z_FT m T T') (h' : z_FT m T' T'') : z_FT m T T'' := ⟨fun i a => (h'.1 i a).trans (h.1 i a), fun i a => (h'.2.1 i a).trans (h.2.1 i a), fun q a b => (h'.2.2.1 q a b).trans (h.2.2.1 q a b), fun q a => (h'.2.2.2.1 q a).trans (h.2.2.2.1 q a), h'.2.2.2.2.trans h.2.2.2.2⟩
theorem z_FT.of (h : t_N m T T') : z_FT m T T' := ⟨fun i a => h.1 i (by omega), h.2.1, fun q a _ => (h.2.2.1 q (by omega)).1, fun q a => (h.2.2.1 q (by omega)).2, h.2.2.2⟩
theorem z_FT.sl {i : Nat} {v : Int32} (h : z_FT m T T') (h1 : (5 ≤ i ∧ i ≤ 13) ∨ (47 ≤ i ∧ i ≤ 50)) : z_FT m T (m_si T' m i v) := h.tr ⟨fun j a => by rw [e_rn (by omega)], fun _ _ => rfl, fun q a _ => by rw [e_rq a], fun _ _ => rfl, rfl⟩
theorem z_FT.s9 {i : Nat} {v : Int32} (h : z_FT m T T') : z_FT m T (m_si T' (m + 29) i v) := h.tr ⟨fun j a => by rw [e_rq (by omega)], fun _ _ => rfl, fun q _ a => by rw [e_rq a], fun _ _ => rfl, rfl⟩
theorem z_nm.kept (h : z_nm S T x m fu nm) (w1 : z_oS x S S') (w2 : z_FT m T T') : z_nm S' T' x m fu nm := by
  obtain ⟨h0, h1, h2, h3, h4⟩ := h
  exact ⟨h0, by rw [(w1.1.1 _ (by omega)).1]; exact h1, fun f hf => by rw [(w1.1.1 _ (by omega)).2]; exact h2 f hf, by rw [w2.2.2.1 _ (by omega) (by omega)]; exact h3, fun f hf => by rw [w2.2.2.2.1 _ (by omega)]; exact h4 f hf⟩
theorem z_J.kept (h : z_J S T x m fu o c wi Z) (w1 : ∀ q, x + 32 ≤ q → q < x + 36 → m_ri S' q = m_ri S q) (w2 : ∀ i, 47 ≤ i → i ≤ 49 → m_ri T' m i = m_ri T m i) (w3 : m_ri T' (m + 29) = m_ri T (m + 29)) : z_J S' T' x m fu o c wi Z := by
  simp only [z_J, z_C] at *
  rw [w1 (x + 32) (by omega) (by omega), w1 (x + 32 + 1) (by omega) (by omega), w1 (x + 32 + 2) (by omega) (by omega), w1 (x + 32 + 3) (by omega) (by omega), w2 47 (by omega) (by omega), w2 48 (by omega) (by omega), w2 49 (by omega) (by omega), w3]
  exact h
/-- one word more: the one side -/
theorem k_putz {a b' e : Int32} (h : z_J S T x m fu o c wi Z) (hc : c < 40) : ∃ S', f_X7_put (x + 32) S a b' e = some (nI 1, S') ∧ m_ri S' (x + 32) 1 = nI o ∧ m_ri S' (x + 32) 2 = nI (c + 1) ∧ m_ri S' (x + 33) c = a ∧ m_ri S' (x + 34) c = b' ∧ m_ri S' (x + 35) c = e ∧ (∀ k, k ≠ c → m_ri S' (x + 33) k = m_ri S (x + 33) k ∧ m_ri S' (x + 34) k = m_ri S (x + 34) k ∧ m_ri S' (x + 35) k = m_ri S (x + 35) k) ∧ t_O (x + 32) (x + 36) S S' := by
  obtain ⟨⟨h1, h2, h3⟩, _⟩ := h
  refine ⟨m_si (m_si (m_si (m_si S (x + 33) c a) (x + 34) c b') (x + 35) c e) (x + 32) 2 (nI (c + 1)), ?_, ?_, ?_, ?_, ?_, ?_, fun k hk => ⟨?_, ?_, ?_⟩, (((t_O.rf.si (by omega) (by omega)).si (by omega) (by omega)).si (by omega) (by omega)).si (by omega) (by omega)⟩
  · simp (disch := omega) only [e_let, e_call, e_cal0, e_bind, e_lit, e_ofN, e_neg, nI_add, pk_mul, e_sub, e_ldi, e_sti, e_ldj, e_stj, e_le_t, e_le_f, e_lt_t, e_lt_f, e_eq_t, e_eq_f, e_no_eq, e_no_eq', e_no_rfl, e_no_lt, e_no_le, e_le_no, e_lt_no, if_true, if_false, ↓reduceIte, e_rs, e_rq, e_rn, e_ji, e_ki, e_ij, e_kj, e_js, e_jq, e_jn, e_cs, e_cq, e_jc, e_kc, e_js', e_jcq, e_icj, e_kcj, or_true, true_or, or_false, false_or, and_true, true_and, not_true_eq_false, not_false_eq_true, f_X7_put, b_X7_put_49, h2]
  · simp (disch := omega) only [e_let, e_call, e_cal0, e_bind, e_lit, e_ofN, e_neg, nI_add, pk_mul, e_sub, e_ldi, e_sti, e_ldj, e_stj, e_le_t, e_le_f, e_lt_t, e_lt_f, e_eq_t, e_eq_f, e_no_eq, e_no_eq', e_no_rfl, e_no_lt, e_no_le, e_le_no, e_lt_no, if_true, if_false, ↓reduceIte, e_rs, e_rq, e_rn, e_ji, e_ki, e_ij, e_kj, e_js, e_jq, e_jn, e_cs, e_cq, e_jc, e_kc, e_js', e_jcq, e_icj, e_kcj, or_true, true_or, or_false, false_or, and_true, true_and, not_true_eq_false, not_false_eq_true, h1]
  · simp (disch := omega) only [e_let, e_call, e_cal0, e_bind, e_lit, e_ofN, e_neg, nI_add, pk_mul, e_sub, e_ldi, e_sti, e_ldj, e_stj, e_le_t, e_le_f, e_lt_t, e_lt_f, e_eq_t, e_eq_f, e_no_eq, e_no_eq', e_no_rfl, e_no_lt, e_no_le, e_le_no, e_lt_no, if_true, if_false, ↓reduceIte, e_rs, e_rq, e_rn, e_ji, e_ki, e_ij, e_kj, e_js, e_jq, e_jn, e_cs, e_cq, e_jc, e_kc, e_js', e_jcq, e_icj, e_kcj, or_true, true_or, or_false, false_or, and_true, true_and, not_true_eq_false, not_false_eq_true]
  · simp (disch := omega) only [e_let, e_call, e_cal0, e_bind, e_lit, e_ofN, e_neg, nI_add, pk_mul, e_sub, e_ldi, e_sti, e_ldj, e_stj, e_le_t, e_le_f, e_lt_t, e_lt_f, e_eq_t, e_eq_f, e_no_eq, e_no_eq', e_no_rfl, e_no_lt, e_no_le, e_le_no, e_lt_no, if_true, if_false, ↓reduceIte, e_rs, e_rq, e_rn, e_ji, e_ki, e_ij, e_kj, e_js, e_jq, e_jn, e_cs, e_cq, e_jc, e_kc, e_js', e_jcq, e_icj, e_kcj, or_true, true_or, or_false, false_or, and_true, true_and, not_true_eq_false, not_false_eq_true]
  · simp (disch := omega) only [e_let, e_call, e_cal0, e_bind, e_lit, e_ofN, e_neg, nI_add, pk_mul, e_sub, e_ldi, e_sti, e_ldj, e_stj, e_le_t, e_le_f, e_lt_t, e_lt_f, e_eq_t, e_eq_f, e_no_eq, e_no_eq', e_no_rfl, e_no_lt, e_no_le, e_le_no, e_lt_no, if_true, if_false, ↓reduceIte, e_rs, e_rq, e_rn, e_ji, e_ki, e_ij, e_kj, e_js, e_jq, e_jn, e_cs, e_cq, e_jc, e_kc, e_js', e_jcq, e_icj, e_kcj, or_true, true_or, or_false, false_or, and_true, true_and, not_true_eq_false, not_false_eq_true]
  · simp (disch := omega) only [e_let, e_call, e_cal0, e_bind, e_lit, e_ofN, e_neg, nI_add, pk_mul, e_sub, e_ldi, e_sti, e_ldj, e_stj, e_le_t, e_le_f, e_lt_t, e_lt_f, e_eq_t, e_eq_f, e_no_eq, e_no_eq', e_no_rfl, e_no_lt, e_no_le, e_le_no, e_lt_no, if_true, if_false, ↓reduceIte, e_rs, e_rq, e_rn, e_ji, e_ki, e_ij, e_kj, e_js, e_jq, e_jn, e_cs, e_cq, e_jc, e_kc, e_js', e_jcq, e_icj, e_kcj, or_true, true_or, or_false, false_or, and_true, true_and, not_true_eq_false, not_false_eq_true]
  · simp (disch := omega) only [e_let, e_call, e_cal0, e_bind, e_lit, e_ofN, e_neg, nI_add, pk_mul, e_sub, e_ldi, e_sti, e_ldj, e_stj, e_le_t, e_le_f, e_lt_t, e_lt_f, e_eq_t, e_eq_f, e_no_eq, e_no_eq', e_no_rfl, e_no_lt, e_no_le, e_le_no, e_lt_no, if_true, if_false, ↓reduceIte, e_rs, e_rq, e_rn, e_ji, e_ki, e_ij, e_kj, e_js, e_jq, e_jn, e_cs, e_cq, e_jc, e_kc, e_js', e_jcq, e_icj, e_kcj, or_true, true_or, or_false, false_or, and_true, true_and, not_true_eq_false, not_false_eq_true]
  · simp (disch := omega) only [e_let, e_call, e_cal0, e_bind, e_lit, e_ofN, e_neg, nI_add, pk_mul, e_sub, e_ldi, e_sti, e_ldj, e_stj, e_le_t, e_le_f, e_lt_t, e_lt_f, e_eq_t, e_eq_f, e_no_eq, e_no_eq', e_no_rfl, e_no_lt, e_no_le, e_le_no, e_lt_no, if_true, if_false, ↓reduceIte, e_rs, e_rq, e_rn, e_ji, e_ki, e_ij, e_kj, e_js, e_jq, e_jn, e_cs, e_cq, e_jc, e_kc, e_js', e_jcq, e_icj, e_kcj, or_true, true_or, or_false, false_or, and_true, true_and, not_true_eq_false, not_false_eq_true]
  · simp (disch := omega) only [e_let, e_call, e_cal0, e_bind, e_lit, e_ofN, e_neg, nI_add, pk_mul, e_sub, e_ldi, e_sti, e_ldj, e_stj, e_le_t, e_le_f, e_lt_t, e_lt_f, e_eq_t, e_eq_f, e_no_eq, e_no_eq', e_no_rfl, e_no_lt, e_no_le, e_le_no, e_lt_no, if_true, if_false, ↓reduceIte, e_rs, e_rq, e_rn, e_ji, e_ki, e_ij, e_kj, e_js, e_jq, e_jn, e_cs, e_cq, e_jc, e_kc, e_js', e_jcq, e_icj, e_kcj, or_true, true_or, or_false, false_or, and_true, true_and, not_true_eq_false, not_false_eq_true]
theorem j_says {a b' e g : Int32} (h : z_J S T x m fu o c wi Z) (hc : c < 40) : ∃ T', f_X12_saysOne m T a b' e g = some (nI c, T') ∧ m_ri T' m 47 = nI (c + 1) ∧ (∀ i, i ≠ 47 → m_ri T' m i = m_ri T m i) ∧ m_ri T' (m + 29) (4 * c) = a ∧ m_ri T' (m + 29) (4 * c + 1) = b' ∧ m_ri T' (m + 29) (4 * c + 2) = e ∧ m_ri T' (m + 29) (4 * c + 3) = g ∧ (∀ k, k < 4 * c → m_ri T' (m + 29) k = m_ri T (m + 29) k) ∧ z_FT m T T' ∧ (∀ q, q ≠ m → q ≠ m + 29 → m_ri T' q = m_ri T q) ∧ m_rj T' = m_rj T := by
  obtain ⟨_, ⟨_, _, h7, _⟩, _⟩ := h
  refine ⟨m_si (m_si (m_si (m_si (m_si T (m + 29) (4 * c) a) (m + 29) (4 * c + 1) b') (m + 29) (4 * c + 2) e) (m + 29) (4 * c + 3) g) m 47 (nI (c + 1)), ?_, ?_, fun i hi => ?_, ?_, ?_, ?_, ?_, fun k hk => ?_, ((((z_FT.rf.s9).s9).s9).s9).sl (by omega), fun q h1 h2 => ?_, rfl⟩
  · simp (disch := omega) only [e_let, e_call, e_cal0, e_bind, e_lit, e_ofN, e_neg, nI_add, pk_mul, e_sub, e_ldi, e_sti, e_ldj, e_stj, e_le_t, e_le_f, e_lt_t, e_lt_f, e_eq_t, e_eq_f, e_no_eq, e_no_eq', e_no_rfl, e_no_lt, e_no_le, e_le_no, e_lt_no, if_true, if_false, ↓reduceIte, e_rs, e_rq, e_rn, e_ji, e_ki, e_ij, e_kj, e_js, e_jq, e_jn, e_cs, e_cq, e_jc, e_kc, e_js', e_jcq, e_icj, e_kcj, or_true, true_or, or_false, false_or, and_true, true_and, not_true_eq_false, not_false_eq_true, f_X12_saysOne, h7, Nat.add_sub_cancel]
  · simp (disch := omega) only [e_let, e_call, e_cal0, e_bind, e_lit, e_ofN, e_neg, nI_add, pk_mul, e_sub, e_ldi, e_sti, e_ldj, e_stj, e_le_t, e_le_f, e_lt_t, e_lt_f, e_eq_t, e_eq_f, e_no_eq, e_no_eq', e_no_rfl, e_no_lt, e_no_le, e_le_no, e_lt_no, if_true, if_false, ↓reduceIte, e_rs, e_rq, e_rn, e_ji, e_ki, e_ij, e_kj, e_js, e_jq, e_jn, e_cs, e_cq, e_jc, e_kc, e_js', e_jcq, e_icj, e_kcj, or_true, true_or, or_false, false_or, and_true, true_and, not_true_eq_false, not_false_eq_true]
  · simp (disch := omega) only [e_let, e_call, e_cal0, e_bind, e_lit, e_ofN, e_neg, nI_add, pk_mul, e_sub, e_ldi, e_sti, e_ldj, e_stj, e_le_t, e_le_f, e_lt_t, e_lt_f, e_eq_t, e_eq_f, e_no_eq, e_no_eq', e_no_rfl, e_no_lt, e_no_le, e_le_no, e_lt_no, if_true, if_false, ↓reduceIte, e_rs, e_rq, e_rn, e_ji, e_ki, e_ij, e_kj, e_js, e_jq, e_jn, e_cs, e_cq, e_jc, e_kc, e_js', e_jcq, e_icj, e_kcj, or_true, true_or, or_false, false_or, and_true, true_and, not_true_eq_false, not_false_eq_true]
  · simp (disch := omega) only [e_let, e_call, e_cal0, e_bind, e_lit, e_ofN, e_neg, nI_add, pk_mul, e_sub, e_ldi, e_sti, e_ldj, e_stj, e_le_t, e_le_f, e_lt_t, e_lt_f, e_eq_t, e_eq_f, e_no_eq, e_no_eq', e_no_rfl, e_no_lt, e_no_le, e_le_no, e_lt_no, if_true, if_false, ↓reduceIte, e_rs, e_rq, e_rn, e_ji, e_ki, e_ij, e_kj, e_js, e_jq, e_jn, e_cs, e_cq, e_jc, e_kc, e_js', e_jcq, e_icj, e_kcj, or_true, true_or, or_false, false_or, and_true, true_and, not_true_eq_false, not_false_eq_true]
  · simp (disch := omega) only [e_let, e_call, e_cal0, e_bind, e_lit, e_ofN, e_neg, nI_add, pk_mul, e_sub, e_ldi, e_sti, e_ldj, e_stj, e_le_t, e_le_f, e_lt_t, e_lt_f, e_eq_t, e_eq_f, e_no_eq, e_no_eq', e_no_rfl, e_no_lt, e_no_le, e_le_no, e_lt_no, if_true, if_false, ↓reduceIte, e_rs, e_rq, e_rn, e_ji, e_ki, e_ij, e_kj, e_js, e_jq, e_jn, e_cs, e_cq, e_jc, e_kc, e_js', e_jcq, e_icj, e_kcj, or_true, true_or, or_false, false_or, and_true, true_and, not_true_eq_false, not_false_eq_true]
  · simp (disch := omega) only [e_let, e_call, e_cal0, e_bind, e_lit, e_ofN, e_neg, nI_add, pk_mul, e_sub, e_ldi, e_sti, e_ldj, e_stj, e_le_t, e_le_f, e_lt_t, e_lt_f, e_eq_t, e_eq_f, e_no_eq, e_no_eq', e_no_rfl, e_no_lt, e_no_le, e_le_no, e_lt_no, if_true, if_false, ↓reduceIte, e_rs, e_rq, e_rn, e_ji, e_ki, e_ij, e_kj, e_js, e_jq, e_jn, e_cs, e_cq, e_jc, e_kc, e_js', e_jcq, e_icj, e_kcj, or_true, true_or, or_false, false_or, and_true, true_and, not_true_eq_false, not_false_eq_true]
  · simp (disch := omega) only [e_let, e_call, e_cal0, e_bind, e_lit, e_ofN, e_neg, nI_add, pk_mul, e_sub, e_ldi, e_sti, e_ldj, e_stj, e_le_t, e_le_f, e_lt_t, e_lt_f, e_eq_t, e_eq_f, e_no_eq, e_no_eq', e_no_rfl, e_no_lt, e_no_le, e_le_no, e_lt_no, if_true, if_false, ↓reduceIte, e_rs, e_rq, e_rn, e_ji, e_ki, e_ij, e_kj, e_js, e_jq, e_jn, e_cs, e_cq, e_jc, e_kc, e_js', e_jcq, e_icj, e_kcj, or_true, true_or, or_false, false_or, and_true, true_and, not_true_eq_false, not_false_eq_true]
  · simp (disch := omega) only [e_let, e_call, e_cal0, e_bind, e_lit, e_ofN, e_neg, nI_add, pk_mul, e_sub, e_ldi, e_sti, e_ldj, e_stj, e_le_t, e_le_f, e_lt_t, e_lt_f, e_eq_t, e_eq_f, e_no_eq, e_no_eq', e_no_rfl, e_no_lt, e_no_le, e_le_no, e_lt_no, if_true, if_false, ↓reduceIte, e_rs, e_rq, e_rn, e_ji, e_ki, e_ij, e_kj, e_js, e_jq, e_jn, e_cs, e_cq, e_jc, e_kc, e_js', e_jcq, e_icj, e_kcj, or_true, true_or, or_false, false_or, and_true, true_and, not_true_eq_false, not_false_eq_true]
  · simp (disch := omega) only [e_let, e_call, e_cal0, e_bind, e_lit, e_ofN, e_neg, nI_add, pk_mul, e_sub, e_ldi, e_sti, e_ldj, e_stj, e_le_t, e_le_f, e_lt_t, e_lt_f, e_eq_t, e_eq_f, e_no_eq, e_no_eq', e_no_rfl, e_no_lt, e_no_le, e_le_no, e_lt_no, if_true, if_false, ↓reduceIte, e_rs, e_rq, e_rn, e_ji, e_ki, e_ij, e_kj, e_js, e_jq, e_jn, e_cs, e_cq, e_jc, e_kc, e_js', e_jcq, e_icj, e_kcj, or_true, true_or, or_false, false_or, and_true, true_and, not_true_eq_false, not_false_eq_true]
theorem z_C.up (h : z_C S (x + 32) Z c) (w1 : m_ri S' (x + 33) c = nI w) (w2 : 19 ≤ w → m_ri S' (x + 34) c = nI s) (w3 : 17 ≤ w → m_ri S' (x + 35) c = nI n) (wk : ∀ k, k ≠ c → m_ri S' (x + 33) k = m_ri S (x + 33) k ∧ m_ri S' (x + 34) k = m_ri S (x + 34) k ∧ m_ri S' (x + 35) k = m_ri S (x + 35) k) : z_C S' (x + 32) (z_up Z c w s n l b) (c + 1) := by
  intro k hk
  rw [z_up_w, z_up_s, z_up_m, show x + 32 + 1 = x + 33 from rfl, show x + 32 + 2 = x + 34 from rfl, show x + 32 + 3 = x + 35 from rfl]
  by_cases e : k = c
  · subst e
    simp only [if_true]
    exact ⟨w1, w2, w3⟩
  · simp only [if_neg e]
    rw [(wk k e).1, (wk k e).2.1, (wk k e).2.2]
    exact h k (by omega)
theorem z_N.up {M M' : Nat → Int32} (h : z_N M Z c) (wk : ∀ k, k < 4 * c → M' k = M k) (n1 : (w = 13 → M' (4 * c) = nI 1 ∧ M' (4 * c + 1) = nI (c - 1)) ∧ (w = 12 → M' (4 * c) = nI 2 ∧ M' (4 * c + 1) = nI l ∧ M' (4 * c + 2) = nI (c - 1)) ∧ (w = 11 → M' (4 * c) = nI 3 ∧ M' (4 * c + 1) = nI l ∧ M' (4 * c + 2) = nI (c - 1)) ∧
  (14 ≤ w → M' (4 * c) = nI (50 + w)) ∧ (w = 17 ∨ w = 18 → M' (4 * c + 1) = nI n) ∧ (19 ≤ w → M' (4 * c + 2) = nI n ∧ M' (4 * c + 3) = nI s)) : z_N M' (z_up Z c w s n l b) (c + 1) := by
  intro k hk
  rw [z_up_w, z_up_s, z_up_m, z_up_l]
  by_cases e : k = c
  · subst e
    simp only [if_true]
    exact n1
  · simp only [if_neg e]
    rw [wk _ (by omega), wk _ (by omega), wk _ (by omega), wk _ (by omega)]
    exact h k (by omega)
end ZP
