/-! the pieces of a text -/
/-- only cells of a block were written -/
def t_O (lo hi : Nat) (S S' : m_M) : Prop := (∀ q, q < lo ∨ hi ≤ q → m_ri S' q = m_ri S q ∧ m_rj S' q = m_rj S q) ∧ m_rr S' = m_rr S
theorem t_O.rf {lo hi : Nat} {S : m_M} : t_O lo hi S S := ⟨fun _ _ => ⟨rfl, rfl⟩, rfl⟩
theorem t_O.tr {lo hi : Nat} {S S' S'' : m_M} (h : t_O lo hi S S') (h' : t_O lo hi S' S'') : t_O lo hi S S'' := ⟨fun q hq => ⟨(h'.1 q hq).1.trans (h.1 q hq).1, (h'.1 q hq).2.trans (h.1 q hq).2⟩, h'.2.trans h.2⟩
theorem t_O.si {lo hi q i : Nat} {S S' : m_M} {v : Int32} (h : t_O lo hi S S') (h1 : lo ≤ q) (h2 : q < hi) : t_O lo hi S (m_si S' q i v) := ⟨fun q' hq => ⟨by rw [e_rq (by omega)]; exact (h.1 q' hq).1, (h.1 q' hq).2⟩, h.2⟩
theorem t_O.sj {lo hi q i : Nat} {S S' : m_M} {v : Int64} (h : t_O lo hi S S') (h1 : lo ≤ q) (h2 : q < hi) : t_O lo hi S (m_sj S' q i v) := ⟨fun q' hq => ⟨(h.1 q' hq).1, by rw [e_jq (by omega)]; exact (h.1 q' hq).2⟩, h.2⟩
theorem t_O.wide {lo hi lo' hi' : Nat} {S S' : m_M} (h : t_O lo hi S S') (h1 : lo' ≤ lo) (h2 : hi ≤ hi') : t_O lo' hi' S S' := ⟨fun q hq => h.1 q (by omega), h.2⟩
theorem t_O.of {lo hi : Nat} {S S' : m_M} (h : e_O lo hi S S') : t_O lo hi S S' := ⟨fun q hq => ⟨h.1 q hq, by rw [h.2.1]⟩, h.2.2⟩
abbrev t_l (b : Nat) : Prop := 97 ≤ b ∧ b ≤ 122
abbrev t_d (b : Nat) : Prop := 48 ≤ b ∧ b ≤ 57
abbrev t_w (b : Nat) : Prop := t_l b ∨ t_d b
abbrev t_g (b : Nat) : Prop := b = 59 ∨ b = 60 ∨ b = 61 ∨ b = 62 ∨ b = 40 ∨ b = 41
def t_sk (t : Nat → Nat) (N : Nat) : Nat → Nat → Nat
  | 0, p => p
  | n + 1, p => if p < N ∧ (t p = 32 ∨ t p = 10) then t_sk t N n (p + 1) else p
def t_rn (t : Nat → Nat) (N : Nat) : Nat → Nat → Nat
  | 0, p => p
  | n + 1, p => if p < N ∧ t_w (t p) then t_rn t N n (p + 1) else p
/-- behind the spaces -/
def t_S (t : Nat → Nat) (N p : Nat) : Nat := t_sk t N (N - p) p
/-- behind the letters and digits -/
def t_R (t : Nat → Nat) (N p : Nat) : Nat := t_rn t N (N - p) p
section TX
variable {t : Nat → Nat} {N L p q k : Nat}
theorem t_S_e : t_S t N p = if p < N ∧ (t p = 32 ∨ t p = 10) then t_S t N (p + 1) else p := by
  by_cases h : p < N
  · simp only [t_S]; rw [show N - p = (N - (p + 1)) + 1 by omega, t_sk]
  · simp only [t_S]; rw [show N - p = 0 by omega, t_sk, if_neg (fun q => h q.1)]
theorem t_R_e : t_R t N p = if p < N ∧ t_w (t p) then t_R t N (p + 1) else p := by
  by_cases h : p < N
  · simp only [t_R]; rw [show N - p = (N - (p + 1)) + 1 by omega, t_rn]
  · simp only [t_R]; rw [show N - p = 0 by omega, t_rn, if_neg (fun q => h q.1)]
theorem t_S_le : ∀ (c p : Nat), N - p = c → p ≤ N → p ≤ t_S t N p ∧ t_S t N p ≤ N := by
  intro c
  induction c with
  | zero => intro p h h2; rw [t_S_e, if_neg (fun q => by omega)]; omega
  | succ c ih =>
    intro p h h2
    have := ih (p + 1) (by omega) (by omega)
    rw [t_S_e]; split <;> omega
theorem t_R_le : ∀ (c p : Nat), N - p = c → p ≤ N → p ≤ t_R t N p ∧ t_R t N p ≤ N := by
  intro c
  induction c with
  | zero => intro p h h2; rw [t_R_e, if_neg (fun q => by omega)]; omega
  | succ c ih =>
    intro p h h2
    have := ih (p + 1) (by omega) (by omega)
    rw [t_R_e]; split <;> omega
theorem t_S_ns : ∀ (c p : Nat), N - p = c → t_S t N p < N → ¬ (t (t_S t N p) = 32 ∨ t (t_S t N p) = 10) := by
  intro c
  induction c with
  | zero => intro p h h2; rw [t_S_e, if_neg (fun q => by omega)] at h2; omega
  | succ c ih =>
    intro p h h2
    by_cases hc : p < N ∧ (t p = 32 ∨ t p = 10)
    · rw [t_S_e, if_pos hc] at h2 ⊢; exact ih (p + 1) (by omega) h2
    · rw [t_S_e, if_neg hc] at h2 ⊢; exact fun q => hc ⟨h2, q⟩
theorem t_R_gt (h : q < N) (hw : t_w (t q)) : q < t_R t N q := by
  rw [t_R_e, if_pos ⟨h, hw⟩]
  have := t_R_le (t := t) (N := N) (N - (q + 1)) (q + 1) rfl (by omega)
  omega
/-- how many of the letters and digits are digits -/
def t_dc (t : Nat → Nat) (q : Nat) : Nat → Nat
  | 0 => 0
  | k + 1 => t_dc t q k + if t_d (t (q + k)) then 1 else 0
theorem t_dc_le : ∀ k, t_dc t q k ≤ k := by
  intro k
  induction k with
  | zero => exact Nat.le_refl 0
  | succ k ih => rw [t_dc]; split <;> omega
def t_wv (t : Nat → Nat) (q : Nat) : Nat → Int64
  | 0 => 0
  | k + 1 => t_wv t q k * 27 + ((nI (t (q + k)) - nI 97) + nI 1).toInt64
def t_nv (t : Nat → Nat) (q : Nat) : Nat → Nat
  | 0 => 0
  | k + 1 => t_nv t q k * 10 + (t (q + k) - 48)
def t_kl : List Int64 := [4955, 262, 315918, 240023, 9748424, 14431, 240373, 321581, 60114, 458690, 107681, 423, 1111, 10631, 91159079, 8399691, 243356, 8434669, 91121494, 1701829, 9872488, 212302449]
def t_kw (i : Nat) : Int64 := t_kl.getD i 0
theorem t_kw_i : ∀ i, i < 22 → ∀ j, j < 22 → t_kw i = t_kw j → i = j := by decide +kernel
def t_kf (w : Int64) : Nat → Nat → Nat
  | 0, _ => 22
  | n + 1, i => if t_kw i = w then i else t_kf w n (i + 1)
/-- which keyword, or 22 -/
def t_ki (w : Int64) : Nat := t_kf w 22 0
theorem t_kf_1 {w : Int64} : ∀ (n i : Nat), n + i = 22 → (∀ j, j < i → t_kw j ≠ w) → (t_kf w n i < 22 ∧ t_kw (t_kf w n i) = w) ∨ (t_kf w n i = 22 ∧ ∀ j, j < 22 → t_kw j ≠ w) := by
  intro n
  induction n with
  | zero => intro i h hj; exact Or.inr ⟨rfl, fun j hl => hj j (by omega)⟩
  | succ n ih =>
    intro i h hj
    rw [t_kf]
    by_cases hw : t_kw i = w
    · rw [if_pos hw]; exact Or.inl ⟨by omega, hw⟩
    · rw [if_neg hw]
      refine ih (i + 1) (by omega) (fun j hl => ?_)
      rcases Nat.lt_succ_iff_lt_or_eq.mp hl with h' | h'
      · exact hj j h'
      · rw [h']; exact hw
theorem t_ki_le {w : Int64} : t_ki w ≤ 22 := by
  rcases t_kf_1 (w := w) 22 0 rfl (fun j h => absurd h (Nat.not_lt_zero j)) with h | h
  · exact Nat.le_of_lt h.1
  · exact Nat.le_of_eq h.1
theorem t_ki_eq {w : Int64} {i : Nat} (hi : i < 22) : (t_kw i = w) = (t_ki w = i) := by
  rcases t_kf_1 (w := w) 22 0 rfl (fun j h => absurd h (Nat.not_lt_zero j)) with h | h
  · apply propext
    refine ⟨fun e => (t_kw_i _ hi _ h.1 (e.trans h.2.symm)).symm, fun e => ?_⟩
    have h2 := h.2
    rw [show t_kf w 22 0 = i from e] at h2
    exact h2
  · apply propext
    refine ⟨fun e => absurd e (h.2 i hi), fun e => ?_⟩
    have : t_kf w 22 0 = i := e
    omega
/-- of what kind a piece is that begins at q: 1 bad, 2 name, 3 keyword, 4 number, 5 sign -/
def t_k (t : Nat → Nat) (N q : Nat) : Nat :=
  if t_w (t q) then (if t_dc t q (t_R t N q - q) = 0 ∧ t_R t N q - q ≤ 7 then (if t_ki (t_wv t q (t_R t N q - q)) < 22 then 3 else 2) else if t_dc t q (t_R t N q - q) = t_R t N q - q ∧ t_R t N q - q ≤ 3 then 4 else 1)
  else if t_g (t q) then 5 else 1
def t_K (t : Nat → Nat) (N L p : Nat) : Nat := if L < N ∧ L ≤ t_S t N p then 1 else if t_S t N p < N then t_k t N (t_S t N p) else 0
def t_F (t : Nat → Nat) (N L p : Nat) : Nat := if L < N ∧ L ≤ t_S t N p then L else t_S t N p
def t_E (t : Nat → Nat) (N p : Nat) : Nat := if t_w (t (t_S t N p)) then t_R t N (t_S t N p) else t_S t N p + 1
def t_W (t : Nat → Nat) (N p : Nat) : Int64 := t_wv t (t_S t N p) (t_R t N (t_S t N p) - t_S t N p)
def t_M (t : Nat → Nat) (N p : Nat) : Nat := t_nv t (t_S t N p) (t_R t N (t_S t N p) - t_S t N p)
def t_G (t : Nat → Nat) (N p : Nat) : Nat := t (t_S t N p)
def t_P (t : Nat → Nat) (N : Nat) : Nat → Nat
  | 0 => 0
  | k + 1 => t_E t N (t_P t N k)
/-- what is read at a place is not changed by a space ahead of it -/
theorem t_sp (h : p < N) (hs : t p = 32 ∨ t p = 10) : t_S t N p = t_S t N (p + 1) := by rw [t_S_e, if_pos ⟨h, hs⟩]
theorem t_k_5 : t_k t N q ≤ 5 ∧ 1 ≤ t_k t N q := by
  rw [t_k]; repeat (first | omega | split)
theorem t_K_5 : t_K t N L p ≤ 5 := by
  have := t_k_5 (t := t) (N := N) (q := t_S t N p)
  rw [t_K]; repeat (first | omega | split)
theorem t_K_in (h : 2 ≤ t_K t N L p) : t_S t N p < N ∧ t_K t N L p = t_k t N (t_S t N p) ∧ t_F t N L p = t_S t N p := by
  rw [t_K] at h ⊢
  rw [t_F]
  by_cases h1 : L < N ∧ L ≤ t_S t N p
  · rw [if_pos h1] at h; omega
  · rw [if_neg h1] at h ⊢
    by_cases h2 : t_S t N p < N
    · rw [if_pos h2, if_neg h1]; exact ⟨h2, rfl, rfl⟩
    · rw [if_neg h2] at h; omega
theorem t_E_le (hp : p ≤ N) (h : t_S t N p < N) : p < t_E t N p ∧ t_E t N p ≤ N := by
  have h1 := t_S_le (t := t) (N - p) p rfl hp
  have h2 := t_R_le (t := t) (N := N) (N - t_S t N p) (t_S t N p) rfl (by omega)
  rw [t_E]
  split
  · rename_i hw
    have := t_R_gt h hw
    omega
  · omega
/-- a byte of the tape -/
def t_b (b : Nat) : Int32 := if b < 128 then nI b else nI b - nI 256
theorem t_b_n : ∀ b, b < 256 → (t_b b < nI 0 ↔ 128 ≤ b) := by decide +kernel
theorem t_b_p {b : Nat} (h : b < 128) : t_b b = nI b := by rw [t_b, if_pos h]
theorem t_b_eq {b c : Nat} (hb : b < 256) (hc : c < 128) : (t_b b = nI c) = (b = c) := by
  by_cases h : b < 128
  · rw [t_b_p h, e_eq (by omega) (by omega)]
  · have hn := (t_b_n b hb).mpr (by omega)
    apply propext
    refine ⟨fun e => ?_, fun e => by omega⟩
    rw [e, e_lt (by omega) (by omega)] at hn
    omega
theorem t_b_97 : ∀ b, b < 256 → (t_b b < nI 97 ↔ b < 97 ∨ 128 ≤ b) := by decide +kernel
theorem t_b_122 : ∀ b, b < 256 → (nI 122 < t_b b ↔ 122 < b ∧ b < 128) := by decide +kernel
theorem t_b_48 : ∀ b, b < 256 → (t_b b < nI 48 ↔ b < 48 ∨ 128 ≤ b) := by decide +kernel
theorem t_b_57 : ∀ b, b < 256 → (nI 57 < t_b b ↔ 57 < b ∧ b < 128) := by decide +kernel
theorem k_isLt {S : m_M} {b : Nat} (hb : b < 256) : f_X9_isLetter S (t_b b) = some (nI (if t_l b then 1 else 0), S) := by
  have h1 := propext (t_b_97 b hb)
  have h2 := propext (t_b_122 b hb)
  by_cases a : b < 97 ∨ 128 ≤ b
  · rw [if_neg (by omega)]; simp (disch := omega) only [e_let, e_call, e_cal0, e_bind, e_lit, e_ofN, e_neg, nI_add, pk_mul, e_sub, e_ldi, e_sti, e_ldj, e_stj, e_le_t, e_le_f, e_lt_t, e_lt_f, e_eq_t, e_eq_f, e_no_eq, e_no_eq', e_no_rfl, e_no_lt, e_no_le, e_le_no, e_lt_no, if_true, if_false, ↓reduceIte, e_rs, e_rq, e_rn, e_ji, e_ki, e_ij, e_kj, e_js, e_jq, e_jn, e_cs, e_cq, e_jc, e_kc, e_js', e_jcq, e_icj, e_kcj, or_true, true_or, or_false, false_or, and_true, true_and, not_true_eq_false, not_false_eq_true, f_X9_isLetter, h1, a, b_X9_isLetter_16, b_X9_isLetter_17]
  · by_cases a2 : 122 < b ∧ b < 128
    · rw [if_neg (by omega)]; simp (disch := omega) only [e_let, e_call, e_cal0, e_bind, e_lit, e_ofN, e_neg, nI_add, pk_mul, e_sub, e_ldi, e_sti, e_ldj, e_stj, e_le_t, e_le_f, e_lt_t, e_lt_f, e_eq_t, e_eq_f, e_no_eq, e_no_eq', e_no_rfl, e_no_lt, e_no_le, e_le_no, e_lt_no, if_true, if_false, ↓reduceIte, e_rs, e_rq, e_rn, e_ji, e_ki, e_ij, e_kj, e_js, e_jq, e_jn, e_cs, e_cq, e_jc, e_kc, e_js', e_jcq, e_icj, e_kcj, or_true, true_or, or_false, false_or, and_true, true_and, not_true_eq_false, not_false_eq_true, f_X9_isLetter, h1, h2, a, a2, b_X9_isLetter_16, b_X9_isLetter_17]
    · rw [if_pos (by omega)]; simp (disch := omega) only [e_let, e_call, e_cal0, e_bind, e_lit, e_ofN, e_neg, nI_add, pk_mul, e_sub, e_ldi, e_sti, e_ldj, e_stj, e_le_t, e_le_f, e_lt_t, e_lt_f, e_eq_t, e_eq_f, e_no_eq, e_no_eq', e_no_rfl, e_no_lt, e_no_le, e_le_no, e_lt_no, if_true, if_false, ↓reduceIte, e_rs, e_rq, e_rn, e_ji, e_ki, e_ij, e_kj, e_js, e_jq, e_jn, e_cs, e_cq, e_jc, e_kc, e_js', e_jcq, e_icj, e_kcj, or_true, true_or, or_false, false_or, and_true, true_and, not_true_eq_false, not_false_eq_true, f_X9_isLetter, h1, h2, a, a2, b_X9_isLetter_16, b_X9_isLetter_17]
theorem k_isDg {S : m_M} {b : Nat} (hb : b < 256) : f_X9_isDigit S (t_b b) = some (nI (if t_d b then 1 else 0), S) := by
  have h1 := propext (t_b_48 b hb)
  have h2 := propext (t_b_57 b hb)
  by_cases a : b < 48 ∨ 128 ≤ b
  · rw [if_neg (by omega)]; simp (disch := omega) only [e_let, e_call, e_cal0, e_bind, e_lit, e_ofN, e_neg, nI_add, pk_mul, e_sub, e_ldi, e_sti, e_ldj, e_stj, e_le_t, e_le_f, e_lt_t, e_lt_f, e_eq_t, e_eq_f, e_no_eq, e_no_eq', e_no_rfl, e_no_lt, e_no_le, e_le_no, e_lt_no, if_true, if_false, ↓reduceIte, e_rs, e_rq, e_rn, e_ji, e_ki, e_ij, e_kj, e_js, e_jq, e_jn, e_cs, e_cq, e_jc, e_kc, e_js', e_jcq, e_icj, e_kcj, or_true, true_or, or_false, false_or, and_true, true_and, not_true_eq_false, not_false_eq_true, f_X9_isDigit, h1, a, b_X9_isDigit_16, b_X9_isDigit_17]
  · by_cases a2 : 57 < b ∧ b < 128
    · rw [if_neg (by omega)]; simp (disch := omega) only [e_let, e_call, e_cal0, e_bind, e_lit, e_ofN, e_neg, nI_add, pk_mul, e_sub, e_ldi, e_sti, e_ldj, e_stj, e_le_t, e_le_f, e_lt_t, e_lt_f, e_eq_t, e_eq_f, e_no_eq, e_no_eq', e_no_rfl, e_no_lt, e_no_le, e_le_no, e_lt_no, if_true, if_false, ↓reduceIte, e_rs, e_rq, e_rn, e_ji, e_ki, e_ij, e_kj, e_js, e_jq, e_jn, e_cs, e_cq, e_jc, e_kc, e_js', e_jcq, e_icj, e_kcj, or_true, true_or, or_false, false_or, and_true, true_and, not_true_eq_false, not_false_eq_true, f_X9_isDigit, h1, h2, a, a2, b_X9_isDigit_16, b_X9_isDigit_17]
    · rw [if_pos (by omega)]; simp (disch := omega) only [e_let, e_call, e_cal0, e_bind, e_lit, e_ofN, e_neg, nI_add, pk_mul, e_sub, e_ldi, e_sti, e_ldj, e_stj, e_le_t, e_le_f, e_lt_t, e_lt_f, e_eq_t, e_eq_f, e_no_eq, e_no_eq', e_no_rfl, e_no_lt, e_no_le, e_le_no, e_lt_no, if_true, if_false, ↓reduceIte, e_rs, e_rq, e_rn, e_ji, e_ki, e_ij, e_kj, e_js, e_jq, e_jn, e_cs, e_cq, e_jc, e_kc, e_js', e_jcq, e_icj, e_kcj, or_true, true_or, or_false, false_or, and_true, true_and, not_true_eq_false, not_false_eq_true, f_X9_isDigit, h1, h2, a, a2, b_X9_isDigit_16, b_X9_isDigit_17]
theorem j_isLt {S : m_M} {b : Nat} (hb : b < 256) : f_X12_isLetter S (nI b) = some (nI (if t_l b then 1 else 0), S) := by
  by_cases a : b < 97
  · rw [if_neg (by omega)]; simp (disch := omega) only [e_let, e_call, e_cal0, e_bind, e_lit, e_ofN, e_neg, nI_add, pk_mul, e_sub, e_ldi, e_sti, e_ldj, e_stj, e_le_t, e_le_f, e_lt_t, e_lt_f, e_eq_t, e_eq_f, e_no_eq, e_no_eq', e_no_rfl, e_no_lt, e_no_le, e_le_no, e_lt_no, if_true, if_false, ↓reduceIte, e_rs, e_rq, e_rn, e_ji, e_ki, e_ij, e_kj, e_js, e_jq, e_jn, e_cs, e_cq, e_jc, e_kc, e_js', e_jcq, e_icj, e_kcj, or_true, true_or, or_false, false_or, and_true, true_and, not_true_eq_false, not_false_eq_true, f_X12_isLetter, b_X12_isLetter_16, b_X12_isLetter_17]
  · by_cases a2 : 122 < b
    · rw [if_neg (by omega)]; simp (disch := omega) only [e_let, e_call, e_cal0, e_bind, e_lit, e_ofN, e_neg, nI_add, pk_mul, e_sub, e_ldi, e_sti, e_ldj, e_stj, e_le_t, e_le_f, e_lt_t, e_lt_f, e_eq_t, e_eq_f, e_no_eq, e_no_eq', e_no_rfl, e_no_lt, e_no_le, e_le_no, e_lt_no, if_true, if_false, ↓reduceIte, e_rs, e_rq, e_rn, e_ji, e_ki, e_ij, e_kj, e_js, e_jq, e_jn, e_cs, e_cq, e_jc, e_kc, e_js', e_jcq, e_icj, e_kcj, or_true, true_or, or_false, false_or, and_true, true_and, not_true_eq_false, not_false_eq_true, f_X12_isLetter, b_X12_isLetter_16, b_X12_isLetter_17]
    · rw [if_pos (by omega)]; simp (disch := omega) only [e_let, e_call, e_cal0, e_bind, e_lit, e_ofN, e_neg, nI_add, pk_mul, e_sub, e_ldi, e_sti, e_ldj, e_stj, e_le_t, e_le_f, e_lt_t, e_lt_f, e_eq_t, e_eq_f, e_no_eq, e_no_eq', e_no_rfl, e_no_lt, e_no_le, e_le_no, e_lt_no, if_true, if_false, ↓reduceIte, e_rs, e_rq, e_rn, e_ji, e_ki, e_ij, e_kj, e_js, e_jq, e_jn, e_cs, e_cq, e_jc, e_kc, e_js', e_jcq, e_icj, e_kcj, or_true, true_or, or_false, false_or, and_true, true_and, not_true_eq_false, not_false_eq_true, f_X12_isLetter, b_X12_isLetter_16, b_X12_isLetter_17]
theorem j_isDg {S : m_M} {b : Nat} (hb : b < 256) : f_X12_isDigit S (nI b) = some (nI (if t_d b then 1 else 0), S) := by
  by_cases a : b < 48
  · rw [if_neg (by omega)]; simp (disch := omega) only [e_let, e_call, e_cal0, e_bind, e_lit, e_ofN, e_neg, nI_add, pk_mul, e_sub, e_ldi, e_sti, e_ldj, e_stj, e_le_t, e_le_f, e_lt_t, e_lt_f, e_eq_t, e_eq_f, e_no_eq, e_no_eq', e_no_rfl, e_no_lt, e_no_le, e_le_no, e_lt_no, if_true, if_false, ↓reduceIte, e_rs, e_rq, e_rn, e_ji, e_ki, e_ij, e_kj, e_js, e_jq, e_jn, e_cs, e_cq, e_jc, e_kc, e_js', e_jcq, e_icj, e_kcj, or_true, true_or, or_false, false_or, and_true, true_and, not_true_eq_false, not_false_eq_true, f_X12_isDigit, b_X12_isDigit_16, b_X12_isDigit_17]
  · by_cases a2 : 57 < b
    · rw [if_neg (by omega)]; simp (disch := omega) only [e_let, e_call, e_cal0, e_bind, e_lit, e_ofN, e_neg, nI_add, pk_mul, e_sub, e_ldi, e_sti, e_ldj, e_stj, e_le_t, e_le_f, e_lt_t, e_lt_f, e_eq_t, e_eq_f, e_no_eq, e_no_eq', e_no_rfl, e_no_lt, e_no_le, e_le_no, e_lt_no, if_true, if_false, ↓reduceIte, e_rs, e_rq, e_rn, e_ji, e_ki, e_ij, e_kj, e_js, e_jq, e_jn, e_cs, e_cq, e_jc, e_kc, e_js', e_jcq, e_icj, e_kcj, or_true, true_or, or_false, false_or, and_true, true_and, not_true_eq_false, not_false_eq_true, f_X12_isDigit, b_X12_isDigit_16, b_X12_isDigit_17]
    · rw [if_pos (by omega)]; simp (disch := omega) only [e_let, e_call, e_cal0, e_bind, e_lit, e_ofN, e_neg, nI_add, pk_mul, e_sub, e_ldi, e_sti, e_ldj, e_stj, e_le_t, e_le_f, e_lt_t, e_lt_f, e_eq_t, e_eq_f, e_no_eq, e_no_eq', e_no_rfl, e_no_lt, e_no_le, e_le_no, e_lt_no, if_true, if_false, ↓reduceIte, e_rs, e_rq, e_rn, e_ji, e_ki, e_ij, e_kj, e_js, e_jq, e_jn, e_cs, e_cq, e_jc, e_kc, e_js', e_jcq, e_icj, e_kcj, or_true, true_or, or_false, false_or, and_true, true_and, not_true_eq_false, not_false_eq_true, f_X12_isDigit, b_X12_isDigit_16, b_X12_isDigit_17]
theorem e_lg {x y : Int64} : (lg_cmp x y = nI 0) = (x = y) := propext (lg_cmp_eq x y)
theorem e_j32 (v : Int32) : v.toInt64.toInt32 = v := Int32.toInt32_toInt64 v
theorem j_wordOf {T : m_M} {i : Nat} (hi : i < 22) : f_X12_wordOf T (nI i) = some (t_kw i, T) := by
  have : ∀ i, i < 22 → ∀ (v : Int64), True := fun _ _ _ => trivial
  rcases (by omega : i = 0 ∨ i = 1 ∨ i = 2 ∨ i = 3 ∨ i = 4 ∨ i = 5 ∨ i = 6 ∨ i = 7 ∨ i = 8 ∨ i = 9 ∨ i = 10 ∨ i = 11 ∨ i = 12 ∨ i = 13 ∨ i = 14 ∨ i = 15 ∨ i = 16 ∨ i = 17 ∨ i = 18 ∨ i = 19 ∨ i = 20 ∨ i = 21) with h | h | h | h | h | h | h | h | h | h | h | h | h | h | h | h | h | h | h | h | h | h
  all_goals (subst h; rfl)
end TX
