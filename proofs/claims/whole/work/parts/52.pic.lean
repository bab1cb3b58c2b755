/-! THE PROGRAM, the regions and the machine, as pictures -/
abbrev pP : Type := Nat → Nat → Nat
def p_fu (P : pP) : Nat := P 0 0
def p_ln (P : pP) : Nat := P 0 1
def p_pa (P : pP) (f : Nat) : Nat := P 1 f
def p_fi (P : pP) (f : Nat) : Nat := P 2 f
def p_ct (P : pP) (f : Nat) : Nat := P 3 f
/-- 0 a number, 1 a var, 2 pair, 3 left, 4 right, 5 sum, 6 less, 7 pick, 8 call, 9 when -/
def p_op (P : pP) (l : Nat) : Nat := P 4 l
def p_ca (P : pP) (l : Nat) : Nat := P 5 l
/-- of a when: 0 its condition, 1 to 3 what it hands on, 4 what stands behind else -/
def p_va (P : pP) (l k : Nat) : Nat := P 6 (5 * l + k)
def p_nu (P : pP) (l : Nat) : Nat := P 7 l
def p_vs (P : pP) (f : Nat) : Nat := p_pa P f + p_ct P f
/-- whether a place of a line holds a var -/
def p_us (P : pP) (l k : Nat) : Prop := match p_op P l with
  | 0 => False
  | 1 => k = 0
  | 2 => k < 2
  | 3 => k = 0
  | 4 => k = 0
  | 5 => k < 2
  | 6 => k < 2
  | 7 => k < 3
  | 8 => k < p_pa P (p_ca P l)
  | _ => k = 0 ∨ (1 ≤ k ∧ k ≤ p_pa P (p_ca P l)) ∨ k = 4
def p_W (P : pP) : Prop :=
  p_fu P ≤ 5 ∧ p_ln P ≤ 24 ∧
  (∀ f, f < p_fu P → p_pa P f ≤ 3 ∧ 1 ≤ p_ct P f ∧ p_fi P f + p_ct P f ≤ p_ln P) ∧
  (∀ f g, f < g → g < p_fu P → p_fi P f + p_ct P f ≤ p_fi P g) ∧
  (∀ f i, f < p_fu P → i < p_ct P f → p_op P (p_fi P f + i) ≤ 9 ∧ p_nu P (p_fi P f + i) ≤ 999 ∧
    (8 ≤ p_op P (p_fi P f + i) → p_ca P (p_fi P f + i) < p_fu P) ∧
    ∀ k, p_us P (p_fi P f + i) k → p_va P (p_fi P f + i) k < p_pa P f + i)
/-- where a var points to, where a side points to (0: to none), and sets: 0 what a var reaches, 1 what begins, 2 what ends with a line, 3 outer, 4 owned -/
abbrev pD : Type := (Nat → Nat → Nat) × (Nat → Nat → Nat) × (Nat → Nat → Nat → Nat → Bool)
def d_pt (D : pD) (f v : Nat) : Nat := D.1 f v
def d_sd (D : pD) (r s : Nat) : Nat := D.2.1 r s
def d_rc (D : pD) (f v r : Nat) : Bool := D.2.2 0 f v r
def d_bg (D : pD) (f i r : Nat) : Bool := D.2.2 1 f i r
def d_en (D : pD) (f i r : Nat) : Bool := D.2.2 2 f i r
def d_ou (D : pD) (f r : Nat) : Bool := D.2.2 3 f 0 r
def d_ow (D : pD) (f r : Nat) : Bool := D.2.2 4 f 0 r
abbrev qM : Type := (Nat → Nat) × (Nat → Nat) × (Nat → Nat) × (Nat → Nat → Nat) × (Nat → Nat → Int32) × List (Nat × Nat) × (Nat → Option (Nat × Nat)) × (Nat → Nat → Nat) × (Nat → Nat → Int32) × Int32
/-- numbers: 0 state, 1 why, 2 frames, 4 cells, 5 most, 6 steps, 7 laid, 8 left ahead, 9 kind of what was given, 11 lost -/
def q_sc (M : qM) : Nat → Nat := M.1
def q_ff (M : qM) : Nat → Nat := M.2.1
def q_fl (M : qM) : Nat → Nat := M.2.2.1
def q_kd (M : qM) : Nat → Nat → Nat := M.2.2.2.1
def q_vl (M : qM) : Nat → Nat → Int32 := M.2.2.2.2.1
/-- rooms: of which level (0: main's outer ones, k + 1: the frame k), of which region -/
def q_F (M : qM) : List (Nat × Nat) := M.2.2.2.2.2.1
/-- in which room a cell lies -/
def q_ce (M : qM) : Nat → Option (Nat × Nat) := M.2.2.2.2.2.2.1
def q_sk (M : qM) : Nat → Nat → Nat := M.2.2.2.2.2.2.2.1
def q_sv (M : qM) : Nat → Nat → Int32 := M.2.2.2.2.2.2.2.2.1
def q_gv (M : qM) : Int32 := M.2.2.2.2.2.2.2.2.2
def q_s (M : qM) (j v : Nat) : qM := (va_up (q_sc M) j v, M.2)
def q_setF (M : qM) (F : List (Nat × Nat)) : qM := (q_sc M, q_ff M, q_fl M, q_kd M, q_vl M, F, q_ce M, q_sk M, q_sv M, q_gv M)
def q_var (M : qM) (k v x : Nat) (y : Int32) : qM := (q_sc M, q_ff M, q_fl M, va_up (q_kd M) k (va_up (q_kd M k) v x), va_up (q_vl M) k (va_up (q_vl M k) v y), q_F M, q_ce M, q_sk M, q_sv M, q_gv M)
def q_lin (M : qM) (k i : Nat) : qM := (q_sc M, q_ff M, va_up (q_fl M) k i, q_kd M, q_vl M, q_F M, q_ce M, q_sk M, q_sv M, q_gv M)
def q_gi (M : qM) (x : Nat) (y : Int32) : qM := (va_up (q_sc M) 9 x, q_ff M, q_fl M, q_kd M, q_vl M, q_F M, q_ce M, q_sk M, q_sv M, y)
def q_push (M : qM) (k g : Nat) (kk : Nat → Nat) (vv : Nat → Int32) : qM := (q_sc M, va_up (q_ff M) k g, va_up (q_fl M) k 0, va_up (q_kd M) k kk, va_up (q_vl M) k vv, q_F M, q_ce M, q_sk M, q_sv M, q_gv M)
def q_ix (F : List (Nat × Nat)) (o : Option (Nat × Nat)) : Int32 := match o with | none => m_no | some x => nI (F.idxOf x)
/-- the memory holds the picture at a -/
def q_R (S : m_M) (a : Nat) (M : qM) : Prop :=
  (∀ j, j < 12 → j ≠ 3 → j ≠ 10 → m_ri S a j = nI (q_sc M j)) ∧ m_ri S a 3 = nI (q_F M).length ∧ m_ri S a 10 = q_gv M ∧
  (∀ k, k < q_sc M 2 → m_ri S (a + 1) k = nI (q_ff M k)) ∧ (∀ k, k < q_sc M 2 → m_ri S (a + 2) k = nI (q_fl M k)) ∧
  (∀ k v, k < q_sc M 2 → v < 27 → m_ri S (a + 3) (k * 27 + v) = nI (q_kd M k v)) ∧
  (∀ k v, k < q_sc M 2 → v < 27 → m_ri S (a + 4) (k * 27 + v) = q_vl M k v) ∧
  (∀ i x, (q_F M)[i]? = some x → m_ri S (a + 5) i = nI x.2) ∧
  (∀ c, c < 200 → m_ri S (a + 6) c = q_ix (q_F M) (q_ce M c)) ∧
  (∀ c s, c < 200 → s < 2 → q_ce M c ≠ none → m_ri S (a + 7) (2 * c + s) = nI (q_sk M c s)) ∧
  (∀ c s, c < 200 → s < 2 → q_ce M c ≠ none → m_ri S (a + 8) (2 * c + s) = q_sv M c s)
/-- bounds of the numbers in the picture -/
def q_B (P : pP) (M : qM) : Prop :=
  q_sc M 2 ≤ 12 ∧ (q_F M).length ≤ 312 ∧ (q_F M).Nodup ∧ (∀ x, x ∈ q_F M → x.2 < 24) ∧
  (∀ k, k < q_sc M 2 → q_ff M k < p_fu P ∧ q_fl M k < p_ct P (q_ff M k) ∧ ∀ v, q_kd M k v ≤ 2) ∧
  (∀ c x, c < 200 → q_ce M c = some x → x ∈ q_F M) ∧ q_sc M 4 = fb_ct (fun c => (q_ce M c).isSome) 200 ∧
  q_sc M 5 ≤ 200 ∧ q_sc M 6 ≤ 5001 ∧ q_sc M 7 ≤ 5001 ∧ q_sc M 8 ≤ 5001 ∧ q_sc M 9 ≤ 2 ∧ q_sc M 0 < 4 ∧ q_sc M 1 < 6 ∧ q_sc M 11 < 2 ∧
  (∀ c s, c < 200 → s < 2 → q_ce M c ≠ none → q_sk M c s ≤ 2) ∧ (q_F M).Pairwise (fun x y => x.1 ≤ y.1)
/-- only cells of a block were written, and only ints -/
def e_O (lo hi : Nat) (S S' : m_M) : Prop := (∀ q, q < lo ∨ hi ≤ q → m_ri S' q = m_ri S q) ∧ m_rj S' = m_rj S ∧ m_rr S' = m_rr S
theorem e_O.rf {lo hi : Nat} {S : m_M} : e_O lo hi S S := ⟨fun _ _ => rfl, rfl, rfl⟩
theorem e_O.tr {lo hi : Nat} {S S' S'' : m_M} (h : e_O lo hi S S') (h' : e_O lo hi S' S'') : e_O lo hi S S'' := ⟨fun q hq => (h'.1 q hq).trans (h.1 q hq), h'.2.1.trans h.2.1, h'.2.2.trans h.2.2⟩
theorem e_O.si {lo hi q i : Nat} {S S' : m_M} {v : Int32} (h : e_O lo hi S S') (h1 : lo ≤ q) (h2 : q < hi) : e_O lo hi S (m_si S' q i v) := ⟨fun q' hq => by rw [e_rq (by omega)]; exact h.1 q' hq, h.2.1, h.2.2⟩
theorem e_O.ci {lo hi q : Nat} {S S' : m_M} {f : Nat → Int32} (h : e_O lo hi S S') (h1 : lo ≤ q) (h2 : q < hi) : e_O lo hi S (m_ci S' q f) := ⟨fun q' hq => by rw [e_cq (by omega)]; exact h.1 q' hq, h.2.1, h.2.2⟩
theorem e_O.wide {lo hi lo' hi' : Nat} {S S' : m_M} (h : e_O lo hi S S') (h1 : lo' ≤ lo) (h2 : hi ≤ hi') : e_O lo' hi' S S' := ⟨fun q hq => h.1 q (by omega), h.2⟩
theorem e_cid {S : m_M} {q : Nat} : m_ci S q (m_ri S q) = S := by
  have : va_up S.1 q (S.1 q) = S.1 := by funext j; by_cases h : j = q <;> simp [va_up, h]
  simp only [m_ci, m_ri, this]
theorem e_csi {S : m_M} {q i : Nat} {v : Int32} {f : Nat → Int32} : m_ci (m_si S q i v) q f = m_ci S q f := by
  have : va_up (va_up S.1 q (va_up (S.1 q) i v)) q f = va_up S.1 q f := by funext j; by_cases h : j = q <;> simp [va_up, h]
  simp only [m_ci, m_si, this]
/-! rows are filled -/
theorem k_fill1 {o n : Nat} {x : Int32} (hn : n < 2147483648) : ∀ (d i fu : Nat) (S : m_M), i + d = n → d < fu → b_J7_fill_53178_5 o n fu S x (nI i) (nI n) = some (m_ci S o (fun t => if i ≤ t ∧ t < n then x else m_ri S o t)) := by
  intro d
  induction d with
  | zero =>
    intro i fu S hi hf
    obtain ⟨fu, rfl⟩ : ∃ f, fu = f + 1 := ⟨fu - 1, by omega⟩
    simp (disch := omega) only [e_let, e_call, e_cal0, e_bind, e_lit, e_ofN, e_neg, nI_add, pk_mul, e_sub, e_ldi, e_sti, e_ldj, e_stj, e_le_t, e_le_f, e_lt_t, e_lt_f, e_eq_t, e_eq_f, e_no_eq, e_no_eq', e_no_rfl, e_no_lt, e_no_le, e_le_no, e_lt_no, if_true, if_false, ↓reduceIte, e_rs, e_rq, e_rn, e_ji, e_ki, e_ij, e_kj, e_js, e_jq, e_jn, e_cs, e_cq, e_jc, e_kc, e_js', e_jcq, e_icj, e_kcj, or_true, true_or, or_false, false_or, and_true, true_and, not_true_eq_false, not_false_eq_true, b_J7_fill_53178_5]
    rw [show (fun t => if i ≤ t ∧ t < n then x else m_ri S o t) = m_ri S o from funext fun t => if_neg (by omega), e_cid]
  | succ d ih =>
    intro i fu S hi hf
    obtain ⟨fu, rfl⟩ : ∃ f, fu = f + 1 := ⟨fu - 1, by omega⟩
    simp (disch := omega) only [e_let, e_call, e_cal0, e_bind, e_lit, e_ofN, e_neg, nI_add, pk_mul, e_sub, e_ldi, e_sti, e_ldj, e_stj, e_le_t, e_le_f, e_lt_t, e_lt_f, e_eq_t, e_eq_f, e_no_eq, e_no_eq', e_no_rfl, e_no_lt, e_no_le, e_le_no, e_lt_no, if_true, if_false, ↓reduceIte, e_rs, e_rq, e_rn, e_ji, e_ki, e_ij, e_kj, e_js, e_jq, e_jn, e_cs, e_cq, e_jc, e_kc, e_js', e_jcq, e_icj, e_kcj, or_true, true_or, or_false, false_or, and_true, true_and, not_true_eq_false, not_false_eq_true, b_J7_fill_53178_5]
    rw [ih (i + 1) fu _ (by omega) (by omega), e_csi]
    congr 2
    funext t
    rw [e_rif]
    by_cases h1 : t = i
    · subst h1; simp only [if_true]; rw [if_neg (by omega), if_pos (by omega)]
    · rw [if_neg h1]
      by_cases h2 : i + 1 ≤ t ∧ t < n
      · rw [if_pos h2, if_pos (by omega)]
      · rw [if_neg h2, if_neg (by omega)]
theorem m_fu_ge : 90000 ≤ m_fu := Nat.le_of_ble_eq_true rfl
theorem k_fills {o n : Nat} {x : Int32} {S : m_M} (hn : n < 50000) : f_J7_fill_53178 o n S x = some (m_ci S o (fun t => if t < n then x else m_ri S o t)) := by
  have hf := m_fu_ge
  have h : b_J7_fill_53178_5 o n m_fu S x (nI 0) (nI n) = _ := k_fill1 (by omega) n 0 m_fu S (by omega) (by omega)
  simp (disch := omega) only [e_let, e_call, e_cal0, e_bind, e_lit, e_ofN, e_neg, nI_add, pk_mul, e_sub, e_ldi, e_sti, e_ldj, e_stj, e_le_t, e_le_f, e_lt_t, e_lt_f, e_eq_t, e_eq_f, e_no_eq, e_no_eq', e_no_rfl, e_no_lt, e_no_le, e_le_no, e_lt_no, if_true, if_false, ↓reduceIte, e_rs, e_rq, e_rn, e_ji, e_ki, e_ij, e_kj, e_js, e_jq, e_jn, e_cs, e_cq, e_jc, e_kc, e_js', e_jcq, e_icj, e_kcj, or_true, true_or, or_false, false_or, and_true, true_and, not_true_eq_false, not_false_eq_true, f_J7_fill_53178]
  generalize m_fu = fu at *
  rw [h]
  simp only [Nat.zero_le, true_and]
