/-! what may be said of a region: both sides -/
def z_o (b : Bool) : Nat := if b = true then 1 else 0
def z_f (sg v n : Nat) : Bool := if sg = 60 then decide (v < n) else if sg = 61 then decide (v = n) else decide (n < v)
/-- a word that stands alone -/
noncomputable def z_a (P : pP) (M : qM) (Z : zT) (r k : Nat) : Bool :=
  if z_w Z k = 14 then d_dec (d_fin P r) else if z_w Z k = 15 then d_ou (d_of P) (p_fu P - 1) r else if z_w Z k = 16 then decide (0 < fb_ct (q_ro M r) (q_F M).length) else
  if z_w Z k = 17 then d_ow (d_of P) (z_m Z k) r else if z_w Z k = 18 then d_flb P (p_fu P) r (z_m Z k) else
  if z_w Z k = 19 then z_f (z_s Z k) (fb_ct (q_co M r) 200) (z_m Z k) else if z_w Z k = 20 then z_f (z_s Z k) (fb_ct (q_ro M r) (q_F M).length) (z_m Z k) else z_f (z_s Z k) r (z_m Z k)
def z_v (Z : zT) (at_ : Nat → Bool) : Nat → Nat → Bool
  | 0, _ => false
  | n + 1, k => if z_w Z k = 13 then !(z_v Z at_ n (k - 1)) else if z_w Z k = 12 then z_v Z at_ n (z_l Z k) && z_v Z at_ n (k - 1) else if z_w Z k = 11 then z_v Z at_ n (z_l Z k) || z_v Z at_ n (k - 1) else at_ k
section SA
variable {S S' T T' : m_M} {x m r k h : Nat} {s : sT} {Z : zT} {P : pP} {M : qM} {at_ : Nat → Bool} {i : Int32}
theorem z_X.lt {fu c : Nat} (hX : z_X fu Z c) (hk : k < c) : (z_w Z k = 13 → 1 ≤ k) ∧ (z_w Z k = 11 ∨ z_w Z k = 12 → 1 ≤ k ∧ z_l Z k < k - 1 + 1 ∧ z_l Z k + 1 ≤ k ∧ z_l Z k < c) := by
  obtain ⟨_, _, h3, h4, h5, _⟩ := hX k hk
  refine ⟨fun h => (h4 h).1, fun h => ?_⟩
  obtain ⟨g1, g2, g3⟩ := h5 h
  have := (hX (k - 1) (by omega)).2.2.1
  exact ⟨g1, by omega, by omega, by omega⟩
theorem z_v_e {n k : Nat} : z_v Z at_ (n + 1) k = if z_w Z k = 13 then !(z_v Z at_ n (k - 1)) else if z_w Z k = 12 then z_v Z at_ n (z_l Z k) && z_v Z at_ n (k - 1) else if z_w Z k = 11 then z_v Z at_ n (z_l Z k) || z_v Z at_ n (k - 1) else at_ k := rfl
theorem z_v_s {fu c : Nat} (hX : z_X fu Z c) : ∀ n k, k < n → k < c → z_v Z at_ (n + 1) k = z_v Z at_ n k := by
  intro n
  induction n with
  | zero => intro k h; omega
  | succ n ih =>
    intro k hk hc
    obtain ⟨g1, g2⟩ := hX.lt hc
    rw [z_v_e (n := n + 1) (k := k), z_v_e (n := n) (k := k)]
    by_cases e13 : z_w Z k = 13
    · have := g1 e13
      rw [if_pos e13, if_pos e13, ih (k - 1) (by omega) (by omega)]
    · rw [if_neg e13, if_neg e13]
      by_cases e12 : z_w Z k = 12
      · obtain ⟨p1, p2, p3, p4⟩ := g2 (Or.inr e12)
        rw [if_pos e12, if_pos e12, ih (k - 1) (by omega) (by omega), ih (z_l Z k) (by omega) (by omega)]
      · rw [if_neg e12, if_neg e12]
        by_cases e11 : z_w Z k = 11
        · obtain ⟨p1, p2, p3, p4⟩ := g2 (Or.inl e11)
          rw [if_pos e11, if_pos e11, ih (k - 1) (by omega) (by omega), ih (z_l Z k) (by omega) (by omega)]
        · rw [if_neg e11, if_neg e11]
/-- the value of a word by those of which it is made -/
theorem z_v_64 {fu c : Nat} (hX : z_X fu Z c) (hc : c ≤ 40) (hk : k < c) : z_v Z at_ 64 k = if z_w Z k = 13 then !(z_v Z at_ 64 (k - 1)) else if z_w Z k = 12 then z_v Z at_ 64 (z_l Z k) && z_v Z at_ 64 (k - 1) else if z_w Z k = 11 then z_v Z at_ 64 (z_l Z k) || z_v Z at_ 64 (k - 1) else at_ k := by
  obtain ⟨g1, g2⟩ := hX.lt hk
  rw [show z_v Z at_ 64 k = z_v Z at_ (63 + 1) k from rfl, z_v_e (n := 63) (k := k)]
  by_cases e13 : z_w Z k = 13
  · have := g1 e13
    rw [if_pos e13, if_pos e13, ← z_v_s hX 63 (k - 1) (by omega) (by omega)]
  · rw [if_neg e13, if_neg e13]
    by_cases e12 : z_w Z k = 12
    · obtain ⟨p1, p2, p3, p4⟩ := g2 (Or.inr e12)
      rw [if_pos e12, if_pos e12, ← z_v_s hX 63 (k - 1) (by omega) (by omega), ← z_v_s hX 63 (z_l Z k) (by omega) (by omega)]
    · rw [if_neg e12, if_neg e12]
      by_cases e11 : z_w Z k = 11
      · obtain ⟨p1, p2, p3, p4⟩ := g2 (Or.inl e11)
        rw [if_pos e11, if_pos e11, ← z_v_s hX 63 (k - 1) (by omega) (by omega), ← z_v_s hX 63 (z_l Z k) (by omega) (by omega)]
      · rw [if_neg e11, if_neg e11]
theorem k_zfits {a v n : Nat} (h2 : m_ri S (a + 2) k = nI (z_s Z k)) (h3 : m_ri S (a + 3) k = nI n) (hk : k < 40) (hs : 60 ≤ z_s Z k ∧ z_s Z k ≤ 62) (hv : v < 1000) (hn : n ≤ 999) : f_X7_fits a S (nI v) (nI k) = some (nI (z_o (z_f (z_s Z k) v n)), S) := by
  have e : z_s Z k = 60 ∨ z_s Z k = 61 ∨ z_s Z k = 62 := by omega
  rcases e with e | e | e
  · rw [e] at h2 ⊢
    by_cases g : v < n
    · rw [show z_f 60 v n = true from decide_eq_true g]
      simp (disch := omega) only [e_let, e_call, e_cal0, e_bind, e_lit, e_ofN, e_neg, nI_add, pk_mul, e_sub, e_ldi, e_sti, e_ldj, e_stj, e_le_t, e_le_f, e_lt_t, e_lt_f, e_eq_t, e_eq_f, e_no_eq, e_no_eq', e_no_rfl, e_no_lt, e_no_le, e_le_no, e_lt_no, if_true, if_false, ↓reduceIte, e_rs, e_rq, e_rn, e_ji, e_ki, e_ij, e_kj, e_js, e_jq, e_jn, e_cs, e_cq, e_jc, e_kc, e_js', e_jcq, e_icj, e_kcj, or_true, true_or, or_false, false_or, and_true, true_and, not_true_eq_false, not_false_eq_true, f_X7_fits, h2, h3, b_X7_fits_47, z_o]
    · rw [show z_f 60 v n = false from decide_eq_false g]
      simp (disch := omega) only [e_let, e_call, e_cal0, e_bind, e_lit, e_ofN, e_neg, nI_add, pk_mul, e_sub, e_ldi, e_sti, e_ldj, e_stj, e_le_t, e_le_f, e_lt_t, e_lt_f, e_eq_t, e_eq_f, e_no_eq, e_no_eq', e_no_rfl, e_no_lt, e_no_le, e_le_no, e_lt_no, if_true, if_false, ↓reduceIte, e_rs, e_rq, e_rn, e_ji, e_ki, e_ij, e_kj, e_js, e_jq, e_jn, e_cs, e_cq, e_jc, e_kc, e_js', e_jcq, e_icj, e_kcj, or_true, true_or, or_false, false_or, and_true, true_and, not_true_eq_false, not_false_eq_true, f_X7_fits, h2, h3, b_X7_fits_47, z_o, Bool.false_eq_true]
  · rw [e] at h2 ⊢
    by_cases g : v = n
    · rw [show z_f 61 v n = true from decide_eq_true g]
      simp (disch := omega) only [e_let, e_call, e_cal0, e_bind, e_lit, e_ofN, e_neg, nI_add, pk_mul, e_sub, e_ldi, e_sti, e_ldj, e_stj, e_le_t, e_le_f, e_lt_t, e_lt_f, e_eq_t, e_eq_f, e_no_eq, e_no_eq', e_no_rfl, e_no_lt, e_no_le, e_le_no, e_lt_no, if_true, if_false, ↓reduceIte, e_rs, e_rq, e_rn, e_ji, e_ki, e_ij, e_kj, e_js, e_jq, e_jn, e_cs, e_cq, e_jc, e_kc, e_js', e_jcq, e_icj, e_kcj, or_true, true_or, or_false, false_or, and_true, true_and, not_true_eq_false, not_false_eq_true, f_X7_fits, h2, h3, b_X7_fits_79, z_o]
    · rw [show z_f 61 v n = false from decide_eq_false g]
      simp (disch := omega) only [e_let, e_call, e_cal0, e_bind, e_lit, e_ofN, e_neg, nI_add, pk_mul, e_sub, e_ldi, e_sti, e_ldj, e_stj, e_le_t, e_le_f, e_lt_t, e_lt_f, e_eq_t, e_eq_f, e_no_eq, e_no_eq', e_no_rfl, e_no_lt, e_no_le, e_le_no, e_lt_no, if_true, if_false, ↓reduceIte, e_rs, e_rq, e_rn, e_ji, e_ki, e_ij, e_kj, e_js, e_jq, e_jn, e_cs, e_cq, e_jc, e_kc, e_js', e_jcq, e_icj, e_kcj, or_true, true_or, or_false, false_or, and_true, true_and, not_true_eq_false, not_false_eq_true, f_X7_fits, h2, h3, b_X7_fits_79, z_o, Bool.false_eq_true]
  · rw [e] at h2 ⊢
    by_cases g : n < v
    · rw [show z_f 62 v n = true from decide_eq_true g]
      simp (disch := omega) only [e_let, e_call, e_cal0, e_bind, e_lit, e_ofN, e_neg, nI_add, pk_mul, e_sub, e_ldi, e_sti, e_ldj, e_stj, e_le_t, e_le_f, e_lt_t, e_lt_f, e_eq_t, e_eq_f, e_no_eq, e_no_eq', e_no_rfl, e_no_lt, e_no_le, e_le_no, e_lt_no, if_true, if_false, ↓reduceIte, e_rs, e_rq, e_rn, e_ji, e_ki, e_ij, e_kj, e_js, e_jq, e_jn, e_cs, e_cq, e_jc, e_kc, e_js', e_jcq, e_icj, e_kcj, or_true, true_or, or_false, false_or, and_true, true_and, not_true_eq_false, not_false_eq_true, f_X7_fits, h2, h3, b_X7_fits_63, z_o]
    · rw [show z_f 62 v n = false from decide_eq_false g]
      simp (disch := omega) only [e_let, e_call, e_cal0, e_bind, e_lit, e_ofN, e_neg, nI_add, pk_mul, e_sub, e_ldi, e_sti, e_ldj, e_stj, e_le_t, e_le_f, e_lt_t, e_lt_f, e_eq_t, e_eq_f, e_no_eq, e_no_eq', e_no_rfl, e_no_lt, e_no_le, e_le_no, e_lt_no, if_true, if_false, ↓reduceIte, e_rs, e_rq, e_rn, e_ji, e_ki, e_ij, e_kj, e_js, e_jq, e_jn, e_cs, e_cq, e_jc, e_kc, e_js', e_jcq, e_icj, e_kcj, or_true, true_or, or_false, false_or, and_true, true_and, not_true_eq_false, not_false_eq_true, f_X7_fits, h2, h3, b_X7_fits_63, z_o, Bool.false_eq_true]
theorem j_zfits {F : Nat → m_M → Int32 → Int32 → Option (Int32 × m_M)} {v n : Nat} (h3 : m_ri T (m + 2) (2407 + 4 * k + 3) = nI (z_s Z k)) (hk : k < 40) (hs : 60 ≤ z_s Z k ∧ z_s Z k ≤ 62) (hv : v < 1000) (hn : n ≤ 999) : b_X12_holds_268 F m T (nI (2407 + 4 * k)) (nI n) (nI v) = some (nI (z_o (z_f (z_s Z k) v n)), T) := by
  have e : z_s Z k = 60 ∨ z_s Z k = 61 ∨ z_s Z k = 62 := by omega
  rcases e with e | e | e
  · rw [e] at h3 ⊢
    by_cases g : v < n
    · rw [show z_f 60 v n = true from decide_eq_true g]
      simp (disch := omega) only [e_let, e_call, e_cal0, e_bind, e_lit, e_ofN, e_neg, nI_add, pk_mul, e_sub, e_ldi, e_sti, e_ldj, e_stj, e_le_t, e_le_f, e_lt_t, e_lt_f, e_eq_t, e_eq_f, e_no_eq, e_no_eq', e_no_rfl, e_no_lt, e_no_le, e_le_no, e_lt_no, if_true, if_false, ↓reduceIte, e_rs, e_rq, e_rn, e_ji, e_ki, e_ij, e_kj, e_js, e_jq, e_jn, e_cs, e_cq, e_jc, e_kc, e_js', e_jcq, e_icj, e_kcj, or_true, true_or, or_false, false_or, and_true, true_and, not_true_eq_false, not_false_eq_true, b_X12_holds_268, h3, b_X12_holds_338, z_o]
    · rw [show z_f 60 v n = false from decide_eq_false g]
      simp (disch := omega) only [e_let, e_call, e_cal0, e_bind, e_lit, e_ofN, e_neg, nI_add, pk_mul, e_sub, e_ldi, e_sti, e_ldj, e_stj, e_le_t, e_le_f, e_lt_t, e_lt_f, e_eq_t, e_eq_f, e_no_eq, e_no_eq', e_no_rfl, e_no_lt, e_no_le, e_le_no, e_lt_no, if_true, if_false, ↓reduceIte, e_rs, e_rq, e_rn, e_ji, e_ki, e_ij, e_kj, e_js, e_jq, e_jn, e_cs, e_cq, e_jc, e_kc, e_js', e_jcq, e_icj, e_kcj, or_true, true_or, or_false, false_or, and_true, true_and, not_true_eq_false, not_false_eq_true, b_X12_holds_268, h3, b_X12_holds_338, z_o, Bool.false_eq_true]
  · rw [e] at h3 ⊢
    by_cases g : v = n
    · rw [show z_f 61 v n = true from decide_eq_true g]
      simp (disch := omega) only [e_let, e_call, e_cal0, e_bind, e_lit, e_ofN, e_neg, nI_add, pk_mul, e_sub, e_ldi, e_sti, e_ldj, e_stj, e_le_t, e_le_f, e_lt_t, e_lt_f, e_eq_t, e_eq_f, e_no_eq, e_no_eq', e_no_rfl, e_no_lt, e_no_le, e_le_no, e_lt_no, if_true, if_false, ↓reduceIte, e_rs, e_rq, e_rn, e_ji, e_ki, e_ij, e_kj, e_js, e_jq, e_jn, e_cs, e_cq, e_jc, e_kc, e_js', e_jcq, e_icj, e_kcj, or_true, true_or, or_false, false_or, and_true, true_and, not_true_eq_false, not_false_eq_true, b_X12_holds_268, h3, b_X12_holds_338, z_o]
    · rw [show z_f 61 v n = false from decide_eq_false g]
      simp (disch := omega) only [e_let, e_call, e_cal0, e_bind, e_lit, e_ofN, e_neg, nI_add, pk_mul, e_sub, e_ldi, e_sti, e_ldj, e_stj, e_le_t, e_le_f, e_lt_t, e_lt_f, e_eq_t, e_eq_f, e_no_eq, e_no_eq', e_no_rfl, e_no_lt, e_no_le, e_le_no, e_lt_no, if_true, if_false, ↓reduceIte, e_rs, e_rq, e_rn, e_ji, e_ki, e_ij, e_kj, e_js, e_jq, e_jn, e_cs, e_cq, e_jc, e_kc, e_js', e_jcq, e_icj, e_kcj, or_true, true_or, or_false, false_or, and_true, true_and, not_true_eq_false, not_false_eq_true, b_X12_holds_268, h3, b_X12_holds_338, z_o, Bool.false_eq_true]
  · rw [e] at h3 ⊢
    by_cases g : n < v
    · rw [show z_f 62 v n = true from decide_eq_true g]
      simp (disch := omega) only [e_let, e_call, e_cal0, e_bind, e_lit, e_ofN, e_neg, nI_add, pk_mul, e_sub, e_ldi, e_sti, e_ldj, e_stj, e_le_t, e_le_f, e_lt_t, e_lt_f, e_eq_t, e_eq_f, e_no_eq, e_no_eq', e_no_rfl, e_no_lt, e_no_le, e_le_no, e_lt_no, if_true, if_false, ↓reduceIte, e_rs, e_rq, e_rn, e_ji, e_ki, e_ij, e_kj, e_js, e_jq, e_jn, e_cs, e_cq, e_jc, e_kc, e_js', e_jcq, e_icj, e_kcj, or_true, true_or, or_false, false_or, and_true, true_and, not_true_eq_false, not_false_eq_true, b_X12_holds_268, h3, b_X12_holds_338, z_o]
    · rw [show z_f 62 v n = false from decide_eq_false g]
      simp (disch := omega) only [e_let, e_call, e_cal0, e_bind, e_lit, e_ofN, e_neg, nI_add, pk_mul, e_sub, e_ldi, e_sti, e_ldj, e_stj, e_le_t, e_le_f, e_lt_t, e_lt_f, e_eq_t, e_eq_f, e_no_eq, e_no_eq', e_no_rfl, e_no_lt, e_no_le, e_le_no, e_lt_no, if_true, if_false, ↓reduceIte, e_rs, e_rq, e_rn, e_ji, e_ki, e_ij, e_kj, e_js, e_jq, e_jn, e_cs, e_cq, e_jc, e_kc, e_js', e_jcq, e_icj, e_kcj, or_true, true_or, or_false, false_or, and_true, true_and, not_true_eq_false, not_false_eq_true, b_X12_holds_268, h3, b_X12_holds_338, z_o, Bool.false_eq_true]
theorem e_o01 (b : Bool) : (if nI (z_o b) = 0 ∨ nI (z_o b) = 1 then some (nI (z_o b), S) else none) = some (nI (z_o b), S) := by cases b <;> rfl
theorem e_o0 : z_o false = 0 := rfl
theorem e_o1 : z_o true = 1 := rfl
theorem k_isTrue (hV : s_V s) (hC : s_C S x s) (ht : z_t (w_z (s_w s)) = 1) (hk : k < z_n (w_z (s_w s))) (h14 : 14 ≤ z_w (w_z (s_w s)) k) (hr : r < d_z (w_p (s_w s))) : f_X7_isTrue (x + 79) (x + 48) (x + 70) S (nI k) (nI r) = some (nI (z_o (z_a (w_p (s_w s)) (w_m (s_w s)) (w_z (s_w s)) r k)), S) := by
  have hW := hV.2.2.2.1.1
  have hB := hV.2.2.2.1.2.1.b
  have hM : q_R S (x + 70) (w_m (s_w s)) := hC.2.2.1.2.1
  have hX : d_XX S (x + 56) (w_p (s_w s)) := hC.2.2.1.1.2.1
  have hP : p_R S (x + 48) (w_p (s_w s)) := hC.2.2.1.1.1
  obtain ⟨_, hzc⟩ := hC.2.2.1.2.2.2 ht
  obtain ⟨hn1, hn40, hzx, _⟩ := hV.2.2.2.1.2.2.2 ht
  obtain ⟨c1, c2, c3⟩ := hzc k hk
  obtain ⟨x1, x2, _, _, _, _, x7, x8⟩ := hzx k hk
  have h5 := hW.1
  have hz := d_z_le hW
  generalize w_z (s_w s) = Z at *
  generalize w_m (s_w s) = M at *
  generalize w_p (s_w s) = P at *
  have hfu1 : 1 ≤ p_fu P := by
    rcases Nat.eq_zero_or_pos (p_fu P) with h | h
    · have := d_z_0 h; omega
    · exact h
  have g1 := k_roomsOf (r := r) hM hB (by omega)
  have g2 := k_cellsOf (r := r) hM hB (by omega)
  have l1 : fb_ct (q_ro M r) (q_F M).length < 1000 := by have := fb_ct_le (q_ro M r) (q_F M).length; have := hB.2.1; omega
  have l2 : fb_ct (q_co M r) 200 < 1000 := by have := fb_ct_le (q_co M r) 200; omega
  have e : z_w Z k = 14 ∨ z_w Z k = 15 ∨ z_w Z k = 16 ∨ z_w Z k = 17 ∨ z_w Z k = 18 ∨ z_w Z k = 19 ∨ z_w Z k = 20 ∨ z_w Z k = 21 := by omega
  have c1 : m_ri S (x + 79 + 1) k = nI (z_w Z k) := c1
  rcases e with e | e | e | e | e | e | e | e <;> rw [e] at c1
  · have hza : z_a P M Z r k = d_dec (d_fin P r) := by rw [z_a, if_pos e]
    have g := k_isFinite hX hr hz
    rw [f_X7_isTrue, e_ldi (by omega) (by omega), e_bind, c1, if_pos (show nI 14 = (14 : Int32) from rfl), show x + 48 + 8 = x + 56 from rfl, g, hza]
    exact e_o01 (S := S) (d_dec (d_fin P r))
  · have hza : z_a P M Z r k = d_ou (d_of P) (p_fu P - 1) r := by rw [z_a, if_neg (by omega), if_pos e]
    have g := hX.2.2.1.2.1 (p_fu P - 1) (by omega)
    have hb := e_bt (x := m_ri S (x + 64) (p_fu P - 1)) (r := r) (by omega)
    have hg : bt (m_ri S (x + 64) (p_fu P - 1)) r = d_ou (d_of P) (p_fu P - 1) r := g.1 r (by omega)
    rw [f_X7_isTrue, e_ldi (by omega) (by omega), e_bind, c1, if_neg (by decide), if_pos (show nI 15 = (15 : Int32) from rfl), hP.1, if_neg (show ¬ nI (p_fu P) ≤ (0 : Int32) by rw [show (0 : Int32) = nI 0 from rfl, e_le (by omega) (by omega)]; omega), show (1 : Int32) = nI 1 from rfl, e_sub (by omega), e_ldi (by omega) (by omega), e_bind, hza]
    by_cases q : d_ou (d_of P) (p_fu P - 1) r = true
    · rw [if_neg (show ¬ ((m_ri S (x + 48 + 16) (p_fu P - 1) >>> (nI r &&& 31)) &&& nI 1) = (0 : Int32) from fun w => by
        have := hb.mp w
        rw [hg, q] at this; cases this), q]; rfl
    · have q' := Bool.eq_false_iff.mpr q
      rw [if_pos (show ((m_ri S (x + 48 + 16) (p_fu P - 1) >>> (nI r &&& 31)) &&& nI 1) = (0 : Int32) from hb.mpr (by rw [hg]; exact q')), q']; rfl
  · have hza : z_a P M Z r k = decide (0 < fb_ct (q_ro M r) (q_F M).length) := by rw [z_a, if_neg (by omega), if_neg (by omega), if_pos e]
    rw [f_X7_isTrue, e_ldi (by omega) (by omega), e_bind, c1, if_neg (by decide), if_neg (by decide), if_pos (show nI 16 = (16 : Int32) from rfl), g1, e_call, hza]
    by_cases q : 0 < fb_ct (q_ro M r) (q_F M).length
    · rw [if_neg (show ¬ nI _ ≤ (0 : Int32) by rw [show (0 : Int32) = nI 0 from rfl, e_le (by omega) (by omega)]; omega), decide_eq_true q]; rfl
    · rw [if_pos (show nI _ ≤ (0 : Int32) by rw [show (0 : Int32) = nI 0 from rfl, e_le (by omega) (by omega)]; omega), decide_eq_false q]; rfl
  · have hza : z_a P M Z r k = d_ow (d_of P) (z_m Z k) r := by rw [z_a, if_neg (by omega), if_neg (by omega), if_neg (by omega), if_pos e]
    have hm := x7 (Or.inl e)
    have c3 : m_ri S (x + 79 + 3) k = nI (z_m Z k) := c3 (by omega)
    have hg : bt (m_ri S (x + 62) r) (z_m Z k) = d_owb P (p_fu P) r (z_m Z k) := (hX.2.2.1.2.2.1 r hr).1 _ (by omega)
    have hg2 : d_owb P (p_fu P) r (z_m Z k) = d_ow (d_of P) (z_m Z k) r := Bool.eq_iff_iff.mpr (by rw [d_owb, d_dec_t]; exact ⟨fun h => h.2, fun h => ⟨hm, h⟩⟩)
    have hb := e_bt (x := m_ri S (x + 62) r) (r := z_m Z k) (by omega)
    rw [f_X7_isTrue, e_ldi (by omega) (by omega), e_bind, c1, if_neg (by decide), if_neg (by decide), if_neg (by decide), if_pos (show nI 17 = (17 : Int32) from rfl), e_ldi (by omega) (by omega), e_bind, e_ldi (by omega) (by omega), e_bind, c3, hza]
    by_cases q : d_ow (d_of P) (z_m Z k) r = true
    · rw [if_neg (show ¬ ((m_ri S (x + 48 + 14) r >>> (nI (z_m Z k) &&& 31)) &&& (1 : Int32)) = (0 : Int32) from fun w => by
        have := hb.mp w
        rw [hg, hg2, q] at this; cases this), q]; rfl
    · have q' := Bool.eq_false_iff.mpr q
      rw [if_pos (show ((m_ri S (x + 48 + 14) r >>> (nI (z_m Z k) &&& 31)) &&& (1 : Int32)) = (0 : Int32) from hb.mpr (by rw [hg, hg2]; exact q')), q']; rfl
  · have hza : z_a P M Z r k = d_flb P (p_fu P) r (z_m Z k) := by rw [z_a, if_neg (by omega), if_neg (by omega), if_neg (by omega), if_neg (by omega), if_pos e]
    have hm := x7 (Or.inr e)
    have c3 : m_ri S (x + 79 + 3) k = nI (z_m Z k) := c3 (by omega)
    have hg : bt (m_ri S (x + 63) r) (z_m Z k) = d_flb P (p_fu P) r (z_m Z k) := (hX.2.2.1.2.2.1 r hr).2 _ (by omega)
    have hb := e_bt (x := m_ri S (x + 63) r) (r := z_m Z k) (by omega)
    rw [f_X7_isTrue, e_ldi (by omega) (by omega), e_bind, c1, if_neg (by decide), if_neg (by decide), if_neg (by decide), if_neg (by decide), if_pos (show nI 18 = (18 : Int32) from rfl), e_ldi (by omega) (by omega), e_bind, e_ldi (by omega) (by omega), e_bind, c3, hza]
    by_cases q : d_flb P (p_fu P) r (z_m Z k) = true
    · rw [if_neg (show ¬ ((m_ri S (x + 48 + 15) r >>> (nI (z_m Z k) &&& 31)) &&& (1 : Int32)) = (0 : Int32) from fun w => by
        have := hb.mp w
        rw [hg, q] at this; cases this), q]; rfl
    · have q' := Bool.eq_false_iff.mpr q
      rw [if_pos (show ((m_ri S (x + 48 + 15) r >>> (nI (z_m Z k) &&& 31)) &&& (1 : Int32)) = (0 : Int32) from hb.mpr (by rw [hg]; exact q')), q']; rfl
  · have hza : z_a P M Z r k = z_f (z_s Z k) (fb_ct (q_co M r) 200) (z_m Z k) := by rw [z_a, if_neg (by omega), if_neg (by omega), if_neg (by omega), if_neg (by omega), if_neg (by omega), if_pos e]
    obtain ⟨y1, y2⟩ := x8 (by omega)
    have g := k_zfits (S := S) (a := x + 79) (k := k) (Z := Z) (v := fb_ct (q_co M r) 200) (c2 (by omega)) (c3 (by omega)) (by omega) y2 l2 y1
    rw [f_X7_isTrue, e_ldi (by omega) (by omega), e_bind, c1, if_neg (by decide), if_neg (by decide), if_neg (by decide), if_neg (by decide), if_neg (by decide), if_pos (show nI 19 = (19 : Int32) from rfl), g2, e_call, g, e_call, hza]
    exact e_o01 _
  · have hza : z_a P M Z r k = z_f (z_s Z k) (fb_ct (q_ro M r) (q_F M).length) (z_m Z k) := by rw [z_a, if_neg (by omega), if_neg (by omega), if_neg (by omega), if_neg (by omega), if_neg (by omega), if_neg (by omega), if_pos e]
    obtain ⟨y1, y2⟩ := x8 (by omega)
    have g := k_zfits (S := S) (a := x + 79) (k := k) (Z := Z) (v := fb_ct (q_ro M r) (q_F M).length) (c2 (by omega)) (c3 (by omega)) (by omega) y2 l1 y1
    rw [f_X7_isTrue, e_ldi (by omega) (by omega), e_bind, c1, if_neg (by decide), if_neg (by decide), if_neg (by decide), if_neg (by decide), if_neg (by decide), if_neg (by decide), if_pos (show nI 20 = (20 : Int32) from rfl), g1, e_call, g, e_call, hza]
    exact e_o01 _
  · have hza : z_a P M Z r k = z_f (z_s Z k) r (z_m Z k) := by rw [z_a, if_neg (by omega), if_neg (by omega), if_neg (by omega), if_neg (by omega), if_neg (by omega), if_neg (by omega), if_neg (by omega)]
    obtain ⟨y1, y2⟩ := x8 (by omega)
    have g := k_zfits (S := S) (a := x + 79) (k := k) (Z := Z) (v := r) (c2 (by omega)) (c3 (by omega)) (by omega) y2 (by omega) y1
    rw [f_X7_isTrue, e_ldi (by omega) (by omega), e_bind, c1, if_neg (by decide), if_neg (by decide), if_neg (by decide), if_neg (by decide), if_neg (by decide), if_neg (by decide), if_neg (by decide), g, e_call, hza]
    exact e_o01 _
end SA
