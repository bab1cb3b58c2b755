/-! joining, in the memory of both sides -/
def u_ln (q s : Nat) : Nat := if q = 0 then 0 else u_sd (q - 1) s + 1
def u_R1 (S : m_M) (a : Nat) (U : u2) (mk : Nat) : Prop := u_F (m_ri S (a + 1)) U.1 ∧ (∀ n, n < 183 → m_ri S (a + 2) n = nO (u_ln (U.2 n) 0) ∧ m_ri S (a + 3) n = nO (u_ln (U.2 n) 1)) ∧ m_ri S a 4 = nI (135 + 2 * mk)
def u_R2 (T : m_M) (m : Nat) (U : u2) (mk : Nat) : Prop := u_F (m_ri T (m + 12)) U.1 ∧ (∀ n, n < 183 → m_ri T (m + 13) n = nO (U.2 n)) ∧ m_ri T m 36 = nI mk
def u_O (m : Nat) (T T' : m_M) : Prop := (∀ q, q ≠ m → q ≠ m + 12 → q ≠ m + 13 → m_ri T' q = m_ri T q) ∧ (∀ j, j ≠ 36 → m_ri T' m j = m_ri T m j) ∧ m_rj T' = m_rj T ∧ m_rr T' = m_rr T
section UD
variable {S T : m_M} {a m mk : Nat} {o : Nat → Nat} {U : u2}
theorem u_O.rf : u_O m T T := ⟨fun _ _ _ _ => rfl, fun _ _ => rfl, rfl, rfl⟩
theorem u_O.tr {T' T'' : m_M} (h : u_O m T T') (h' : u_O m T' T'') : u_O m T T'' := ⟨fun q h1 h2 h3 => (h'.1 q h1 h2 h3).trans (h.1 q h1 h2 h3), fun j hj => (h'.2.1 j hj).trans (h.2.1 j hj), h'.2.2.1.trans h.2.2.1, h'.2.2.2.trans h.2.2.2⟩
theorem u_O.arr {T' : m_M} {q j : Nat} {v : Int32} (h : u_O m T T') (hq : q = m + 12 ∨ q = m + 13) : u_O m T (m_si T' q j v) := ⟨fun q' g1 g2 g3 => by rw [e_rq (by omega)]; exact h.1 q' g1 g2 g3, fun t ht => by rw [e_rq (by omega)]; exact h.2.1 t ht, h.2.2.1, h.2.2.2⟩
theorem u_O.fld {T' : m_M} {v : Int32} (h : u_O m T T') : u_O m T (m_si T' m 36 v) := ⟨fun q' g1 g2 g3 => by rw [e_rq g1]; exact h.1 q' g1 g2 g3, fun t ht => by rw [e_rn ht]; exact h.2.1 t ht, h.2.2.1, h.2.2.2⟩
theorem u_ln_0 {s : Nat} : u_ln 0 s = 0 := rfl
theorem u_ln_p {q s : Nat} (h : q ≠ 0) : nO (u_ln q s) = nI (u_sd (q - 1) s) := by rw [u_ln, if_neg h]; rfl
theorem k_join : ∀ (d : Nat) (U : u2) (S : m_M) (i j i3 : Nat), u_V mk o U → u_c U < d → u_c U + i3 ≤ 25 → u_R1 S a U mk → i < 183 → j < 183 →
    ∃ S', f_X5_join d a S (nI i) (nI j) (nI i3) = some S' ∧ u_R1 S' a (u_jn d U i j) mk ∧ e_O (a + 1) (a + 4) S S' := by
  intro d
  induction d with
  | zero => intro U S i j i3 _ h; omega
  | succ d ih =>
    intro U S i j i3 hV hc h25 hR hi hj
    obtain ⟨r1, r2, r3⟩ := hR
    have ri := k_rootOf r1 hi
    have rj := k_rootOf r1 hj
    obtain ⟨hx, tx⟩ := hV.1 i hi
    obtain ⟨hy, ty⟩ := hV.1 j hj
    rw [u_jn]
    generalize U.1 i = x at *
    generalize U.1 j = y at *
    by_cases h1 : x = y
    · rw [if_pos h1]
      refine ⟨S, ?_, ⟨r1, r2, r3⟩, e_O.rf⟩
      rw [f_X5_join, g_X5_join]
      simp (disch := omega) only [e_let, e_call, e_cal0, e_bind, e_lit, e_ofN, e_neg, nI_add, pk_mul, e_sub, e_ldi, e_sti, e_ldj, e_stj, e_le_t, e_le_f, e_lt_t, e_lt_f, e_eq_t, e_eq_f, e_no_eq, e_no_eq', e_no_rfl, e_no_lt, e_no_le, e_le_no, e_lt_no, if_true, if_false, ↓reduceIte, e_rs, e_rq, e_rn, e_ji, e_ki, e_ij, e_kj, e_js, e_jq, e_jn, e_cs, e_cq, e_jc, e_kc, e_js', e_jcq, e_icj, e_kcj, or_true, true_or, or_false, false_or, and_true, true_and, not_true_eq_false, not_false_eq_true, ri, rj, b_X5_join_10, b_X5_join_38]
    · rw [if_neg h1]
      have hF : u_F (m_ri (m_si S (a + 1) y (nI x)) (a + 1)) (u_mg U.1 x y) := by rw [e_row]; exact r1.join hx hy tx ty h1
      have m24 := hV.2.1
      have hqx := hV.2.2.2.1 x hx
      have hqy := hV.2.2.2.1 y hy
      obtain ⟨lx, rx⟩ := r2 x hx
      obtain ⟨ly, ry⟩ := r2 y hy
      have hO : e_O (a + 1) (a + 4) S (m_si S (a + 1) y (nI x)) := e_O.rf.si (by omega) (by omega)
      by_cases qx : U.2 x = 0
      · rw [if_pos qx]
        have lx0 : m_ri S (a + 2) x = m_no := by rw [lx, qx]; rfl
        refine ⟨m_si (m_si (m_si S (a + 1) y (nI x)) (a + 2) x (m_ri S (a + 2) y)) (a + 3) x (m_ri S (a + 3) y), ?_, ⟨?_, fun n hn => ⟨?_, ?_⟩, ?_⟩, (hO.si (by omega) (by omega)).si (by omega) (by omega)⟩
        · rw [f_X5_join, g_X5_join]
          simp (disch := omega) only [e_let, e_call, e_cal0, e_bind, e_lit, e_ofN, e_neg, nI_add, pk_mul, e_sub, e_ldi, e_sti, e_ldj, e_stj, e_le_t, e_le_f, e_lt_t, e_lt_f, e_eq_t, e_eq_f, e_no_eq, e_no_eq', e_no_rfl, e_no_lt, e_no_le, e_le_no, e_lt_no, if_true, if_false, ↓reduceIte, e_rs, e_rq, e_rn, e_ji, e_ki, e_ij, e_kj, e_js, e_jq, e_jn, e_cs, e_cq, e_jc, e_kc, e_js', e_jcq, e_icj, e_kcj, or_true, true_or, or_false, false_or, and_true, true_and, not_true_eq_false, not_false_eq_true, ri, rj, b_X5_join_10, b_X5_join_38, b_X5_join_140, lx0]
        · rw [e_rq (by omega), e_rq (by omega)]; exact hF
        · rw [e_rq (by omega), e_rif]
          show _ = nO (u_ln (va_up U.2 x (U.2 y) n) 0)
          by_cases h : n = x
          · rw [if_pos h, h, va_up_self]; exact ly
          · rw [if_neg h, va_up_ne _ _ h, e_rq (by omega)]; exact (r2 n hn).1
        · rw [e_rif]
          show _ = nO (u_ln (va_up U.2 x (U.2 y) n) 1)
          by_cases h : n = x
          · rw [if_pos h, h, va_up_self]; exact ry
          · rw [if_neg h, va_up_ne _ _ h, e_rq (by omega), e_rq (by omega)]; exact (r2 n hn).2
        · rw [e_rq (by omega), e_rq (by omega), e_rq (by omega)]; exact r3
      · rw [if_neg qx]
        rw [u_ln_p qx] at lx rx
        have hRW : u_R1 (m_si S (a + 1) y (nI x)) a (u_mg U.1 x y, U.2) mk := ⟨hF, fun n hn => by rw [e_rq (by omega), e_rq (by omega)]; exact r2 n hn, by rw [e_rq (by omega)]; exact r3⟩
        have sl0 := u_sd_lt (k := U.2 x - 1) (s := 0) (by omega) (by omega)
        have sl1 := u_sd_lt (k := U.2 x - 1) (s := 1) (by omega) (by omega)
        by_cases qy : U.2 y = 0
        · rw [if_pos qy]
          have ly0 : m_ri S (a + 2) y = m_no := by rw [ly, qy]; rfl
          refine ⟨_, ?_, hRW, hO⟩
          rw [f_X5_join, g_X5_join]
          simp (disch := omega) only [e_let, e_call, e_cal0, e_bind, e_lit, e_ofN, e_neg, nI_add, pk_mul, e_sub, e_ldi, e_sti, e_ldj, e_stj, e_le_t, e_le_f, e_lt_t, e_lt_f, e_eq_t, e_eq_f, e_no_eq, e_no_eq', e_no_rfl, e_no_lt, e_no_le, e_le_no, e_lt_no, if_true, if_false, ↓reduceIte, e_rs, e_rq, e_rn, e_ji, e_ki, e_ij, e_kj, e_js, e_jq, e_jn, e_cs, e_cq, e_jc, e_kc, e_js', e_jcq, e_icj, e_kcj, or_true, true_or, or_false, false_or, and_true, true_and, not_true_eq_false, not_false_eq_true, ri, rj, b_X5_join_10, b_X5_join_38, b_X5_join_140, lx, ly0]
        · rw [if_neg qy]
          rw [u_ln_p qy] at ly ry
          have ml0 := u_sd_lt (k := U.2 y - 1) (s := 0) (by omega) (by omega)
          have ml1 := u_sd_lt (k := U.2 y - 1) (s := 1) (by omega) (by omega)
          have hcW := u_c_two hy tx ty h1 qy
          have hVW := u_mg_V hV hx hy tx ty h1 qx
          obtain ⟨S1, f1, f2, f3⟩ := ih (u_mg U.1 x y, U.2) _ (u_sd (U.2 x - 1) 0) (u_sd (U.2 y - 1) 0) (i3 + 1) hVW (by omega) (by omega) hRW sl0 ml0
          obtain ⟨o1, o2, -⟩ := u_jn_ok d (u_mg U.1 x y, U.2) (u_sd (U.2 x - 1) 0) (u_sd (U.2 y - 1) 0) hVW (by omega) sl0 ml0
          obtain ⟨S2, g1, g2, g3⟩ := ih _ S1 (u_sd (U.2 x - 1) 1) (u_sd (U.2 y - 1) 1) (i3 + 1) o1 (by omega) (by omega) f2 sl1 ml1
          refine ⟨S2, ?_, g2, (hO.tr f3).tr g3⟩
          rw [f_X5_join, g_X5_join]
          simp (disch := omega) only [e_let, e_call, e_cal0, e_bind, e_lit, e_ofN, e_neg, nI_add, pk_mul, e_sub, e_ldi, e_sti, e_ldj, e_stj, e_le_t, e_le_f, e_lt_t, e_lt_f, e_eq_t, e_eq_f, e_no_eq, e_no_eq', e_no_rfl, e_no_lt, e_no_le, e_le_no, e_lt_no, if_true, if_false, ↓reduceIte, e_rs, e_rq, e_rn, e_ji, e_ki, e_ij, e_kj, e_js, e_jq, e_jn, e_cs, e_cq, e_jc, e_kc, e_js', e_jcq, e_icj, e_kcj, or_true, true_or, or_false, false_or, and_true, true_and, not_true_eq_false, not_false_eq_true, ri, rj, b_X5_join_10, b_X5_join_38, b_X5_join_140, lx, ly, rx, ry, f1, g1]
theorem j_join : ∀ (d : Nat) (U : u2) (T : m_M) (i j : Nat), u_V mk o U → u_c U < d → u_R2 T m U mk → i < 183 → j < 183 →
    ∃ T', f_X12_join d m T (nI i) (nI j) = some T' ∧ u_R2 T' m (u_jn d U i j) mk ∧ u_O m T T' := by
  intro d
  induction d with
  | zero => intro U S i j _ h; omega
  | succ d ih =>
    intro U S i j hV hc hR hi hj
    obtain ⟨r1, r2, r3⟩ := hR
    have ri := j_topOf r1 hi
    have rj := j_topOf r1 hj
    obtain ⟨hx, tx⟩ := hV.1 i hi
    obtain ⟨hy, ty⟩ := hV.1 j hj
    rw [u_jn]
    generalize U.1 i = x at *
    generalize U.1 j = y at *
    by_cases h1 : x = y
    · rw [if_pos h1]
      refine ⟨S, ?_, ⟨r1, r2, r3⟩, u_O.rf⟩
      rw [f_X12_join, g_X12_join]
      simp (disch := omega) only [e_let, e_call, e_cal0, e_bind, e_lit, e_ofN, e_neg, nI_add, pk_mul, e_sub, e_ldi, e_sti, e_ldj, e_stj, e_le_t, e_le_f, e_lt_t, e_lt_f, e_eq_t, e_eq_f, e_no_eq, e_no_eq', e_no_rfl, e_no_lt, e_no_le, e_le_no, e_lt_no, if_true, if_false, ↓reduceIte, e_rs, e_rq, e_rn, e_ji, e_ki, e_ij, e_kj, e_js, e_jq, e_jn, e_cs, e_cq, e_jc, e_kc, e_js', e_jcq, e_icj, e_kcj, or_true, true_or, or_false, false_or, and_true, true_and, not_true_eq_false, not_false_eq_true, ri, rj]
    · rw [if_neg h1]
      have hF : u_F (m_ri (m_si S (m + 12) y (nI x)) (m + 12)) (u_mg U.1 x y) := by rw [e_row]; exact r1.join hx hy tx ty h1
      have m24 := hV.2.1
      have hqx := hV.2.2.2.1 x hx
      have hqy := hV.2.2.2.1 y hy
      have lx := r2 x hx
      have ly := r2 y hy
      have hO : u_O m S (m_si S (m + 12) y (nI x)) := u_O.rf.arr (by omega)
      by_cases qx : U.2 x = 0
      · rw [if_pos qx]
        have lx0 : m_ri S (m + 13) x = m_no := by rw [lx, qx]; rfl
        refine ⟨m_si (m_si S (m + 12) y (nI x)) (m + 13) x (m_ri S (m + 13) y), ?_, ⟨?_, fun n hn => ?_, ?_⟩, hO.arr (by omega)⟩
        · rw [f_X12_join, g_X12_join]
          simp (disch := omega) only [e_let, e_call, e_cal0, e_bind, e_lit, e_ofN, e_neg, nI_add, pk_mul, e_sub, e_ldi, e_sti, e_ldj, e_stj, e_le_t, e_le_f, e_lt_t, e_lt_f, e_eq_t, e_eq_f, e_no_eq, e_no_eq', e_no_rfl, e_no_lt, e_no_le, e_le_no, e_lt_no, if_true, if_false, ↓reduceIte, e_rs, e_rq, e_rn, e_ji, e_ki, e_ij, e_kj, e_js, e_jq, e_jn, e_cs, e_cq, e_jc, e_kc, e_js', e_jcq, e_icj, e_kcj, or_true, true_or, or_false, false_or, and_true, true_and, not_true_eq_false, not_false_eq_true, ri, rj, b_X12_join_59, b_X12_join_71, lx0]
        · rw [e_rq (by omega)]; exact hF
        · rw [e_rif]
          show _ = nO (va_up U.2 x (U.2 y) n)
          by_cases h : n = x
          · rw [if_pos h, h, va_up_self]; exact ly
          · rw [if_neg h, va_up_ne _ _ h, e_rq (by omega)]; exact r2 n hn
        · rw [e_rq (by omega), e_rq (by omega)]; exact r3
      · rw [if_neg qx]
        rw [nO_pos (by omega)] at lx
        have hRW : u_R2 (m_si S (m + 12) y (nI x)) m (u_mg U.1 x y, U.2) mk := ⟨hF, fun n hn => by rw [e_rq (by omega)]; exact r2 n hn, by rw [e_rq (by omega)]; exact r3⟩
        have sl0 := u_sd_lt (k := U.2 x - 1) (s := 0) (by omega) (by omega)
        have sl1 := u_sd_lt (k := U.2 x - 1) (s := 1) (by omega) (by omega)
        by_cases qy : U.2 y = 0
        · rw [if_pos qy]
          have ly0 : m_ri S (m + 13) y = m_no := by rw [ly, qy]; rfl
          refine ⟨_, ?_, hRW, hO⟩
          rw [f_X12_join, g_X12_join]
          simp (disch := omega) only [e_let, e_call, e_cal0, e_bind, e_lit, e_ofN, e_neg, nI_add, pk_mul, e_sub, e_ldi, e_sti, e_ldj, e_stj, e_le_t, e_le_f, e_lt_t, e_lt_f, e_eq_t, e_eq_f, e_no_eq, e_no_eq', e_no_rfl, e_no_lt, e_no_le, e_le_no, e_lt_no, if_true, if_false, ↓reduceIte, e_rs, e_rq, e_rn, e_ji, e_ki, e_ij, e_kj, e_js, e_jq, e_jn, e_cs, e_cq, e_jc, e_kc, e_js', e_jcq, e_icj, e_kcj, or_true, true_or, or_false, false_or, and_true, true_and, not_true_eq_false, not_false_eq_true, ri, rj, b_X12_join_59, b_X12_join_71, lx, ly0]
        · rw [if_neg qy]
          rw [nO_pos (by omega)] at ly
          have ml0 := u_sd_lt (k := U.2 y - 1) (s := 0) (by omega) (by omega)
          have ml1 := u_sd_lt (k := U.2 y - 1) (s := 1) (by omega) (by omega)
          have hcW := u_c_two hy tx ty h1 qy
          have hVW := u_mg_V hV hx hy tx ty h1 qx
          obtain ⟨S1, f1, f2, f3⟩ := ih (u_mg U.1 x y, U.2) _ (u_sd (U.2 x - 1) 0) (u_sd (U.2 y - 1) 0) hVW (by omega) hRW sl0 ml0
          obtain ⟨o1, o2, -⟩ := u_jn_ok d (u_mg U.1 x y, U.2) (u_sd (U.2 x - 1) 0) (u_sd (U.2 y - 1) 0) hVW (by omega) sl0 ml0
          obtain ⟨S2, g1, g2, g3⟩ := ih _ S1 (u_sd (U.2 x - 1) 1) (u_sd (U.2 y - 1) 1) o1 (by omega) f2 sl1 ml1
          refine ⟨S2, ?_, g2, (hO.tr f3).tr g3⟩
          rw [f_X12_join, g_X12_join]
          rw [u_sd, u_sd] at f1 g1
          simp (disch := omega) only [e_let, e_call, e_cal0, e_bind, e_lit, e_ofN, e_neg, nI_add, pk_mul, e_sub, e_ldi, e_sti, e_ldj, e_stj, e_le_t, e_le_f, e_lt_t, e_lt_f, e_eq_t, e_eq_f, e_no_eq, e_no_eq', e_no_rfl, e_no_lt, e_no_le, e_le_no, e_lt_no, if_true, if_false, ↓reduceIte, e_rs, e_rq, e_rn, e_ji, e_ki, e_ij, e_kj, e_js, e_jq, e_jn, e_cs, e_cq, e_jc, e_kc, e_js', e_jcq, e_icj, e_kcj, or_true, true_or, or_false, false_or, and_true, true_and, not_true_eq_false, not_false_eq_true, ri, rj, b_X12_join_59, b_X12_join_71, lx, ly, f_X12_sideNode, f1, g1]
theorem k_new {n : Nat} (hR : u_R1 S a U mk) (hV : u_V mk o U) (hn : n < 183) (hm : mk < 24) : ∃ S', f_X5_rootWithRegion a S (nI n) = some (nI (U.1 n), S') ∧ u_R1 S' a (u_nw mk U n) (u_nm mk U n) ∧ e_O a (a + 4) S S' := by
  obtain ⟨r1, r2, r3⟩ := hR
  have ri := k_rootOf r1 hn
  obtain ⟨hx, tx⟩ := hV.1 n hn
  rw [u_nw, u_nm]
  generalize U.1 n = x at *
  obtain ⟨lx, rx⟩ := r2 x hx
  have hqx := hV.2.2.2.1 x hx
  by_cases qx : U.2 x = 0
  · rw [if_pos qx, if_pos qx]
    have lx0 : m_ri S (a + 2) x = m_no := by rw [lx, qx]; rfl
    refine ⟨m_si (m_si (m_si S (a + 2) x (nI (135 + 2 * mk))) (a + 3) x (nI (135 + 2 * mk + 1))) a 4 (nI (135 + 2 * mk + 2)), ?_, ⟨?_, fun n hn => ⟨?_, ?_⟩, ?_⟩, ((e_O.rf.si (by omega) (by omega)).si (by omega) (by omega)).si (by omega) (by omega)⟩
    · simp (disch := omega) only [e_let, e_call, e_cal0, e_bind, e_lit, e_ofN, e_neg, nI_add, pk_mul, e_sub, e_ldi, e_sti, e_ldj, e_stj, e_le_t, e_le_f, e_lt_t, e_lt_f, e_eq_t, e_eq_f, e_no_eq, e_no_eq', e_no_rfl, e_no_lt, e_no_le, e_le_no, e_lt_no, if_true, if_false, ↓reduceIte, e_rs, e_rq, e_rn, e_ji, e_ki, e_ij, e_kj, e_js, e_jq, e_jn, e_cs, e_cq, e_jc, e_kc, e_js', e_jcq, e_icj, e_kcj, or_true, true_or, or_false, false_or, and_true, true_and, not_true_eq_false, not_false_eq_true, f_X5_rootWithRegion, ri, lx0, r3, b_X5_rootWithRegion_60]
    · rw [e_rq (by omega), e_rq (by omega), e_rq (by omega)]; exact r1
    · rw [e_rq (by omega), e_rq (by omega), e_rif]
      show _ = nO (u_ln (va_up U.2 x (mk + 1) n) 0)
      by_cases h : n = x
      · rw [if_pos h, h, va_up_self]; rfl
      · rw [if_neg h, va_up_ne _ _ h]; exact (r2 n hn).1
    · rw [e_rq (by omega), e_rif]
      show _ = nO (u_ln (va_up U.2 x (mk + 1) n) 1)
      by_cases h : n = x
      · rw [if_pos h, h, va_up_self]; rfl
      · rw [if_neg h, va_up_ne _ _ h, e_rq (by omega)]; exact (r2 n hn).2
    · rw [e_rs]; congr 1
  · rw [if_neg qx, if_neg qx]
    rw [u_ln_p qx] at lx
    have sl0 := u_sd_lt (k := U.2 x - 1) (s := 0) (by omega) (by omega)
    refine ⟨S, ?_, ⟨r1, r2, r3⟩, e_O.rf⟩
    simp (disch := omega) only [e_let, e_call, e_cal0, e_bind, e_lit, e_ofN, e_neg, nI_add, pk_mul, e_sub, e_ldi, e_sti, e_ldj, e_stj, e_le_t, e_le_f, e_lt_t, e_lt_f, e_eq_t, e_eq_f, e_no_eq, e_no_eq', e_no_rfl, e_no_lt, e_no_le, e_le_no, e_lt_no, if_true, if_false, ↓reduceIte, e_rs, e_rq, e_rn, e_ji, e_ki, e_ij, e_kj, e_js, e_jq, e_jn, e_cs, e_cq, e_jc, e_kc, e_js', e_jcq, e_icj, e_kcj, or_true, true_or, or_false, false_or, and_true, true_and, not_true_eq_false, not_false_eq_true, f_X5_rootWithRegion, ri, lx, b_X5_rootWithRegion_60]
theorem u_nw_1 {n : Nat} : (u_nw mk U n).1 = U.1 := by
  rw [u_nw]; split <;> rfl
theorem u_nw_2 {n : Nat} : (u_nw mk U n).2 (U.1 n) ≠ 0 := by
  rw [u_nw]
  by_cases h : U.2 (U.1 n) = 0
  · rw [if_pos h]; show va_up U.2 (U.1 n) (mk + 1) (U.1 n) ≠ 0; rw [va_up_self]; omega
  · rw [if_neg h]; exact h
theorem k_side {n : Nat} (hR : u_R1 S a U mk) (hV : u_V mk o U) (hn : n < 183) (hm : mk < 24) : ∃ S', f_X5_leftOf a S (nI n) = some (nI (u_sd ((u_nw mk U n).2 (U.1 n) - 1) 0), S') ∧ f_X5_rightOf a S (nI n) = some (nI (u_sd ((u_nw mk U n).2 (U.1 n) - 1) 1), S') ∧ u_R1 S' a (u_nw mk U n) (u_nm mk U n) ∧ e_O a (a + 4) S S' := by
  obtain ⟨S', f1, f2, f3⟩ := k_new hR hV hn hm
  obtain ⟨hx, tx⟩ := hV.1 n hn
  obtain ⟨lx, rx⟩ := f2.2.1 _ hx
  rw [u_ln_p u_nw_2] at lx rx
  refine ⟨S', ?_, ?_, f2, f3⟩
  · simp (disch := omega) only [e_let, e_call, e_cal0, e_bind, e_lit, e_ofN, e_neg, nI_add, pk_mul, e_sub, e_ldi, e_sti, e_ldj, e_stj, e_le_t, e_le_f, e_lt_t, e_lt_f, e_eq_t, e_eq_f, e_no_eq, e_no_eq', e_no_rfl, e_no_lt, e_no_le, e_le_no, e_lt_no, if_true, if_false, ↓reduceIte, e_rs, e_rq, e_rn, e_ji, e_ki, e_ij, e_kj, e_js, e_jq, e_jn, e_cs, e_cq, e_jc, e_kc, e_js', e_jcq, e_icj, e_kcj, or_true, true_or, or_false, false_or, and_true, true_and, not_true_eq_false, not_false_eq_true, f_X5_leftOf, f1, lx]
  · simp (disch := omega) only [e_let, e_call, e_cal0, e_bind, e_lit, e_ofN, e_neg, nI_add, pk_mul, e_sub, e_ldi, e_sti, e_ldj, e_stj, e_le_t, e_le_f, e_lt_t, e_lt_f, e_eq_t, e_eq_f, e_no_eq, e_no_eq', e_no_rfl, e_no_lt, e_no_le, e_le_no, e_lt_no, if_true, if_false, ↓reduceIte, e_rs, e_rq, e_rn, e_ji, e_ki, e_ij, e_kj, e_js, e_jq, e_jn, e_cs, e_cq, e_jc, e_kc, e_js', e_jcq, e_icj, e_kcj, or_true, true_or, or_false, false_or, and_true, true_and, not_true_eq_false, not_false_eq_true, f_X5_rightOf, f1, rx]
theorem j_new {n : Nat} (hR : u_R2 T m U mk) (hV : u_V mk o U) (hn : n < 183) (hm : mk < 24) : ∃ T', f_X12_pointFrom m T (nI n) = some (nI ((u_nw mk U n).2 (U.1 n) - 1), T') ∧ u_R2 T' m (u_nw mk U n) (u_nm mk U n) ∧ u_O m T T' := by
  obtain ⟨r1, r2, r3⟩ := hR
  have ri := j_topOf r1 hn
  obtain ⟨hx, tx⟩ := hV.1 n hn
  have hn2 := u_nw_2 (mk := mk) (U := U) (n := n)
  rw [u_nw] at hn2
  rw [u_nw, u_nm]
  generalize U.1 n = x at *
  have lx := r2 x hx
  have hqx := hV.2.2.2.1 x hx
  by_cases qx : U.2 x = 0
  · rw [if_pos qx, if_pos qx]
    have lx0 : m_ri T (m + 13) x = m_no := by rw [lx, qx]; rfl
    refine ⟨m_si (m_si T (m + 13) x (nI mk)) m 36 (nI (mk + 1)), ?_, ⟨?_, fun n hn => ?_, e_rs⟩, (u_O.rf.arr (by omega)).fld⟩
    · show _ = some (nI (va_up U.2 x (mk + 1) x - 1), _)
      rw [va_up_self]
      simp (disch := omega) only [e_let, e_call, e_cal0, e_bind, e_lit, e_ofN, e_neg, nI_add, pk_mul, e_sub, e_ldi, e_sti, e_ldj, e_stj, e_le_t, e_le_f, e_lt_t, e_lt_f, e_eq_t, e_eq_f, e_no_eq, e_no_eq', e_no_rfl, e_no_lt, e_no_le, e_le_no, e_lt_no, if_true, if_false, ↓reduceIte, e_rs, e_rq, e_rn, e_ji, e_ki, e_ij, e_kj, e_js, e_jq, e_jn, e_cs, e_cq, e_jc, e_kc, e_js', e_jcq, e_icj, e_kcj, or_true, true_or, or_false, false_or, and_true, true_and, not_true_eq_false, not_false_eq_true, f_X12_pointFrom, ri, lx0, r3, b_X12_pointFrom_36]
      rfl
    · rw [e_rq (by omega), e_rq (by omega)]; exact r1
    · rw [e_rq (by omega), e_rif]
      show _ = nO (va_up U.2 x (mk + 1) n)
      by_cases h : n = x
      · rw [if_pos h, h, va_up_self]; rfl
      · rw [if_neg h, va_up_ne _ _ h]; exact r2 n hn
  · rw [if_neg qx, if_neg qx]
    rw [nO_pos (by omega)] at lx
    refine ⟨T, ?_, ⟨r1, r2, r3⟩, u_O.rf⟩
    simp (disch := omega) only [e_let, e_call, e_cal0, e_bind, e_lit, e_ofN, e_neg, nI_add, pk_mul, e_sub, e_ldi, e_sti, e_ldj, e_stj, e_le_t, e_le_f, e_lt_t, e_lt_f, e_eq_t, e_eq_f, e_no_eq, e_no_eq', e_no_rfl, e_no_lt, e_no_le, e_le_no, e_lt_no, if_true, if_false, ↓reduceIte, e_rs, e_rq, e_rn, e_ji, e_ki, e_ij, e_kj, e_js, e_jq, e_jn, e_cs, e_cq, e_jc, e_kc, e_js', e_jcq, e_icj, e_kcj, or_true, true_or, or_false, false_or, and_true, true_and, not_true_eq_false, not_false_eq_true, f_X12_pointFrom, ri, lx, b_X12_pointFrom_36]
end UD
