/-! runs by draws: both sides -/
def e_sd (y : Int32) : Nat → Int32
  | 0 => y
  | k + 1 => e_sd y k * (1103515245 : Int32) + (12345 : Int32)
def e_dv (y : Int32) : Int32 := (y.toUInt32 >>> ((8 : Int32).toUInt32 &&& Int32.toUInt32 31)).toInt32 - (y.toUInt32 >>> ((8 : Int32).toUInt32 &&& Int32.toUInt32 31)).toInt32 / (10 : Int32) * (10 : Int32)
def e_nm (y : Int32) (i : Nat) : Int32 := e_dv (e_sd y (i + 1))
/-- whether it ends, with numbers drawn by a seed -/
def q_en (P : pP) (D : pD) (y : Int32) : Bool := decide (q_sc (q_run P D 5001 (q_ld P D (e_nm y))) 0 = 2)
section OD
variable {S S' T T' : m_M} {x m : Nat} {s s' : sT} {P : pP} {D : pD} {y : Int32} {z : Nat} {i j : Int32}
theorem k_draws (hp3 : p_pa P (p_fu P - 1) ≤ 3) : ∀ (d j fu : Nat) (S : m_M), j + d = p_pa P (p_fu P - 1) → d < fu → q_R S (x + 84) (q_ldj P D (e_nm y) j) →
    ∃ S', b_X11_endsByDraws_30 x fu S (nI (p_pa P (p_fu P - 1))) (e_sd y j) (nI j) = b_X11_endsByDraws_73 x m_fu S' (nI 0) ∧ q_R S' (x + 84) (q_ld P D (e_nm y)) ∧ e_O (x + 84) (x + 93) S S' := by
  intro d
  induction d with
  | zero =>
    intro j fu S hj hf hR
    obtain ⟨fu, rfl⟩ : ∃ f, fu = f + 1 := ⟨fu - 1, by omega⟩
    obtain rfl : j = p_pa P (p_fu P - 1) := by omega
    refine ⟨S, ?_, hR, e_O.rf⟩
    rw [b_X11_endsByDraws_30, if_pos (nI_le (Nat.le_refl _) (by omega))]
    rfl
  | succ d ih =>
    intro j fu S hj hf hR
    obtain ⟨fu, rfl⟩ : ∃ f, fu = f + 1 := ⟨fu - 1, by omega⟩
    obtain ⟨S1, a1, a2, a3⟩ := k_setVar (k := 0) (v := j) (x := 1) (y := e_nm y j) hR (by omega) (by omega)
    rw [q_ldj_s] at a2
    obtain ⟨S2, b1, b2, b3⟩ := ih (j + 1) fu S1 (by omega) (by omega) a2
    refine ⟨S2, ?_, b2, a3.tr b3⟩
    rw [← b1, b_X11_endsByDraws_30, if_neg (by rw [e_le (by omega) (by omega)]; omega), e_let]
    have e1 : f_X2_setVar (x + 84) S (0 : Int32) (nI j) (1 : Int32) (((e_sd y j * (1103515245 : Int32) + (12345 : Int32)).toUInt32 >>> ((8 : Int32).toUInt32 &&& Int32.toUInt32 31)).toInt32 - ((e_sd y j * (1103515245 : Int32) + (12345 : Int32)).toUInt32 >>> ((8 : Int32).toUInt32 &&& Int32.toUInt32 31)).toInt32 / (10 : Int32) * (10 : Int32)) = some S1 := a1
    rw [e1, e_cal0, e_let, show (1 : Int32) = nI 1 from rfl, nI_add]
    rfl
theorem k_one (hG : d_G P D) (C : q_P S (x + 84) (x + 48) P D) (h1 : 1 ≤ p_fu P) : ∃ S', f_X11_endsByDraws x S y = some (nI (if q_en P D y = true then 1 else 0), S') ∧ e_O (x + 84) (x + 93) S S' := by
  have hfu := m_fu_ge
  have hW := C.2.1
  have hSd := C.2.2.2.2
  have hp3 := (hW.2.2.1 (p_fu P - 1) (by omega)).1
  obtain ⟨S1, a1, a2, a3⟩ := k_begin C h1
  have C1 := C.kept a3
  have hp := k_pom C1 h1
  obtain ⟨S2, b1, b2, b3⟩ := k_draws (y := y) (D := D) (P := P) hp3 (p_pa P (p_fu P - 1)) 0 m_fu S1 (by omega) (by omega) (by rw [q_ldj_0]; exact a2)
  have hz := i_ld (num := e_nm y) hW hSd h1
  obtain ⟨S3, c1, c2⟩ := k_ends hW hSd hG 5001 0 m_fu S2 _ (by omega) (Or.inl hz) (fun _ => ⟨rfl, by omega⟩) (by omega) (C1.kept b3) b2
  refine ⟨S3, ?_, (a3.tr b3).tr c2⟩
  rw [f_X11_endsByDraws, a1, e_cal0, hp, e_call]
  refine (show _ = _ from b1).trans (c1.trans ?_)
  rw [q_en]
  by_cases e : q_sc (q_run P D 5001 (q_ld P D (e_nm y))) 0 = 2
  · rw [if_pos e, if_pos (decide_eq_true e)]
  · rw [if_neg e, if_neg (by rw [decide_eq_true_eq]; exact e)]
theorem j_draws (hp3 : p_pa P (p_fu P - 1) ≤ 3) (h1 : 1 ≤ p_fu P) : ∀ (d j fu : Nat) (T : m_M), j + d = p_pa P (p_fu P - 1) → d < fu → r_C T m P D z → m_ri T m 45 = e_sd y j → (∀ i, i < j → m_ri T (m + 28) i = e_nm y i) →
    ∃ T', b_X12_ends_7 m fu T (nI j) = (m_cal0 (f_X12_loads m (m + 28) 3 T') fun S5 => b_X12_ends_48 m m_fu S5) ∧ (∀ i, i < p_pa P (p_fu P - 1) → m_ri T' (m + 28) i = e_nm y i) ∧ r_O3 m T T' := by
  intro d
  induction d with
  | zero =>
    intro j fu T hj hf C h45 hi
    obtain ⟨fu, rfl⟩ : ∃ f, fu = f + 1 := ⟨fu - 1, by omega⟩
    obtain rfl : j = p_pa P (p_fu P - 1) := by omega
    have h5 := C.1.1
    have r0 := C.2.1.1
    have rp := (C.2.1.2.2.1 (p_fu P - 1) (by omega)).1
    refine ⟨T, ?_, hi, r_O3.rf⟩
    simp (disch := omega) only [e_let, e_call, e_cal0, e_bind, e_lit, e_ofN, e_neg, nI_add, pk_mul, e_sub, e_ldi, e_sti, e_ldj, e_stj, e_le_t, e_le_f, e_lt_t, e_lt_f, e_eq_t, e_eq_f, e_no_eq, e_no_eq', e_no_rfl, e_no_lt, e_no_le, e_le_no, e_lt_no, if_true, if_false, ↓reduceIte, e_rs, e_rq, e_rn, e_ji, e_ki, e_ij, e_kj, e_js, e_jq, e_jn, e_cs, e_cq, e_jc, e_kc, e_js', e_jcq, e_icj, e_kcj, or_true, true_or, or_false, false_or, and_true, true_and, not_true_eq_false, not_false_eq_true, b_X12_ends_7, f_X12_mainFun, r0, rp]
  | succ d ih =>
    intro j fu T hj hf C h45 hi
    obtain ⟨fu, rfl⟩ : ∃ f, fu = f + 1 := ⟨fu - 1, by omega⟩
    have h5 := C.1.1
    have r0 := C.2.1.1
    have rp := (C.2.1.2.2.1 (p_fu P - 1) (by omega)).1
    have hO : r_O3 m T (m_si (m_si T m 45 (e_sd y (j + 1))) (m + 28) j (e_nm y j)) := (r_O3.rf.sed).drn
    obtain ⟨T', a1, a2, a3⟩ := ih (j + 1) fu (m_si (m_si T m 45 (e_sd y (j + 1))) (m + 28) j (e_nm y j)) (by omega) (by omega) (C.kep3 hO) (by rw [e_rq (by omega), e_rs]) (fun i hi' => by
      by_cases e : i = j
      · rw [e, e_rs]
      · rw [e_rn e, e_rq (by omega)]; exact hi i (by omega))
    refine ⟨T', ?_, a2, hO.tr a3⟩
    have ed : f_X12_draw m T (10 : Int32) = some (e_nm y j, m_si T m 45 (e_sd y (j + 1))) := by
      rw [f_X12_draw, e_let, if_neg (by decide), e_rs, h45]
      rfl
    rw [← a1, b_X12_ends_7, f_X12_mainFun, show (0 : Int32) = nI 0 from rfl, e_ldi (by omega) (by omega), e_bind, r0, show (1 : Int32) = nI 1 from rfl, e_sub (by omega), e_call, show (3 : Int32) = nI 3 from rfl, nI_add, e_ldi (by omega) (by omega), e_bind, rp, if_neg (by rw [e_le (by omega) (by omega)]; omega), ed, e_call, e_sti (by omega) (by omega), e_bind, e_let, nI_add]
theorem j_one (hG : d_G P D) (C : r_C T m P D z) (h1 : 1 ≤ p_fu P) : ∃ T', f_X12_ends m T y = some (nI (if q_en P D y = true then 1 else 0), T') ∧ r_O3 m T T' := by
  have hfu := m_fu_ge
  have hW := C.1
  have hSd := C.2.2.2
  have hp3 := (hW.2.2.1 (p_fu P - 1) (by omega)).1
  have hO1 : r_O3 m T (m_si T m 45 y) := r_O3.rf.sed
  obtain ⟨T1, a1, a2, a3⟩ := j_draws (y := y) hp3 h1 (p_pa P (p_fu P - 1)) 0 m_fu (m_si T m 45 y) (by omega) (by omega) (C.kep3 hO1) (by rw [e_rs]; rfl) (fun i hi => by omega)
  have hO2 := hO1.tr a3
  obtain ⟨T2, b1, b2, b3, _⟩ := j_loads (o := m + 28) (n := 3) (num := e_nm y) (C.kep3 hO2) h1 hp3 (by omega) a2
  have hz := i_ld (num := e_nm y) hW hSd h1
  obtain ⟨T3, c1, c2⟩ := j_endl hSd hG 5001 m_fu T2 _ (by omega) (Or.inl hz) (fun _ => by omega) ((C.kep3 hO2).kept b3) b2
  refine ⟨T3, ?_, (hO2.tr b3.to3).tr c2.to3⟩
  rw [f_X12_ends, e_let]
  refine (show _ = _ from a1).trans ?_
  rw [b1, e_cal0, c1, q_en]
  by_cases e : q_sc (q_run P D 5001 (q_ld P D (e_nm y))) 0 = 2
  · rw [if_pos e, if_pos (decide_eq_true e)]
  · rw [if_neg e, if_neg (by rw [decide_eq_true_eq]; exact e)]
theorem k_odds {n : Nat} (hn : n ≤ 20) (hG : d_G P D) (h1 : 1 ≤ p_fu P) : ∀ (d k fu : Nat) (S : m_M), k + d = n → d < fu → q_P S (x + 84) (x + 48) P D →
    ∃ S', b_X11_odds_31 x fu S (nI n) y (nI (fb_ct (fun k => q_en P D (y + nI k)) k)) (nI k) = some (nI (fb_ct (fun k => q_en P D (y + nI k)) n), S') ∧ e_O (x + 84) (x + 93) S S' := by
  intro d
  induction d with
  | zero =>
    intro k fu S hk hf C
    obtain ⟨fu, rfl⟩ : ∃ f, fu = f + 1 := ⟨fu - 1, by omega⟩
    obtain rfl : k = n := by omega
    refine ⟨S, ?_, e_O.rf⟩
    rw [b_X11_odds_31, if_pos (nI_le (Nat.le_refl _) (by omega))]
  | succ d ih =>
    intro k fu S hk hf C
    obtain ⟨fu, rfl⟩ : ∃ f, fu = f + 1 := ⟨fu - 1, by omega⟩
    obtain ⟨S1, a1, a2⟩ := k_one (y := y + nI k) hG C h1
    obtain ⟨S2, b1, b2⟩ := ih (k + 1) fu S1 (by omega) (by omega) (C.kept a2)
    refine ⟨S2, ?_, a2.tr b2⟩
    rw [b_X11_odds_31, if_neg (by rw [e_le (by omega) (by omega)]; omega), a1, e_call]
    by_cases e : q_en P D (y + nI k) = true
    · rw [e_ct (p := fun k => q_en P D (y + nI k)) e] at b1
      rw [if_pos e, if_neg (by decide), e_let, b_X11_odds_51, e_let, show (1 : Int32) = nI 1 from rfl, nI_add, nI_add, b1]
    · rw [e_cf (p := fun k => q_en P D (y + nI k)) (Bool.eq_false_iff.mpr e)] at b1
      rw [if_neg e, if_pos (show nI 0 = (0 : Int32) from rfl), b_X11_odds_51, e_let, show (1 : Int32) = nI 1 from rfl, nI_add, b1]
theorem j_odds {n : Nat} (hn : n ≤ 20) (hG : d_G P D) (h1 : 1 ≤ p_fu P) : ∀ (d k fu : Nat) (T : m_M), k + d = n → d < fu → r_C T m P D z →
    ∃ T', b_X12_odds_40 m fu T (nI n) y (nI (fb_ct (fun k => q_en P D (y + nI k)) k)) (nI k) = (m_cal0 (f_X12_comeBack m (m + 6) 2195 T' (0 : Int32)) fun S2 => some (nI (fb_ct (fun k => q_en P D (y + nI k)) n), S2)) ∧ r_O3 m T T' := by
  intro d
  induction d with
  | zero =>
    intro k fu T hk hf C
    obtain ⟨fu, rfl⟩ : ∃ f, fu = f + 1 := ⟨fu - 1, by omega⟩
    obtain rfl : k = n := by omega
    refine ⟨T, ?_, r_O3.rf⟩
    rw [b_X12_odds_40, if_pos (nI_le (Nat.le_refl _) (by omega))]
  | succ d ih =>
    intro k fu T hk hf C
    obtain ⟨fu, rfl⟩ : ∃ f, fu = f + 1 := ⟨fu - 1, by omega⟩
    obtain ⟨S1, a1, a2⟩ := j_one (y := y + nI k) hG C h1
    obtain ⟨S2, b1, b2⟩ := ih (k + 1) fu S1 (by omega) (by omega) (C.kep3 a2)
    refine ⟨S2, ?_, a2.tr b2⟩
    rw [b_X12_odds_40, if_neg (by rw [e_le (by omega) (by omega)]; omega), a1, e_call]
    by_cases e : q_en P D (y + nI k) = true
    · rw [e_ct (p := fun k => q_en P D (y + nI k)) e] at b1
      rw [if_pos e, if_neg (by decide), e_let, b_X12_odds_60, e_let, show (1 : Int32) = nI 1 from rfl, nI_add, nI_add, b1]
    · rw [e_cf (p := fun k => q_en P D (y + nI k)) (Bool.eq_false_iff.mpr e)] at b1
      rw [if_neg e, if_pos (show nI 0 = (0 : Int32) from rfl), b_X12_odds_60, e_let, show (1 : Int32) = nI 1 from rfl, nI_add, b1]
/-- a number from 1 to n -/
theorem e_from1 (i : Int32) (n : Nat) (hn : n < 2147483647) : (∃ k, 1 ≤ k ∧ k ≤ n ∧ i = nI k) ∨ i < (1 : Int32) ∨ (¬ i < (1 : Int32) ∧ nI n < i) := by
  by_cases h : i < (1 : Int32)
  · exact Or.inr (Or.inl h)
  · by_cases h2 : nI n < i
    · exact Or.inr (Or.inr ⟨h, h2⟩)
    · have h1 : ¬ i < nI 1 := h
      rw [Int32.lt_iff_toInt_lt, nI_toInt (by omega)] at h1
      rw [Int32.lt_iff_toInt_lt, nI_toInt (by omega)] at h2
      refine Or.inl ⟨i.toInt.toNat, by omega, by omega, ?_⟩
      apply Int32.toInt_inj.mp
      rw [nI_toInt (by omega)]
      omega
theorem j_isIn1_t {k n : Nat} (h1 : 1 ≤ k) (h2 : k ≤ n) (hn : n < 2147483647) : f_X12_isIn T (nI k) (1 : Int32) (nI n) = some (nI 1, T) := by
  simp (disch := omega) only [e_let, e_call, e_cal0, e_bind, e_lit, e_ofN, e_neg, nI_add, pk_mul, e_sub, e_ldi, e_sti, e_ldj, e_stj, e_le_t, e_le_f, e_lt_t, e_lt_f, e_eq_t, e_eq_f, e_no_eq, e_no_eq', e_no_rfl, e_no_lt, e_no_le, e_le_no, e_lt_no, if_true, if_false, ↓reduceIte, e_rs, e_rq, e_rn, e_ji, e_ki, e_ij, e_kj, e_js, e_jq, e_jn, e_cs, e_cq, e_jc, e_kc, e_js', e_jcq, e_icj, e_kcj, or_true, true_or, or_false, false_or, and_true, true_and, not_true_eq_false, not_false_eq_true, f_X12_isIn, b_X12_isIn_15]
theorem j_isIn1_f {n : Nat} (h : i < (1 : Int32) ∨ (¬ i < (1 : Int32) ∧ nI n < i)) : f_X12_isIn T i (1 : Int32) (nI n) = some (nI 0, T) := by
  rcases h with h | ⟨h1, h2⟩
  · rw [f_X12_isIn, if_pos h]; rfl
  · rw [f_X12_isIn, if_neg h1, if_pos h2]; rfl
theorem s_odds (hV : s_V s) (hC : s_C S x s) (hR : s_R T m s) : s_OK S T x m (f_X11_odds x S i j) (f_X12_odds m T i j) := by
  have hfu := m_fu_ge
  have hW := hV.2.2.2.1.1
  have hR' := s_th (v := nI 0) hR
  have h5 := hW.1
  have p0 : m_ri S (x + 48) 0 = nI (p_fu (w_p (s_w s))) := hC.2.2.1.1.1.1
  have r0 : m_ri (m_si T m 0 (nI 0)) (m + 2) 0 = nI (p_fu (w_p (s_w s))) := hR'.2.2.1.1.1.1
  have et : m_si T m 0 (0 : Int32) = m_si T m 0 (nI 0) := rfl
  rcases e_from1 i 20 (by omega) with ⟨n, h1, h2, rfl⟩ | h
  · have gj := j_isIn1_t (T := m_si T m 0 (nI 0)) h1 h2 (by omega)
    have n1 : ¬ nI n < (1 : Int32) := by rw [show (1 : Int32) = nI 1 from rfl, e_lt (by omega) (by omega)]; omega
    have n20 : ¬ (20 : Int32) < nI n := by rw [show (20 : Int32) = nI 20 from rfl, e_lt (by omega) (by omega)]; omega
    by_cases e : p_fu (w_p (s_w s)) = 0
    · rw [e] at p0 r0
      refine s_OK.ask0 (v := m_no) hV hC hR ?_ ?_
      · rw [f_X11_odds, if_neg n1, if_neg n20, p0, if_pos (show nI 0 = (0 : Int32) from rfl)]; rfl
      · rw [f_X12_odds, e_let, et, show (0 : Int32) = nI 0 from rfl, e_ldi (by omega) (by omega), e_bind, r0, if_pos rfl]; rfl
    · have hG := d_G_of hW
      obtain ⟨S1, a1, a2⟩ := k_odds (y := j) h2 hG (by omega) n 0 m_fu S (by omega) (by omega) (s_qP2 hV hC)
      obtain ⟨T2, c1, c2, c3, c4⟩ := j_save (m := m) (o := m + 6) (n1 := 2195) (b := 0) (by omega) (by omega) (by omega) (m_si T m 0 (nI 0))
      have hR2 : s_R T2 m s := hR'.kept ⟨fun j hj => by rw [c4.1 m (by omega)], fun q hq => c4.1 q (by omega), fun q hq => by rw [c4.2.1]⟩
      obtain ⟨T3, d1, d2⟩ := j_odds (y := j) h2 hG (by omega) n 0 m_fu T2 (by omega) (by omega) (s_rC hV hR2)
      obtain ⟨T6, j1, j2, j3, j4⟩ := j_back (m := m) (o := m + 6) (n1 := 2195) (b := 0) (by omega) (by omega) (by omega) T3
      have kT : ∀ q, q ≠ m → q ≠ m + 2 → q ≠ m + 6 → q ≠ m + 23 → q ≠ m + 24 → q ≠ m + 25 → q ≠ m + 26 → q ≠ m + 28 → m_ri T6 q = m_ri T q := fun q h0 h1 h2 h3 h4 h5 h6 h8 => by
        rw [j4.1 q (by omega), d2.1 q h0 h1 h3 h4 h5 h6 h8, c4.1 q (by omega), e_rq h0]
      have kTx : ∀ j, j ≠ 0 → j ≠ 41 → j ≠ 45 → m_ri T6 m j = m_ri T m j := fun j h1 h2 h3 => by
        rw [j4.1 m (by omega), d2.2.1 j h2 h3, c4.1 m (by omega), e_rn h1]
      have kT2 : m_ri T6 (m + 2) = m_ri T (m + 2) := by
        funext t
        by_cases ht : t < 210 ∨ 2405 ≤ t
        · rw [j3 t ht, d2.2.2.1 t ht, c4.1 _ (by omega), e_rq (by omega)]
        · obtain ⟨k, rfl⟩ : ∃ k, t = 210 + k := ⟨t - 210, by omega⟩
          rw [j2 k (by omega), d2.1 _ (by omega) (by omega) (by omega) (by omega) (by omega) (by omega) (by omega), c2 k (by omega), e_rq (by omega)]
      have kTj : m_rj T6 = m_rj T := by rw [j4.2.1, d2.2.2.2.1, c4.2.1]; rfl
      have kTr : m_rr T6 = m_rr T := by rw [j4.2.2, d2.2.2.2.2, c4.2.2]; rfl
      refine s_OK.ask hV hC hR (v := nI (fb_ct (fun k => q_en (w_p (s_w s)) (d_of (w_p (s_w s))) (j + nI k)) n)) (S' := S1) (T' := T6) ?_ ?_ ?_ ?_ (x_O.of a2 (by omega)) ?_
      · rw [f_X11_odds, if_neg n1, if_neg n20, p0, if_neg (show ¬ nI (p_fu (w_p (s_w s))) = (0 : Int32) from fun q => (e_eq_f (a := p_fu (w_p (s_w s))) (b := 0) e (by omega) (by omega)).mp q)]
        exact a1
      · rw [f_X12_odds, e_let, et, show (0 : Int32) = nI 0 from rfl, e_ldi (by omega) (by omega), e_bind, r0, if_neg (show ¬ nI (p_fu (w_p (s_w s))) = nI 0 from fun q => (e_eq_f (a := p_fu (w_p (s_w s))) (b := 0) e (by omega) (by omega)).mp q), show (20 : Int32) = nI 20 from rfl, gj, e_call, if_neg (by decide), c1, e_cal0]
        refine (show _ = _ from d1).trans ?_
        rw [show (0 : Int32) = nI 0 from rfl, j1]; rfl
      · exact ⟨fun q hq => a2.1 q (by omega), fun q _ => by rw [a2.2.1], by rw [a2.2.1], a2.2.2⟩
      · refine ⟨fun j hj => kTx j (by omega) (by omega) (by omega), fun q hq => ?_, fun q _ => by rw [kTj]⟩
        by_cases e : q = m + 2
        · rw [e]; exact kT2
        · exact kT q (by omega) e (by omega) (by omega) (by omega) (by omega) (by omega) (by omega)
      · exact ⟨fun q hq => ⟨kT q (by omega) (by omega) (by omega) (by omega) (by omega) (by omega) (by omega) (by omega), by rw [kTj]⟩, kTr⟩
  · refine s_OK.ask0 (v := m_no) hV hC hR ?_ ?_
    · rcases h with h | ⟨h1, h2⟩
      · rw [f_X11_odds, if_pos h]; rfl
      · rw [f_X11_odds, if_neg h1, if_pos (show (20 : Int32) < i from h2)]; rfl
    · rw [f_X12_odds, e_let, et, show (0 : Int32) = nI 0 from rfl, e_ldi (by omega) (by omega), e_bind, r0, show (20 : Int32) = nI 20 from rfl, j_isIn1_f h]
      by_cases e : p_fu (w_p (s_w s)) = 0
      · rw [e, if_pos rfl]; rfl
      · rw [if_neg (show ¬ nI (p_fu (w_p (s_w s))) = nI 0 from fun q => (e_eq_f (a := p_fu (w_p (s_w s))) (b := 0) e (by omega) (by omega)).mp q)]; rfl
end OD
