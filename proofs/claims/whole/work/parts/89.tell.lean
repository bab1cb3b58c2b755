/-! numbers are given and told: both sides -/
noncomputable def u_ro (U : u2) (G : u_GT) (r : Nat) : Nat := Classical.epsilon (fun n => n < 183 ∧ U.1 n = n ∧ G.1 n = r + 1)
noncomputable def u_sx (U : u2) (G : u_GT) (r s : Nat) : Nat := G.1 (u_sd (U.2 (u_ro U G r) - 1) s)
section UJ
variable {S T : m_M} {a m p mk : Nat} {P : pP} {U W : u2} {o : Nat → Nat} {G : u_GT} {f i : Nat}
theorem u_sx_n (hV : u_V mk o U) (hN : u_NV mk o U G) {n r s : Nat} (hn : n < 183) (hg : G.1 n = r + 1) : u_sx U G r s = G.1 (u_sd (U.2 (U.1 n) - 1) s) := by
  obtain ⟨t1, t2⟩ := hV.1 n hn
  have hex : ∃ n, n < 183 ∧ U.1 n = n ∧ G.1 n = r + 1 := ⟨U.1 n, t1, t2, by rw [hN.1 _ n t1 hn t2]; exact hg⟩
  have e : u_ro U G r = U.1 n := by
    have hs := Classical.epsilon_spec hex
    rw [u_ro]
    have := hN.2.2.2.2 _ n hs.1 hn (by rw [hs.2.2]; omega) (by rw [hs.2.2, hg])
    rw [hs.2.1] at this; exact this
  rw [u_sx, e]
theorem u_sx_k (hV : u_V mk o U) (hc : ∀ k, k < mk → u_cl o U k) (hN : u_NV mk o U G) {k r s : Nat} (hk : k < mk) (hs : s < 2) (hg : G.1 (o k) = r + 1) : u_sx U G r s = G.1 (u_sd k s) := by
  have ho := hV.2.2.1 k hk
  have m24 := hV.2.1
  have hq := hV.2.2.2.1 _ (hV.1 (o k) (by omega)).1
  have h0 := hV.2.2.2.2.2 k hk
  rw [u_sx_n hV hN (by omega) hg]
  exact (hN.1 _ _ (u_sd_lt (by omega) hs) (u_sd_lt (by omega) hs) (hc k hk s hs)).symm
/-! the one side -/
theorem k_numv {K : m_M → Int32 → Option m_M} (hV : u_V mk o U) (hap : p + 22 ≤ a ∨ a + 5 ≤ p) (hW : p_W P) (hf : f < p_fu P) : ∀ (c v fu : Nat) (S : m_M) (G : u_GT), v + c = p_vs P f → c < fu → u_NV mk o U G → u_R1 S a U mk → u_Q1 S a p U G → p_R S p P →
    ∃ S', b_X5_numberAll_20 a p K fu S (nI f) (nI v) = K S' (nI (f + 1)) ∧ u_Q1 S' a p U (u_nv 30 U f c v G) ∧ u_NV mk o U (u_nv 30 U f c v G) ∧ u_O1 a p S S' := by
  have h5 := hW.1
  have h24 := hW.2.1
  have hl := hW.2.2.1 f hf
  intro c
  induction c with
  | zero =>
    intro v fu S G hv hfu hN hR hQ hP
    obtain ⟨fu, rfl⟩ : ∃ f, fu = f + 1 := ⟨fu - 1, by omega⟩
    have p2 := hP.2.2.1 f hf
    have p4 := hP.2.2.2.2.1 f hf
    refine ⟨S, ?_, hQ, hN, u_O1.rf⟩
    simp only [p_vs] at hv
    simp (disch := omega) only [e_let, e_call, e_cal0, e_bind, e_lit, e_ofN, e_neg, nI_add, pk_mul, e_sub, e_ldi, e_sti, e_ldj, e_stj, e_le_t, e_le_f, e_lt_t, e_lt_f, e_eq_t, e_eq_f, e_no_eq, e_no_eq', e_no_rfl, e_no_lt, e_no_le, e_le_no, e_lt_no, if_true, if_false, ↓reduceIte, e_rs, e_rq, e_rn, e_ji, e_ki, e_ij, e_kj, e_js, e_jq, e_jn, e_cs, e_cq, e_jc, e_kc, e_js', e_jcq, e_icj, e_kcj, or_true, true_or, or_false, false_or, and_true, true_and, not_true_eq_false, not_false_eq_true, b_X5_numberAll_20, f_X3_varCount, p2, p4]
  | succ c ih =>
    intro v fu S G hv hfu hN hR hQ hP
    obtain ⟨fu, rfl⟩ : ∃ f, fu = f + 1 := ⟨fu - 1, by omega⟩
    have p2 := hP.2.2.1 f hf
    have p4 := hP.2.2.2.2.1 f hf
    have hv' := hv
    simp only [p_vs] at hv'
    have hn : u_nd f v < 183 := by simp only [u_nd]; omega
    obtain ⟨S1, f1, f2, f3⟩ := k_num hV hap 30 (u_nd f v) 0 S G (by omega) (by omega) hn hN hR hQ
    obtain ⟨a1, a2, a3, a4⟩ := u_nr_ok hV 30 (u_nd f v) G (by omega) hn hN
    obtain ⟨S', g1, g2, g3, g4⟩ := ih (v + 1) fu S1 _ (by omega) (by omega) a1 (hR.kep hap f3) f2 (hP.kep1 hap f3)
    refine ⟨S', ?_, g2, g3, f3.tr g4⟩
    rw [← g1]
    simp (disch := omega) only [e_let, e_call, e_cal0, e_bind, e_lit, e_ofN, e_neg, nI_add, pk_mul, e_sub, e_ldi, e_sti, e_ldj, e_stj, e_le_t, e_le_f, e_lt_t, e_lt_f, e_eq_t, e_eq_f, e_no_eq, e_no_eq', e_no_rfl, e_no_lt, e_no_le, e_le_no, e_lt_no, if_true, if_false, ↓reduceIte, e_rs, e_rq, e_rn, e_ji, e_ki, e_ij, e_kj, e_js, e_jq, e_jn, e_cs, e_cq, e_jc, e_kc, e_js', e_jcq, e_icj, e_kcj, or_true, true_or, or_false, false_or, and_true, true_and, not_true_eq_false, not_false_eq_true, b_X5_numberAll_20, f_X3_varCount, p2, p4, f_X5_nodeOf, e_nd, f1]
theorem k_numf (hV : u_V mk o U) (hap : p + 22 ≤ a ∨ a + 5 ≤ p) (hW : p_W P) : ∀ (c f fu : Nat) (S : m_M) (G : u_GT), f + c = p_fu P → c < fu → u_NV mk o U G → u_R1 S a U mk → u_Q1 S a p U G → p_R S p P →
    ∃ S', b_X5_numberAll_10 a p fu S (nI f) = some S' ∧ u_Q1 S' a p U (u_na 30 U P c f G) ∧ u_NV mk o U (u_na 30 U P c f G) ∧ u_O1 a p S S' := by
  have hfu := m_fu_ge
  have h5 := hW.1
  have h24 := hW.2.1
  intro c
  induction c with
  | zero =>
    intro f fu S G hf hfu' hN hR hQ hP
    obtain ⟨fu, rfl⟩ : ∃ f, fu = f + 1 := ⟨fu - 1, by omega⟩
    have hf : f = p_fu P := hf
    have p0 := hP.1
    refine ⟨S, ?_, hQ, hN, u_O1.rf⟩
    simp (disch := omega) only [e_let, e_call, e_cal0, e_bind, e_lit, e_ofN, e_neg, nI_add, pk_mul, e_sub, e_ldi, e_sti, e_ldj, e_stj, e_le_t, e_le_f, e_lt_t, e_lt_f, e_eq_t, e_eq_f, e_no_eq, e_no_eq', e_no_rfl, e_no_lt, e_no_le, e_le_no, e_lt_no, if_true, if_false, ↓reduceIte, e_rs, e_rq, e_rn, e_ji, e_ki, e_ij, e_kj, e_js, e_jq, e_jn, e_cs, e_cq, e_jc, e_kc, e_js', e_jcq, e_icj, e_kcj, or_true, true_or, or_false, false_or, and_true, true_and, not_true_eq_false, not_false_eq_true, b_X5_numberAll_10, p0, hf]
  | succ c ih =>
    intro f fu S G hf hfu' hN hR hQ hP
    obtain ⟨fu, rfl⟩ : ∃ f, fu = f + 1 := ⟨fu - 1, by omega⟩
    have p0 := hP.1
    have hl := hW.2.2.1 f (by omega)
    obtain ⟨S1, f1, f2, f3, f4⟩ := k_numv (K := b_X5_numberAll_10 a p fu) hV hap hW (show f < p_fu P by omega) (p_vs P f) 0 m_fu S G (by omega) (by simp only [p_vs]; omega) hN hR hQ hP
    obtain ⟨S', g1, g2, g3, g4⟩ := ih (f + 1) fu S1 _ (by omega) (by omega) f3 (hR.kep hap f4) f2 (hP.kep1 hap f4)
    refine ⟨S', ?_, g2, g3, f4.tr g4⟩
    rw [← g1, ← f1, b_X5_numberAll_10, p0, if_neg (by rw [e_le_f (by omega) (by omega)]; exact fun h => h)]
    rfl
/-- what is told -/
def u_P1 (S : m_M) (p : Nat) (P : pP) (G : u_GT) (f v : Nat) : Prop := ∀ g w, g < p_fu P → w < p_vs P g → g < f ∨ (g = f ∧ w < v) → m_ri S (p + 9) (g * 27 + w) = nO (G.1 (u_nd g w))
theorem k_tellv {K : m_M → Int32 → Option m_M} (hV : u_V mk o U) (hN : u_NV mk o U G) (hap : p + 22 ≤ a ∨ a + 5 ≤ p) (hW : p_W P) (hf : f < p_fu P) : ∀ (c v fu : Nat) (S : m_M), v + c = p_vs P f → c < fu → u_R1 S a U mk → u_Q1 S a p U G → p_R S p P → u_P1 S p P G f v →
    ∃ S', b_X5_tellAll_12 a p K fu S (nI f) (nI v) = K S' (nI (f + 1)) ∧ u_P1 S' p P G (f + 1) 0 ∧ e_O (p + 9) (p + 10) S S' := by
  have h5 := hW.1
  have h24 := hW.2.1
  have hl := hW.2.2.1 f hf
  intro c
  induction c with
  | zero =>
    intro v fu S hv hfu hR hQ hP hT
    obtain ⟨fu, rfl⟩ : ∃ f, fu = f + 1 := ⟨fu - 1, by omega⟩
    have p2 := hP.2.2.1 f hf
    have p4 := hP.2.2.2.2.1 f hf
    refine ⟨S, ?_, fun g w hg hw h => hT g w hg hw ?_, e_O.rf⟩
    · simp only [p_vs] at hv
      simp (disch := omega) only [e_let, e_call, e_cal0, e_bind, e_lit, e_ofN, e_neg, nI_add, pk_mul, e_sub, e_ldi, e_sti, e_ldj, e_stj, e_le_t, e_le_f, e_lt_t, e_lt_f, e_eq_t, e_eq_f, e_no_eq, e_no_eq', e_no_rfl, e_no_lt, e_no_le, e_le_no, e_lt_no, if_true, if_false, ↓reduceIte, e_rs, e_rq, e_rn, e_ji, e_ki, e_ij, e_kj, e_js, e_jq, e_jn, e_cs, e_cq, e_jc, e_kc, e_js', e_jcq, e_icj, e_kcj, or_true, true_or, or_false, false_or, and_true, true_and, not_true_eq_false, not_false_eq_true, b_X5_tellAll_12, f_X3_varCount, p2, p4]
    · by_cases hgf : g = f
      · rw [hgf] at hw; omega
      · omega
  | succ c ih =>
    intro v fu S hv hfu hR hQ hP hT
    obtain ⟨fu, rfl⟩ : ∃ f, fu = f + 1 := ⟨fu - 1, by omega⟩
    have p2 := hP.2.2.1 f hf
    have p4 := hP.2.2.2.2.1 f hf
    have hv' := hv
    simp only [p_vs] at hv'
    have hn : u_nd f v < 135 := by simp only [u_nd]; omega
    have ri := k_rootOf hR.1 (n := u_nd f v) (by omega)
    obtain ⟨t1, t2⟩ := hV.1 (u_nd f v) (by omega)
    have hq4 := hQ.1 _ t1
    rw [if_pos t2, hN.1 _ _ t1 (by omega) t2] at hq4
    have hO : e_O (p + 9) (p + 10) S (m_si S (p + 9) (u_nd f v) (nO (G.1 (u_nd f v)))) := e_O.rf.si (by omega) (by omega)
    have kp : ∀ q, q ≠ p + 9 → m_ri (m_si S (p + 9) (u_nd f v) (nO (G.1 (u_nd f v)))) q = m_ri S q := fun q hq => e_rq hq
    have hR1 : u_R1 (m_si S (p + 9) (u_nd f v) (nO (G.1 (u_nd f v)))) a U mk := by
      simp only [u_R1, kp a (by omega), kp (a + 1) (by omega), kp (a + 2) (by omega), kp (a + 3) (by omega)]; exact hR
    have hQ1 : u_Q1 (m_si S (p + 9) (u_nd f v) (nO (G.1 (u_nd f v)))) a p U G := by
      simp only [u_Q1, kp (a + 4) (by omega), kp (p + 8) (by omega)]; exact hQ
    have hP1 : p_R (m_si S (p + 9) (u_nd f v) (nO (G.1 (u_nd f v)))) p P := by
      simp only [p_R, kp p (by omega), kp (p + 2) (by omega), kp (p + 3) (by omega), kp (p + 4) (by omega), kp (p + 5) (by omega), kp (p + 6) (by omega), kp (p + 7) (by omega)]; exact hP
    obtain ⟨S', g1, g2, g3⟩ := ih (v + 1) fu (m_si S (p + 9) (u_nd f v) (nO (G.1 (u_nd f v)))) (by omega) (by omega) hR1 hQ1 hP1 (fun g w hg hw h => by
      have hgl := hW.2.2.1 g hg
      simp only [p_vs] at hw
      rw [e_rif]
      by_cases hh : g = f ∧ w = v
      · rw [if_pos (by rw [hh.1, hh.2, u_nd]; omega), hh.1, hh.2]
      · rw [if_neg (by simp only [u_nd]; omega)]; exact hT g w hg (by simp only [p_vs]; omega) (by omega))
    refine ⟨S', ?_, g2, hO.tr g3⟩
    rw [← g1]
    simp (disch := omega) only [e_let, e_call, e_cal0, e_bind, e_lit, e_ofN, e_neg, nI_add, pk_mul, e_sub, e_ldi, e_sti, e_ldj, e_stj, e_le_t, e_le_f, e_lt_t, e_lt_f, e_eq_t, e_eq_f, e_no_eq, e_no_eq', e_no_rfl, e_no_lt, e_no_le, e_le_no, e_lt_no, if_true, if_false, ↓reduceIte, e_rs, e_rq, e_rn, e_ji, e_ki, e_ij, e_kj, e_js, e_jq, e_jn, e_cs, e_cq, e_jc, e_kc, e_js', e_jcq, e_icj, e_kcj, or_true, true_or, or_false, false_or, and_true, true_and, not_true_eq_false, not_false_eq_true, b_X5_tellAll_12, f_X3_varCount, p2, p4, f_X5_nodeOf, e_nd, ri, hq4]
theorem k_tellf (hV : u_V mk o U) (hN : u_NV mk o U G) (hap : p + 22 ≤ a ∨ a + 5 ≤ p) (hW : p_W P) : ∀ (c f fu : Nat) (S : m_M), f + c = p_fu P → c < fu → u_R1 S a U mk → u_Q1 S a p U G → p_R S p P → u_P1 S p P G f 0 →
    ∃ S', b_X5_tellAll_2 a p fu S (nI f) = b_X5_tellAll_62 a p m_fu S' (nI 0) ∧ u_P1 S' p P G (p_fu P) 0 ∧ e_O (p + 9) (p + 10) S S' := by
  have hfu := m_fu_ge
  have h5 := hW.1
  have h24 := hW.2.1
  intro c
  induction c with
  | zero =>
    intro f fu S hf hfu' hR hQ hP hT
    obtain ⟨fu, rfl⟩ : ∃ f, fu = f + 1 := ⟨fu - 1, by omega⟩
    have hf : f = p_fu P := hf
    have p0 := hP.1
    refine ⟨S, ?_, hf ▸ hT, e_O.rf⟩
    simp (disch := omega) only [e_let, e_call, e_cal0, e_bind, e_lit, e_ofN, e_neg, nI_add, pk_mul, e_sub, e_ldi, e_sti, e_ldj, e_stj, e_le_t, e_le_f, e_lt_t, e_lt_f, e_eq_t, e_eq_f, e_no_eq, e_no_eq', e_no_rfl, e_no_lt, e_no_le, e_le_no, e_lt_no, if_true, if_false, ↓reduceIte, e_rs, e_rq, e_rn, e_ji, e_ki, e_ij, e_kj, e_js, e_jq, e_jn, e_cs, e_cq, e_jc, e_kc, e_js', e_jcq, e_icj, e_kcj, or_true, true_or, or_false, false_or, and_true, true_and, not_true_eq_false, not_false_eq_true, b_X5_tellAll_2, p0, hf]
  | succ c ih =>
    intro f fu S hf hfu' hR hQ hP hT
    obtain ⟨fu, rfl⟩ : ∃ f, fu = f + 1 := ⟨fu - 1, by omega⟩
    have p0 := hP.1
    have hl := hW.2.2.1 f (by omega)
    obtain ⟨S1, f1, f2, f3⟩ := k_tellv (K := b_X5_tellAll_2 a p fu) hV hN hap hW (show f < p_fu P by omega) (p_vs P f) 0 m_fu S (by omega) (by simp only [p_vs]; omega) hR hQ hP hT
    have kp : ∀ q, q ≠ p + 9 → m_ri S1 q = m_ri S q := fun q hq => f3.1 q (by omega)
    have hR1 : u_R1 S1 a U mk := by
      simp only [u_R1, kp a (by omega), kp (a + 1) (by omega), kp (a + 2) (by omega), kp (a + 3) (by omega)]; exact hR
    have hQ1 : u_Q1 S1 a p U G := by
      simp only [u_Q1, kp (a + 4) (by omega), kp (p + 8) (by omega)]; exact hQ
    have hP1 : p_R S1 p P := by
      simp only [p_R, kp p (by omega), kp (p + 2) (by omega), kp (p + 3) (by omega), kp (p + 4) (by omega), kp (p + 5) (by omega), kp (p + 6) (by omega), kp (p + 7) (by omega)]; exact hP
    obtain ⟨S', g1, g2, g3⟩ := ih (f + 1) fu S1 (by omega) (by omega) hR1 hQ1 hP1 f2
    refine ⟨S', ?_, g2, f3.tr g3⟩
    rw [← g1, ← f1, b_X5_tellAll_2, p0, if_neg (by rw [e_le_f (by omega) (by omega)]; exact fun h => h)]
    rfl
theorem k_tells (hV : u_V mk o U) (hN : u_NV mk o U G) (hap : p + 22 ≤ a ∨ a + 5 ≤ p) : ∀ (c n fu : Nat) (S : m_M), n + c = 183 → c < fu → u_R1 S a U mk → u_Q1 S a p U G → (∀ j, j < n → U.1 j = j → G.1 j ≠ 0 → m_ri S (p + 11) (G.1 j - 1) = nO (u_sx U G (G.1 j - 1) 0) ∧ m_ri S (p + 12) (G.1 j - 1) = nO (u_sx U G (G.1 j - 1) 1)) →
    ∃ S', b_X5_tellAll_62 a p fu S (nI n) = some S' ∧ (∀ j, j < 183 → U.1 j = j → G.1 j ≠ 0 → m_ri S' (p + 11) (G.1 j - 1) = nO (u_sx U G (G.1 j - 1) 0) ∧ m_ri S' (p + 12) (G.1 j - 1) = nO (u_sx U G (G.1 j - 1) 1)) ∧ e_O (p + 11) (p + 13) S S' := by
  have m24 := hV.2.1
  have hle := hN.le m24
  intro c
  induction c with
  | zero =>
    intro n fu S hn hf hR hQ hT
    obtain ⟨fu, rfl⟩ : ∃ f, fu = f + 1 := ⟨fu - 1, by omega⟩
    refine ⟨S, ?_, fun j hj => hT j (by omega), e_O.rf⟩
    simp (disch := omega) only [e_let, e_call, e_cal0, e_bind, e_lit, e_ofN, e_neg, nI_add, pk_mul, e_sub, e_ldi, e_sti, e_ldj, e_stj, e_le_t, e_le_f, e_lt_t, e_lt_f, e_eq_t, e_eq_f, e_no_eq, e_no_eq', e_no_rfl, e_no_lt, e_no_le, e_le_no, e_lt_no, if_true, if_false, ↓reduceIte, e_rs, e_rq, e_rn, e_ji, e_ki, e_ij, e_kj, e_js, e_jq, e_jn, e_cs, e_cq, e_jc, e_kc, e_js', e_jcq, e_icj, e_kcj, or_true, true_or, or_false, false_or, and_true, true_and, not_true_eq_false, not_false_eq_true, b_X5_tellAll_62]
  | succ c ih =>
    intro n fu S hn hf hR hQ hT
    obtain ⟨fu, rfl⟩ : ∃ f, fu = f + 1 := ⟨fu - 1, by omega⟩
    have hq4 := hQ.1 n (by omega)
    have hgl := hN.2.2.1 n (by omega)
    by_cases hc : U.1 n = n ∧ G.1 n ≠ 0
    · obtain ⟨c1, c2⟩ := hc
      rw [if_pos c1, nO_pos (by omega)] at hq4
      have hq : U.2 (U.1 n) ≠ 0 := fun q => c2 (hN.2.1 n (by omega) q)
      have hqn : U.2 n ≠ 0 := by rw [c1] at hq; exact hq
      have hk := hV.2.2.2.1 n (by omega)
      obtain ⟨lx, rx⟩ := hR.2.1 n (by omega)
      rw [u_ln_p hqn] at lx rx
      have s0 := u_sd_lt (k := U.2 n - 1) (s := 0) (by omega) (by omega)
      have s1 := u_sd_lt (k := U.2 n - 1) (s := 1) (by omega) (by omega)
      have e0 := u_sx_n hV hN (n := n) (r := G.1 n - 1) (s := 0) (by omega) (by omega)
      have e1 := u_sx_n hV hN (n := n) (r := G.1 n - 1) (s := 1) (by omega) (by omega)
      rw [c1] at e0 e1
      have ri0 := k_rootOf hR.1 s0
      obtain ⟨t1, t2⟩ := hV.1 _ s0
      have w0 := hQ.1 _ t1
      rw [if_pos t2, hN.1 _ _ t1 s0 t2, ← e0] at w0
      have kp : ∀ q, q ≠ p + 11 → m_ri (m_si S (p + 11) (G.1 n - 1) (nO (u_sx U G (G.1 n - 1) 0))) q = m_ri S q := fun q hq => e_rq hq
      have hR1 : u_R1 (m_si S (p + 11) (G.1 n - 1) (nO (u_sx U G (G.1 n - 1) 0))) a U mk := by
        simp only [u_R1, kp a (by omega), kp (a + 1) (by omega), kp (a + 2) (by omega), kp (a + 3) (by omega)]; exact hR
      have hQ1 : u_Q1 (m_si S (p + 11) (G.1 n - 1) (nO (u_sx U G (G.1 n - 1) 0))) a p U G := by
        simp only [u_Q1, kp (a + 4) (by omega), kp (p + 8) (by omega)]; exact hQ
      have ri1 := k_rootOf hR1.1 s1
      obtain ⟨t3, t4⟩ := hV.1 _ s1
      have w1 := hQ1.1 _ t3
      rw [if_pos t4, hN.1 _ _ t3 s1 t4, ← e1] at w1
      have rx1 := (hR1.2.1 n (by omega)).2
      rw [u_ln_p hqn] at rx1
      have kp2 : ∀ q, q ≠ p + 12 → q ≠ p + 11 → m_ri (m_si (m_si S (p + 11) (G.1 n - 1) (nO (u_sx U G (G.1 n - 1) 0))) (p + 12) (G.1 n - 1) (nO (u_sx U G (G.1 n - 1) 1))) q = m_ri S q := fun q h1 h2 => by rw [e_rq h1, e_rq h2]
      have hR2 : u_R1 (m_si (m_si S (p + 11) (G.1 n - 1) (nO (u_sx U G (G.1 n - 1) 0))) (p + 12) (G.1 n - 1) (nO (u_sx U G (G.1 n - 1) 1))) a U mk := by
        simp only [u_R1, kp2 a (by omega) (by omega), kp2 (a + 1) (by omega) (by omega), kp2 (a + 2) (by omega) (by omega), kp2 (a + 3) (by omega) (by omega)]; exact hR
      have hQ2 : u_Q1 (m_si (m_si S (p + 11) (G.1 n - 1) (nO (u_sx U G (G.1 n - 1) 0))) (p + 12) (G.1 n - 1) (nO (u_sx U G (G.1 n - 1) 1))) a p U G := by
        simp only [u_Q1, kp2 (a + 4) (by omega) (by omega), kp2 (p + 8) (by omega) (by omega)]; exact hQ
      obtain ⟨S', g1, g2, g3⟩ := ih (n + 1) fu _ (by omega) (by omega) hR2 hQ2 (fun j hj hr hg => by
        rw [e_rq (by omega), e_rif, e_rif, e_rq (by omega)]
        by_cases hjn : j = n
        · rw [hjn, if_pos rfl, if_pos rfl]; exact ⟨rfl, rfl⟩
        · have hne : G.1 j - 1 ≠ G.1 n - 1 := fun q => hjn (by
            have := hN.2.2.2.2 j n (by omega) (by omega) hg (by omega)
            rw [hr, c1] at this; exact this)
          rw [if_neg hne, if_neg hne]; exact hT j (by omega) hr hg)
      refine ⟨S', ?_, g2, ((e_O.rf.si (by omega) (by omega)).si (by omega) (by omega)).tr g3⟩
      rw [← g1]
      simp (disch := omega) only [e_let, e_call, e_cal0, e_bind, e_lit, e_ofN, e_neg, nI_add, pk_mul, e_sub, e_ldi, e_sti, e_ldj, e_stj, e_le_t, e_le_f, e_lt_t, e_lt_f, e_eq_t, e_eq_f, e_no_eq, e_no_eq', e_no_rfl, e_no_lt, e_no_le, e_le_no, e_lt_no, if_true, if_false, ↓reduceIte, e_rs, e_rq, e_rn, e_ji, e_ki, e_ij, e_kj, e_js, e_jq, e_jn, e_cs, e_cq, e_jc, e_kc, e_js', e_jcq, e_icj, e_kcj, or_true, true_or, or_false, false_or, and_true, true_and, not_true_eq_false, not_false_eq_true, b_X5_tellAll_62, hq4, lx, ri0, w0, rx1, ri1, w1, b_X5_tellAll_129]
    · have hz : m_ri S (a + 4) n = m_no := by
        rw [hq4]
        by_cases hr : U.1 n = n
        · rw [if_pos hr, Classical.byContradiction (fun q => hc ⟨hr, q⟩ : ¬ G.1 n = 0 → False)]; rfl
        · rw [if_neg hr]; rfl
      obtain ⟨S', g1, g2, g3⟩ := ih (n + 1) fu S (by omega) (by omega) hR hQ (fun j hj hr hg => by
        by_cases hjn : j = n
        · rw [hjn] at hr hg; exact absurd ⟨hr, hg⟩ hc
        · exact hT j (by omega) hr hg)
      refine ⟨S', ?_, g2, g3⟩
      rw [← g1]
      simp (disch := omega) only [e_let, e_call, e_cal0, e_bind, e_lit, e_ofN, e_neg, nI_add, pk_mul, e_sub, e_ldi, e_sti, e_ldj, e_stj, e_le_t, e_le_f, e_lt_t, e_lt_f, e_eq_t, e_eq_f, e_no_eq, e_no_eq', e_no_rfl, e_no_lt, e_no_le, e_le_no, e_lt_no, if_true, if_false, ↓reduceIte, e_rs, e_rq, e_rn, e_ji, e_ki, e_ij, e_kj, e_js, e_jq, e_jn, e_cs, e_cq, e_jc, e_kc, e_js', e_jcq, e_icj, e_kcj, or_true, true_or, or_false, false_or, and_true, true_and, not_true_eq_false, not_false_eq_true, b_X5_tellAll_62, hz, b_X5_tellAll_129]
end UJ
