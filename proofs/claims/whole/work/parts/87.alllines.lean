/-! all lines join: both sides -/
def u_fl (d : Nat) (sw : Bool) (P : pP) (f : Nat) : Nat → Nat → u3 → u3
  | 0, _, X => X
  | c + 1, i, X => u_fl d sw P f c (i + 1) (u_li d sw P f i X)
def u_al (d : Nat) (sw : Bool) (P : pP) : Nat → Nat → u3 → u3
  | 0, _, X => X
  | c + 1, f, X => u_al d sw P c (f + 1) (u_fl d sw P f (p_ct P f) 0 X)
def u_0 : u3 := ((fun n => n, fun _ => 0), 0)
def u_E (d : Nat) (sw : Bool) (P : pP) : u3 := u_al d sw P (p_fu P) 0 u_0
section UH
variable {S T : m_M} {a m p : Nat} {P : pP} {X Y : u3} {o : Nat → Nat} {f i : Nat}
theorem u_fl_ok {d e : Nat} {sw sw' : Bool} (hd : 24 < d) (he : 24 < e) (hW : p_W P) (hf : f < p_fu P) : ∀ (c i : Nat) (X Y : u3) (o : Nat → Nat), i + c = p_ct P f → u_S3 o X Y → X.2 ≤ p_fi P f + i →
    ∃ o', u_S3 o' (u_fl d sw P f c i X) (u_fl e sw' P f c i Y) ∧ u_Gr X o (u_fl d sw P f c i X) o' ∧ (u_fl d sw P f c i X).2 ≤ p_fi P f + p_ct P f ∧ ∀ j, i ≤ j → j < p_ct P f → u_LC P f j (u_fl d sw P f c i X) o' := by
  intro c
  induction c with
  | zero => intro i X Y o hi hS hm; exact ⟨o, hS, u_Gr.rf, by show X.2 ≤ _; omega, fun j h1 h2 => by omega⟩
  | succ c ih =>
    intro i X Y o hi hS hm
    have hl := hW.line hf (show i < p_ct P f by omega)
    obtain ⟨o1, a1, a2, a3, a4⟩ := u_li_ok (sw := sw) (sw' := sw') hd he hW hf (show i < p_ct P f by omega) hS (by omega)
    obtain ⟨o', b1, b2, b3, b4⟩ := ih (i + 1) _ _ o1 (by omega) a1 (by omega)
    refine ⟨o', b1, a2.tr b2, b3, fun j h1 h2 => ?_⟩
    by_cases hj : j = i
    · rw [hj]; exact a4.gr hW hf (by omega) a1.2.1 b2
    · exact b4 j (by omega) h2
theorem u_al_ok {d e : Nat} {sw sw' : Bool} (hd : 24 < d) (he : 24 < e) (hW : p_W P) : ∀ (c f : Nat) (X Y : u3) (o : Nat → Nat), f + c = p_fu P → u_S3 o X Y → (f < p_fu P → X.2 ≤ p_fi P f) →
    ∃ o', u_S3 o' (u_al d sw P c f X) (u_al e sw' P c f Y) ∧ u_Gr X o (u_al d sw P c f X) o' ∧ ∀ g j, f ≤ g → g < p_fu P → j < p_ct P g → u_LC P g j (u_al d sw P c f X) o' := by
  intro c
  induction c with
  | zero => intro f X Y o hf hS hm; exact ⟨o, hS, u_Gr.rf, fun g j h1 h2 => by omega⟩
  | succ c ih =>
    intro f X Y o hf hS hm
    obtain ⟨o1, a1, a2, a3, a4⟩ := u_fl_ok (sw := sw) (sw' := sw') hd he hW (show f < p_fu P by omega) (p_ct P f) 0 X Y o (by omega) hS (by have := hm (by omega); omega)
    obtain ⟨o', b1, b2, b3⟩ := ih (f + 1) _ _ o1 (by omega) a1 (fun h => by have := hW.2.2.2.1 f (f + 1) (by omega) h; omega)
    refine ⟨o', b1, a2.tr b2, fun g j h1 h2 h3 => ?_⟩
    by_cases hg : g = f
    · rw [hg] at h3 ⊢; exact (a4 j (by omega) h3).gr hW (by omega) h3 a1.2.1 b2
    · exact b3 g j (by omega) h2 h3
theorem u_0_ok : u_S3 (fun _ => 0) u_0 u_0 := by
  have hV : u_V 0 (fun _ => 0) u_0.1 := ⟨fun n hn => ⟨hn, rfl⟩, by omega, fun k hk => by omega, fun n _ => Nat.le_refl _, fun n _ _ h => absurd rfl h, fun k hk => by omega⟩
  exact ⟨rfl, hV, hV, fun k (hk : k < 0) => by omega, fun k (hk : k < 0) => by omega, fun n m _ _ => Iff.rfl⟩
theorem u_E_ok {d e : Nat} {sw sw' : Bool} (hd : 24 < d) (he : 24 < e) (hW : p_W P) : ∃ o, u_S3 o (u_E d sw P) (u_E e sw' P) ∧ ∀ g j, g < p_fu P → j < p_ct P g → u_LC P g j (u_E d sw P) o := by
  obtain ⟨o', b1, b2, b3⟩ := u_al_ok (sw := sw) (sw' := sw') hd he hW (p_fu P) 0 u_0 u_0 (fun _ => 0) (by omega) u_0_ok (fun _ => Nat.zero_le _)
  exact ⟨o', b1, fun g j hg hj => b3 g j (by omega) hg hj⟩
/-! the one side -/
theorem k_lines {K : m_M → Int32 → Option m_M} (hW : p_W P) (hap : p + 22 ≤ a ∨ a + 5 ≤ p) (hf : f < p_fu P) : ∀ (c i fu : Nat) (S : m_M) (X : u3) (o : Nat → Nat), i + c = p_ct P f → c < fu → u_S3 o X X → X.2 ≤ p_fi P f + i → u_R1 S a X.1 X.2 → p_R S p P →
    ∃ S', b_X5_findAll_21 a p K fu S (nI f) (nI (p_fi P f + i)) = K S' (nI (f + 1)) ∧ u_R1 S' a (u_fl 30 false P f c i X).1 (u_fl 30 false P f c i X).2 ∧ e_O a (a + 4) S S' := by
  have h5 := hW.1
  intro c
  induction c with
  | zero =>
    intro i fu S X o hi hfu hK hm hR hP
    obtain ⟨fu, rfl⟩ : ∃ f, fu = f + 1 := ⟨fu - 1, by omega⟩
    have p3 := hP.2.2.2.1 f hf
    have p4 := hP.2.2.2.2.1 f hf
    have hl := hW.2.2.1 f hf
    have h24 := hW.2.1
    refine ⟨S, ?_, hR, e_O.rf⟩
    simp (disch := omega) only [e_let, e_call, e_cal0, e_bind, e_lit, e_ofN, e_neg, nI_add, pk_mul, e_sub, e_ldi, e_sti, e_ldj, e_stj, e_le_t, e_le_f, e_lt_t, e_lt_f, e_eq_t, e_eq_f, e_no_eq, e_no_eq', e_no_rfl, e_no_lt, e_no_le, e_le_no, e_lt_no, if_true, if_false, ↓reduceIte, e_rs, e_rq, e_rn, e_ji, e_ki, e_ij, e_kj, e_js, e_jq, e_jn, e_cs, e_cq, e_jc, e_kc, e_js', e_jcq, e_icj, e_kcj, or_true, true_or, or_false, false_or, and_true, true_and, not_true_eq_false, not_false_eq_true, b_X5_findAll_21, p3, p4]
  | succ c ih =>
    intro i fu S X o hi hfu hK hm hR hP
    obtain ⟨fu, rfl⟩ : ∃ f, fu = f + 1 := ⟨fu - 1, by omega⟩
    have p3 := hP.2.2.2.1 f hf
    have p4 := hP.2.2.2.2.1 f hf
    have hl := hW.line hf (show i < p_ct P f by omega)
    obtain ⟨o1, a1, a2, a3, a4⟩ := u_li_ok (sw := false) (sw' := false) (d := 30) (e := 30) (by omega) (by omega) hW hf (show i < p_ct P f by omega) hK (by omega)
    obtain ⟨S1, f1, f2, f3⟩ := k_line hW hap hf (show i < p_ct P f by omega) hK (by omega) hR hP
    obtain ⟨S', g1, g2, g3⟩ := ih (i + 1) fu S1 _ o1 (by omega) (by omega) a1 (by omega) f2 (hP.kept (fun q h1 h2 => f3.1 q (by omega)))
    refine ⟨S', ?_, g2, f3.tr g3⟩
    rw [← g1]
    have e : p_fi P f + (i + 1) = p_fi P f + i + 1 := by omega
    simp (disch := omega) only [e_let, e_call, e_cal0, e_bind, e_lit, e_ofN, e_neg, nI_add, pk_mul, e_sub, e_ldi, e_sti, e_ldj, e_stj, e_le_t, e_le_f, e_lt_t, e_lt_f, e_eq_t, e_eq_f, e_no_eq, e_no_eq', e_no_rfl, e_no_lt, e_no_le, e_le_no, e_lt_no, if_true, if_false, ↓reduceIte, e_rs, e_rq, e_rn, e_ji, e_ki, e_ij, e_kj, e_js, e_jq, e_jn, e_cs, e_cq, e_jc, e_kc, e_js', e_jcq, e_icj, e_kcj, or_true, true_or, or_false, false_or, and_true, true_and, not_true_eq_false, not_false_eq_true, b_X5_findAll_21, p3, p4, f1, e]
theorem k_funs (hW : p_W P) (hap : p + 22 ≤ a ∨ a + 5 ≤ p) : ∀ (c f fu : Nat) (S : m_M) (X : u3) (o : Nat → Nat), f + c = p_fu P → c < fu → u_S3 o X X → (f < p_fu P → X.2 ≤ p_fi P f) → u_R1 S a X.1 X.2 → p_R S p P →
    ∃ S' fu', b_X5_findAll_6 a p fu S (nI f) = b_X5_findAll_6 a p (fu' + 1) S' (nI (p_fu P)) ∧ u_R1 S' a (u_al 30 false P c f X).1 (u_al 30 false P c f X).2 ∧ e_O a (a + 4) S S' := by
  have hfu := m_fu_ge
  have h5 := hW.1
  intro c
  induction c with
  | zero =>
    intro f fu S X o hf hfu' hK hm hR hP
    obtain ⟨fu, rfl⟩ : ∃ f, fu = f + 1 := ⟨fu - 1, by omega⟩
    have hf : f = p_fu P := hf
    rw [hf]
    exact ⟨S, fu, rfl, hR, e_O.rf⟩
  | succ c ih =>
    intro f fu S X o hf hfu' hK hm hR hP
    obtain ⟨fu, rfl⟩ : ∃ f, fu = f + 1 := ⟨fu - 1, by omega⟩
    have p0 := hP.1
    have p3 := hP.2.2.2.1 f (by omega)
    have hl := hW.2.2.1 f (by omega)
    have h24 := hW.2.1
    obtain ⟨o1, a1, a2, a3, a4⟩ := u_fl_ok (sw := false) (sw' := false) (d := 30) (e := 30) (by omega) (by omega) hW (show f < p_fu P by omega) (p_ct P f) 0 X X o (by omega) hK (by have := hm (by omega); omega)
    obtain ⟨S1, f1, f2, f3⟩ := k_lines (K := b_X5_findAll_6 a p fu) hW hap (show f < p_fu P by omega) (p_ct P f) 0 m_fu S X o (by omega) (by omega) hK (by have := hm (by omega); omega) hR hP
    obtain ⟨S', fu', g1, g2, g3⟩ := ih (f + 1) fu S1 _ o1 (by omega) (by omega) a1 (fun h => by have := hW.2.2.2.1 f (f + 1) (by omega) h; omega) f2 (hP.kept (fun q h1 h2 => f3.1 q (by omega)))
    refine ⟨S', fu', ?_, g2, f3.tr g3⟩
    rw [← g1, ← f1, b_X5_findAll_6, p0, if_neg (by rw [e_le_f (by omega) (by omega)]; exact fun h => h), e_ldi (by omega) (by omega), e_bind, p3]
    rfl
theorem k_uclr : ∃ S', f_X5_clear a S = some S' ∧ u_R1 S' a u_0.1 0 ∧ (∀ n, n < 183 → m_ri S' (a + 4) n = m_no) ∧ e_O a (a + 5) S S' := by
  have hfu := m_fu_ge
  have key : ∀ (d n fu : Nat) (S : m_M), n + d = 183 → d < fu → (∀ t, t < n → m_ri S (a + 1) t = nI t) → m_ri S a 4 = nI 135 → ∃ S', b_X5_clear_9 a fu S (nI n) = some S' ∧ u_R1 S' a u_0.1 0 ∧ (∀ n, n < 183 → m_ri S' (a + 4) n = m_no) ∧ e_O a (a + 5) S S' := by
    intro d
    induction d with
    | zero =>
      intro n fu S hn hf h1 h4
      obtain ⟨fu, rfl⟩ : ∃ f, fu = f + 1 := ⟨fu - 1, by omega⟩
      refine ⟨_, by simp (disch := omega) only [e_let, e_call, e_cal0, e_bind, e_lit, e_ofN, e_neg, nI_add, pk_mul, e_sub, e_ldi, e_sti, e_ldj, e_stj, e_le_t, e_le_f, e_lt_t, e_lt_f, e_eq_t, e_eq_f, e_no_eq, e_no_eq', e_no_rfl, e_no_lt, e_no_le, e_le_no, e_lt_no, if_true, if_false, ↓reduceIte, e_rs, e_rq, e_rn, e_ji, e_ki, e_ij, e_kj, e_js, e_jq, e_jn, e_cs, e_cq, e_jc, e_kc, e_js', e_jcq, e_icj, e_kcj, or_true, true_or, or_false, false_or, and_true, true_and, not_true_eq_false, not_false_eq_true, b_X5_clear_9, k_fills]; rfl, ⟨u_F.id (fun t ht => ?_), fun t ht => ⟨?_, ?_⟩, ?_⟩, fun t ht => ?_, ?_⟩
      · rw [e_cq (by omega), e_cq (by omega), e_cq (by omega)]; exact h1 t (by omega)
      · rw [e_cq (by omega), e_cq (by omega), e_cs]; rw [if_pos ht]; rfl
      · rw [e_cq (by omega), e_cs]; rw [if_pos ht]; rfl
      · rw [e_cq (by omega), e_cq (by omega), e_cq (by omega)]; exact h4
      · rw [e_cs]; rw [if_pos ht]
      · exact ((e_O.rf.ci (by omega) (by omega)).ci (by omega) (by omega)).ci (by omega) (by omega)
    | succ d ih =>
      intro n fu S hn hf h1 h4
      obtain ⟨fu, rfl⟩ : ∃ f, fu = f + 1 := ⟨fu - 1, by omega⟩
      obtain ⟨S', g1, g2, g3, g4⟩ := ih (n + 1) fu (m_si S (a + 1) n (nI n)) (by omega) (by omega) (fun t ht => by
        rw [e_rif]
        by_cases h : t = n
        · rw [if_pos h, h]
        · rw [if_neg h]; exact h1 t (by omega)) (by rw [e_rq (by omega)]; exact h4)
      refine ⟨S', ?_, g2, g3, (e_O.rf.si (by omega) (by omega)).tr g4⟩
      rw [← g1]
      simp (disch := omega) only [e_let, e_call, e_cal0, e_bind, e_lit, e_ofN, e_neg, nI_add, pk_mul, e_sub, e_ldi, e_sti, e_ldj, e_stj, e_le_t, e_le_f, e_lt_t, e_lt_f, e_eq_t, e_eq_f, e_no_eq, e_no_eq', e_no_rfl, e_no_lt, e_no_le, e_le_no, e_lt_no, if_true, if_false, ↓reduceIte, e_rs, e_rq, e_rn, e_ji, e_ki, e_ij, e_kj, e_js, e_jq, e_jn, e_cs, e_cq, e_jc, e_kc, e_js', e_jcq, e_icj, e_kcj, or_true, true_or, or_false, false_or, and_true, true_and, not_true_eq_false, not_false_eq_true, b_X5_clear_9]
  obtain ⟨S', g1, g2, g3, g4⟩ := key 183 0 m_fu (m_si S a 4 (nI 135)) (by omega) (by omega) (fun t ht => by omega) e_rs
  refine ⟨S', ?_, g2, g3, (e_O.rf.si (by omega) (by omega)).tr g4⟩
  rw [← g1]
  simp (disch := omega) only [e_let, e_call, e_cal0, e_bind, e_lit, e_ofN, e_neg, nI_add, pk_mul, e_sub, e_ldi, e_sti, e_ldj, e_stj, e_le_t, e_le_f, e_lt_t, e_lt_f, e_eq_t, e_eq_f, e_no_eq, e_no_eq', e_no_rfl, e_no_lt, e_no_le, e_le_no, e_lt_no, if_true, if_false, ↓reduceIte, e_rs, e_rq, e_rn, e_ji, e_ki, e_ij, e_kj, e_js, e_jq, e_jn, e_cs, e_cq, e_jc, e_kc, e_js', e_jcq, e_icj, e_kcj, or_true, true_or, or_false, false_or, and_true, true_and, not_true_eq_false, not_false_eq_true, f_X5_clear]
/-! the other side -/
theorem j_lines {K : m_M → Int32 → Option m_M} (hW : p_W P) (hf : f < p_fu P) : ∀ (c i fu : Nat) (T : m_M) (X : u3) (o : Nat → Nat), i + c = p_ct P f → c < fu → u_S3 o X X → X.2 ≤ p_fi P f + i → u_R2 T m X.1 X.2 → r_P (m_ri T (m + 2)) P →
    ∃ T', b_X12_layRegions_55 m K fu T (nI f) (nI i) = K T' (nI (f + 1)) ∧ u_R2 T' m (u_fl 200 true P f c i X).1 (u_fl 200 true P f c i X).2 ∧ u_O m T T' := by
  have h5 := hW.1
  intro c
  induction c with
  | zero =>
    intro i fu T X o hi hfu hK hm hR hP
    obtain ⟨fu, rfl⟩ : ∃ f, fu = f + 1 := ⟨fu - 1, by omega⟩
    obtain ⟨p1, p2, p3⟩ := hP.2.2.1 f hf
    have hl := hW.2.2.1 f hf
    have h24 := hW.2.1
    refine ⟨T, ?_, hR, u_O.rf⟩
    simp (disch := omega) only [e_let, e_call, e_cal0, e_bind, e_lit, e_ofN, e_neg, nI_add, pk_mul, e_sub, e_ldi, e_sti, e_ldj, e_stj, e_le_t, e_le_f, e_lt_t, e_lt_f, e_eq_t, e_eq_f, e_no_eq, e_no_eq', e_no_rfl, e_no_lt, e_no_le, e_le_no, e_lt_no, if_true, if_false, ↓reduceIte, e_rs, e_rq, e_rn, e_ji, e_ki, e_ij, e_kj, e_js, e_jq, e_jn, e_cs, e_cq, e_jc, e_kc, e_js', e_jcq, e_icj, e_kcj, or_true, true_or, or_false, false_or, and_true, true_and, not_true_eq_false, not_false_eq_true, b_X12_layRegions_55, p3]
  | succ c ih =>
    intro i fu T X o hi hfu hK hm hR hP
    obtain ⟨fu, rfl⟩ : ∃ f, fu = f + 1 := ⟨fu - 1, by omega⟩
    obtain ⟨p1, p2, p3⟩ := hP.2.2.1 f hf
    have hl := hW.line hf (show i < p_ct P f by omega)
    obtain ⟨o1, a1, a2, a3, a4⟩ := u_li_ok (sw := true) (sw' := true) (d := 200) (e := 200) (by omega) (by omega) hW hf (show i < p_ct P f by omega) hK (by omega)
    obtain ⟨T1, f1, f2, f3⟩ := j_line hW hf (show i < p_ct P f by omega) hK (by omega) hR hP
    obtain ⟨T', g1, g2, g3⟩ := ih (i + 1) fu T1 _ o1 (by omega) (by omega) a1 (by omega) f2 (by rw [f3.row (by omega) (by omega) (by omega)]; exact hP)
    refine ⟨T', ?_, g2, f3.tr g3⟩
    rw [← g1]
    simp (disch := omega) only [e_let, e_call, e_cal0, e_bind, e_lit, e_ofN, e_neg, nI_add, pk_mul, e_sub, e_ldi, e_sti, e_ldj, e_stj, e_le_t, e_le_f, e_lt_t, e_lt_f, e_eq_t, e_eq_f, e_no_eq, e_no_eq', e_no_rfl, e_no_lt, e_no_le, e_le_no, e_lt_no, if_true, if_false, ↓reduceIte, e_rs, e_rq, e_rn, e_ji, e_ki, e_ij, e_kj, e_js, e_jq, e_jn, e_cs, e_cq, e_jc, e_kc, e_js', e_jcq, e_icj, e_kcj, or_true, true_or, or_false, false_or, and_true, true_and, not_true_eq_false, not_false_eq_true, b_X12_layRegions_55, p2, p3, f1]
theorem j_funs (hW : p_W P) : ∀ (c f fu : Nat) (T : m_M) (X : u3) (o : Nat → Nat), f + c = p_fu P → c < fu → u_S3 o X X → (f < p_fu P → X.2 ≤ p_fi P f) → u_R2 T m X.1 X.2 → r_P (m_ri T (m + 2)) P →
    ∃ T', b_X12_layRegions_43 m fu T (nI f) = b_X12_layRegions_98 m m_fu T' (nI 0) ∧ u_R2 T' m (u_al 200 true P c f X).1 (u_al 200 true P c f X).2 ∧ u_O m T T' := by
  have hfu := m_fu_ge
  have h5 := hW.1
  intro c
  induction c with
  | zero =>
    intro f fu T X o hf hfu' hK hm hR hP
    obtain ⟨fu, rfl⟩ : ∃ f, fu = f + 1 := ⟨fu - 1, by omega⟩
    have hf : f = p_fu P := hf
    have p0 := hP.1
    refine ⟨T, ?_, hR, u_O.rf⟩
    simp (disch := omega) only [e_let, e_call, e_cal0, e_bind, e_lit, e_ofN, e_neg, nI_add, pk_mul, e_sub, e_ldi, e_sti, e_ldj, e_stj, e_le_t, e_le_f, e_lt_t, e_lt_f, e_eq_t, e_eq_f, e_no_eq, e_no_eq', e_no_rfl, e_no_lt, e_no_le, e_le_no, e_lt_no, if_true, if_false, ↓reduceIte, e_rs, e_rq, e_rn, e_ji, e_ki, e_ij, e_kj, e_js, e_jq, e_jn, e_cs, e_cq, e_jc, e_kc, e_js', e_jcq, e_icj, e_kcj, or_true, true_or, or_false, false_or, and_true, true_and, not_true_eq_false, not_false_eq_true, b_X12_layRegions_43, p0, hf]
  | succ c ih =>
    intro f fu T X o hf hfu' hK hm hR hP
    obtain ⟨fu, rfl⟩ : ∃ f, fu = f + 1 := ⟨fu - 1, by omega⟩
    have p0 := hP.1
    have hl := hW.2.2.1 f (by omega)
    have h24 := hW.2.1
    obtain ⟨o1, a1, a2, a3, a4⟩ := u_fl_ok (sw := true) (sw' := true) (d := 200) (e := 200) (by omega) (by omega) hW (show f < p_fu P by omega) (p_ct P f) 0 X X o (by omega) hK (by have := hm (by omega); omega)
    obtain ⟨T1, f1, f2, f3⟩ := j_lines (K := b_X12_layRegions_43 m fu) hW (show f < p_fu P by omega) (p_ct P f) 0 m_fu T X o (by omega) (by omega) hK (by have := hm (by omega); omega) hR hP
    obtain ⟨T', g1, g2, g3⟩ := ih (f + 1) fu T1 _ o1 (by omega) (by omega) a1 (fun h => by have := hW.2.2.2.1 f (f + 1) (by omega) h; omega) f2 (by rw [f3.row (by omega) (by omega) (by omega)]; exact hP)
    refine ⟨T', ?_, g2, f3.tr g3⟩
    rw [← g1, ← f1, b_X12_layRegions_43]
    simp (disch := omega) only [e_let, e_call, e_cal0, e_bind, e_lit, e_ofN, e_neg, nI_add, pk_mul, e_sub, e_ldi, e_sti, e_ldj, e_stj, e_le_t, e_le_f, e_lt_t, e_lt_f, e_eq_t, e_eq_f, e_no_eq, e_no_eq', e_no_rfl, e_no_lt, e_no_le, e_le_no, e_lt_no, if_true, if_false, ↓reduceIte, e_rs, e_rq, e_rn, e_ji, e_ki, e_ij, e_kj, e_js, e_jq, e_jn, e_cs, e_cq, e_jc, e_kc, e_js', e_jcq, e_icj, e_kcj, or_true, true_or, or_false, false_or, and_true, true_and, not_true_eq_false, not_false_eq_true, p0]
theorem j_l14 : ∀ (d n fu : Nat) (T : m_M), n + d = 183 → d < fu → (∀ t, t < n → m_ri T (m + 12) t = nI t ∧ m_ri T (m + 13) t = m_no) → m_ri T m 36 = nI 0 →
    ∃ T', b_X12_layRegions_14 m fu T (nI n) = b_X12_layRegions_43 m m_fu T' (nI 0) ∧ u_R2 T' m u_0.1 0 ∧ u_O m T T' := by
  intro d
  induction d with
  | zero =>
    intro n fu T hn hf h1 h4
    obtain ⟨fu, rfl⟩ : ∃ f, fu = f + 1 := ⟨fu - 1, by omega⟩
    refine ⟨T, ?_, ⟨u_F.id (fun t ht => (h1 t (by omega)).1), fun t ht => (h1 t (by omega)).2, h4⟩, u_O.rf⟩
    simp (disch := omega) only [e_let, e_call, e_cal0, e_bind, e_lit, e_ofN, e_neg, nI_add, pk_mul, e_sub, e_ldi, e_sti, e_ldj, e_stj, e_le_t, e_le_f, e_lt_t, e_lt_f, e_eq_t, e_eq_f, e_no_eq, e_no_eq', e_no_rfl, e_no_lt, e_no_le, e_le_no, e_lt_no, if_true, if_false, ↓reduceIte, e_rs, e_rq, e_rn, e_ji, e_ki, e_ij, e_kj, e_js, e_jq, e_jn, e_cs, e_cq, e_jc, e_kc, e_js', e_jcq, e_icj, e_kcj, or_true, true_or, or_false, false_or, and_true, true_and, not_true_eq_false, not_false_eq_true, b_X12_layRegions_14]
  | succ d ih =>
    intro n fu T hn hf h1 h4
    obtain ⟨fu, rfl⟩ : ∃ f, fu = f + 1 := ⟨fu - 1, by omega⟩
    obtain ⟨T', g1, g2, g3⟩ := ih (n + 1) fu (m_si (m_si T (m + 12) n (nI n)) (m + 13) n m_no) (by omega) (by omega) (fun t ht => by
      rw [e_rq (by omega), e_rif, e_rif, e_rq (by omega)]
      by_cases h : t = n
      · rw [if_pos h, if_pos h, h]; exact ⟨rfl, rfl⟩
      · rw [if_neg h, if_neg h]; exact h1 t (by omega)) (by rw [e_rq (by omega), e_rq (by omega)]; exact h4)
    refine ⟨T', ?_, g2, ((u_O.rf.arr (by omega)).arr (by omega)).tr g3⟩
    rw [← g1]
    simp (disch := omega) only [e_let, e_call, e_cal0, e_bind, e_lit, e_ofN, e_neg, nI_add, pk_mul, e_sub, e_ldi, e_sti, e_ldj, e_stj, e_le_t, e_le_f, e_lt_t, e_lt_f, e_eq_t, e_eq_f, e_no_eq, e_no_eq', e_no_rfl, e_no_lt, e_no_le, e_le_no, e_lt_no, if_true, if_false, ↓reduceIte, e_rs, e_rq, e_rn, e_ji, e_ki, e_ij, e_kj, e_js, e_jq, e_jn, e_cs, e_cq, e_jc, e_kc, e_js', e_jcq, e_icj, e_kcj, or_true, true_or, or_false, false_or, and_true, true_and, not_true_eq_false, not_false_eq_true, b_X12_layRegions_14]
end UH
