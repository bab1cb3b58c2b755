/-! all of the regions: the one side -/
/-- bits of a set of funs: fewer than five -/
theorem e_five {x : Int32} (h : ∀ i, 5 ≤ i → i < 32 → bt x i = false) : ∃ n, n < 32 ∧ x = nI n := by
  have key : ∀ b0 b1 b2 b3 b4 : Bool, ∀ i, i < 32 → bt (nI (cond b0 1 0 + cond b1 2 0 + cond b2 4 0 + cond b3 8 0 + cond b4 16 0)) i = (if i = 0 then b0 else if i = 1 then b1 else if i = 2 then b2 else if i = 3 then b3 else if i = 4 then b4 else false) := by decide +kernel
  refine ⟨cond (bt x 0) 1 0 + cond (bt x 1) 2 0 + cond (bt x 2) 4 0 + cond (bt x 3) 8 0 + cond (bt x 4) 16 0, ?_, b_ext fun i hi => ?_⟩
  · cases bt x 0 <;> cases bt x 1 <;> cases bt x 2 <;> cases bt x 3 <;> cases bt x 4 <;> decide
  · rw [key _ _ _ _ _ i hi]
    by_cases h0 : i = 0
    · rw [if_pos h0, h0]
    · rw [if_neg h0]
      by_cases h1 : i = 1
      · rw [if_pos h1, h1]
      · rw [if_neg h1]
        by_cases h2 : i = 2
        · rw [if_pos h2, h2]
        · rw [if_neg h2]
          by_cases h3 : i = 3
          · rw [if_pos h3, h3]
          · rw [if_neg h3]
            by_cases h4 : i = 4
            · rw [if_pos h4, h4]
            · rw [if_neg h4]; exact h i (by omega) hi
def e_pc (n : Nat) : Nat := fb_ct (fun i => bt (nI n) i) 5
theorem e_bc5 {S : m_M} {n : Nat} (h : n < 32) : f_J6_bitCount_0f7a4 S (nI n) = some (nI (e_pc n), S) := by
  have key : ∀ n, n < 32 → (fun (i0 : Int32) => (fun v5 : Int32 => v5 &&& 63) ((fun v4 : Int32 => v4 + (v4.toUInt32 >>> ((16 : Int32).toUInt32 &&& Int32.toUInt32 31)).toInt32) ((fun v3 : Int32 => v3 + (v3.toUInt32 >>> ((8 : Int32).toUInt32 &&& Int32.toUInt32 31)).toInt32) ((fun v2 : Int32 => (v2 + (v2.toUInt32 >>> ((4 : Int32).toUInt32 &&& Int32.toUInt32 31)).toInt32) &&& (252645135 : Int32)) ((fun v1 : Int32 => (v1 &&& (858993459 : Int32)) + ((v1.toUInt32 >>> ((2 : Int32).toUInt32 &&& Int32.toUInt32 31)).toInt32 &&& (858993459 : Int32))) (i0 - ((i0.toUInt32 >>> ((1 : Int32).toUInt32 &&& Int32.toUInt32 31)).toInt32 &&& (1431655765 : Int32)))))))) (nI n) = nI (e_pc n) := by decide +kernel
  exact congrArg (fun v => some (v, S)) (key n h)
def d_fil1 (P : pP) (f r : Nat) : Prop := d_fil P f (p_ct P f) r
noncomputable def d_flb (P : pP) (c r f : Nat) : Bool := d_dec (f < c ∧ d_fil1 P f r)
noncomputable def d_owb (P : pP) (c r f : Nat) : Bool := d_dec (f < c ∧ d_ow (d_of P) f r = true)
noncomputable def d_fin (P : pP) (r : Nat) : Prop := d_ou (d_of P) (p_fu P - 1) r = false ∧ fb_ct (d_flb P (p_fu P) r) 5 = 1 ∧ ∃ f, f < p_fu P ∧ d_fil1 P f r ∧ d_ow (d_of P) f r = true
/-- what is told of funs below c -/
def d_X (S : m_M) (A : Nat) (P : pP) (c : Nat) : Prop :=
  (∀ f w, f < c → w < p_vs P f → e_bs (m_ri S (A + 2) (f * 27 + w)) (d_rc (d_of P) f w)) ∧ (∀ f, f < c → e_bs (m_ri S (A + 8) f) (d_ou (d_of P) f) ∧ e_bs (m_ri S (A + 9) f) (d_ow (d_of P) f)) ∧
  (∀ r, r < d_z P → e_bs (m_ri S (A + 6) r) (d_owb P c r) ∧ e_bs (m_ri S (A + 7) r) (d_flb P c r)) ∧
  (∀ f i, f < p_fu P → i < p_ct P f → (f < c → e_bs (m_ri S (A + 12) (p_fi P f + i)) (d_bg (d_of P) f i) ∧ e_bs (m_ri S (A + 13) (p_fi P f + i)) (d_en (d_of P) f i)) ∧ (c ≤ f → m_ri S (A + 12) (p_fi P f + i) = nI 0 ∧ m_ri S (A + 13) (p_fi P f + i) = nI 0)) ∧
  (∀ f r, f < c → r < d_z P → d_ow (d_of P) f r = true → m_ri S (A + 10) (f * 24 + r) = nI (d_fs P f r (p_ct P f) - 1) ∧ m_ri S (A + 11) (f * 24 + r) = nI (d_ls P f r (p_ct P f) - 1))
theorem p_ex_b {n : Nat} (h9 : n ≤ 9) (h : n ≠ 2) : p_ex n ≠ 2 ∧ p_ex n < 100 := by
  simp only [p_ex]
  by_cases h0 : n = 0
  · rw [if_pos h0]; omega
  · rw [if_neg h0]
    by_cases h1 : n = 1
    · rw [if_pos h1]; omega
    · rw [if_neg h1]; omega
section DE
variable {S : m_M} {A p : Nat} {P : pP} {f i : Nat}
theorem k_fill6 (hW : p_W P) (hA : A = p + 8) (hf : f < p_fu P) : ∀ (c i fu : Nat) (S : m_M), i + c = p_ct P f → c < fu → p_R S p P → m_ri S A 0 = nI (d_z P) → d_PP S A P → (∀ r, r < d_z P → ∀ g, g < 32 → (bt (m_ri S (A + 7) r) g = true ↔ (g < f ∧ d_fil1 P g r) ∨ (g = f ∧ d_fil P f i r))) →
    ∃ S', b_X6_tellFilled_7 A p fu S (nI f) (nI (p_fi P f + i)) = some S' ∧ (∀ r, r < d_z P → e_bs (m_ri S' (A + 7) r) (d_flb P (f + 1) r)) ∧ e_O (A + 7) (A + 8) S S' := by
  subst hA
  have h5 := hW.1
  have h24 := hW.2.1
  have hl := hW.2.2.1 f hf
  have hz := d_z_le hW
  intro c
  induction c with
  | zero =>
    intro i fu S hi hfu hP h0 hp hb
    obtain ⟨fu, rfl⟩ : ∃ f, fu = f + 1 := ⟨fu - 1, by omega⟩
    have hi : i = p_ct P f := hi
    have p3 := hP.2.2.2.1 f hf
    have p4 := hP.2.2.2.2.1 f hf
    refine ⟨S, ?_, fun r hr g hg => Bool.eq_iff_iff.mpr ((hb r hr g hg).trans ?_), e_O.rf⟩
    · simp (disch := omega) only [e_let, e_call, e_cal0, e_bind, e_lit, e_ofN, e_neg, nI_add, pk_mul, e_sub, e_ldi, e_sti, e_ldj, e_stj, e_le_t, e_le_f, e_lt_t, e_lt_f, e_eq_t, e_eq_f, e_no_eq, e_no_eq', e_no_rfl, e_no_lt, e_no_le, e_le_no, e_lt_no, if_true, if_false, ↓reduceIte, e_rs, e_rq, e_rn, e_ji, e_ki, e_ij, e_kj, e_js, e_jq, e_jn, e_cs, e_cq, e_jc, e_kc, e_js', e_jcq, e_icj, e_kcj, or_true, true_or, or_false, false_or, and_true, true_and, not_true_eq_false, not_false_eq_true, b_X6_tellFilled_7, p3, p4]
    · rw [d_flb, d_dec_t, hi]
      constructor
      · rintro (⟨h1, h2⟩ | ⟨h1, h2⟩)
        · exact ⟨by omega, h2⟩
        · subst h1; exact ⟨by omega, h2⟩
      · rintro ⟨h1, h2⟩
        by_cases e : g = f
        · subst e; exact Or.inr ⟨rfl, h2⟩
        · exact Or.inl ⟨by omega, h2⟩
  | succ c ih =>
    intro i fu S hi hfu hP h0 hp hb
    obtain ⟨fu, rfl⟩ : ∃ f, fu = f + 1 := ⟨fu - 1, by omega⟩
    have hi' : i < p_ct P f := by omega
    have p2 := hP.2.2.1 f hf
    have p3 := hP.2.2.2.1 f hf
    have p4 := hP.2.2.2.2.1 f hf
    have p5 := (hP.2.2.2.2.2 f i hf hi').1
    have h9 := (hW.2.2.2.2 f i hf hi').1
    have hpt := hp f (p_pa P f + i) hf (by simp only [p_vs]; omega)
    have ev : p_pa P f + (p_fi P f + i) - p_fi P f = p_pa P f + i := by omega
    have ei : p_fi P f + i + 1 = p_fi P f + (i + 1) := by omega
    have hle := d_p_le hW f (p_pa P f + i)
    by_cases h2 : p_op P (p_fi P f + i) = 2
    · rw [h2] at p5
      have p5 : m_ri S (p + 5) (p_fi P f + i) = nI 2 := p5
      obtain ⟨r, hr, -⟩ := ((d_G_of hW).2.2.2.2.2.2.2 f i hf hi').2.1 h2
      have hr : d_p P f (p_pa P f + i) = r + 1 := hr
      have hh := k_has6 hW h0 hle
      rw [if_neg (by omega)] at hh
      rw [hr] at hpt hh
      have hpt : m_ri S (p + 8 + 1) (f * 27 + (p_pa P f + i)) = nI r := hpt
      have hh : f_X6_has (p + 8) S (nI r) = some (nI 1, S) := hh
      have kp : ∀ q, q ≠ p + 8 + 7 → m_ri (m_si S (p + 8 + 7) r (m_ri S (p + 8 + 7) r ||| (nI 1 <<< (nI f &&& nI 31)))) q = m_ri S q := fun q hq => e_rq hq
      obtain ⟨S', g1, g2, g3⟩ := ih (i + 1) fu (m_si S (p + 8 + 7) r (m_ri S (p + 8 + 7) r ||| (nI 1 <<< (nI f &&& nI 31)))) (by omega) (by omega) (by
        simp only [p_R, kp p (by omega), kp (p + 2) (by omega), kp (p + 3) (by omega), kp (p + 4) (by omega), kp (p + 5) (by omega), kp (p + 6) (by omega), kp (p + 7) (by omega)]; exact hP) (by rw [kp (p + 8) (by omega)]; exact h0) (by
        simp only [d_PP, kp (p + 8 + 1) (by omega)]; exact hp) (fun r' hr' g hg => by
        rw [e_rif]
        by_cases e : r' = r
        · subst e
          rw [if_pos rfl, b_or, Bool.or_eq_true, hb r' hr' g hg, e_b1 (by omega) hg, decide_eq_true_eq]
          constructor
          · rintro ((h | ⟨h, j, j1, j2, j3⟩) | h)
            · exact Or.inl h
            · exact Or.inr ⟨h, j, by omega, j2, j3⟩
            · exact Or.inr ⟨h.symm, i, by omega, h2, hr⟩
          · rintro (h | ⟨h, j, j1, j2, j3⟩)
            · exact Or.inl (Or.inl h)
            · exact Or.inr h.symm
        · rw [if_neg e, hb r' hr' g hg]
          constructor
          · rintro (h | ⟨h, j, j1, j2, j3⟩)
            · exact Or.inl h
            · exact Or.inr ⟨h, j, by omega, j2, j3⟩
          · rintro (h | ⟨h, j, j1, j2, j3⟩)
            · exact Or.inl h
            · refine Or.inr ⟨h, j, ?_, j2, j3⟩
              by_cases ej : j = i
              · rw [ej, hr] at j3; omega
              · omega)
      refine ⟨S', ?_, g2, (e_O.rf.si (by omega) (by omega)).tr g3⟩
      rw [← g1]
      simp (disch := omega) only [e_let, e_call, e_cal0, e_bind, e_lit, e_ofN, e_neg, nI_add, pk_mul, e_sub, e_ldi, e_sti, e_ldj, e_stj, e_le_t, e_le_f, e_lt_t, e_lt_f, e_eq_t, e_eq_f, e_no_eq, e_no_eq', e_no_rfl, e_no_lt, e_no_le, e_le_no, e_lt_no, if_true, if_false, ↓reduceIte, e_rs, e_rq, e_rn, e_ji, e_ki, e_ij, e_kj, e_js, e_jq, e_jn, e_cs, e_cq, e_jc, e_kc, e_js', e_jcq, e_icj, e_kcj, or_true, true_or, or_false, false_or, and_true, true_and, not_true_eq_false, not_false_eq_true, b_X6_tellFilled_7, p3, p4, f_X3_varOfLine, p2, ev, f_X6_pointedBy, hpt, p5, hh, b_X6_tellFilled_69, ei]
    · obtain ⟨hex, hex2⟩ := p_ex_b h9 h2
      obtain ⟨S', g1, g2, g3⟩ := ih (i + 1) fu S (by omega) (by omega) hP h0 hp (fun r' hr' g hg => by
        rw [hb r' hr' g hg]
        constructor
        · rintro (h | ⟨h, j, j1, j2, j3⟩)
          · exact Or.inl h
          · exact Or.inr ⟨h, j, by omega, j2, j3⟩
        · rintro (h | ⟨h, j, j1, j2, j3⟩)
          · exact Or.inl h
          · refine Or.inr ⟨h, j, ?_, j2, j3⟩
            by_cases ej : j = i
            · rw [ej] at j2; omega
            · omega)
      refine ⟨S', ?_, g2, g3⟩
      rw [← g1]
      generalize p_ex (p_op P (p_fi P f + i)) = e at *
      simp (disch := omega) only [e_let, e_call, e_cal0, e_bind, e_lit, e_ofN, e_neg, nI_add, pk_mul, e_sub, e_ldi, e_sti, e_ldj, e_stj, e_le_t, e_le_f, e_lt_t, e_lt_f, e_eq_t, e_eq_f, e_no_eq, e_no_eq', e_no_rfl, e_no_lt, e_no_le, e_le_no, e_lt_no, if_true, if_false, ↓reduceIte, e_rs, e_rq, e_rn, e_ji, e_ki, e_ij, e_kj, e_js, e_jq, e_jn, e_cs, e_cq, e_jc, e_kc, e_js', e_jcq, e_icj, e_kcj, or_true, true_or, or_false, false_or, and_true, true_and, not_true_eq_false, not_false_eq_true, b_X6_tellFilled_7, p3, p4, f_X3_varOfLine, p2, ev, f_X6_pointedBy, hpt, p5, b_X6_tellFilled_69, ei]
theorem d_bg_fs (hW : p_W P) (hf : f < p_fu P) (hi : i < p_ct P f) {r : Nat} : (d_bg (d_of P) f i r = true ↔ d_ow (d_of P) f r = true ∧ d_fs P f r (p_ct P f) = i + 1) ∧ (d_en (d_of P) f i r = true ↔ d_ow (d_of P) f r = true ∧ d_ls P f r (p_ct P f) = i + 1) := by
  have hG := d_G_of hW
  obtain ⟨-, i2, -, i4⟩ := d_fs_ok (P := P) (f := f) (r := r) (p_ct P f)
  refine ⟨(hG.2.2.2.2.2.1 f i r hf hi).trans (and_congr Iff.rfl ?_), (hG.2.2.2.2.2.2.1 f i r hf hi).trans (and_congr Iff.rfl ?_)⟩
  · rw [i2 i]; exact ⟨fun h => ⟨hi, h⟩, fun h => h.2⟩
  · rw [i4 i]; exact ⟨fun h => ⟨hi, h⟩, fun h => h.2⟩
/-- spans of a fun, regions below j -/
def d_Y (S : m_M) (A : Nat) (P : pP) (f j : Nat) : Prop :=
  (∀ r, r < d_z P → ∀ g, g < 32 → (bt (m_ri S (A + 6) r) g = true ↔ (g < f ∧ d_ow (d_of P) g r = true) ∨ (g = f ∧ r < j ∧ d_ow (d_of P) f r = true))) ∧
  (∀ g i, g < p_fu P → i < p_ct P g → (g < f → e_bs (m_ri S (A + 12) (p_fi P g + i)) (d_bg (d_of P) g i) ∧ e_bs (m_ri S (A + 13) (p_fi P g + i)) (d_en (d_of P) g i)) ∧ (f < g → m_ri S (A + 12) (p_fi P g + i) = nI 0 ∧ m_ri S (A + 13) (p_fi P g + i) = nI 0) ∧
    (g = f → ∀ r, r < 32 → (bt (m_ri S (A + 12) (p_fi P g + i)) r = true ↔ r < j ∧ d_bg (d_of P) g i r = true) ∧ (bt (m_ri S (A + 13) (p_fi P g + i)) r = true ↔ r < j ∧ d_en (d_of P) g i r = true))) ∧
  (∀ g r, r < d_z P → g < f ∨ (g = f ∧ r < j) → d_ow (d_of P) g r = true → m_ri S (A + 10) (g * 24 + r) = nI (d_fs P g r (p_ct P g) - 1) ∧ m_ri S (A + 11) (g * 24 + r) = nI (d_ls P g r (p_ct P g) - 1))
theorem p_apart (hW : p_W P) {g h i j : Nat} (hg : g < p_fu P) (hh : h < p_fu P) (hi : i < p_ct P g) (hj : j < p_ct P h) (e : p_fi P g + i = p_fi P h + j) : g = h ∧ i = j := by
  rcases Nat.lt_trichotomy g h with q | q | q
  · have := hW.2.2.2.1 g h q hh; omega
  · subst q; exact ⟨rfl, by omega⟩
  · have := hW.2.2.2.1 h g q hg; omega
theorem k_der60 {K : m_M → Int32 → Option m_M} (hW : p_W P) (hA : A = p + 8) (hf : f < p_fu P) : ∀ (c j fu : Nat) (S : m_M), j + c = d_z P → c < fu → p_R S p P → m_ri S A 0 = nI (d_z P) → (∀ w, w < p_vs P f → e_bs (m_ri S (A + 2) (f * 27 + w)) (d_rc (d_of P) f w)) → e_bs (m_ri S (A + 9) f) (d_ow (d_of P) f) → d_Y S A P f j →
    ∃ S', b_X6_derive_60 A p K fu S (nI f) (nI j) = K S' (nI (f + 1)) ∧ d_Y S' A P f (d_z P) ∧ (∀ q, q ≠ A + 6 → q ≠ A + 10 → q ≠ A + 11 → q ≠ A + 12 → q ≠ A + 13 → m_ri S' q = m_ri S q) ∧ m_rj S' = m_rj S ∧ m_rr S' = m_rr S := by
  have hA' := hA
  subst hA
  have h5 := hW.1
  have h24 := hW.2.1
  have hz := d_z_le hW
  intro c
  induction c with
  | zero =>
    intro j fu S hj hfu hP h0 hv ho hY
    obtain ⟨fu, rfl⟩ : ∃ f, fu = f + 1 := ⟨fu - 1, by omega⟩
    have hj : j = d_z P := hj
    refine ⟨S, ?_, by rw [← hj]; exact hY, fun _ _ _ _ _ _ => rfl, rfl, rfl⟩
    simp (disch := omega) only [e_let, e_call, e_cal0, e_bind, e_lit, e_ofN, e_neg, nI_add, pk_mul, e_sub, e_ldi, e_sti, e_ldj, e_stj, e_le_t, e_le_f, e_lt_t, e_lt_f, e_eq_t, e_eq_f, e_no_eq, e_no_eq', e_no_rfl, e_no_lt, e_no_le, e_le_no, e_lt_no, if_true, if_false, ↓reduceIte, e_rs, e_rq, e_rn, e_ji, e_ki, e_ij, e_kj, e_js, e_jq, e_jn, e_cs, e_cq, e_jc, e_kc, e_js', e_jcq, e_icj, e_kcj, or_true, true_or, or_false, false_or, and_true, true_and, not_true_eq_false, not_false_eq_true, b_X6_derive_60, h0]
  | succ c ih =>
    intro j fu S hj hfu hP h0 hv ho hY
    obtain ⟨fu, rfl⟩ : ∃ f, fu = f + 1 := ⟨fu - 1, by omega⟩
    have hbt := e_bt (x := m_ri S (p + 8 + 9) f) (r := j) (by omega)
    rw [ho j (by omega)] at hbt
    obtain ⟨y1, y2, y3⟩ := hY
    by_cases how : d_ow (d_of P) f j = true
    · rw [how] at hbt
      have hne : ¬ ((m_ri S (p + 8 + 9) f >>> (nI j &&& nI 31)) &&& nI 1 = nI 0) := by rw [hbt]; exact fun h => by cases h
      have hio : f_X6_isOwned (p + 8) S (nI f) (nI j) = some (nI 1, S) := by simp (disch := omega) only [e_let, e_call, e_cal0, e_bind, e_lit, e_ofN, e_neg, nI_add, pk_mul, e_sub, e_ldi, e_sti, e_ldj, e_stj, e_le_t, e_le_f, e_lt_t, e_lt_f, e_eq_t, e_eq_f, e_no_eq, e_no_eq', e_no_rfl, e_no_lt, e_no_le, e_le_no, e_lt_no, if_true, if_false, ↓reduceIte, e_rs, e_rq, e_rn, e_ji, e_ki, e_ij, e_kj, e_js, e_jq, e_jn, e_cs, e_cq, e_jc, e_kc, e_js', e_jcq, e_icj, e_kcj, or_true, true_or, or_false, false_or, and_true, true_and, not_true_eq_false, not_false_eq_true, f_X6_isOwned, hne, b_X6_isOwned_18]
      have kp1 : ∀ q, q ≠ p + 8 + 6 → m_ri (m_si S (p + 8 + 6) j (m_ri S (p + 8 + 6) j ||| (nI 1 <<< (nI f &&& nI 31)))) q = m_ri S q := fun q hq => e_rq hq
      have hP1 : p_R (m_si S (p + 8 + 6) j (m_ri S (p + 8 + 6) j ||| (nI 1 <<< (nI f &&& nI 31)))) p P := by
        simp only [p_R, kp1 p (by omega), kp1 (p + 2) (by omega), kp1 (p + 3) (by omega), kp1 (p + 4) (by omega), kp1 (p + 5) (by omega), kp1 (p + 6) (by omega), kp1 (p + 7) (by omega)]; exact hP
      have hv1 : ∀ w, w < p_vs P f → e_bs (m_ri (m_si S (p + 8 + 6) j (m_ri S (p + 8 + 6) j ||| (nI 1 <<< (nI f &&& nI 31)))) (p + 8 + 2) (f * 27 + w)) (d_rc (d_of P) f w) := by rw [kp1 (p + 8 + 2) (by omega)]; exact hv
      have hsp := k_span (r := j) hW hA' hf (by omega) hP1 hv1 how
      rw [kp1 (p + 8 + 12) (by omega)] at hsp
      have kp13 : m_ri (m_si S (p + 8 + 6) j (m_ri S (p + 8 + 6) j ||| (nI 1 <<< (nI f &&& nI 31)))) (p + 8 + 13) = m_ri S (p + 8 + 13) := kp1 _ (by omega)
      rw [kp13] at hsp
      obtain ⟨q1, q2⟩ := d_fs_pos hW hf how
      obtain ⟨w1, w2⟩ := d_fs_le (P := P) (f := f) (r := j) (p_ct P f)
      generalize hS2 : m_si (m_si (m_si (m_si (m_si S (p + 8 + 6) j (m_ri S (p + 8 + 6) j ||| (nI 1 <<< (nI f &&& nI 31)))) (p + 8 + 12) (p_fi P f + (d_fs P f j (p_ct P f) - 1)) (m_ri S (p + 8 + 12) (p_fi P f + (d_fs P f j (p_ct P f) - 1)) ||| (nI 1 <<< (nI j &&& nI 31)))) (p + 8 + 13) (p_fi P f + (d_ls P f j (p_ct P f) - 1)) (m_ri S (p + 8 + 13) (p_fi P f + (d_ls P f j (p_ct P f) - 1)) ||| (nI 1 <<< (nI j &&& nI 31)))) (p + 8 + 10) (f * 24 + j) (nI (d_fs P f j (p_ct P f) - 1))) (p + 8 + 11) (f * 24 + j) (nI (d_ls P f j (p_ct P f) - 1)) = S2 at *
      have k6 : ∀ r, m_ri S2 (p + 8 + 6) r = if r = j then m_ri S (p + 8 + 6) j ||| (nI 1 <<< (nI f &&& nI 31)) else m_ri S (p + 8 + 6) r := fun r => by rw [← hS2, e_rq (by omega), e_rq (by omega), e_rq (by omega), e_rq (by omega), e_rif]
      have k12 : ∀ l, m_ri S2 (p + 8 + 12) l = if l = p_fi P f + (d_fs P f j (p_ct P f) - 1) then m_ri S (p + 8 + 12) (p_fi P f + (d_fs P f j (p_ct P f) - 1)) ||| (nI 1 <<< (nI j &&& nI 31)) else m_ri S (p + 8 + 12) l := fun l => by rw [← hS2, e_rq (by omega), e_rq (by omega), e_rq (by omega), e_rif, e_rq (by omega)]
      have k13 : ∀ l, m_ri S2 (p + 8 + 13) l = if l = p_fi P f + (d_ls P f j (p_ct P f) - 1) then m_ri S (p + 8 + 13) (p_fi P f + (d_ls P f j (p_ct P f) - 1)) ||| (nI 1 <<< (nI j &&& nI 31)) else m_ri S (p + 8 + 13) l := fun l => by rw [← hS2, e_rq (by omega), e_rq (by omega), e_rif, e_rq (by omega), e_rq (by omega)]
      have k10 : ∀ l, m_ri S2 (p + 8 + 10) l = if l = f * 24 + j then nI (d_fs P f j (p_ct P f) - 1) else m_ri S (p + 8 + 10) l := fun l => by rw [← hS2, e_rq (by omega), e_rif, e_rq (by omega), e_rq (by omega), e_rq (by omega)]
      have k11 : ∀ l, m_ri S2 (p + 8 + 11) l = if l = f * 24 + j then nI (d_ls P f j (p_ct P f) - 1) else m_ri S (p + 8 + 11) l := fun l => by rw [← hS2, e_rif, e_rq (by omega), e_rq (by omega), e_rq (by omega), e_rq (by omega)]
      have kp2 : ∀ q, q ≠ p + 8 + 6 → q ≠ p + 8 + 10 → q ≠ p + 8 + 11 → q ≠ p + 8 + 12 → q ≠ p + 8 + 13 → m_ri S2 q = m_ri S q := fun q a b c d e => by rw [← hS2, e_rq c, e_rq b, e_rq e, e_rq d, e_rq a]
      have hjr : m_rj S2 = m_rj S ∧ m_rr S2 = m_rr S := by rw [← hS2]; exact ⟨rfl, rfl⟩
      have hY2 : d_Y S2 (p + 8) P f (j + 1) := by
        refine ⟨fun r hr g hg => ?_, fun g i hg hi => ⟨fun hgf => ?_, fun hgf => ?_, fun hgf r hr => ?_⟩, fun g r hr hgr how' => ?_⟩
        · rw [k6]
          by_cases e : r = j
          · rw [if_pos e, b_or, Bool.or_eq_true, e_b1 (by omega) hg, decide_eq_true_eq, ← e, y1 r hr g hg]
            constructor
            · rintro ((h | ⟨h1, h2, h3⟩) | h)
              · exact Or.inl h
              · exact Or.inr ⟨h1, by omega, h3⟩
              · exact Or.inr ⟨h.symm, by omega, by rw [e]; exact how⟩
            · rintro (h | ⟨h1, h2, h3⟩)
              · exact Or.inl (Or.inl h)
              · exact Or.inr h1.symm
          · rw [if_neg e, y1 r hr g hg]
            constructor
            · rintro (h | ⟨h1, h2, h3⟩)
              · exact Or.inl h
              · exact Or.inr ⟨h1, by omega, h3⟩
            · rintro (h | ⟨h1, h2, h3⟩)
              · exact Or.inl h
              · exact Or.inr ⟨h1, by omega, h3⟩
        · rw [k12, k13, if_neg (fun e => by have := (p_apart hW hg hf hi (show d_fs P f j (p_ct P f) - 1 < p_ct P f by omega) e).1; omega), if_neg (fun e => by have := (p_apart hW hg hf hi (show d_ls P f j (p_ct P f) - 1 < p_ct P f by omega) e).1; omega)]
          exact (y2 g i hg hi).1 hgf
        · rw [k12, k13, if_neg (fun e => by have := (p_apart hW hg hf hi (show d_fs P f j (p_ct P f) - 1 < p_ct P f by omega) e).1; omega), if_neg (fun e => by have := (p_apart hW hg hf hi (show d_ls P f j (p_ct P f) - 1 < p_ct P f by omega) e).1; omega)]
          exact (y2 g i hg hi).2.1 hgf
        · subst hgf
          obtain ⟨z1, z2⟩ := (y2 g i hg hi).2.2 rfl r hr
          obtain ⟨b1, b2⟩ := d_bg_fs hW hg hi (r := r)
          refine ⟨?_, ?_⟩
          · rw [k12]
            by_cases e : p_fi P g + i = p_fi P g + (d_fs P g j (p_ct P g) - 1)
            · rw [if_pos e, b_or, Bool.or_eq_true, e_b1 (by omega) hr, decide_eq_true_eq, ← e, z1]
              constructor
              · rintro (⟨h1, h2⟩ | h)
                · exact ⟨by omega, h2⟩
                · subst h; exact ⟨by omega, b1.mpr ⟨how, by omega⟩⟩
              · rintro ⟨h1, h2⟩
                by_cases er : r = j
                · exact Or.inr er.symm
                · exact Or.inl ⟨by omega, h2⟩
            · rw [if_neg e, z1]
              constructor
              · rintro ⟨h1, h2⟩; exact ⟨by omega, h2⟩
              · rintro ⟨h1, h2⟩
                refine ⟨?_, h2⟩
                by_cases er : r = j
                · subst er; have := (b1.mp h2).2; omega
                · omega
          · rw [k13]
            by_cases e : p_fi P g + i = p_fi P g + (d_ls P g j (p_ct P g) - 1)
            · rw [if_pos e, b_or, Bool.or_eq_true, e_b1 (by omega) hr, decide_eq_true_eq, ← e, z2]
              constructor
              · rintro (⟨h1, h2⟩ | h)
                · exact ⟨by omega, h2⟩
                · subst h; exact ⟨by omega, b2.mpr ⟨how, by omega⟩⟩
              · rintro ⟨h1, h2⟩
                by_cases er : r = j
                · exact Or.inr er.symm
                · exact Or.inl ⟨by omega, h2⟩
            · rw [if_neg e, z2]
              constructor
              · rintro ⟨h1, h2⟩; exact ⟨by omega, h2⟩
              · rintro ⟨h1, h2⟩
                refine ⟨?_, h2⟩
                by_cases er : r = j
                · subst er; have := (b2.mp h2).2; omega
                · omega
        · rw [k10, k11]
          by_cases e : g = f ∧ r = j
          · rw [e.1, e.2, if_pos rfl, if_pos rfl]; exact ⟨rfl, rfl⟩
          · rw [if_neg (by omega), if_neg (by omega)]; exact y3 g r hr (by omega) how'
      have hP2 : p_R S2 p P := by
        simp only [p_R, kp2 p (by omega) (by omega) (by omega) (by omega) (by omega), kp2 (p + 2) (by omega) (by omega) (by omega) (by omega) (by omega), kp2 (p + 3) (by omega) (by omega) (by omega) (by omega) (by omega), kp2 (p + 4) (by omega) (by omega) (by omega) (by omega) (by omega), kp2 (p + 5) (by omega) (by omega) (by omega) (by omega) (by omega), kp2 (p + 6) (by omega) (by omega) (by omega) (by omega) (by omega), kp2 (p + 7) (by omega) (by omega) (by omega) (by omega) (by omega)]; exact hP
      obtain ⟨S', g1, g2, g3, g4, g5⟩ := ih (j + 1) fu S2 (by omega) (by omega) hP2 (by rw [kp2 (p + 8) (by omega) (by omega) (by omega) (by omega) (by omega)]; exact h0) (by rw [kp2 (p + 8 + 2) (by omega) (by omega) (by omega) (by omega) (by omega)]; exact hv) (by rw [kp2 (p + 8 + 9) (by omega) (by omega) (by omega) (by omega) (by omega)]; exact ho) hY2
      refine ⟨S', ?_, g2, fun q a b c d e => (g3 q a b c d e).trans (kp2 q a b c d e), g4.trans hjr.1, g5.trans hjr.2⟩
      rw [← g1]
      simp (disch := omega) only [e_let, e_call, e_cal0, e_bind, e_lit, e_ofN, e_neg, nI_add, pk_mul, e_sub, e_ldi, e_sti, e_ldj, e_stj, e_le_t, e_le_f, e_lt_t, e_lt_f, e_eq_t, e_eq_f, e_no_eq, e_no_eq', e_no_rfl, e_no_lt, e_no_le, e_le_no, e_lt_no, if_true, if_false, ↓reduceIte, e_rs, e_rq, e_rn, e_ji, e_ki, e_ij, e_kj, e_js, e_jq, e_jn, e_cs, e_cq, e_jc, e_kc, e_js', e_jcq, e_icj, e_kcj, or_true, true_or, or_false, false_or, and_true, true_and, not_true_eq_false, not_false_eq_true, b_X6_derive_60, h0, hio, hsp, b_X6_derive_96]
    · rw [Bool.eq_false_iff.mpr how] at hbt
      have hzz : (m_ri S (p + 8 + 9) f >>> (nI j &&& nI 31)) &&& nI 1 = nI 0 := by rw [hbt]
      have hio : f_X6_isOwned (p + 8) S (nI f) (nI j) = some (nI 0, S) := by simp (disch := omega) only [e_let, e_call, e_cal0, e_bind, e_lit, e_ofN, e_neg, nI_add, pk_mul, e_sub, e_ldi, e_sti, e_ldj, e_stj, e_le_t, e_le_f, e_lt_t, e_lt_f, e_eq_t, e_eq_f, e_no_eq, e_no_eq', e_no_rfl, e_no_lt, e_no_le, e_le_no, e_lt_no, if_true, if_false, ↓reduceIte, e_rs, e_rq, e_rn, e_ji, e_ki, e_ij, e_kj, e_js, e_jq, e_jn, e_cs, e_cq, e_jc, e_kc, e_js', e_jcq, e_icj, e_kcj, or_true, true_or, or_false, false_or, and_true, true_and, not_true_eq_false, not_false_eq_true, f_X6_isOwned, hzz, b_X6_isOwned_18]
      have hY2 : d_Y S (p + 8) P f (j + 1) := by
        refine ⟨fun r hr g hg => ?_, fun g i hg hi => ⟨(y2 g i hg hi).1, (y2 g i hg hi).2.1, fun hgf r hr => ?_⟩, fun g r hr hgr how' => ?_⟩
        · rw [y1 r hr g hg]
          constructor
          · rintro (h | ⟨h1, h2, h3⟩)
            · exact Or.inl h
            · exact Or.inr ⟨h1, by omega, h3⟩
          · rintro (h | ⟨h1, h2, h3⟩)
            · exact Or.inl h
            · refine Or.inr ⟨h1, ?_, h3⟩
              by_cases er : r = j
              · rw [er] at h3; exact absurd h3 how
              · omega
        · obtain ⟨z1, z2⟩ := (y2 g i hg hi).2.2 hgf r hr
          subst hgf
          obtain ⟨b1, b2⟩ := d_bg_fs hW hg hi (r := r)
          refine ⟨z1.trans ⟨fun h => ⟨by omega, h.2⟩, fun h => ⟨?_, h.2⟩⟩, z2.trans ⟨fun h => ⟨by omega, h.2⟩, fun h => ⟨?_, h.2⟩⟩⟩
          · by_cases er : r = j
            · have := (b1.mp h.2).1; rw [er] at this; exact absurd this how
            · omega
          · by_cases er : r = j
            · have := (b2.mp h.2).1; rw [er] at this; exact absurd this how
            · omega
        · refine y3 g r hr ?_ how'
          by_cases e : g = f ∧ r = j
          · rw [e.1, e.2] at how'; exact absurd how' how
          · omega
      obtain ⟨S', g1, g2, g3, g4, g5⟩ := ih (j + 1) fu S (by omega) (by omega) hP h0 hv ho hY2
      refine ⟨S', ?_, g2, g3, g4, g5⟩
      rw [← g1]
      simp (disch := omega) only [e_let, e_call, e_cal0, e_bind, e_lit, e_ofN, e_neg, nI_add, pk_mul, e_sub, e_ldi, e_sti, e_ldj, e_stj, e_le_t, e_le_f, e_lt_t, e_lt_f, e_eq_t, e_eq_f, e_no_eq, e_no_eq', e_no_rfl, e_no_lt, e_no_le, e_le_no, e_lt_no, if_true, if_false, ↓reduceIte, e_rs, e_rq, e_rn, e_ji, e_ki, e_ij, e_kj, e_js, e_jq, e_jn, e_cs, e_cq, e_jc, e_kc, e_js', e_jcq, e_icj, e_kcj, or_true, true_or, or_false, false_or, and_true, true_and, not_true_eq_false, not_false_eq_true, b_X6_derive_60, h0, hio, b_X6_derive_96]
end DE
