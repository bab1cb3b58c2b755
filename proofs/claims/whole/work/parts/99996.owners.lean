/-! owners of a region, whether it is finite: the other side -/
section AO
variable {S T : m_M} {x m a r : Nat} {s : sT} {i j k : Int32} {M : qM} {P : pP}
theorem e_bs_eq {x y : Int32} {b : Nat → Bool} (h : e_bs x b) (h' : e_bs y b) : x = y := b_ext fun i hi => by rw [h i hi, h' i hi]
theorem j_owners (hW : p_W P) (hP : r_P (m_ri T (m + 2)) P) (hF : d_TF T m P (p_fu P)) (hr : r < 24) : ∃ y, f_X12_ownersOf m T (nI r) = some (y, T) ∧ e_bs y (d_owb P (p_fu P) r) := by
  have hfu := m_fu_ge
  have h5 := hW.1
  have h0 := hP.1
  have : ∀ (d f fu : Nat) (y : Int32), f + d = p_fu P → d < fu → e_bs y (d_owb P f r) → ∃ y', b_X12_ownersOf_4 m fu T (nI r) y (nI f) = some (y', T) ∧ e_bs y' (d_owb P (p_fu P) r) := by
    intro d
    induction d with
    | zero =>
      intro f fu y hf hfu hy
      obtain ⟨fu, rfl⟩ : ∃ f, fu = f + 1 := ⟨fu - 1, by omega⟩
      obtain rfl : f = p_fu P := by omega
      refine ⟨y, ?_, hy⟩
      simp (disch := omega) only [e_let, e_call, e_cal0, e_bind, e_lit, e_ofN, e_neg, nI_add, pk_mul, e_sub, e_ldi, e_sti, e_ldj, e_stj, e_le_t, e_le_f, e_lt_t, e_lt_f, e_eq_t, e_eq_f, e_no_eq, e_no_eq', e_no_rfl, e_no_lt, e_no_le, e_le_no, e_lt_no, if_true, if_false, ↓reduceIte, e_rs, e_rq, e_rn, e_ji, e_ki, e_ij, e_kj, e_js, e_jq, e_jn, e_cs, e_cq, e_jc, e_kc, e_js', e_jcq, e_icj, e_kcj, or_true, true_or, or_false, false_or, and_true, true_and, not_true_eq_false, not_false_eq_true, b_X12_ownersOf_4, h0]
    | succ d ih =>
      intro f fu y hf hfu hy
      obtain ⟨fu, rfl⟩ : ∃ f, fu = f + 1 := ⟨fu - 1, by omega⟩
      have ho := (hF.1 f (by omega)).2.1 r (by omega)
      have hh := e_has (T := T) (x := m_ri T (m + 19) f) (r := r) (by omega)
      rw [ho] at hh
      by_cases e : d_ow (d_of P) f r = true
      · rw [if_pos e] at hh
        obtain ⟨y', a1, a2⟩ := ih (f + 1) fu (y ||| (nI 1 <<< (nI f &&& nI 31))) (by omega) (by omega) (fun g hg => by
          rw [b_or, e_b1 (by omega) hg, hy g hg]
          apply Bool.eq_iff_iff.mpr
          simp only [d_owb, Bool.or_eq_true, d_dec_t, decide_eq_true_eq]
          constructor
          · rintro (⟨h1, h2⟩ | h)
            · exact ⟨by omega, h2⟩
            · subst h; exact ⟨by omega, e⟩
          · rintro ⟨h1, h2⟩
            by_cases q : f = g
            · exact Or.inr q
            · exact Or.inl ⟨by omega, h2⟩)
        refine ⟨y', ?_, a2⟩
        rw [← a1]
        simp (disch := omega) only [e_let, e_call, e_cal0, e_bind, e_lit, e_ofN, e_neg, nI_add, pk_mul, e_sub, e_ldi, e_sti, e_ldj, e_stj, e_le_t, e_le_f, e_lt_t, e_lt_f, e_eq_t, e_eq_f, e_no_eq, e_no_eq', e_no_rfl, e_no_lt, e_no_le, e_le_no, e_lt_no, if_true, if_false, ↓reduceIte, e_rs, e_rq, e_rn, e_ji, e_ki, e_ij, e_kj, e_js, e_jq, e_jn, e_cs, e_cq, e_jc, e_kc, e_js', e_jcq, e_icj, e_kcj, or_true, true_or, or_false, false_or, and_true, true_and, not_true_eq_false, not_false_eq_true, b_X12_ownersOf_4, b_X12_ownersOf_33, h0, hh]
      · rw [if_neg e] at hh
        obtain ⟨y', a1, a2⟩ := ih (f + 1) fu y (by omega) (by omega) (fun g hg => by
          rw [hy g hg]
          apply Bool.eq_iff_iff.mpr
          simp only [d_owb, d_dec_t]
          constructor
          · rintro ⟨h1, h2⟩; exact ⟨by omega, h2⟩
          · rintro ⟨h1, h2⟩
            by_cases q : f = g
            · subst q; exact absurd h2 e
            · exact ⟨by omega, h2⟩)
        refine ⟨y', ?_, a2⟩
        rw [← a1]
        simp (disch := omega) only [e_let, e_call, e_cal0, e_bind, e_lit, e_ofN, e_neg, nI_add, pk_mul, e_sub, e_ldi, e_sti, e_ldj, e_stj, e_le_t, e_le_f, e_lt_t, e_lt_f, e_eq_t, e_eq_f, e_no_eq, e_no_eq', e_no_rfl, e_no_lt, e_no_le, e_le_no, e_lt_no, if_true, if_false, ↓reduceIte, e_rs, e_rq, e_rn, e_ji, e_ki, e_ij, e_kj, e_js, e_jq, e_jn, e_cs, e_cq, e_jc, e_kc, e_js', e_jcq, e_icj, e_kcj, or_true, true_or, or_false, false_or, and_true, true_and, not_true_eq_false, not_false_eq_true, b_X12_ownersOf_4, b_X12_ownersOf_33, h0, hh]
  exact this (p_fu P) 0 m_fu (nI 0) (by omega) (by omega) (fun g hg => by
    rw [show bt (nI 0) g = false from b_0 g]
    symm
    apply Bool.eq_false_iff.mpr
    simp only [d_owb, ne_eq, d_dec_t]
    rintro ⟨h, _⟩; omega)
/-- how many bits, one by one -/
def e_bl : Nat → Int32 → Int32 → Option Int32
  | 0, _, _ => none
  | n + 1, a, b => if b = 0 then some a else e_bl n (a + 1) (b &&& (b - 1))
theorem e_bl_S : ∀ (n : Nat) (a b : Int32), b_X12_bits_4 n S a b = (e_bl n a b).map (fun v => (v, S)) := by
  intro n
  induction n with
  | zero => intro a b; rfl
  | succ n ih =>
    intro a b
    rw [b_X12_bits_4, e_bl]
    by_cases h : b = 0
    · rw [if_pos h, if_pos h]; rfl
    · rw [if_neg h, if_neg h, e_let, e_let, ih]
theorem e_bl_m {v : Int32} (k : Nat) : ∀ (n : Nat) (a b : Int32), e_bl n a b = some v → e_bl (n + k) a b = some v := by
  intro n
  induction n with
  | zero => intro a b h; cases h
  | succ n ih =>
    intro a b h
    rw [show n + 1 + k = (n + k) + 1 by omega, e_bl]
    rw [e_bl] at h
    by_cases e : b = 0
    · rw [if_pos e] at h ⊢; exact h
    · rw [if_neg e] at h ⊢; exact ih _ _ h
theorem j_bits {n : Nat} (h : n < 32) : f_X12_bits T (nI n) = some (nI (e_pc n), T) := by
  have key : ∀ n, n < 32 → e_bl 6 0 (nI n) = some (nI (e_pc n)) := by decide +kernel
  have h2 := e_bl_m 99994 6 0 (nI n) (key n h)
  rw [f_X12_bits, e_bl_S, show m_fu = 6 + 99994 from rfl, h2]; rfl
theorem d_flb_5 (h5 : p_fu P ≤ 5) {c g : Nat} (hc : c ≤ p_fu P) (h : 5 ≤ g) : d_flb P c r g = false := by
  apply Bool.eq_false_iff.mpr
  simp only [d_flb, ne_eq, d_dec_t]
  rintro ⟨h, _⟩; omega
theorem j_isFinite (hW : p_W P) (hP : r_P (m_ri T (m + 2)) P) (hD : d_TX T m P) (hr : r < d_z P) : f_X12_isFinite m T (nI r) = some (nI (if d_dec (d_fin P r) = true then 1 else 0), T) := by
  have h5 := hW.1
  have hz := d_z_le hW
  have h1 : 1 ≤ p_fu P := by
    rcases Nat.eq_zero_or_pos (p_fu P) with h | h
    · have := d_z_0 h; omega
    · exact h
  have ho := j_isOuter (hD.C hW hP) h1 (show r < 32 by omega)
  by_cases e1 : d_ou (d_of P) (p_fu P - 1) r = true
  · rw [if_pos e1] at ho
    rw [if_neg (by rw [d_dec_t]; rintro ⟨h, _⟩; rw [h] at e1; cases e1), f_X12_isFinite, ho, e_call, if_neg (by decide)]
    rfl
  · rw [if_neg e1] at ho
    have e1' : d_ou (d_of P) (p_fu P - 1) r = false := Bool.eq_false_iff.mpr e1
    have hb := hD.2.2.2 r hr
    obtain ⟨n, hn, hw⟩ := e_five (x := m_ri T (m + 22) r) (fun g h1 h2 => by rw [hb g h2]; exact d_flb_5 h5 (Nat.le_refl _) h1)
    have hpc : e_pc n = fb_ct (d_flb P (p_fu P) r) 5 := fb_ct_cong fun g hg => by rw [← hw]; exact hb g (by omega)
    have hbt := j_bits (T := T) hn
    have hpl : e_pc n ≤ 5 := fb_ct_le _ _
    rw [f_X12_isFinite, ho, e_call, if_pos (show nI 0 = (0 : Int32) from rfl), e_ldi (by omega) (by omega), e_bind, hw, hbt, e_call]
    by_cases e2 : e_pc n = 1
    · obtain ⟨y, y1, y2⟩ := j_owners hW hP hD.2.2 (show r < 24 by omega)
      rw [e2, if_pos (show nI 1 = (1 : Int32) from rfl), y1, e_call, e_ldi (by omega) (by omega), e_bind]
      by_cases e3 : ∃ f, f < p_fu P ∧ d_fil1 P f r ∧ d_ow (d_of P) f r = true
      · rw [if_pos (show d_dec (d_fin P r) = true by rw [d_dec_t]; exact ⟨e1', by rw [← hpc]; exact e2, e3⟩)]
        obtain ⟨f, f1, f2, f3⟩ := e3
        have hne : ¬ (y &&& m_ri T (m + 22) r) = 0 := fun q => by
          have h := b_and y (m_ri T (m + 22) r) f
          rw [q, b_0, y2 f (by omega), hb f (by omega)] at h
          have a1 : d_owb P (p_fu P) r f = true := d_dec_t.mpr ⟨f1, f3⟩
          have a2 : d_flb P (p_fu P) r f = true := d_dec_t.mpr ⟨f1, f2⟩
          rw [a1, a2] at h; cases h
        rw [if_neg hne]; rfl
      · rw [if_neg (show ¬ d_dec (d_fin P r) = true by rw [d_dec_t]; rintro ⟨_, _, h⟩; exact e3 h)]
        have heq : (y &&& m_ri T (m + 22) r) = 0 := b_ext fun g hg => by
          rw [b_and, b_0, y2 g hg, hb g hg]
          apply Bool.eq_false_iff.mpr
          simp only [d_owb, d_flb, ne_eq, Bool.and_eq_true, d_dec_t]
          rintro ⟨⟨h1, h2⟩, _, h3⟩
          exact e3 ⟨g, h1, h3, h2⟩
        rw [if_pos heq]; rfl
    · rw [if_neg (show ¬ d_dec (d_fin P r) = true by rw [d_dec_t]; rintro ⟨_, h, _⟩; exact e2 (by rw [hpc]; exact h)), if_neg (show ¬ nI (e_pc n) = (1 : Int32) from fun q => (e_eq_f (a := e_pc n) (b := 1) e2 (by omega) (by omega)).mp q)]
      rfl
theorem k_isFinite {A : Nat} (hX : d_XX S A P) (hr : r < d_z P) (hz : d_z P ≤ 24) : f_X6_isFinite A S (nI r) = some (nI (if d_dec (d_fin P r) = true then 1 else 0), S) := by
  have h := hX.2.2.2 r (by omega)
  have hb := e_bt (x := m_ri S A 1) (r := r) (by omega)
  by_cases e : d_fin P r
  · rw [if_pos (d_dec_t.mpr e), f_X6_isFinite, if_neg (show ¬ ((m_ri S A 1 >>> (nI r &&& 31)) &&& (1 : Int32)) = 0 from fun q => by
      have := hb.mp q
      rw [h.mpr ⟨hr, e⟩] at this; cases this)]; rfl
  · rw [if_neg (fun q => e (d_dec_t.mp q)), f_X6_isFinite, if_pos (show ((m_ri S A 1 >>> (nI r &&& 31)) &&& (1 : Int32)) = 0 from hb.mpr (Bool.eq_false_iff.mpr fun q => e (h.mp q).2))]; rfl
theorem k_isOwned {A f : Nat} (hX : d_XX S A P) (h5 : p_fu P ≤ 5) (hf : f < p_fu P) (hr : r < 32) : f_X6_isOwned A S (nI f) (nI r) = some (nI (if d_ow (d_of P) f r = true then 1 else 0), S) := by
  have h := (hX.2.2.1.2.1 f hf).2 r hr
  have hb := e_bt (x := m_ri S (A + 9) f) hr
  rw [f_X6_isOwned, e_ldi (by omega) (by omega), e_bind]
  by_cases e : d_ow (d_of P) f r = true
  · rw [if_pos e, if_neg (show ¬ ((m_ri S (A + 9) f >>> (nI r &&& 31)) &&& (1 : Int32)) = 0 from fun q => by
      have := hb.mp q
      rw [h, e] at this; cases this)]; rfl
  · rw [if_neg e, if_pos (show ((m_ri S (A + 9) f >>> (nI r &&& 31)) &&& (1 : Int32)) = 0 from hb.mpr (by rw [h]; exact Bool.eq_false_iff.mpr e))]; rfl
end AO
