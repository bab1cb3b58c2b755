/-! the other side: what ends with a line goes away, a value is given further -/
section RM
variable {T : m_M} {m z : Nat} {P : pP} {D : pD} {M : qM} {f i : Nat}
theorem e_bt1 {x : Int32} {r : Nat} (h : r < 32) : ((x >>> (nI r &&& nI 31)) &&& nI 1 = nI 1) = (bt x r = true) := by
  have h1 := b_sshr r h x (i := 0) (by omega)
  rw [Nat.add_zero, if_pos h] at h1
  have hb1 : ∀ i, i < 32 → bt (nI 1) i = decide (i = 0) := by decide +kernel
  apply propext
  constructor
  · intro h2
    have h3 := congrArg (fun y => bt y 0) h2
    simp only [b_and] at h3
    rw [show (nI 31 : Int32) = 31 from rfl, h1, hb1 0 (by omega)] at h3
    simpa using h3
  · intro h2
    apply b_ext
    intro i hi
    rw [b_and, hb1 i hi]
    by_cases h0 : i = 0
    · subst h0
      rw [show (nI 31 : Int32) = 31 from rfl, h1, h2]; rfl
    · simp only [h0, decide_false, Bool.and_false]
theorem j_has {x : Int32} {r : Nat} (h : r < 32) : f_X12_has T x (nI r) = some (nI (if bt x r = true then 1 else 0), T) := by
  by_cases hb : bt x r = true
  · simp (disch := omega) only [e_let, e_call, e_cal0, e_bind, e_lit, e_ofN, e_neg, nI_add, pk_mul, e_sub, e_ldi, e_sti, e_ldj, e_stj, e_le_t, e_le_f, e_lt_t, e_lt_f, e_eq_t, e_eq_f, e_no_eq, e_no_eq', e_no_rfl, e_no_lt, e_no_le, e_le_no, e_lt_no, if_true, if_false, ↓reduceIte, e_rs, e_rq, e_rn, e_ji, e_ki, e_ij, e_kj, e_js, e_jq, e_jn, e_cs, e_cq, e_jc, e_kc, e_js', e_jcq, e_icj, e_kcj, or_true, true_or, or_false, false_or, and_true, true_and, not_true_eq_false, not_false_eq_true, f_X12_has, e_bt1, hb, b_X12_has_14]
  · simp (disch := omega) only [e_let, e_call, e_cal0, e_bind, e_lit, e_ofN, e_neg, nI_add, pk_mul, e_sub, e_ldi, e_sti, e_ldj, e_stj, e_le_t, e_le_f, e_lt_t, e_lt_f, e_eq_t, e_eq_f, e_no_eq, e_no_eq', e_no_rfl, e_no_lt, e_no_le, e_le_no, e_lt_no, if_true, if_false, ↓reduceIte, e_rs, e_rq, e_rn, e_ji, e_ki, e_ij, e_kj, e_js, e_jq, e_jn, e_cs, e_cq, e_jc, e_kc, e_js', e_jcq, e_icj, e_kcj, or_true, true_or, or_false, false_or, and_true, true_and, not_true_eq_false, not_false_eq_true, f_X12_has, e_bt1, hb, b_X12_has_14, Bool.false_eq_true]
theorem q_B.clr {k w : Nat} {e : Nat → Bool} (h : q_B P M) : q_B P (q_clr D M k f e w) := by
  obtain ⟨a1, a2, a3, a4, a5, a6, a7, a8, a9, a10, a11, a12, a13, a14, a15, a16, a17⟩ := h
  refine ⟨a1, a2, a3, a4, fun k' hk => ⟨(a5 k' hk).1, (a5 k' hk).2.1, fun v' => ?_⟩, a6, a7, a8, a9, a10, a11, a12, a13, a14, a15, a16, a17⟩
  show va_up (q_kd M) k _ k' v' ≤ 2
  by_cases hk' : k' = k
  · subst hk'; rw [va_up_self]; split
    · omega
    · exact (a5 k' hk).2.2 v'
  · rw [va_up_ne _ _ hk']; exact (a5 k' hk).2.2 v'
def q_one (r x : Nat) : Bool := decide (x = r)
theorem q_hit_one {r v : Nat} (hr : r < 24) : q_hit D (q_one r) f v = d_rc D f v r := by
  simp only [q_hit, q_one]
  rw [Bool.eq_iff_iff, List.any_eq_true]
  constructor
  · rintro ⟨x, -, h⟩
    rw [Bool.and_eq_true, decide_eq_true_eq] at h
    rw [← h.2]; exact h.1
  · intro h; exact ⟨r, List.mem_range.mpr hr, by rw [h]; simp⟩
theorem q_hit_or {e1 e2 : Nat → Bool} {v : Nat} : q_hit D (fun x => e1 x || e2 x) f v = (q_hit D e1 f v || q_hit D e2 f v) := by
  simp only [q_hit]
  rw [Bool.eq_iff_iff, Bool.or_eq_true, List.any_eq_true, List.any_eq_true, List.any_eq_true]
  constructor
  · rintro ⟨x, hx, h⟩
    rw [Bool.and_eq_true, Bool.or_eq_true] at h
    rcases h.2 with h2 | h2
    · exact Or.inl ⟨x, hx, by rw [h.1, h2]; rfl⟩
    · exact Or.inr ⟨x, hx, by rw [h.1, h2]; rfl⟩
  · rintro (⟨x, hx, h⟩ | ⟨x, hx, h⟩)
    · rw [Bool.and_eq_true] at h; exact ⟨x, hx, by rw [h.1, h.2]; rfl⟩
    · rw [Bool.and_eq_true] at h; exact ⟨x, hx, by rw [h.1, h.2]; simp⟩
theorem q_clr_clr {k w : Nat} {e1 e2 : Nat → Bool} : q_clr D (q_clr D M k f e1 w) k f e2 w = q_clr D M k f (fun x => e1 x || e2 x) w := by
  have h1 : (fun v => if v < w ∧ q_hit D e2 f v = true then 0 else if v < w ∧ q_hit D e1 f v = true then 0 else q_kd M k v) = fun v => if v < w ∧ q_hit D (fun x => e1 x || e2 x) f v = true then 0 else q_kd M k v := by
    funext v; rw [q_hit_or]
    cases q_hit D e1 f v <;> cases q_hit D e2 f v <;> by_cases hv : v < w <;> simp [hv]
  have h2 : (fun v => if v < w ∧ q_hit D e2 f v = true then nI 0 else if v < w ∧ q_hit D e1 f v = true then nI 0 else q_vl M k v) = fun v => if v < w ∧ q_hit D (fun x => e1 x || e2 x) f v = true then nI 0 else q_vl M k v := by
    funext v; rw [q_hit_or]
    cases q_hit D e1 f v <;> cases q_hit D e2 f v <;> by_cases hv : v < w <;> simp [hv]
  simp only [q_kd] at h1
  simp only [q_vl] at h2
  simp only [q_clr, q_sc, q_ff, q_fl, q_kd, q_vl, q_F, q_ce, q_sk, q_sv, q_gv, va_up_self, q_up2, h1, h2]
theorem q_frs_clr {k w n : Nat} {e e' : Nat → Bool} : ∀ (d r : Nat) (M : qM), q_frs e n d r (q_clr D M k f e' w) = q_clr D (q_frs e n d r M) k f e' w := by
  intro d
  induction d with
  | zero => intro r M; rfl
  | succ d ih =>
    intro r M
    simp only [q_frs]
    by_cases hc : e r = true
    · rw [if_pos hc, if_pos hc, ← ih]; rfl
    · rw [if_neg hc, if_neg hc, ih]
/-- rooms go one by one, each with the values that reach it -/
def q_frz (D : pD) (e : Nat → Bool) (n k f w : Nat) : Nat → Nat → qM → qM
  | 0, _, M => M
  | d + 1, r, M => q_frz D e n k f w d (r + 1) (if e r = true then q_clr D (q_fr1 M (n, r)) k f (q_one r) w else M)
theorem q_clr_none {k w : Nat} {e : Nat → Bool} (he : ∀ v, q_hit D e f v = false) : q_clr D M k f e w = M := by
  have h1 : va_up (q_kd M) k (fun v => if v < w ∧ q_hit D e f v = true then 0 else q_kd M k v) = q_kd M := by
    funext j; by_cases h : j = k
    · subst h; rw [va_up_self]; funext v; rw [he v, if_neg (by rintro ⟨-, h⟩; cases h)]
    · rw [va_up_ne _ _ h]
  have h2 : va_up (q_vl M) k (fun v => if v < w ∧ q_hit D e f v = true then nI 0 else q_vl M k v) = q_vl M := by
    funext j; by_cases h : j = k
    · subst h; rw [va_up_self]; funext v; rw [he v, if_neg (by rintro ⟨-, h⟩; cases h)]
    · rw [va_up_ne _ _ h]
  simp only [q_clr, h1, h2]; rfl
theorem q_hit_false {e : Nat → Bool} {v : Nat} (he : ∀ r, e r = false) : q_hit D e f v = false := by
  simp only [q_hit]
  rw [Bool.eq_false_iff]
  intro h
  rw [List.any_eq_true] at h
  obtain ⟨x, -, h⟩ := h
  rw [he x, Bool.and_false] at h
  cases h
theorem q_frz_eq {e : Nat → Bool} {n k w : Nat} : ∀ (d r : Nat) (M : qM), q_frz D e n k f w d r M = q_clr D (q_frs e n d r M) k f (fun x => e x && decide (r ≤ x ∧ x < r + d)) w := by
  intro d
  induction d with
  | zero => intro r M; exact (q_clr_none (fun v => q_hit_false (fun x => by rw [decide_eq_false (by omega), Bool.and_false]))).symm
  | succ d ih =>
    intro r M
    simp only [q_frz, q_frs]
    rw [ih]
    by_cases hc : e r = true
    · rw [if_pos hc, if_pos hc, q_frs_clr, q_clr_clr]
      congr 1
      funext x
      simp only [q_one]
      by_cases hx : x = r
      · subst hx; rw [hc, decide_eq_true rfl, decide_eq_true (show x ≤ x ∧ x < x + (d + 1) by omega)]; rfl
      · rw [decide_eq_false hx, Bool.false_or]
        congr 1
        exact decide_eq_decide.mpr (by omega)
    · rw [if_neg hc, if_neg hc]
      congr 1
      funext x
      by_cases hx : x = r
      · subst hx; rw [Bool.eq_false_iff.mpr hc]; rfl
      · congr 1
        exact decide_eq_decide.mpr (by omega)
theorem q_frz_z {e : Nat → Bool} {n k w : Nat} : ∀ (d r d' : Nat) (M : qM), (∀ x, r + d ≤ x → e x = false) → q_frz D e n k f w (d + d') r M = q_frz D e n k f w d r M := by
  intro d
  induction d with
  | zero =>
    intro r d'
    induction d' generalizing r with
    | zero => intro M _; rfl
    | succ d' ih =>
      intro M he
      rw [show 0 + (d' + 1) = (0 + d') + 1 by omega]
      simp only [q_frz]
      rw [he r (by omega), if_neg (by decide)]
      exact ih (r + 1) M (fun x hx => he x (by omega))
  | succ d ih =>
    intro r d' M he
    rw [show d + 1 + d' = (d + d') + 1 by omega]
    simp only [q_frz]
    exact ih (r + 1) d' _ (fun x hx => he x (by omega))
theorem j_clr {k r : Nat} {K : m_M → Int32 → Int32 → Int32 → Option m_M} (hf0 : f < p_fu P) (hk : k < 12) (hr : r < 24) : ∀ (d w fu : Nat) (T : m_M), w + d = p_vs P f → d < fu → r_C T m P D z → r_R (m_ri T (m + 2)) (q_clr D M k f (q_one r) w) →
    ∃ T', b_X12_frees_57 m K fu T (nI k) (nI f) (nI r) (nI w) = b_X12_frees_105 m K T' (nI k) (nI f) (nI r) ∧ r_R (m_ri T' (m + 2)) (q_clr D M k f (q_one r) (p_vs P f)) ∧ r_O m T T' := by
  intro d
  induction d with
  | zero =>
    intro w fu T hw hf C hM
    have hw : w = p_vs P f := hw
    subst hw
    obtain ⟨fu, rfl⟩ : ∃ f, fu = f + 1 := ⟨fu - 1, by omega⟩
    have h3 := C.2.1.2.2.1 f hf0
    have hb27 := C.1.2.2.1 f hf0
    have hl24 := C.1.2.1
    have hf5 := C.1.1
    have hvs : p_vs P f = p_pa P f + p_ct P f := rfl
    refine ⟨T, ?_, hM, r_O.rf⟩
    simp (disch := omega) only [e_let, e_call, e_cal0, e_bind, e_lit, e_ofN, e_neg, nI_add, pk_mul, e_sub, e_ldi, e_sti, e_ldj, e_stj, e_le_t, e_le_f, e_lt_t, e_lt_f, e_eq_t, e_eq_f, e_no_eq, e_no_eq', e_no_rfl, e_no_lt, e_no_le, e_le_no, e_lt_no, if_true, if_false, ↓reduceIte, e_rs, e_rq, e_rn, e_ji, e_ki, e_ij, e_kj, e_js, e_jq, e_jn, e_cs, e_cq, e_jc, e_kc, e_js', e_jcq, e_icj, e_kcj, or_true, true_or, or_false, false_or, and_true, true_and, not_true_eq_false, not_false_eq_true, b_X12_frees_57, f_X12_varsOf, h3.1, h3.2.2]
  | succ d ih =>
    intro w fu T hw hf C hM
    obtain ⟨fu, rfl⟩ : ∃ f, fu = f + 1 := ⟨fu - 1, by omega⟩
    have h3 := C.2.1.2.2.1 f hf0
    have hb27 := C.1.2.2.1 f hf0
    have hl24 := C.1.2.1
    have hf5 := C.1.1
    have hvs : p_vs P f = p_pa P f + p_ct P f := rfl
    have hrc := C.2.2.1.2.2.2.1 f w r hf0 (by omega) (by omega)
    have hhas := j_has (T := T) (x := m_ri T (m + 16) (27 * f + w)) (r := r) (by omega)
    rw [hrc] at hhas
    have hcs := q_clr_s (D := D) (M := M) (k := k) (f := f) (w := w) (e := q_one r)
    rw [q_hit_one hr] at hcs
    by_cases hh : d_rc D f w r = true
    · rw [if_pos hh] at hcs hhas
      have hR := hM.var (kk := k) (w := w) (x := 0) (y := nI 0) hk (by omega)
      rw [← hcs] at hR
      have hO : r_O m T (m_si (m_si T (m + 2) (245 + (27 * k + w)) (nI 0)) (m + 2) (569 + (27 * k + w)) (nI 0)) := (r_O.rf.now (by omega) (by omega)).now (by omega) (by omega)
      obtain ⟨T', g1, g2, g3⟩ := ih (w + 1) fu _ (by omega) (by omega) (C.kept hO) (by rw [e_row, e_row]; exact hR)
      refine ⟨T', ?_, g2, hO.tr g3⟩
      rw [← g1]
      simp (disch := omega) only [e_let, e_call, e_cal0, e_bind, e_lit, e_ofN, e_neg, nI_add, pk_mul, e_sub, e_ldi, e_sti, e_ldj, e_stj, e_le_t, e_le_f, e_lt_t, e_lt_f, e_eq_t, e_eq_f, e_no_eq, e_no_eq', e_no_rfl, e_no_lt, e_no_le, e_le_no, e_lt_no, if_true, if_false, ↓reduceIte, e_rs, e_rq, e_rn, e_ji, e_ki, e_ij, e_kj, e_js, e_jq, e_jn, e_cs, e_cq, e_jc, e_kc, e_js', e_jcq, e_icj, e_kcj, or_true, true_or, or_false, false_or, and_true, true_and, not_true_eq_false, not_false_eq_true, b_X12_frees_57, f_X12_varsOf, h3.1, h3.2.2, f_X12_node, hhas, f_X12_setVar, f_X12_slot, b_X12_frees_99]
    · rw [if_neg hh] at hcs hhas
      rw [← hcs] at hM
      obtain ⟨T', g1, g2, g3⟩ := ih (w + 1) fu _ (by omega) (by omega) C hM
      refine ⟨T', ?_, g2, g3⟩
      rw [← g1]
      simp (disch := omega) only [e_let, e_call, e_cal0, e_bind, e_lit, e_ofN, e_neg, nI_add, pk_mul, e_sub, e_ldi, e_sti, e_ldj, e_stj, e_le_t, e_le_f, e_lt_t, e_lt_f, e_eq_t, e_eq_f, e_no_eq, e_no_eq', e_no_rfl, e_no_lt, e_no_le, e_le_no, e_lt_no, if_true, if_false, ↓reduceIte, e_rs, e_rq, e_rn, e_ji, e_ki, e_ij, e_kj, e_js, e_jq, e_jn, e_cs, e_cq, e_jc, e_kc, e_js', e_jcq, e_icj, e_kcj, or_true, true_or, or_false, false_or, and_true, true_and, not_true_eq_false, not_false_eq_true, b_X12_frees_57, f_X12_varsOf, h3.1, h3.2.2, f_X12_node, hhas, b_X12_frees_99]
theorem q_fr1_sc {x : Nat × Nat} {j : Nat} (h : j ≠ 4) : q_sc (q_fr1 M x) j = q_sc M j := va_up_ne (q_sc M) (fb_ct (fun c => (if q_ce M c = some x then none else q_ce M c).isSome) 200) h
theorem j_freesl {k n : Nat} (hf0 : f < p_fu P) (hi : i < p_ct P f) (hk : k < 12) : ∀ (d r fu : Nat) (T : m_M) (M : qM), r + d = z → d < fu → r_C T m P D z → r_R (m_ri T (m + 2)) M → q_B P M → k < q_sc M 2 → q_fl M k = i → (∀ y, y ∈ q_F M → y.1 ≤ n) → (∀ r', r ≤ r' → r' < 24 → d_en D f i r' = true → (n, r') ∈ q_F M) →
    ∃ T', b_X12_frees_8 m fu T (nI k) (nI f) (nI r) = some T' ∧ r_R (m_ri T' (m + 2)) (q_frz D (d_en D f i) n k f (p_vs P f) d r M) ∧ r_O m T T' := by
  intro d
  induction d with
  | zero =>
    intro r fu T M hr hf C hM hB _ _ _ _
    have hr : r = z := hr
    subst hr
    obtain ⟨fu, rfl⟩ : ∃ f, fu = f + 1 := ⟨fu - 1, by omega⟩
    have hz := C.2.2.1.1
    have h2 := C.2.2.1.2.1
    refine ⟨T, ?_, hM, r_O.rf⟩
    simp (disch := omega) only [e_let, e_call, e_cal0, e_bind, e_lit, e_ofN, e_neg, nI_add, pk_mul, e_sub, e_ldi, e_sti, e_ldj, e_stj, e_le_t, e_le_f, e_lt_t, e_lt_f, e_eq_t, e_eq_f, e_no_eq, e_no_eq', e_no_rfl, e_no_lt, e_no_le, e_le_no, e_lt_no, if_true, if_false, ↓reduceIte, e_rs, e_rq, e_rn, e_ji, e_ki, e_ij, e_kj, e_js, e_jq, e_jn, e_cs, e_cq, e_jc, e_kc, e_js', e_jcq, e_icj, e_kcj, or_true, true_or, or_false, false_or, and_true, true_and, not_true_eq_false, not_false_eq_true, b_X12_frees_8, h2]
  | succ d ih =>
    intro r fu T M hr hf C hM hB hkn hfl hlev he
    obtain ⟨fu, rfl⟩ : ∃ f, fu = f + 1 := ⟨fu - 1, by omega⟩
    have hfu := m_fu_ge
    have hz := C.2.2.1.1
    have h2 := C.2.2.1.2.1
    have hf5 := C.1.1
    have hl := C.1.line hf0 hi
    obtain ⟨o, o1, o2, o3⟩ := C.2.2.1.2.2.2.2.2.1 f r hf0 (by omega)
    have o3 := o3 i hi
    have hline := hM.2.2.2.2.2.2.2.2.2.2.2.2.1 k hkn hk
    rw [hfl] at hline
    by_cases hq : o = i + 1
    · have he' := o3.mp hq
      rw [hq, nO_s] at o2
      have hx := he r (by omega) (by omega) he'
      have hlt : f_X12_latestRoom m T (nI r) = _ := j_latest (x := (n, r)) hM hB hx (fun y hy _ => hlev y hy)
      obtain ⟨T1, f1, f2, f3⟩ := j_free1 hM hB hx
      have f2' : r_R (m_ri T1 (m + 2)) (q_clr D (q_fr1 M (n, r)) k f (q_one r) 0) := by rw [q_clr_0]; exact f2
      obtain ⟨T2, c1, c2, c3⟩ := j_clr (K := b_X12_frees_8 m fu) hf0 hk (show r < 24 by omega) (p_vs P f) 0 m_fu T1 (by omega) (by have : p_vs P f = p_pa P f + p_ct P f := rfl; omega) (C.kept f3) f2'
      have hO := f3.tr c3
      obtain ⟨T', g1, g2, g3⟩ := ih (r + 1) fu T2 _ (by omega) (by omega) (C.kept hO) c2 hB.fr1.clr (show k < q_sc (q_fr1 M (n, r)) 2 by rw [q_fr1_sc (by omega)]; exact hkn) hfl (fun y hy => hlev y (List.mem_filter.mp hy).1) (fun r' h1 h2 h3 => List.mem_filter.mpr ⟨he r' (by omega) h2 h3, decide_eq_true (fun q => by have := congrArg Prod.snd q; simp at this; omega)⟩)
      refine ⟨T', ?_, ?_, hO.tr g3⟩
      · simp (disch := omega) only [e_let, e_call, e_cal0, e_bind, e_lit, e_ofN, e_neg, nI_add, pk_mul, e_sub, e_ldi, e_sti, e_ldj, e_stj, e_le_t, e_le_f, e_lt_t, e_lt_f, e_eq_t, e_eq_f, e_no_eq, e_no_eq', e_no_rfl, e_no_lt, e_no_le, e_le_no, e_lt_no, if_true, if_false, ↓reduceIte, e_rs, e_rq, e_rn, e_ji, e_ki, e_ij, e_kj, e_js, e_jq, e_jn, e_cs, e_cq, e_jc, e_kc, e_js', e_jcq, e_icj, e_kcj, or_true, true_or, or_false, false_or, and_true, true_and, not_true_eq_false, not_false_eq_true, b_X12_frees_8, h2, o2, hline, hlt, f1]
        rw [c1]
        simp (disch := omega) only [e_let, e_call, e_cal0, e_bind, e_lit, e_ofN, e_neg, nI_add, pk_mul, e_sub, e_ldi, e_sti, e_ldj, e_stj, e_le_t, e_le_f, e_lt_t, e_lt_f, e_eq_t, e_eq_f, e_no_eq, e_no_eq', e_no_rfl, e_no_lt, e_no_le, e_le_no, e_lt_no, if_true, if_false, ↓reduceIte, e_rs, e_rq, e_rn, e_ji, e_ki, e_ij, e_kj, e_js, e_jq, e_jn, e_cs, e_cq, e_jc, e_kc, e_js', e_jcq, e_icj, e_kcj, or_true, true_or, or_false, false_or, and_true, true_and, not_true_eq_false, not_false_eq_true, b_X12_frees_105]
        exact g1
      · simp only [q_frz, he', if_true]; exact g2
    · have he' : d_en D f i r = false := Bool.eq_false_iff.mpr (fun h => hq (o3.mpr h))
      have hne : ¬ m_ri T (m + 21) (24 * f + r) = nI i := by
        rw [o2]
        intro h
        rw [← nO_s] at h
        exact hq (nO_inj (by omega) (by omega) h)
      obtain ⟨T', g1, g2, g3⟩ := ih (r + 1) fu T M (by omega) (by omega) C hM hB hkn hfl hlev (fun r' h1 h2 h3 => he r' (by omega) h2 h3)
      refine ⟨T', ?_, ?_, g3⟩
      · rw [← g1]
        simp (disch := omega) only [e_let, e_call, e_cal0, e_bind, e_lit, e_ofN, e_neg, nI_add, pk_mul, e_sub, e_ldi, e_sti, e_ldj, e_stj, e_le_t, e_le_f, e_lt_t, e_lt_f, e_eq_t, e_eq_f, e_no_eq, e_no_eq', e_no_rfl, e_no_lt, e_no_le, e_le_no, e_lt_no, if_true, if_false, ↓reduceIte, e_rs, e_rq, e_rn, e_ji, e_ki, e_ij, e_kj, e_js, e_jq, e_jn, e_cs, e_cq, e_jc, e_kc, e_js', e_jcq, e_icj, e_kcj, or_true, true_or, or_false, false_or, and_true, true_and, not_true_eq_false, not_false_eq_true, b_X12_frees_8, h2, hline, hne, b_X12_frees_105]
      · simp only [q_frz, he', Bool.false_eq_true, if_false]; exact g2
end RM
