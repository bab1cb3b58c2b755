/-! rooms that end with a line are freed, vars lose their values; a value is given further: the one side -/
section QH
variable {S : m_M} {a p : Nat} {P : pP} {D : pD} {M : qM}
theorem q_B.fr1 {x : Nat × Nat} (h : q_B P M) : q_B P (q_fr1 M x) := by
  obtain ⟨h1, h2, h3, h4, h5, h6, h7, h8, h9, h10, h11, h12, h13, h14, h15, h16, h17⟩ := h
  have hs : ∀ j, j ≠ 4 → q_sc (q_fr1 M x) j = q_sc M j := fun j hj => va_up_ne (q_sc M) _ hj
  refine ⟨by rw [hs 2 (by omega)]; exact h1, Nat.le_trans (List.length_filter_le _ _) h2, h3.filter _, fun y hy => h4 y (List.mem_filter.mp hy).1, fun k hk => ?_, fun c y hc hy => ?_, va_up_self (q_sc M) 4 _, by rw [hs 5 (by omega)]; exact h8, by rw [hs 6 (by omega)]; exact h9, by rw [hs 7 (by omega)]; exact h10, by rw [hs 8 (by omega)]; exact h11, by rw [hs 9 (by omega)]; exact h12, by rw [hs 0 (by omega)]; exact h13, by rw [hs 1 (by omega)]; exact h14, by rw [hs 11 (by omega)]; exact h15, fun c s hc hs' hl => ?_, h17.filter _⟩
  · rw [hs 2 (by omega)] at hk; exact h5 k hk
  · have hy : (if q_ce M c = some x then none else q_ce M c) = some y := hy
    by_cases hx : q_ce M c = some x
    · rw [if_pos hx] at hy; cases hy
    · rw [if_neg hx] at hy
      exact List.mem_filter.mpr ⟨h6 c y hc hy, decide_eq_true (fun q => hx (by rw [hy, q]))⟩
  · have hl : (if q_ce M c = some x then none else q_ce M c) ≠ none := hl
    refine h16 c s hc hs' (fun q => hl ?_)
    rw [q]; rfl
def q_frs (e : Nat → Bool) (n : Nat) : Nat → Nat → qM → qM
  | 0, _, M => M
  | d + 1, r, M => q_frs e n d (r + 1) (if e r = true then q_fr1 M (n, r) else M)
theorem k_frs {x : Int32} {e : Nat → Bool} {n k : Nat} (hb : ∀ r, r < 32 → bt x r = e r) : ∀ (d r fu : Nat) (S : m_M) (M : qM), r + d = 24 → d < fu → q_R S a M → q_B P M → (∀ y, y ∈ q_F M → y.1 ≤ n) → (∀ r', r ≤ r' → r' < 24 → e r' = true → (n, r') ∈ q_F M) →
    ∃ S', b_X2_freeRooms_13 a p fu S (nI k) x (nI r) = b_X2_freeRooms_13 a p (fu - d) S' (nI k) x (nI 24) ∧ q_R S' a (q_frs e n d r M) ∧ q_B P (q_frs e n d r M) ∧ e_O a (a + 9) S S' := by
  intro d
  induction d with
  | zero =>
    intro r fu S M hr hf hM hB _ _
    have hr : r = 24 := hr
    subst hr
    exact ⟨S, rfl, hM, hB, e_O.rf⟩
  | succ d ih =>
    intro r fu S M hr hf hM hB hlev he
    obtain ⟨fu, rfl⟩ : ∃ f, fu = f + 1 := ⟨fu - 1, by omega⟩
    have hbr := hb r (by omega)
    rw [show fu + 1 - (d + 1) = fu - d by omega]
    by_cases hc : e r = true
    · have hx := he r (by omega) (by omega) hc
      have hlt := k_latest (x := (n, r)) hM hB hx (fun y hy _ => hlev y hy)
      obtain ⟨S1, f1, f2, f3⟩ := k_free1 hM hB hx
      obtain ⟨S', g1, g2, g3, g4⟩ := ih (r + 1) fu S1 (q_fr1 M (n, r)) (by omega) (by omega) f2 hB.fr1 (fun y hy => hlev y (List.mem_filter.mp hy).1) (fun r' h1 h2 h3 => List.mem_filter.mpr ⟨he r' (by omega) h2 h3, decide_eq_true (fun q => by have := congrArg Prod.snd q; simp at this; omega)⟩)
      refine ⟨S', ?_, ?_, ?_, f3.tr g4⟩
      · rw [hc] at hbr
        rw [← g1]
        have hlt : f_X2_latestRoom a S (nI r) = _ := hlt
        simp (disch := omega) only [e_let, e_call, e_cal0, e_bind, e_lit, e_ofN, e_neg, nI_add, pk_mul, e_sub, e_ldi, e_sti, e_ldj, e_stj, e_le_t, e_le_f, e_lt_t, e_lt_f, e_eq_t, e_eq_f, e_no_eq, e_no_eq', e_no_rfl, e_no_lt, e_no_le, e_le_no, e_lt_no, if_true, if_false, ↓reduceIte, e_rs, e_rq, e_rn, e_ji, e_ki, e_ij, e_kj, e_js, e_jq, e_jn, e_cs, e_cq, e_jc, e_kc, e_js', e_jcq, e_icj, e_kcj, or_true, true_or, or_false, false_or, and_true, true_and, not_true_eq_false, not_false_eq_true, b_X2_freeRooms_13, e_bt, hbr, hlt, f1, b_X2_freeRooms_39, Bool.true_eq_false]
      · simp only [q_frs, hc, if_true]; exact g2
      · simp only [q_frs, hc, if_true]; exact g3
    · have hc : e r = false := Bool.eq_false_iff.mpr hc
      obtain ⟨S', g1, g2, g3, g4⟩ := ih (r + 1) fu S M (by omega) (by omega) hM hB hlev (fun r' h1 h2 h3 => he r' (by omega) h2 h3)
      refine ⟨S', ?_, ?_, ?_, g4⟩
      · rw [hc] at hbr
        rw [← g1]
        simp (disch := omega) only [e_let, e_call, e_cal0, e_bind, e_lit, e_ofN, e_neg, nI_add, pk_mul, e_sub, e_ldi, e_sti, e_ldj, e_stj, e_le_t, e_le_f, e_lt_t, e_lt_f, e_eq_t, e_eq_f, e_no_eq, e_no_eq', e_no_rfl, e_no_lt, e_no_le, e_le_no, e_lt_no, if_true, if_false, ↓reduceIte, e_rs, e_rq, e_rn, e_ji, e_ki, e_ij, e_kj, e_js, e_jq, e_jn, e_cs, e_cq, e_jc, e_kc, e_js', e_jcq, e_icj, e_kcj, or_true, true_or, or_false, false_or, and_true, true_and, not_true_eq_false, not_false_eq_true, b_X2_freeRooms_13, e_bt, hbr, b_X2_freeRooms_39]
      · simp only [q_frs, hc, Bool.false_eq_true, if_false]; exact g2
      · simp only [q_frs, hc, Bool.false_eq_true, if_false]; exact g3
/-- whether a var reaches one of the regions -/
def q_hit (D : pD) (e : Nat → Bool) (f v : Nat) : Bool := (List.range 24).any (fun r => d_rc D f v r && e r)
def q_clr (D : pD) (M : qM) (k f : Nat) (e : Nat → Bool) (w : Nat) : qM := (q_sc M, q_ff M, q_fl M, va_up (q_kd M) k (fun v => if v < w ∧ q_hit D e f v = true then 0 else q_kd M k v), va_up (q_vl M) k (fun v => if v < w ∧ q_hit D e f v = true then nI 0 else q_vl M k v), q_F M, q_ce M, q_sk M, q_sv M, q_gv M)
theorem q_clr_0 {k f : Nat} {e : Nat → Bool} : q_clr D M k f e 0 = M := by
  have h1 : va_up (q_kd M) k (fun v => if v < 0 ∧ q_hit D e f v = true then 0 else q_kd M k v) = q_kd M := by
    funext j; by_cases h : j = k
    · subst h; rw [va_up_self]; funext v; rw [if_neg (by omega)]
    · rw [va_up_ne _ _ h]
  have h2 : va_up (q_vl M) k (fun v => if v < 0 ∧ q_hit D e f v = true then nI 0 else q_vl M k v) = q_vl M := by
    funext j; by_cases h : j = k
    · subst h; rw [va_up_self]; funext v; rw [if_neg (by omega)]
    · rw [va_up_ne _ _ h]
  simp only [q_clr, h1, h2]; rfl
theorem q_up2 {α : Type} {g : Nat → α} {k : Nat} {u v : α} : va_up (va_up g k u) k v = va_up g k v := by
  funext j; by_cases h : j = k <;> simp [va_up, h]
theorem q_clr_s {k f w : Nat} {e : Nat → Bool} : q_clr D M k f e (w + 1) = if q_hit D e f w = true then q_var (q_clr D M k f e w) k w 0 (nI 0) else q_clr D M k f e w := by
  by_cases hh : q_hit D e f w = true
  · rw [if_pos hh]
    have h1 : (fun v => if v < w + 1 ∧ q_hit D e f v = true then 0 else q_kd M k v) = va_up (fun v => if v < w ∧ q_hit D e f v = true then 0 else q_kd M k v) w 0 := by
      funext v
      by_cases hv : v = w
      · subst hv; rw [va_up_self, if_pos ⟨by omega, hh⟩]
      · rw [va_up_ne _ _ hv]; simp only [show (v < w + 1) = (v < w) from propext (by omega)]
    have h2 : (fun v => if v < w + 1 ∧ q_hit D e f v = true then nI 0 else q_vl M k v) = va_up (fun v => if v < w ∧ q_hit D e f v = true then nI 0 else q_vl M k v) w (nI 0) := by
      funext v
      by_cases hv : v = w
      · subst hv; rw [va_up_self, if_pos ⟨by omega, hh⟩]
      · rw [va_up_ne _ _ hv]; simp only [show (v < w + 1) = (v < w) from propext (by omega)]
    simp only [q_clr, q_var, q_sc, q_ff, q_fl, q_kd, q_vl, q_F, q_ce, q_sk, q_sv, q_gv, va_up_self, q_up2]
    simp only [q_kd] at h1
    simp only [q_vl] at h2
    rw [h1, h2]
  · rw [if_neg hh]
    have h0 : ∀ v, (v < w + 1 ∧ q_hit D e f v = true) = (v < w ∧ q_hit D e f v = true) := fun v => propext ⟨fun h => ⟨by have := h.1; have : v ≠ w := fun q => hh (q ▸ h.2); omega, h.2⟩, fun h => ⟨by omega, h.2⟩⟩
    simp only [q_clr, h0]
theorem k_clr {x : Int32} {e : Nat → Bool} {k f : Nat} (hb : ∀ r, r < 32 → bt x r = e r) (he : ∀ r, 24 ≤ r → e r = false) (hf0 : f < p_fu P) (hk : k < 13) : ∀ (d w fu : Nat) (S : m_M), w + d = p_vs P f → d < fu → q_P S a p P D → q_R S a (q_clr D M k f e w) →
    ∃ S', b_X2_freeRooms_56 a p fu S (nI k) x (nI f) (nI w) = some S' ∧ q_R S' a (q_clr D M k f e (p_vs P f)) ∧ e_O a (a + 9) S S' := by
  intro d
  induction d with
  | zero =>
    intro w fu S hw hf C hM
    have hw : w = p_vs P f := hw
    subst hw
    obtain ⟨fu, rfl⟩ : ∃ f, fu = f + 1 := ⟨fu - 1, by omega⟩
    have hv := k_varCount C hf0
    have hb27 := C.2.1.2.2.1 f hf0
    have hl24 := C.2.1.2.1
    have hvs : p_vs P f ≤ 27 := by simp only [p_vs]; omega
    refine ⟨S, ?_, hM, e_O.rf⟩
    simp (disch := omega) only [e_let, e_call, e_cal0, e_bind, e_lit, e_ofN, e_neg, nI_add, pk_mul, e_sub, e_ldi, e_sti, e_ldj, e_stj, e_le_t, e_le_f, e_lt_t, e_lt_f, e_eq_t, e_eq_f, e_no_eq, e_no_eq', e_no_rfl, e_no_lt, e_no_le, e_le_no, e_lt_no, if_true, if_false, ↓reduceIte, e_rs, e_rq, e_rn, e_ji, e_ki, e_ij, e_kj, e_js, e_jq, e_jn, e_cs, e_cq, e_jc, e_kc, e_js', e_jcq, e_icj, e_kcj, or_true, true_or, or_false, false_or, and_true, true_and, not_true_eq_false, not_false_eq_true, b_X2_freeRooms_56, hv]
  | succ d ih =>
    intro w fu S hw hf C hM
    obtain ⟨fu, rfl⟩ : ∃ f, fu = f + 1 := ⟨fu - 1, by omega⟩
    have hv := k_varCount C hf0
    have hb27 := C.2.1.2.2.1 f hf0
    have hl24 := C.2.1.2.1
    have hf5 := C.2.1.1
    have hvs : p_vs P f ≤ 27 := by simp only [p_vs]; omega
    have hhit : (m_ri S (p + 8 + 2) (f * 27 + w) &&& x = nI 0) ↔ ¬ q_hit D e f w = true := by
      have hrc := fun r hr => C.2.2.2.1.2.1 f w r hf0 (by omega) hr
      constructor
      · intro hz hh
        simp only [q_hit, List.any_eq_true, Bool.and_eq_true] at hh
        obtain ⟨r, hr, h1, h2⟩ := hh
        have hr : r < 24 := List.mem_range.mp hr
        have := congrArg (fun y => bt y r) hz
        simp only [b_and] at this
        rw [show p + 8 + 2 = p + 10 from rfl, hrc r (by omega), hb r (by omega), h1, h2, e_b0] at this
        cases this
      · intro hh
        refine e_bz fun r hr => ?_
        rw [b_and, show p + 8 + 2 = p + 10 from rfl, hrc r hr, hb r hr]
        cases hq : (d_rc D f w r && e r) with
        | false => rfl
        | true =>
          refine (hh ?_).elim
          simp only [q_hit, List.any_eq_true]
          have h24 : r < 24 := by
            rcases Nat.lt_or_ge r 24 with h | h
            · exact h
            · rw [he r h, Bool.and_false] at hq; cases hq
          exact ⟨r, List.mem_range.mpr h24, hq⟩
    have hcs := q_clr_s (D := D) (M := M) (k := k) (f := f) (w := w) (e := e)
    by_cases hh : q_hit D e f w = true
    · rw [if_pos hh] at hcs
      have hz : (m_ri S (p + 8 + 2) (f * 27 + w) &&& x = nI 0) = False := eq_false (fun q => hhit.mp q hh)
      have hR := hM.var (k := k) (v := w) (x := 0) (y := nI 0) (by omega)
      rw [← hcs] at hR
      have hO : e_O a (a + 9) S (m_si (m_si S (a + 3) (k * 27 + w) (nI 0)) (a + 4) (k * 27 + w) (nI 0)) := (e_O.rf.si (by omega) (by omega)).si (by omega) (by omega)
      obtain ⟨S', g1, g2, g3⟩ := ih (w + 1) fu _ (by omega) (by omega) (C.kept hO) hR
      refine ⟨S', ?_, g2, hO.tr g3⟩
      rw [← g1]
      simp (disch := omega) only [e_let, e_call, e_cal0, e_bind, e_lit, e_ofN, e_neg, nI_add, pk_mul, e_sub, e_ldi, e_sti, e_ldj, e_stj, e_le_t, e_le_f, e_lt_t, e_lt_f, e_eq_t, e_eq_f, e_no_eq, e_no_eq', e_no_rfl, e_no_lt, e_no_le, e_le_no, e_lt_no, if_true, if_false, ↓reduceIte, e_rs, e_rq, e_rn, e_ji, e_ki, e_ij, e_kj, e_js, e_jq, e_jn, e_cs, e_cq, e_jc, e_kc, e_js', e_jcq, e_icj, e_kcj, or_true, true_or, or_false, false_or, and_true, true_and, not_true_eq_false, not_false_eq_true, b_X2_freeRooms_56, hv, f_X6_reachOfVar, hz, f_X2_setVar, b_X2_freeRooms_92]
    · rw [if_neg hh] at hcs
      have hz : (m_ri S (p + 8 + 2) (f * 27 + w) &&& x = nI 0) = True := eq_true (hhit.mpr hh)
      rw [← hcs] at hM
      obtain ⟨S', g1, g2, g3⟩ := ih (w + 1) fu _ (by omega) (by omega) C hM
      refine ⟨S', ?_, g2, g3⟩
      rw [← g1]
      simp (disch := omega) only [e_let, e_call, e_cal0, e_bind, e_lit, e_ofN, e_neg, nI_add, pk_mul, e_sub, e_ldi, e_sti, e_ldj, e_stj, e_le_t, e_le_f, e_lt_t, e_lt_f, e_eq_t, e_eq_f, e_no_eq, e_no_eq', e_no_rfl, e_no_lt, e_no_le, e_le_no, e_lt_no, if_true, if_false, ↓reduceIte, e_rs, e_rq, e_rn, e_ji, e_ki, e_ij, e_kj, e_js, e_jq, e_jn, e_cs, e_cq, e_jc, e_kc, e_js', e_jcq, e_icj, e_kcj, or_true, true_or, or_false, false_or, and_true, true_and, not_true_eq_false, not_false_eq_true, b_X2_freeRooms_56, hv, f_X6_reachOfVar, hz, b_X2_freeRooms_92]
/-- what ends with a line goes away -/
def q_free (P : pP) (D : pD) (M : qM) (k f : Nat) (e : Nat → Bool) : qM := if (List.range 24).all (fun r => !e r) = true then M else q_clr D (q_frs e (k + 1) 24 0 (q_s M 11 1)) k f e (p_vs P f)
theorem q_B.s {j v : Nat} (h : q_B P M) (h2 : j ≠ 2) (h4 : j ≠ 4) (h5 : j = 5 → v ≤ 200) (h6 : j = 6 ∨ j = 7 ∨ j = 8 → v ≤ 5001) (h9 : j = 9 → v ≤ 2) (h0 : j = 0 → v < 4) (h1 : j = 1 → v < 6) (h11 : j = 11 → v < 2) : q_B P (q_s M j v) := by
  obtain ⟨a1, a2, a3, a4, a5, a6, a7, a8, a9, a10, a11, a12, a13, a14, a15, a16, a17⟩ := h
  refine ⟨by rw [q_sc_ne (Ne.symm h2)]; exact a1, a2, a3, a4, fun k hk => a5 k (by rw [q_sc_ne (Ne.symm h2)] at hk; exact hk), a6, by rw [q_sc_ne (Ne.symm h4)]; exact a7, ?_, ?_, ?_, ?_, ?_, ?_, ?_, ?_, a16, a17⟩
  · rw [q_sc_s]; split <;> omega
  · rw [q_sc_s]; split <;> omega
  · rw [q_sc_s]; split <;> omega
  · rw [q_sc_s]; split <;> omega
  · rw [q_sc_s]; split <;> omega
  · rw [q_sc_s]; split <;> omega
  · rw [q_sc_s]; split <;> omega
  · rw [q_sc_s]; split <;> omega
theorem q_frs_ff {e : Nat → Bool} {n : Nat} : ∀ (d r : Nat) (M : qM), q_ff (q_frs e n d r M) = q_ff M ∧ q_fl (q_frs e n d r M) = q_fl M ∧ q_kd (q_frs e n d r M) = q_kd M ∧ q_vl (q_frs e n d r M) = q_vl M ∧ q_gv (q_frs e n d r M) = q_gv M ∧ q_sk (q_frs e n d r M) = q_sk M ∧ q_sv (q_frs e n d r M) = q_sv M ∧ ∀ j, j ≠ 4 → q_sc (q_frs e n d r M) j = q_sc M j := by
  intro d
  induction d with
  | zero => intro r M; exact ⟨rfl, rfl, rfl, rfl, rfl, rfl, rfl, fun _ _ => rfl⟩
  | succ d ih =>
    intro r M
    obtain ⟨h1, h2, h3, h4, h5, h6, h7, h8⟩ := ih (r + 1) (if e r = true then q_fr1 M (n, r) else M)
    simp only [q_frs]
    by_cases hc : e r = true
    · rw [if_pos hc] at h1 h2 h3 h4 h5 h6 h7 h8 ⊢
      exact ⟨h1, h2, h3, h4, h5, h6, h7, fun j hj => (h8 j hj).trans (va_up_ne (q_sc M) _ hj)⟩
    · rw [if_neg hc] at h1 h2 h3 h4 h5 h6 h7 h8 ⊢
      exact ⟨h1, h2, h3, h4, h5, h6, h7, h8⟩
theorem k_freeRooms {x : Int32} {e : Nat → Bool} {k f : Nat} (C : q_P S a p P D) (hM : q_R S a M) (hB : q_B P M) (hb : ∀ r, r < 32 → bt x r = e r) (he : ∀ r, 24 ≤ r → e r = false) (hf0 : f < p_fu P) (hk : k < q_sc M 2) (hff : q_ff M k = f)
    (hlev : ∀ y, y ∈ q_F M → y.1 ≤ k + 1) (hin : ∀ r, r < 24 → e r = true → (k + 1, r) ∈ q_F M) :
    ∃ S', f_X2_freeRooms a p S (nI k) x = some S' ∧ q_R S' a (q_free P D M k f e) ∧ e_O a (a + 9) S S' := by
  have hfu := m_fu_ge
  have hk12 := hB.1
  by_cases h0 : (List.range 24).all (fun r => !e r) = true
  · refine ⟨S, ?_, by rw [q_free, if_pos h0]; exact hM, e_O.rf⟩
    have hz : x = nI 0 := e_bz fun r hr => by
      rw [hb r hr]
      rcases Nat.lt_or_ge r 24 with h | h
      · have := List.all_eq_true.mp h0 r (List.mem_range.mpr h); simpa using this
      · exact he r h
    simp (disch := omega) only [e_let, e_call, e_cal0, e_bind, e_lit, e_ofN, e_neg, nI_add, pk_mul, e_sub, e_ldi, e_sti, e_ldj, e_stj, e_le_t, e_le_f, e_lt_t, e_lt_f, e_eq_t, e_eq_f, e_no_eq, e_no_eq', e_no_rfl, e_no_lt, e_no_le, e_le_no, e_lt_no, if_true, if_false, ↓reduceIte, e_rs, e_rq, e_rn, e_ji, e_ki, e_ij, e_kj, e_js, e_jq, e_jn, e_cs, e_cq, e_jc, e_kc, e_js', e_jcq, e_icj, e_kcj, or_true, true_or, or_false, false_or, and_true, true_and, not_true_eq_false, not_false_eq_true, f_X2_freeRooms, hz]
  · have hz : ¬ x = nI 0 := fun q => h0 (List.all_eq_true.mpr fun r hr => by
      have hr := List.mem_range.mp hr
      rw [← hb r (by omega), q, e_b0]; rfl)
    have hR1 := hM.s (j := 11) (v := 1) (by omega) (by omega) (by omega)
    have hB1 : q_B P (q_s M 11 1) := hB.s (by omega) (by omega) (by omega) (by omega) (by omega) (by omega) (by omega) (by omega)
    obtain ⟨S1, g1, g2, g3, g4⟩ := k_frs (p := p) (k := k) (n := k + 1) hb 24 0 m_fu _ _ (by omega) (by omega) hR1 hB1 hlev (fun r' _ h2 h3 => hin r' h2 h3)
    have hO : e_O a (a + 9) S (m_si S a 11 (nI 1)) := e_O.rf.si (by omega) (by omega)
    have hO1 := hO.tr g4
    have hvs : p_vs P f ≤ 27 := by
      have := C.2.1.2.2.1 f hf0
      have := C.2.1.2.1
      simp only [p_vs]; omega
    have g2' : q_R S1 a (q_clr D (q_frs e (k + 1) 24 0 (q_s M 11 1)) k f e 0) := by rw [q_clr_0]; exact g2
    obtain ⟨S2, f1, f2, f3⟩ := k_clr (p := p) (D := D) hb he hf0 (by omega) (p_vs P f) 0 m_fu S1 (by omega) (by omega) (C.kept hO1) g2'
    have hfr := q_frs_ff (e := e) (n := k + 1) 24 0 (q_s M 11 1)
    have hff1 : m_ri S1 (a + 1) k = nI f := by
      rw [g2.2.2.2.1 k (by rw [hfr.2.2.2.2.2.2.2 2 (by omega), q_sc_ne (by omega)]; exact hk), hfr.1]; exact congrArg nI hff
    obtain ⟨u, hu⟩ : ∃ u, m_fu - 24 = u + 1 := ⟨m_fu - 25, by omega⟩
    rw [hu] at g1
    refine ⟨S2, ?_, by rw [q_free, if_neg h0]; exact f2, hO1.tr f3⟩
    simp (disch := omega) only [e_let, e_call, e_cal0, e_bind, e_lit, e_ofN, e_neg, nI_add, pk_mul, e_sub, e_ldi, e_sti, e_ldj, e_stj, e_le_t, e_le_f, e_lt_t, e_lt_f, e_eq_t, e_eq_f, e_no_eq, e_no_eq', e_no_rfl, e_no_lt, e_no_le, e_le_no, e_lt_no, if_true, if_false, ↓reduceIte, e_rs, e_rq, e_rn, e_ji, e_ki, e_ij, e_kj, e_js, e_jq, e_jn, e_cs, e_cq, e_jc, e_kc, e_js', e_jcq, e_icj, e_kcj, or_true, true_or, or_false, false_or, and_true, true_and, not_true_eq_false, not_false_eq_true, f_X2_freeRooms, hz]
    rw [g1]
    simp (disch := omega) only [e_let, e_call, e_cal0, e_bind, e_lit, e_ofN, e_neg, nI_add, pk_mul, e_sub, e_ldi, e_sti, e_ldj, e_stj, e_le_t, e_le_f, e_lt_t, e_lt_f, e_eq_t, e_eq_f, e_no_eq, e_no_eq', e_no_rfl, e_no_lt, e_no_le, e_le_no, e_lt_no, if_true, if_false, ↓reduceIte, e_rs, e_rq, e_rn, e_ji, e_ki, e_ij, e_kj, e_js, e_jq, e_jn, e_cs, e_cq, e_jc, e_kc, e_js', e_jcq, e_icj, e_kcj, or_true, true_or, or_false, false_or, and_true, true_and, not_true_eq_false, not_false_eq_true, b_X2_freeRooms_13, hff1]
    exact f1
end QH
