/-! main is laid on: both sides -/
def q_ldj (P : pP) (D : pD) (num : Nat → Int32) (j : Nat) : qM := q_s (q_s (q_push (q_mk q_emp (d_ou D (p_fu P - 1)) 0) 0 (p_fu P - 1) (fun v => if v < j then 1 else 0) (fun v => if v < j then num v else nI 0)) 2 1) 0 1
def q_ld (P : pP) (D : pD) (num : Nat → Int32) : qM := q_ldj P D num (p_pa P (p_fu P - 1))
section LA
variable {S : m_M} {a p : Nat} {P : pP} {D : pD} {num : Nat → Int32}
theorem q_ldj_0 : q_ldj P D num 0 = q_begin P D := by
  have e1 : (fun v => if v < 0 then 1 else 0) = (fun _ => 0 : Nat → Nat) := funext fun v => if_neg (by omega)
  have e2 : (fun v => if v < 0 then num v else nI 0) = (fun _ => nI 0) := funext fun v => if_neg (by omega)
  rw [q_ldj, e1, e2]; rfl
theorem q_ldj_s {j : Nat} : q_var (q_ldj P D num j) 0 j 1 (num j) = q_ldj P D num (j + 1) := by
  have e1 : va_up (q_kd (q_ldj P D num j)) 0 (va_up (q_kd (q_ldj P D num j) 0) j 1) = q_kd (q_ldj P D num (j + 1)) := by
    funext k v
    rw [q_kvar]
    show (if k = 0 ∧ v = j then 1 else va_up (fun _ _ => 0) 0 (fun v => if v < j then 1 else 0) k v) = va_up (fun _ _ => 0) 0 (fun v => if v < j + 1 then 1 else 0) k v
    by_cases hk : k = 0
    · subst hk
      rw [va_up_self, va_up_self]
      by_cases hv : v = j
      · rw [if_pos ⟨rfl, hv⟩, if_pos (by omega)]
      · rw [if_neg (fun q => hv q.2)]
        by_cases h : v < j
        · rw [if_pos h, if_pos (by omega)]
        · rw [if_neg h, if_neg (by omega)]
    · rw [if_neg (fun q => hk q.1), va_up_ne _ _ hk, va_up_ne _ _ hk]
  have e2 : va_up (q_vl (q_ldj P D num j)) 0 (va_up (q_vl (q_ldj P D num j) 0) j (num j)) = q_vl (q_ldj P D num (j + 1)) := by
    funext k v
    rw [q_vvar]
    show (if k = 0 ∧ v = j then num j else va_up (fun _ _ => nI 0) 0 (fun v => if v < j then num v else nI 0) k v) = va_up (fun _ _ => nI 0) 0 (fun v => if v < j + 1 then num v else nI 0) k v
    by_cases hk : k = 0
    · subst hk
      rw [va_up_self, va_up_self]
      by_cases hv : v = j
      · rw [if_pos ⟨rfl, hv⟩, if_pos (by omega), hv]
      · rw [if_neg (fun q => hv q.2)]
        by_cases h : v < j
        · rw [if_pos h, if_pos (by omega)]
        · rw [if_neg h, if_neg (by omega)]
    · rw [if_neg (fun q => hk q.1), va_up_ne _ _ hk, va_up_ne _ _ hk]
  rw [q_var, e1, e2]; rfl
theorem i_ld (hW : p_W P) (hSd : d_S D) (h1 : 1 ≤ p_fu P) : q_Z P D (q_ld P D num) := by
  have hm := hW.2.2.1 (p_fu P - 1) (by omega)
  have hF : q_F (q_ld P D num) = q_rs (d_ou D (p_fu P - 1)) 0 0 24 := List.nil_append _
  have hkd : ∀ v, q_kd (q_ld P D num) 0 v = if v < p_pa P (p_fu P - 1) then 1 else 0 := fun v => rfl
  have hmem : ∀ x, x ∈ q_F (q_ld P D num) ↔ x.1 = 0 ∧ d_ou D (p_fu P - 1) x.2 = true := fun x => by
    rw [hF, q_rs_mem]
    constructor
    · rintro ⟨a1, -, -, a4⟩; exact ⟨a1, a4⟩
    · rintro ⟨a1, a4⟩
      refine ⟨a1, by omega, ?_, a4⟩
      rcases Nat.lt_or_ge x.2 24 with h | h
      · omega
      · rw [show d_ou D (p_fu P - 1) x.2 = false from hSd.1 3 _ _ _ h] at a4; cases a4
  have n2 : q_sc (q_ld P D num) 2 = 1 := rfl
  refine ⟨rfl, ⟨⟨by omega, ?_, ?_, fun x hx => ?_, fun k hk => ?_, fun c x hc hx => (by cases hx), ?_, Nat.zero_le _, Nat.zero_le _, Nat.zero_le _, Nat.zero_le _, Nat.zero_le _, by show 1 < 4; omega, by show 0 < 6; omega, by show 0 < 2; omega, fun c s hc hs hl => absurd rfl hl, ?_⟩, fun x => ?_, fun k hk r hr => ?_, fun k hk => by omega, fun k v hk hv hd => ?_, fun k v hk hv hd => ?_, fun k v hk hv => ?_, fun c x hc hx => (by cases hx), h1⟩, by omega, Nat.zero_le _, Nat.zero_le _, Nat.zero_le _⟩
  · rw [hF]; have := q_rs_len (b := d_ou D (p_fu P - 1)) (lev := 0) (d := 24) (k := 0); omega
  · rw [hF]
    simp only [q_rs]
    rw [List.nodup_iff_pairwise_ne, List.pairwise_map]
    have : ((List.range' 0 24).filter (d_ou D (p_fu P - 1))).Nodup := (List.nodup_range' (step := 1)).filter _
    exact (List.nodup_iff_pairwise_ne.mp this).imp (fun h q => h (congrArg Prod.snd q))
  · rw [hF, q_rs_mem] at hx; omega
  · have hk : k = 0 := by omega
    subst hk
    refine ⟨by show p_fu P - 1 < p_fu P; omega, by show 0 < p_ct P (p_fu P - 1); omega, fun v => ?_⟩
    rw [hkd]; split <;> omega
  · show 0 = fb_ct (fun c => false) 200
    exact (fb_ct_zero.mpr (fun _ _ => rfl)).symm
  · rw [hF]
    refine List.pairwise_of_forall_mem_list (fun x hx y hy => ?_)
    have := q_rs_mem.mp hx
    have := q_rs_mem.mp hy
    omega
  · rw [hmem]
    constructor
    · intro h; exact Or.inl h
    · rintro (h | ⟨k, hk, h1, ha⟩)
      · exact h
      · have hk : k = 0 := by omega
        subst hk
        obtain ⟨-, ⟨j, hj, -⟩, -⟩ := ha
        rcases hj with hj | ⟨-, hj | hj⟩
        · have hj : j < 0 := hj
          omega
        · have hj : 0 + 1 < 1 := hj
          omega
        · exact hj.elim
  · have hk : k = 0 := by omega
    subst hk
    exact hr
  · have hk : k = 0 := by omega
    subst hk
    rw [hkd] at hd; split at hd <;> omega
  · have hk : k = 0 := by omega
    subst hk
    have hv : v < p_pa P (p_fu P - 1) + 0 := hv
    rw [hkd, if_pos (by omega)] at hd; omega
  · have hk : k = 0 := by omega
    subst hk
    have hv : p_pa P (p_fu P - 1) + 0 ≤ v := hv
    rw [hkd, if_neg (by omega)]
/-! the one side -/
theorem k_setVar {k v x : Nat} {y : Int32} {M : qM} (hM : q_R S a M) (hk : k < 13) (hv : v < 27) : ∃ S', f_X2_setVar a S (nI k) (nI v) (nI x) y = some S' ∧ q_R S' a (q_var M k v x y) ∧ e_O a (a + 9) S S' := by
  refine ⟨_, ?_, hM.var hv, (e_O.rf.si (by omega) (by omega)).si (by omega) (by omega)⟩
  simp (disch := omega) only [e_let, e_call, e_cal0, e_bind, e_lit, e_ofN, e_neg, nI_add, pk_mul, e_sub, e_ldi, e_sti, e_ldj, e_stj, e_le_t, e_le_f, e_lt_t, e_lt_f, e_eq_t, e_eq_f, e_no_eq, e_no_eq', e_no_rfl, e_no_lt, e_no_le, e_le_no, e_lt_no, if_true, if_false, ↓reduceIte, e_rs, e_rq, e_rn, e_ji, e_ki, e_ij, e_kj, e_js, e_jq, e_jn, e_cs, e_cq, e_jc, e_kc, e_js', e_jcq, e_icj, e_kcj, or_true, true_or, or_false, false_or, and_true, true_and, not_true_eq_false, not_false_eq_true, f_X2_setVar]
theorem k_pom (C : q_P S a p P D) (h1 : 1 ≤ p_fu P) : f_X3_parametersOfMain p S = some (nI (p_pa P (p_fu P - 1)), S) := by
  have h0 := C.2.2.1.1
  have h5 := C.2.1.1
  have h2 := C.2.2.1.2.2.1 (p_fu P - 1) (by omega)
  simp (disch := omega) only [e_let, e_call, e_cal0, e_bind, e_lit, e_ofN, e_neg, nI_add, pk_mul, e_sub, e_ldi, e_sti, e_ldj, e_stj, e_le_t, e_le_f, e_lt_t, e_lt_f, e_eq_t, e_eq_f, e_no_eq, e_no_eq', e_no_rfl, e_no_lt, e_no_le, e_le_no, e_lt_no, if_true, if_false, ↓reduceIte, e_rs, e_rq, e_rn, e_ji, e_ki, e_ij, e_kj, e_js, e_jq, e_jn, e_cs, e_cq, e_jc, e_kc, e_js', e_jcq, e_icj, e_kcj, or_true, true_or, or_false, false_or, and_true, true_and, not_true_eq_false, not_false_eq_true, f_X3_parametersOfMain, h0, h2, b_X3_parametersOfMain_22]
theorem k_tape {x : Nat} (ha : x + 1 < a) (hp3 : p_pa P (p_fu P - 1) ≤ 3) : ∀ (d j fu : Nat) (S : m_M), j + d = p_pa P (p_fu P - 1) → d < fu → q_R S a (q_ldj P D num j) → (∀ i, i < p_pa P (p_fu P - 1) → m_ri S (x + 1) i &&& nI 255 = num i) →
    ∃ S', b_X11_beginWithTape_24 x a fu S (nI (p_pa P (p_fu P - 1))) (nI j) = some S' ∧ q_R S' a (q_ld P D num) ∧ e_O a (a + 9) S S' := by
  intro d
  induction d with
  | zero =>
    intro j fu S hj hf hM hn
    obtain ⟨fu, rfl⟩ : ∃ f, fu = f + 1 := ⟨fu - 1, by omega⟩
    have hj : j = p_pa P (p_fu P - 1) := hj
    refine ⟨S, ?_, by rw [q_ld, ← hj]; exact hM, e_O.rf⟩
    simp (disch := omega) only [e_let, e_call, e_cal0, e_bind, e_lit, e_ofN, e_neg, nI_add, pk_mul, e_sub, e_ldi, e_sti, e_ldj, e_stj, e_le_t, e_le_f, e_lt_t, e_lt_f, e_eq_t, e_eq_f, e_no_eq, e_no_eq', e_no_rfl, e_no_lt, e_no_le, e_le_no, e_lt_no, if_true, if_false, ↓reduceIte, e_rs, e_rq, e_rn, e_ji, e_ki, e_ij, e_kj, e_js, e_jq, e_jn, e_cs, e_cq, e_jc, e_kc, e_js', e_jcq, e_icj, e_kcj, or_true, true_or, or_false, false_or, and_true, true_and, not_true_eq_false, not_false_eq_true, b_X11_beginWithTape_24]
  | succ d ih =>
    intro j fu S hj hf hM hn
    obtain ⟨fu, rfl⟩ : ∃ f, fu = f + 1 := ⟨fu - 1, by omega⟩
    have hv := hn j (by omega)
    obtain ⟨S1, f1, f2, f3⟩ := k_setVar (k := 0) (v := j) (x := 1) (y := num j) hM (by omega) (by omega)
    rw [q_ldj_s] at f2
    obtain ⟨S', g1, g2, g3⟩ := ih (j + 1) fu S1 (by omega) (by omega) f2 (fun i hi => by rw [f3.1 _ (by omega)]; exact hn i hi)
    refine ⟨S', ?_, g2, f3.tr g3⟩
    rw [← g1]
    simp (disch := omega) only [e_let, e_call, e_cal0, e_bind, e_lit, e_ofN, e_neg, nI_add, pk_mul, e_sub, e_ldi, e_sti, e_ldj, e_stj, e_le_t, e_le_f, e_lt_t, e_lt_f, e_eq_t, e_eq_f, e_no_eq, e_no_eq', e_no_rfl, e_no_lt, e_no_le, e_le_no, e_lt_no, if_true, if_false, ↓reduceIte, e_rs, e_rq, e_rn, e_ji, e_ki, e_ij, e_kj, e_js, e_jq, e_jn, e_cs, e_cq, e_jc, e_kc, e_js', e_jcq, e_icj, e_kcj, or_true, true_or, or_false, false_or, and_true, true_and, not_true_eq_false, not_false_eq_true, b_X11_beginWithTape_24, hv, f1]
theorem k_bwt {x : Nat} (hx : p = x + 48) (ha : x + 1 < a) (C : q_P S a p P D) (h1 : 1 ≤ p_fu P) (hn : ∀ i, i < p_pa P (p_fu P - 1) → m_ri S (x + 1) i &&& nI 255 = num i) : ∃ S', f_X11_beginWithTape x a S = some S' ∧ q_R S' a (q_ld P D num) ∧ e_O a (a + 9) S S' := by
  have hfu := m_fu_ge
  subst hx
  have hp3 := (C.2.1.2.2.1 (p_fu P - 1) (by omega)).1
  obtain ⟨S1, f1, f2, f3⟩ := k_begin C h1
  have h2 := k_pom (C.kept f3) h1
  rw [← q_ldj_0 (num := num)] at f2
  obtain ⟨S', g1, g2, g3⟩ := k_tape (x := x) ha hp3 (p_pa P (p_fu P - 1)) 0 m_fu S1 (by omega) (by omega) f2 (fun i hi => by rw [f3.1 _ (by omega)]; exact hn i hi)
  refine ⟨S', ?_, g2, f3.tr g3⟩
  rw [← g1]
  simp (disch := omega) only [e_let, e_call, e_cal0, e_bind, e_lit, e_ofN, e_neg, nI_add, pk_mul, e_sub, e_ldi, e_sti, e_ldj, e_stj, e_le_t, e_le_f, e_lt_t, e_lt_f, e_eq_t, e_eq_f, e_no_eq, e_no_eq', e_no_rfl, e_no_lt, e_no_le, e_le_no, e_lt_no, if_true, if_false, ↓reduceIte, e_rs, e_rq, e_rn, e_ji, e_ki, e_ij, e_kj, e_js, e_jq, e_jn, e_cs, e_cq, e_jc, e_kc, e_js', e_jcq, e_icj, e_kcj, or_true, true_or, or_false, false_or, and_true, true_and, not_true_eq_false, not_false_eq_true, f_X11_beginWithTape, f1, h2]
end LA
/-! the other side -/
section LB
variable {T : m_M} {m z : Nat} {P : pP} {D : pD} {num : Nat → Int32}
theorem j_l4 {o n : Nat} : ∀ (d k fu : Nat) (T : m_M), k + d = 2405 → d < fu → 210 ≤ k →
    ∃ T', b_X12_loads_4 m o n fu T (nI k) = b_X12_loads_26 m o n m_fu T' (nI 0) ∧ (∀ t, k ≤ t → t < 2405 → m_ri T' (m + 2) t = nI 0) ∧ (∀ t, t < k → m_ri T' (m + 2) t = m_ri T (m + 2) t) ∧ r_O m T T' ∧ (∀ q, q ≠ m + 2 → m_ri T' q = m_ri T q) := by
  intro d
  induction d with
  | zero =>
    intro k fu T hk hf h1
    obtain ⟨fu, rfl⟩ : ∃ f, fu = f + 1 := ⟨fu - 1, by omega⟩
    refine ⟨T, ?_, fun t h1 h2 => by omega, fun t _ => rfl, r_O.rf, fun _ _ => rfl⟩
    simp (disch := omega) only [e_let, e_call, e_cal0, e_bind, e_lit, e_ofN, e_neg, nI_add, pk_mul, e_sub, e_ldi, e_sti, e_ldj, e_stj, e_le_t, e_le_f, e_lt_t, e_lt_f, e_eq_t, e_eq_f, e_no_eq, e_no_eq', e_no_rfl, e_no_lt, e_no_le, e_le_no, e_lt_no, if_true, if_false, ↓reduceIte, e_rs, e_rq, e_rn, e_ji, e_ki, e_ij, e_kj, e_js, e_jq, e_jn, e_cs, e_cq, e_jc, e_kc, e_js', e_jcq, e_icj, e_kcj, or_true, true_or, or_false, false_or, and_true, true_and, not_true_eq_false, not_false_eq_true, b_X12_loads_4]
  | succ d ih =>
    intro k fu T hk hf h1
    obtain ⟨fu, rfl⟩ : ∃ f, fu = f + 1 := ⟨fu - 1, by omega⟩
    obtain ⟨T', g1, g2, g3, g4, g5⟩ := ih (k + 1) fu (m_si T (m + 2) k (nI 0)) (by omega) (by omega) (by omega)
    refine ⟨T', ?_, fun t h1 h2 => ?_, fun t ht => ?_, (r_O.rf.now (by omega) (by omega)).tr g4, fun q hq => by rw [g5 q hq, e_rq hq]⟩
    · rw [← g1]
      simp (disch := omega) only [e_let, e_call, e_cal0, e_bind, e_lit, e_ofN, e_neg, nI_add, pk_mul, e_sub, e_ldi, e_sti, e_ldj, e_stj, e_le_t, e_le_f, e_lt_t, e_lt_f, e_eq_t, e_eq_f, e_no_eq, e_no_eq', e_no_rfl, e_no_lt, e_no_le, e_le_no, e_lt_no, if_true, if_false, ↓reduceIte, e_rs, e_rq, e_rn, e_ji, e_ki, e_ij, e_kj, e_js, e_jq, e_jn, e_cs, e_cq, e_jc, e_kc, e_js', e_jcq, e_icj, e_kcj, or_true, true_or, or_false, false_or, and_true, true_and, not_true_eq_false, not_false_eq_true, b_X12_loads_4]
    · by_cases h : t = k
      · rw [g3 t (by omega), h, e_rs]
      · exact g2 t (by omega) h2
    · rw [g3 t (by omega), e_rn (by omega)]
theorem j_l26 {o n : Nat} : ∀ (d k fu : Nat) (T : m_M), k + d = 200 → d < fu →
    ∃ T', b_X12_loads_26 m o n fu T (nI k) = b_X12_loads_61 m o n m_fu (m_si T' (m + 2) 210 (nI 1)) (nI 0) ∧ (∀ c, k ≤ c → c < 200 → m_ri T' (m + 2) (893 + c) = m_no) ∧ (∀ t, (t < 893 + k ∨ 1093 ≤ t) → m_ri T' (m + 2) t = m_ri T (m + 2) t) ∧ r_O m T T' ∧ (∀ q, q ≠ m + 2 → m_ri T' q = m_ri T q) := by
  intro d
  induction d with
  | zero =>
    intro k fu T hk hf
    obtain ⟨fu, rfl⟩ : ∃ f, fu = f + 1 := ⟨fu - 1, by omega⟩
    refine ⟨T, ?_, fun t h1 h2 => by omega, fun t _ => rfl, r_O.rf, fun _ _ => rfl⟩
    simp (disch := omega) only [e_let, e_call, e_cal0, e_bind, e_lit, e_ofN, e_neg, nI_add, pk_mul, e_sub, e_ldi, e_sti, e_ldj, e_stj, e_le_t, e_le_f, e_lt_t, e_lt_f, e_eq_t, e_eq_f, e_no_eq, e_no_eq', e_no_rfl, e_no_lt, e_no_le, e_le_no, e_lt_no, if_true, if_false, ↓reduceIte, e_rs, e_rq, e_rn, e_ji, e_ki, e_ij, e_kj, e_js, e_jq, e_jn, e_cs, e_cq, e_jc, e_kc, e_js', e_jcq, e_icj, e_kcj, or_true, true_or, or_false, false_or, and_true, true_and, not_true_eq_false, not_false_eq_true, b_X12_loads_26]
  | succ d ih =>
    intro k fu T hk hf
    obtain ⟨fu, rfl⟩ : ∃ f, fu = f + 1 := ⟨fu - 1, by omega⟩
    obtain ⟨T', g1, g2, g3, g4, g5⟩ := ih (k + 1) fu (m_si T (m + 2) (893 + k) m_no) (by omega) (by omega)
    refine ⟨T', ?_, fun t h1 h2 => ?_, fun t ht => ?_, (r_O.rf.now (by omega) (by omega)).tr g4, fun q hq => by rw [g5 q hq, e_rq hq]⟩
    · rw [← g1]
      simp (disch := omega) only [e_let, e_call, e_cal0, e_bind, e_lit, e_ofN, e_neg, nI_add, pk_mul, e_sub, e_ldi, e_sti, e_ldj, e_stj, e_le_t, e_le_f, e_lt_t, e_lt_f, e_eq_t, e_eq_f, e_no_eq, e_no_eq', e_no_rfl, e_no_lt, e_no_le, e_le_no, e_lt_no, if_true, if_false, ↓reduceIte, e_rs, e_rq, e_rn, e_ji, e_ki, e_ij, e_kj, e_js, e_jq, e_jn, e_cs, e_cq, e_jc, e_kc, e_js', e_jcq, e_icj, e_kcj, or_true, true_or, or_false, false_or, and_true, true_and, not_true_eq_false, not_false_eq_true, b_X12_loads_26]
    · by_cases h : t = k
      · rw [g3 _ (by omega), h, e_rs]
      · exact g2 t (by omega) h2
    · rw [g3 t (by omega), e_rn (by omega)]
theorem r_emp {N : Nat → Int32} (h : ∀ t, 210 ≤ t → t < 2405 → (t < 893 ∨ 1093 ≤ t) → N t = nI 0) (h2 : ∀ c, c < 200 → N (893 + c) = m_no) : r_R N q_emp := by
  refine ⟨h _ (by omega) (by omega) (by omega), h _ (by omega) (by omega) (by omega), h _ (by omega) (by omega) (by omega), h _ (by omega) (by omega) (by omega), h _ (by omega) (by omega) (by omega), h _ (by omega) (by omega) (by omega), h _ (by omega) (by omega) (by omega), h _ (by omega) (by omega) (by omega), h _ (by omega) (by omega) (by omega), ?_, fun h0 => ?_, fun k hk h12 => ?_, fun k hk h12 => ?_, fun k v hk h12 hv => ?_, fun k v hk h12 hv => ?_, fun i x hi hx => ?_, fun c hc => h2 c hc, fun c x hc hx => ?_, fun c s hc hs hl => absurd rfl hl, fun c s hc hs hl => absurd rfl hl⟩
  · rw [h _ (by omega) (by omega) (by omega)]; rfl
  · have h0 : 0 = 2 := h0
    omega
  · exact absurd hk (Nat.not_lt_zero _)
  · exact absurd hk (Nat.not_lt_zero _)
  · exact absurd hk (Nat.not_lt_zero _)
  · exact absurd hk (Nat.not_lt_zero _)
  · cases hx
  · cases hx
theorem e_has {T : m_M} {x : Int32} {r : Nat} (hr : r < 32) : f_X12_has T x (nI r) = some (nI (if bt x r = true then 1 else 0), T) := by
  have h := e_bt (x := x) hr
  by_cases hb : bt x r = true
  · have h1 : (x >>> (nI r &&& nI 31)) &&& nI 1 = nI 1 := by
      apply b_ext
      intro i hi
      have hb1 : ∀ i, i < 32 → bt (nI 1) i = decide (i = 0) := by decide +kernel
      have h2 := b_sshr r hr x (i := 0) (by omega)
      rw [Nat.add_zero, if_pos hr] at h2
      rw [b_and, hb1 i hi]
      by_cases h0 : i = 0
      · subst h0; rw [show (nI 31 : Int32) = 31 from rfl, h2, hb]; rfl
      · simp only [h0, decide_false, Bool.and_false]
    rw [if_pos hb]
    simp (disch := omega) only [e_let, e_call, e_cal0, e_bind, e_lit, e_ofN, e_neg, nI_add, pk_mul, e_sub, e_ldi, e_sti, e_ldj, e_stj, e_le_t, e_le_f, e_lt_t, e_lt_f, e_eq_t, e_eq_f, e_no_eq, e_no_eq', e_no_rfl, e_no_lt, e_no_le, e_le_no, e_lt_no, if_true, if_false, ↓reduceIte, e_rs, e_rq, e_rn, e_ji, e_ki, e_ij, e_kj, e_js, e_jq, e_jn, e_cs, e_cq, e_jc, e_kc, e_js', e_jcq, e_icj, e_kcj, or_true, true_or, or_false, false_or, and_true, true_and, not_true_eq_false, not_false_eq_true, f_X12_has, h1, b_X12_has_14]
  · have h1 : ((x >>> (nI r &&& nI 31)) &&& nI 1 = nI 0) := by rw [h]; exact Bool.eq_false_iff.mpr hb
    rw [if_neg hb]
    simp (disch := omega) only [e_let, e_call, e_cal0, e_bind, e_lit, e_ofN, e_neg, nI_add, pk_mul, e_sub, e_ldi, e_sti, e_ldj, e_stj, e_le_t, e_le_f, e_lt_t, e_lt_f, e_eq_t, e_eq_f, e_no_eq, e_no_eq', e_no_rfl, e_no_lt, e_no_le, e_le_no, e_lt_no, if_true, if_false, ↓reduceIte, e_rs, e_rq, e_rn, e_ji, e_ki, e_ij, e_kj, e_js, e_jq, e_jn, e_cs, e_cq, e_jc, e_kc, e_js', e_jcq, e_icj, e_kcj, or_true, true_or, or_false, false_or, and_true, true_and, not_true_eq_false, not_false_eq_true, f_X12_has, h1, b_X12_has_14]
theorem j_isOuter {r : Nat} (C : r_C T m P D z) (h1 : 1 ≤ p_fu P) (hr : r < 32) : f_X12_isOuter m T (nI r) = some (nI (if d_ou D (p_fu P - 1) r = true then 1 else 0), T) := by
  have h5 := C.1.1
  have h0 := C.2.1.1
  have hb := C.2.2.1.2.2.2.2.2.2.1 (p_fu P - 1) r (by omega) hr
  have hh := e_has (T := T) (x := m_ri T (m + 18) (p_fu P - 1)) hr
  rw [hb] at hh
  by_cases hd : d_ou D (p_fu P - 1) r = true
  · rw [if_pos hd] at hh ⊢
    simp (disch := omega) only [e_let, e_call, e_cal0, e_bind, e_lit, e_ofN, e_neg, nI_add, pk_mul, e_sub, e_ldi, e_sti, e_ldj, e_stj, e_le_t, e_le_f, e_lt_t, e_lt_f, e_eq_t, e_eq_f, e_no_eq, e_no_eq', e_no_rfl, e_no_lt, e_no_le, e_le_no, e_lt_no, if_true, if_false, ↓reduceIte, e_rs, e_rq, e_rn, e_ji, e_ki, e_ij, e_kj, e_js, e_jq, e_jn, e_cs, e_cq, e_jc, e_kc, e_js', e_jcq, e_icj, e_kcj, or_true, true_or, or_false, false_or, and_true, true_and, not_true_eq_false, not_false_eq_true, f_X12_isOuter, f_X12_mainFun, h0, hh]
  · rw [if_neg hd] at hh ⊢
    simp (disch := omega) only [e_let, e_call, e_cal0, e_bind, e_lit, e_ofN, e_neg, nI_add, pk_mul, e_sub, e_ldi, e_sti, e_ldj, e_stj, e_le_t, e_le_f, e_lt_t, e_lt_f, e_eq_t, e_eq_f, e_no_eq, e_no_eq', e_no_rfl, e_no_lt, e_no_le, e_le_no, e_lt_no, if_true, if_false, ↓reduceIte, e_rs, e_rq, e_rn, e_ji, e_ki, e_ij, e_kj, e_js, e_jq, e_jn, e_cs, e_cq, e_jc, e_kc, e_js', e_jcq, e_icj, e_kcj, or_true, true_or, or_false, false_or, and_true, true_and, not_true_eq_false, not_false_eq_true, f_X12_isOuter, f_X12_mainFun, h0, hh]
theorem j_l61 {o n : Nat} (h1 : 1 ≤ p_fu P) : ∀ (d k fu : Nat) (T : m_M) (M : qM), k + d = z → d < fu → r_C T m P D z → r_R (m_ri T (m + 2)) M → (∀ c x, c < 200 → q_ce M c = some x → x ∈ q_F M) → (q_F M ++ q_rs (d_ou D (p_fu P - 1)) 0 k d).length ≤ 312 →
    ∃ T' fu', b_X12_loads_61 m o n fu T (nI k) = b_X12_loads_61 m o n (fu' + 1) T' (nI z) ∧ r_R (m_ri T' (m + 2)) (q_setF M (q_F M ++ q_rs (d_ou D (p_fu P - 1)) 0 k d)) ∧ r_O m T T' ∧ (∀ q, q ≠ m + 2 → m_ri T' q = m_ri T q) := by
  intro d
  induction d with
  | zero =>
    intro k fu T M hk hf C hM hm hl
    obtain ⟨fu, rfl⟩ : ∃ f, fu = f + 1 := ⟨fu - 1, by omega⟩
    have hk : k = z := hk
    subst hk
    refine ⟨T, fu, rfl, ?_, r_O.rf, fun _ _ => rfl⟩
    rw [show q_rs (d_ou D (p_fu P - 1)) 0 k 0 = [] from rfl, List.append_nil]; exact hM
  | succ d ih =>
    intro k fu T M hk hf C hM hm hl
    obtain ⟨fu, rfl⟩ : ∃ f, fu = f + 1 := ⟨fu - 1, by omega⟩
    have hz := C.2.2.1.1
    have hz2 := C.2.2.1.2.1
    have ho := j_isOuter C h1 (r := k) (by omega)
    by_cases hd : d_ou D (p_fu P - 1) k = true
    · rw [if_pos hd] at ho
      rw [q_rs_t hd] at hl ⊢
      have hl2 : (q_F M).length + 1 ≤ 312 := by rw [List.length_append, List.length_cons] at hl; omega
      obtain ⟨T1, f1, f2, f3⟩ := j_makeRoom (lev := 0) (r := k) hM (by omega) hm
      have f4 : ∀ q, q ≠ m + 2 → m_ri T1 q = m_ri T q := fun q hq => by
        have s := hM.2.2.2.2.1
        have f1' := f1
        simp (disch := omega) only [f_X12_makeRoom, e_lit, e_ldi, e_bind, s, nI_add, e_sti, e_rn] at f1'
        rw [← Option.some.inj f1', e_rq hq, e_rq hq]
      obtain ⟨T', fu', g1, g2, g3, g4⟩ := ih (k + 1) fu T1 _ (by omega) (by omega) (C.kept f3) f2 (fun c x hc' hx => List.mem_append_left _ (hm c x hc' hx)) (by
        show ((q_F M ++ [(0, k)]) ++ _).length ≤ 312
        rw [List.append_assoc]; exact hl)
      refine ⟨T', fu', ?_, ?_, f3.tr g3, fun q hq => (g4 q hq).trans (f4 q hq)⟩
      · rw [← g1, b_X12_loads_61]
        simp (disch := omega) only [e_let, e_call, e_cal0, e_bind, e_lit, e_ofN, e_neg, nI_add, pk_mul, e_sub, e_ldi, e_sti, e_ldj, e_stj, e_le_t, e_le_f, e_lt_t, e_lt_f, e_eq_t, e_eq_f, e_no_eq, e_no_eq', e_no_rfl, e_no_lt, e_no_le, e_le_no, e_lt_no, if_true, if_false, ↓reduceIte, e_rs, e_rq, e_rn, e_ji, e_ki, e_ij, e_kj, e_js, e_jq, e_jn, e_cs, e_cq, e_jc, e_kc, e_js', e_jcq, e_icj, e_kcj, or_true, true_or, or_false, false_or, and_true, true_and, not_true_eq_false, not_false_eq_true, hz2, ho, f1, b_X12_loads_84]
      · rw [show q_F M ++ (0, k) :: q_rs (d_ou D (p_fu P - 1)) 0 (k + 1) d = (q_F M ++ [(0, k)]) ++ q_rs (d_ou D (p_fu P - 1)) 0 (k + 1) d by rw [List.append_assoc]; rfl]
        exact g2
    · rw [if_neg hd] at ho
      rw [q_rs_f (Bool.eq_false_iff.mpr hd)] at hl ⊢
      obtain ⟨T', fu', g1, g2, g3, g4⟩ := ih (k + 1) fu T _ (by omega) (by omega) C hM hm hl
      refine ⟨T', fu', ?_, g2, g3, g4⟩
      rw [← g1, b_X12_loads_61]
      simp (disch := omega) only [e_let, e_call, e_cal0, e_bind, e_lit, e_ofN, e_neg, nI_add, pk_mul, e_sub, e_ldi, e_sti, e_ldj, e_stj, e_le_t, e_le_f, e_lt_t, e_lt_f, e_eq_t, e_eq_f, e_no_eq, e_no_eq', e_no_rfl, e_no_lt, e_no_le, e_le_no, e_lt_no, if_true, if_false, ↓reduceIte, e_rs, e_rq, e_rn, e_ji, e_ki, e_ij, e_kj, e_js, e_jq, e_jn, e_cs, e_cq, e_jc, e_kc, e_js', e_jcq, e_icj, e_kcj, or_true, true_or, or_false, false_or, and_true, true_and, not_true_eq_false, not_false_eq_true, hz2, ho, b_X12_loads_84]
theorem j_l100 {o n : Nat} (h1 : 1 ≤ p_fu P) (hn3 : p_pa P (p_fu P - 1) ≤ n) (ho : o ≠ m + 2) : ∀ (d j fu : Nat) (T : m_M), j + d = p_pa P (p_fu P - 1) → d < fu → r_C T m P D z → r_R (m_ri T (m + 2)) (q_ldj P D num j) → (∀ i, i < p_pa P (p_fu P - 1) → m_ri T o i = num i) →
    ∃ T', b_X12_loads_100 m o n fu T (nI j) = some T' ∧ r_R (m_ri T' (m + 2)) (q_ld P D num) ∧ r_O m T T' ∧ (∀ q, q ≠ m + 2 → m_ri T' q = m_ri T q) := by
  intro d
  induction d with
  | zero =>
    intro j fu T hj hf C hM hn
    obtain ⟨fu, rfl⟩ : ∃ f, fu = f + 1 := ⟨fu - 1, by omega⟩
    have hj : j = p_pa P (p_fu P - 1) := hj
    have h5 := C.1.1
    have h0 := C.2.1.1
    have h3 := (C.2.1.2.2.1 (p_fu P - 1) (by omega)).1
    have hp3 := (C.1.2.2.1 (p_fu P - 1) (by omega)).1
    refine ⟨T, ?_, by rw [q_ld, ← hj]; exact hM, r_O.rf, fun _ _ => rfl⟩
    simp (disch := omega) only [e_let, e_call, e_cal0, e_bind, e_lit, e_ofN, e_neg, nI_add, pk_mul, e_sub, e_ldi, e_sti, e_ldj, e_stj, e_le_t, e_le_f, e_lt_t, e_lt_f, e_eq_t, e_eq_f, e_no_eq, e_no_eq', e_no_rfl, e_no_lt, e_no_le, e_le_no, e_lt_no, if_true, if_false, ↓reduceIte, e_rs, e_rq, e_rn, e_ji, e_ki, e_ij, e_kj, e_js, e_jq, e_jn, e_cs, e_cq, e_jc, e_kc, e_js', e_jcq, e_icj, e_kcj, or_true, true_or, or_false, false_or, and_true, true_and, not_true_eq_false, not_false_eq_true, b_X12_loads_100, f_X12_mainFun, h0, h3]
  | succ d ih =>
    intro j fu T hj hf C hM hn
    obtain ⟨fu, rfl⟩ : ∃ f, fu = f + 1 := ⟨fu - 1, by omega⟩
    have h5 := C.1.1
    have h0 := C.2.1.1
    have h3 := (C.2.1.2.2.1 (p_fu P - 1) (by omega)).1
    have hp3 := (C.1.2.2.1 (p_fu P - 1) (by omega)).1
    have hv := hn j (by omega)
    have hR := hM.var (kk := 0) (w := j) (x := 1) (y := num j) (by omega) (by omega)
    rw [q_ldj_s] at hR
    have hO : r_O m T (m_si (m_si T (m + 2) (245 + (27 * 0 + j)) (nI 1)) (m + 2) (569 + (27 * 0 + j)) (num j)) := (r_O.rf.now (by omega) (by omega)).now (by omega) (by omega)
    obtain ⟨T', g1, g2, g3, g4⟩ := ih (j + 1) fu (m_si (m_si T (m + 2) (245 + (27 * 0 + j)) (nI 1)) (m + 2) (569 + (27 * 0 + j)) (num j)) (by omega) (by omega) (C.kept hO) (by rw [e_row, e_row]; exact hR) (fun i hi => by rw [e_rq ho, e_rq ho]; exact hn i hi)
    refine ⟨T', ?_, g2, hO.tr g3, fun q hq => by rw [g4 q hq, e_rq hq, e_rq hq]⟩
    rw [← g1]
    simp (disch := omega) only [e_let, e_call, e_cal0, e_bind, e_lit, e_ofN, e_neg, nI_add, pk_mul, e_sub, e_ldi, e_sti, e_ldj, e_stj, e_le_t, e_le_f, e_lt_t, e_lt_f, e_eq_t, e_eq_f, e_no_eq, e_no_eq', e_no_rfl, e_no_lt, e_no_le, e_le_no, e_lt_no, if_true, if_false, ↓reduceIte, e_rs, e_rq, e_rn, e_ji, e_ki, e_ij, e_kj, e_js, e_jq, e_jn, e_cs, e_cq, e_jc, e_kc, e_js', e_jcq, e_icj, e_kcj, or_true, true_or, or_false, false_or, and_true, true_and, not_true_eq_false, not_false_eq_true, b_X12_loads_100, f_X12_mainFun, h0, h3, f_X12_setVar, f_X12_slot, hv]
theorem q_ldj_ref : q_s (q_push (q_setF (q_s q_emp 0 1) (q_F (q_s q_emp 0 1) ++ q_rs (d_ou D (p_fu P - 1)) 0 0 24)) 0 (p_fu P - 1) (fun _ => 0) (fun _ => nI 0)) 2 1 = q_begin P D := by
  have e : va_up (va_up (fun _ => 0) 0 1) 2 1 = va_up (va_up (fun _ => 0 : Nat → Nat) 2 1) 0 1 := by
    funext t
    simp only [va_up]
    by_cases h : t = 2
    · subst h; rfl
    · rw [if_neg h]; by_cases h0 : t = 0
      · rw [if_pos h0, if_pos h0]
      · rw [if_neg h0, if_neg h0, if_neg h]
  show (va_up (va_up (fun _ => 0) 0 1) 2 1, _) = (va_up (va_up (fun _ => 0 : Nat → Nat) 2 1) 0 1, _)
  rw [e]; rfl
theorem j_loads {o n : Nat} (C : r_C T m P D z) (h1 : 1 ≤ p_fu P) (hn3 : p_pa P (p_fu P - 1) ≤ n) (ho : o ≠ m + 2) (hn : ∀ i, i < p_pa P (p_fu P - 1) → m_ri T o i = num i) :
    ∃ T', f_X12_loads m o n T = some T' ∧ r_R (m_ri T' (m + 2)) (q_ld P D num) ∧ r_O m T T' ∧ (∀ q, q ≠ m + 2 → m_ri T' q = m_ri T q) := by
  have hfu := m_fu_ge
  have hz := C.2.2.1.1
  have h5 := C.1.1
  have hp3 := (C.1.2.2.1 (p_fu P - 1) (by omega)).1
  obtain ⟨T1, a1, a2, a3, a4, a5⟩ := j_l4 (m := m) (o := o) (n := n) 2195 210 m_fu T (by omega) (by omega) (by omega)
  obtain ⟨T2, b1, b2, b3, b4, b5⟩ := j_l26 (m := m) (o := o) (n := n) 200 0 m_fu T1 (by omega) (by omega)
  have hE : r_R (m_ri T2 (m + 2)) q_emp := r_emp (fun t g1 g2 g3 => by rw [b3 t (by omega)]; exact a2 t (by omega) g2) (fun c hc => b2 c (by omega) hc)
  have hE1 : r_R (m_ri (m_si T2 (m + 2) 210 (nI 1)) (m + 2)) (q_s q_emp 0 1) := by rw [e_row]; exact hE.run (by show 0 ≠ 2; omega)
  have hO3 : r_O m T (m_si T2 (m + 2) 210 (nI 1)) := (a4.tr b4).now (by omega) (by omega)
  have C3 := C.kept hO3
  have erz : q_rs (d_ou D (p_fu P - 1)) 0 0 24 = q_rs (d_ou D (p_fu P - 1)) 0 0 z := by
    have := q_rs_z (z := z) (b := d_ou D (p_fu P - 1)) (lev := 0) (fun r hr => (C.2.2.1.2.2.2.2.2.2.2 (p_fu P - 1) 0 r hr).2.2) z 0 (by omega) (24 - z)
    rw [show z + (24 - z) = 24 by omega] at this; exact this
  have hlen : ([] ++ q_rs (d_ou D (p_fu P - 1)) 0 0 z).length ≤ 312 := by
    have := q_rs_len (b := d_ou D (p_fu P - 1)) (lev := 0) (d := z) (k := 0)
    rw [List.nil_append]; omega
  obtain ⟨T4, fu', c1, c2, c3, c4⟩ := j_l61 (o := o) (n := n) h1 z 0 m_fu _ (q_s q_emp 0 1) (by omega) (by omega) C3 hE1 (fun c x hc hx => by cases hx) hlen
  have C4 := C3.kept c3
  have hz4 := C4.2.2.1.2.1
  have h04 := C4.2.1.1
  obtain ⟨T5, d1, d2, d3, d4, d5, d6, d7, d8⟩ := j_push (T := T4) (m := m) (k := 0) (g := p_fu P - 1) (by omega) c2.2.2.1
  have hR5 := c2.push (kk := 0) (g := p_fu P - 1) (n := 1) (ck := fun _ => 0) (cv := fun _ => nI 0) (N' := m_ri T5 (m + 2)) (Or.inr ⟨rfl, rfl⟩) (by omega) d2 d3 d4 d5 (fun v hv => (d6 v hv).1) (fun v hv => (d6 v hv).2)
  rw [← erz, q_ldj_ref, ← q_ldj_0 (num := num)] at hR5
  have hfr : ∀ q, q ≠ m + 2 → m_ri T5 q = m_ri T q := fun q hq => by
    rw [d8 q hq, c4 q hq, e_rq hq, b5 q hq, a5 q hq]
  obtain ⟨T6, e1, e2, e3, e4⟩ := j_l100 (o := o) (n := n) (num := num) h1 hn3 ho (p_pa P (p_fu P - 1)) 0 m_fu T5 (by omega) (by omega) (C4.kept d7) hR5 (fun i hi => by rw [hfr o ho]; exact hn i hi)
  refine ⟨T6, ?_, e2, ((hO3.tr c3).tr d7).tr e3, fun q hq => (e4 q hq).trans (hfr q hq)⟩
  rw [← e1, f_X12_loads]
  show b_X12_loads_4 m o n m_fu T (nI 210) = _
  rw [a1, b1, c1, b_X12_loads_61]
  simp (disch := omega) only [e_let, e_call, e_cal0, e_bind, e_lit, e_ofN, e_neg, nI_add, pk_mul, e_sub, e_ldi, e_sti, e_ldj, e_stj, e_le_t, e_le_f, e_lt_t, e_lt_f, e_eq_t, e_eq_f, e_no_eq, e_no_eq', e_no_rfl, e_no_lt, e_no_le, e_le_no, e_lt_no, if_true, if_false, ↓reduceIte, e_rs, e_rq, e_rn, e_ji, e_ki, e_ij, e_kj, e_js, e_jq, e_jn, e_cs, e_cq, e_jc, e_kc, e_js', e_jcq, e_icj, e_kcj, or_true, true_or, or_false, false_or, and_true, true_and, not_true_eq_false, not_false_eq_true, hz4, f_X12_mainFun, h04, d1]
end LB
