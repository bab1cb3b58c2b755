section RO
variable {N : Nat → Int32} {M : qM}
theorem r_R.lay {P : pP} {c' l : Nat} {x' : Nat × Nat} {N' : Nat → Int32} (h : r_R N M) (hc' : c' < 200)
    (w : ∀ t, t ≠ 213 → t ≠ 215 → t ≠ 217 → t ≠ 893 + c' → t ≠ 1093 + c' → t ≠ 1293 + (2 * c' + 0) → t ≠ 1293 + (2 * c' + 1) → t ≠ 1693 + (2 * c' + 0) → t ≠ 1693 + (2 * c' + 1) → N' t = N t)
    (g213 : N' 213 = nI (q_sc M 4 + 1)) (g215 : N' 215 = nI (if q_sc M 5 < q_sc M 4 + 1 then q_sc M 4 + 1 else q_sc M 5)) (g217 : N' 217 = nI (q_sc M 7 + 1)) (g893 : N' (893 + c') = nI x'.2) (g1093 : N' (1093 + c') = nI ((q_F M).idxOf x'))
    (gk : ∀ s, s < 2 → N' (1293 + (2 * c' + s)) = nI (q_K P M l s)) (gv : ∀ s, s < 2 → N' (1693 + (2 * c' + s)) = q_V P M l s) : r_R N' (q_lay P M l c' x') := by
  obtain ⟨r_s0, r_s1, r_s2, r_s4, r_sF, r_s5, r_s6, r_s7, r_s8, r_g, r_gv, r_ff, r_fl, r_kd, r_vl, r_rm, r_cr, r_cx, r_sk, r_sv⟩ := h
  refine ⟨?_, ?_, ?_, ?_, ?_, ?_, ?_, ?_, ?_, ?_, fun h0 => ?_, fun k hk h12 => ?_, fun k hk h12 => ?_, fun k v hk h12 hv => ?_, fun k v hk h12 hv => ?_, fun i x hi hx => ?_, fun c hc => ?_, fun c x hc hx => ?_, fun c s hc hs hl => ?_, fun c s hc hs hl => ?_⟩
  · rw [w _ (by omega) (by omega) (by omega) (by omega) (by omega) (by omega) (by omega) (by omega) (by omega)]; exact r_s0
  · rw [w _ (by omega) (by omega) (by omega) (by omega) (by omega) (by omega) (by omega) (by omega) (by omega)]; exact r_s1
  · rw [w _ (by omega) (by omega) (by omega) (by omega) (by omega) (by omega) (by omega) (by omega) (by omega)]; exact r_s2
  · rw [g213]; rfl
  · rw [w _ (by omega) (by omega) (by omega) (by omega) (by omega) (by omega) (by omega) (by omega) (by omega)]; exact r_sF
  · rw [g215]; rfl
  · rw [w _ (by omega) (by omega) (by omega) (by omega) (by omega) (by omega) (by omega) (by omega) (by omega)]; exact r_s6
  · rw [g217]; rfl
  · rw [w _ (by omega) (by omega) (by omega) (by omega) (by omega) (by omega) (by omega) (by omega) (by omega)]; exact r_s8
  · rw [w _ (by omega) (by omega) (by omega) (by omega) (by omega) (by omega) (by omega) (by omega) (by omega)]; exact r_g
  · rw [w _ (by omega) (by omega) (by omega) (by omega) (by omega) (by omega) (by omega) (by omega) (by omega)]; exact r_gv h0
  · rw [w _ (by omega) (by omega) (by omega) (by omega) (by omega) (by omega) (by omega) (by omega) (by omega)]; exact r_ff k hk h12
  · rw [w _ (by omega) (by omega) (by omega) (by omega) (by omega) (by omega) (by omega) (by omega) (by omega)]; exact r_fl k hk h12
  · rw [w _ (by omega) (by omega) (by omega) (by omega) (by omega) (by omega) (by omega) (by omega) (by omega)]; exact r_kd k v hk h12 hv
  · rw [w _ (by omega) (by omega) (by omega) (by omega) (by omega) (by omega) (by omega) (by omega) (by omega)]; exact r_vl k v hk h12 hv
  · rw [w _ (by omega) (by omega) (by omega) (by omega) (by omega) (by omega) (by omega) (by omega) (by omega)]; exact r_rm i x hi hx
  · show _ = q_rg (va_up (q_ce M) c' (some x') c)
    by_cases hcc : c = c'
    · subst hcc; rw [va_up_self]; exact g893
    · rw [va_up_ne _ _ hcc]; rw [w _ (by omega) (by omega) (by omega) (by omega) (by omega) (by omega) (by omega) (by omega) (by omega)]; exact r_cr c hc
  · have hx : va_up (q_ce M) c' (some x') c = some x := hx
    by_cases hcc : c = c'
    · subst hcc; rw [va_up_self] at hx; cases hx; exact g1093
    · rw [va_up_ne _ _ hcc] at hx; rw [w _ (by omega) (by omega) (by omega) (by omega) (by omega) (by omega) (by omega) (by omega) (by omega)]; exact r_cx c x hc hx
  · have hl : va_up (q_ce M) c' (some x') c ≠ none := hl
    show _ = nI (va_up (q_sk M) c' (fun s => q_K P M l s) c s)
    by_cases hcc : c = c'
    · subst hcc; rw [va_up_self]; exact gk s hs
    · rw [va_up_ne _ _ hcc] at hl ⊢; rw [w _ (by omega) (by omega) (by omega) (by omega) (by omega) (by omega) (by omega) (by omega) (by omega)]; exact r_sk c s hc hs hl
  · have hl : va_up (q_ce M) c' (some x') c ≠ none := hl
    show _ = va_up (q_sv M) c' (fun s => q_V P M l s) c s
    by_cases hcc : c = c'
    · subst hcc; rw [va_up_self]; exact gv s hs
    · rw [va_up_ne _ _ hcc] at hl ⊢; rw [w _ (by omega) (by omega) (by omega) (by omega) (by omega) (by omega) (by omega) (by omega) (by omega)]; exact r_sv c s hc hs hl
theorem r_R.left {v : Nat} (h : r_R N M) : r_R (va_up N 218 (nI v)) (q_s M 8 v) := by
  obtain ⟨r_s0, r_s1, r_s2, r_s4, r_sF, r_s5, r_s6, r_s7, r_s8, r_g, r_gv, r_ff, r_fl, r_kd, r_vl, r_rm, r_cr, r_cx, r_sk, r_sv⟩ := h
  refine ⟨?_, ?_, ?_, ?_, ?_, ?_, ?_, ?_, ?_, ?_, fun h0 => ?_, fun k hk h12 => ?_, fun k hk h12 => ?_, fun k v hk h12 hv => ?_, fun k v hk h12 hv => ?_, fun i x hi hx => ?_, fun c hc => ?_, fun c x hc hx => ?_, fun c s hc hs hl => ?_, fun c s hc hs hl => ?_⟩
  · rw [e_un (by omega)]; exact r_s0
  · rw [e_un (by omega)]; exact r_s1
  · rw [e_un (by omega)]; exact r_s2
  · rw [e_un (by omega)]; exact r_s4
  · rw [e_un (by omega)]; exact r_sF
  · rw [e_un (by omega)]; exact r_s5
  · rw [e_un (by omega)]; exact r_s6
  · rw [e_un (by omega)]; exact r_s7
  · rw [e_up, q_sc_eq]
  · rw [e_un (by omega)]; exact r_g
  · rw [e_un (by omega)]; exact r_gv h0
  · rw [e_un (by omega)]; exact r_ff k hk h12
  · rw [e_un (by omega)]; exact r_fl k hk h12
  · rw [e_un (by omega)]; exact r_kd k v hk h12 hv
  · rw [e_un (by omega)]; exact r_vl k v hk h12 hv
  · rw [e_un (by omega)]; exact r_rm i x hi hx
  · rw [e_un (by omega)]; exact r_cr c hc
  · rw [e_un (by omega)]; exact r_cx c x hc hx
  · rw [e_un (by omega)]; exact r_sk c s hc hs hl
  · rw [e_un (by omega)]; exact r_sv c s hc hs hl
theorem r_R.run (h : r_R N M) (h1 : q_sc M 0 ≠ 2) : r_R (va_up N 210 (nI 1)) (q_s M 0 1) := by
  obtain ⟨r_s0, r_s1, r_s2, r_s4, r_sF, r_s5, r_s6, r_s7, r_s8, r_g, r_gv, r_ff, r_fl, r_kd, r_vl, r_rm, r_cr, r_cx, r_sk, r_sv⟩ := h
  refine ⟨?_, ?_, ?_, ?_, ?_, ?_, ?_, ?_, ?_, ?_, fun h0 => ?_, fun k hk h12 => ?_, fun k hk h12 => ?_, fun k v hk h12 hv => ?_, fun k v hk h12 hv => ?_, fun i x hi hx => ?_, fun c hc => ?_, fun c x hc hx => ?_, fun c s hc hs hl => ?_, fun c s hc hs hl => ?_⟩
  · rw [e_up, q_sc_eq]
  · rw [e_un (by omega)]; exact r_s1
  · rw [e_un (by omega)]; exact r_s2
  · rw [e_un (by omega)]; exact r_s4
  · rw [e_un (by omega)]; exact r_sF
  · rw [e_un (by omega)]; exact r_s5
  · rw [e_un (by omega)]; exact r_s6
  · rw [e_un (by omega)]; exact r_s7
  · rw [e_un (by omega)]; exact r_s8
  · rw [e_un (by omega), r_g, if_neg h1, q_sc_eq, if_neg (by omega)]
  · rw [q_sc_eq] at h0; omega
  · rw [e_un (by omega)]; exact r_ff k hk h12
  · rw [e_un (by omega)]; exact r_fl k hk h12
  · rw [e_un (by omega)]; exact r_kd k v hk h12 hv
  · rw [e_un (by omega)]; exact r_vl k v hk h12 hv
  · rw [e_un (by omega)]; exact r_rm i x hi hx
  · rw [e_un (by omega)]; exact r_cr c hc
  · rw [e_un (by omega)]; exact r_cx c x hc hx
  · rw [e_un (by omega)]; exact r_sk c s hc hs hl
  · rw [e_un (by omega)]; exact r_sv c s hc hs hl
end RO
/-! the other side: a cell is laid, a fun is called -/
section RP
variable {T : m_M} {m z : Nat} {P : pP} {D : pD} {M : qM} {f i : Nat}
theorem j_lat' {x : Nat × Nat} (h214 : m_ri T (m + 2) 214 = nI (q_F M).length) (hrm : ∀ i x, i < 312 → (q_F M)[i]? = some x → m_ri T (m + 2) (2093 + i) = nI x.2) (hB : q_B P M) (hx : x ∈ q_F M) (hm : ∀ y, y ∈ q_F M → y.2 = x.2 → y.1 ≤ x.1) : f_X12_latestRoom m T (nI x.2) = some (nI ((q_F M).idxOf x), T) := by
  have hf := m_fu_ge
  have hs := hB.2.2.2.2.2.2.2.2.2.2.2.2.2.2.2.2
  obtain ⟨q1, q2⟩ := q_last hs hB.2.2.1 hx hm
  have h1 : (q_F M).idxOf x < (q_F M).length := List.idxOf_lt_length_of_mem hx
  have hl := hB.2.1
  have key : ∀ (d k fu : Nat), (q_F M).idxOf x + d = k → k < (q_F M).length → d < fu → b_X12_latestRoom_11 m fu T (nI x.2) (nI k) = some (nI ((q_F M).idxOf x), T) := by
    intro d
    induction d with
    | zero =>
      intro k fu hk hkl hf
      obtain ⟨fu, rfl⟩ : ∃ f, fu = f + 1 := ⟨fu - 1, by omega⟩
      have hk : (q_F M).idxOf x = k := hk
      have h8 := hrm _ _ (by omega) q1
      rw [hk] at h8 ⊢
      simp (disch := omega) only [e_let, e_call, e_cal0, e_bind, e_lit, e_ofN, e_neg, nI_add, pk_mul, e_sub, e_ldi, e_sti, e_ldj, e_stj, e_le_t, e_le_f, e_lt_t, e_lt_f, e_eq_t, e_eq_f, e_no_eq, e_no_eq', e_no_rfl, e_no_lt, e_no_le, e_le_no, e_lt_no, if_true, if_false, ↓reduceIte, e_rs, e_rq, e_rn, e_ji, e_ki, e_ij, e_kj, e_js, e_jq, e_jn, e_cs, e_cq, e_jc, e_kc, e_js', e_jcq, e_icj, e_kcj, or_true, true_or, or_false, false_or, and_true, true_and, not_true_eq_false, not_false_eq_true, b_X12_latestRoom_11, h8]
    | succ d ih =>
      intro k fu hk hkl hf
      obtain ⟨fu, rfl⟩ : ∃ f, fu = f + 1 := ⟨fu - 1, by omega⟩
      have hz : (q_F M)[k]? = some (q_F M)[k] := List.getElem?_eq_getElem hkl
      have h8 := hrm k _ (by omega) hz
      have h9 := q2 k _ (by omega) hz
      have h10 := hB.2.2.2.1 _ (List.getElem_mem hkl)
      have h11 := hB.2.2.2.1 _ hx
      simp (disch := omega) only [e_let, e_call, e_cal0, e_bind, e_lit, e_ofN, e_neg, nI_add, pk_mul, e_sub, e_ldi, e_sti, e_ldj, e_stj, e_le_t, e_le_f, e_lt_t, e_lt_f, e_eq_t, e_eq_f, e_no_eq, e_no_eq', e_no_rfl, e_no_lt, e_no_le, e_le_no, e_lt_no, if_true, if_false, ↓reduceIte, e_rs, e_rq, e_rn, e_ji, e_ki, e_ij, e_kj, e_js, e_jq, e_jn, e_cs, e_cq, e_jc, e_kc, e_js', e_jcq, e_icj, e_kcj, or_true, true_or, or_false, false_or, and_true, true_and, not_true_eq_false, not_false_eq_true, b_X12_latestRoom_11, h8, e_dec]
      exact ih (k - 1) fu (by omega) (by omega) (by omega)
  simp (disch := omega) only [e_let, e_call, e_cal0, e_bind, e_lit, e_ofN, e_neg, nI_add, pk_mul, e_sub, e_ldi, e_sti, e_ldj, e_stj, e_le_t, e_le_f, e_lt_t, e_lt_f, e_eq_t, e_eq_f, e_no_eq, e_no_eq', e_no_rfl, e_no_lt, e_no_le, e_le_no, e_lt_no, if_true, if_false, ↓reduceIte, e_rs, e_rq, e_rn, e_ji, e_ki, e_ij, e_kj, e_js, e_jq, e_jn, e_cs, e_cq, e_jc, e_kc, e_js', e_jcq, e_icj, e_kcj, or_true, true_or, or_false, false_or, and_true, true_and, not_true_eq_false, not_false_eq_true, f_X12_latestRoom, h214]
  exact key ((q_F M).length - 1 - (q_F M).idxOf x) _ m_fu (by omega) (by omega) (by omega)
theorem j_fcl {x : Int32} (hM : r_R (m_ri T (m + 2)) M) (hr : ∀ x, x ∈ q_F M → x.2 < 24) (hm : ∀ c y, c < 200 → q_ce M c = some y → y ∈ q_F M) : ∀ (d k fu : Nat), k + d = 200 → d < fu → (∃ j, k ≤ j ∧ j < k + d ∧ q_ce M j = none) → ∃ fu', fu - d ≤ fu' ∧ b_X12_layCell_2 m fu T x (nI k) = b_X12_layCell_2 m fu' T x (nI (q_fc (q_ce M) d k)) := by
  intro d
  induction d with
  | zero => rintro k fu hk hf ⟨j, h1, h2, -⟩; omega
  | succ d ih =>
    rintro k fu hk hf ⟨j, h1, h2, h3⟩
    obtain ⟨fu, rfl⟩ : ∃ f, fu = f + 1 := ⟨fu - 1, by omega⟩
    have h9 := hM.2.2.2.2.2.2.2.2.2.2.2.2.2.2.2.2.1 k (by omega)
    cases hce : q_ce M k with
    | none =>
      have e : q_fc (q_ce M) (d + 1) k = k := by simp only [q_fc]; rw [if_pos hce]
      rw [e]
      exact ⟨fu + 1, by omega, rfl⟩
    | some y =>
      rw [hce] at h9
      have h9 : m_ri T (m + 2) (893 + k) = nI y.2 := h9
      have hy := hr y (hm k y (by omega) hce)
      have e : q_fc (q_ce M) (d + 1) k = q_fc (q_ce M) d (k + 1) := by simp only [q_fc]; rw [if_neg (by rw [hce]; intro h; cases h)]
      have hjk : j ≠ k := fun q => by rw [q, hce] at h3; cases h3
      obtain ⟨fu', g1, g2⟩ := ih (k + 1) fu (by omega) (by omega) ⟨j, by omega, by omega, h3⟩
      refine ⟨fu', by omega, ?_⟩
      rw [e, ← g2]
      rw [b_X12_layCell_2]
      rw [e_lit, nI_add, e_ldi (by omega) (by omega), e_bind, h9, if_neg (by rw [e_lit, e_neg, e_no_eq (by omega)]; exact fun h => h)]
      simp (disch := omega) only [e_let, e_call, e_cal0, e_bind, e_lit, e_ofN, e_neg, nI_add, pk_mul, e_sub, e_ldi, e_sti, e_ldj, e_stj, e_le_t, e_le_f, e_lt_t, e_lt_f, e_eq_t, e_eq_f, e_no_eq, e_no_eq', e_no_rfl, e_no_lt, e_no_le, e_le_no, e_lt_no, if_true, if_false, ↓reduceIte, e_rs, e_rq, e_rn, e_ji, e_ki, e_ij, e_kj, e_js, e_jq, e_jn, e_cs, e_cq, e_jc, e_kc, e_js', e_jcq, e_icj, e_kcj, or_true, true_or, or_false, false_or, and_true, true_and, not_true_eq_false, not_false_eq_true]
theorem j_layCell (C : r_C T m P D z) (hM : r_R (m_ri T (m + 2)) M) (hB : q_B P M) (H : q_top P M f i) (ho : p_op P (p_fi P f + i) = 2) {r : Nat} (hr : d_pt D f (p_pa P f + i) = r + 1) (hx : q_at D M (q_sc M 2) r ∈ q_F M) (hmx : ∀ y, y ∈ q_F M → y.2 = r → y.1 ≤ (q_at D M (q_sc M 2) r).1) (h200 : q_sc M 4 < 200) :
    ∃ T', f_X12_layCell m T (nI (q_sc M 2 - 1)) = some (nI (q_fc (q_ce M) 200 0), T') ∧ r_R (m_ri T' (m + 2)) (q_lay P M (p_fi P f + i) (q_fc (q_ce M) 200 0) (q_at D M (q_sc M 2) r)) ∧ r_O m T T' := by
  have hfu := m_fu_ge
  have hfun := j_funOf hM H
  have hline := j_lineOf C hM H
  have H' := H
  obtain ⟨t1, t2, t3, t4, t5, t6, t7⟩ := H
  have hl := C.1.line t5 t6
  have hex : ∃ j, 0 ≤ j ∧ j < 0 + 200 ∧ q_ce M j = none := by
    rw [hB.2.2.2.2.2.2.1] at h200
    have := fb_ct_not (fun c => (q_ce M c).isSome) 200
    obtain ⟨k, hk, hk2⟩ := fb_ct_pos.mp (show 0 < fb_ct (fun k => !(q_ce M k).isSome) 200 by omega)
    refine ⟨k, by omega, by omega, ?_⟩
    cases h : q_ce M k with
    | none => rfl
    | some y => rw [h] at hk2; cases hk2
  obtain ⟨-, c2, c3, c4⟩ := q_fc_ok 200 0 hex
  obtain ⟨fu', hfu', hfc⟩ := j_fcl (x := nI (q_sc M 2 - 1)) hM hB.2.2.2.1 hB.2.2.2.2.2.1 200 0 m_fu (by omega) (by omega) hex
  obtain ⟨u', rfl⟩ : ∃ u, fu' = u + 1 := ⟨fu' - 1, by omega⟩
  have hx2 : (q_at D M (q_sc M 2) r).2 = r := q_vis_2 _
  have hixl := List.idxOf_lt_length_of_mem hx
  have hl312 := hB.2.1
  have h3 := C.2.1.2.2.1 f t5
  have hpt := C.2.2.1.2.2.1 f (p_pa P f + i) t5 (by simp only [p_vs]; omega)
  rw [hr, nO_s] at hpt
  have hpl : p_pa P f + (p_fi P f + i) - p_fi P f = p_pa P f + i := by omega
  have u0 := p_us_0 (P := P) (l := p_fi P f + i) (by omega)
  have u1 := p_us_1 (P := P) (l := p_fi P f + i) (by omega)
  have o0 := ((C.2.1.2.2.2 f i t5 t6).2.2.2 0 (by omega)).1 u0
  have o1 := ((C.2.1.2.2.2 f i t5 t6).2.2.2 1 (by omega)).1 u1
  have v0 := (C.1.2.2.2.2 f i t5 t6).2.2.2 _ u0
  have v1 := (C.1.2.2.2.2 f i t5 t6).2.2.2 _ u1
  obtain ⟨r_s0, r_s1, r_s2, r_s4, r_sF, r_s5, r_s6, r_s7, r_s8, r_g, r_gv, r_ff, r_fl, r_kd, r_vl, r_rm, r_cr, r_cx, r_sk, r_sv⟩ := id hM
  have hff := r_ff (q_sc M 2 - 1) (by omega) (by omega)
  have hfl := r_fl (q_sc M 2 - 1) (by omega) (by omega)
  rw [t3] at hff
  rw [t4] at hfl
  have k0 := r_kd (q_sc M 2 - 1) (p_va P (p_fi P f + i) 0) (by omega) (by omega) (by omega)
  have k1 := r_kd (q_sc M 2 - 1) (p_va P (p_fi P f + i) 1) (by omega) (by omega) (by omega)
  have w0 := r_vl (q_sc M 2 - 1) (p_va P (p_fi P f + i) 0) (by omega) (by omega) (by omega)
  have w1 := r_vl (q_sc M 2 - 1) (p_va P (p_fi P f + i) 1) (by omega) (by omega) (by omega)
  have b5 := hB.2.2.2.2.2.2.2.1
  have b7 := hB.2.2.2.2.2.2.2.2.2.1
  have hcr := r_cr (q_fc (q_ce M) 200 0) (by omega)
  rw [c3] at hcr
  have hcr : m_ri T (m + 2) (893 + q_fc (q_ce M) 200 0) = m_no := hcr
  generalize hc : q_fc (q_ce M) 200 0 = c at *
  have hlt : f_X12_latestRoom m (m_si T (m + 2) (893 + c) (nI r)) (nI r) = some (nI ((q_F M).idxOf (q_at D M (q_sc M 2) r)), m_si T (m + 2) (893 + c) (nI r)) := by
    have := j_lat' (T := m_si T (m + 2) (893 + c) (nI r)) (m := m) (M := M) (x := q_at D M (q_sc M 2) r) (by rw [e_rn (by omega)]; exact r_sF) (fun j y hj hy => by rw [e_rn (by omega)]; exact r_rm j y hj hy) hB hx (fun y hy h => hmx y hy (h.trans hx2))
    rw [hx2] at this; exact this
  generalize hxx : q_at D M (q_sc M 2) r = x at *
  obtain ⟨u, hu⟩ : ∃ u, m_fu = u + 3 := ⟨m_fu - 3, by omega⟩
  have hT : ∃ T', f_X12_layCell m T (nI (q_sc M 2 - 1)) = some (nI c, T') ∧ r_O m T T' ∧ (∀ t, t ≠ 213 → t ≠ 215 → t ≠ 217 → t ≠ 893 + c → t ≠ 1093 + c → t ≠ 1293 + (2 * c + 0) → t ≠ 1293 + (2 * c + 1) → t ≠ 1693 + (2 * c + 0) → t ≠ 1693 + (2 * c + 1) → m_ri T' (m + 2) t = m_ri T (m + 2) t) ∧
      m_ri T' (m + 2) 213 = nI (q_sc M 4 + 1) ∧ m_ri T' (m + 2) 215 = nI (if q_sc M 5 < q_sc M 4 + 1 then q_sc M 4 + 1 else q_sc M 5) ∧ m_ri T' (m + 2) 217 = nI (q_sc M 7 + 1) ∧ m_ri T' (m + 2) (893 + c) = nI r ∧ m_ri T' (m + 2) (1093 + c) = nI ((q_F M).idxOf x) ∧
      m_ri T' (m + 2) (1293 + (2 * c + 0)) = nI (q_K P M (p_fi P f + i) 0) ∧ m_ri T' (m + 2) (1293 + (2 * c + 1)) = nI (q_K P M (p_fi P f + i) 1) ∧ m_ri T' (m + 2) (1693 + (2 * c + 0)) = q_V P M (p_fi P f + i) 0 ∧ m_ri T' (m + 2) (1693 + (2 * c + 1)) = q_V P M (p_fi P f + i) 1 := by
    have e5 : ∀ a b c d : Nat, a + b + c = a + (b + c) := fun a b c _ => Nat.add_assoc a b c
    have hgo : f_X12_layCell m T (nI (q_sc M 2 - 1)) = b_X12_layCell_81 m m_fu (m_si (m_si T (m + 2) (893 + c) (nI r)) (m + 2) (1093 + c) (nI ((q_F M).idxOf x))) (nI (q_sc M 2 - 1)) (nI c) (nI 0) := by
      simp (disch := omega) only [e_let, e_call, e_cal0, e_bind, e_lit, e_ofN, e_neg, nI_add, pk_mul, e_sub, e_ldi, e_sti, e_ldj, e_stj, e_le_t, e_le_f, e_lt_t, e_lt_f, e_eq_t, e_eq_f, e_no_eq, e_no_eq', e_no_rfl, e_no_lt, e_no_le, e_le_no, e_lt_no, if_true, if_false, ↓reduceIte, e_rs, e_rq, e_rn, e_ji, e_ki, e_ij, e_kj, e_js, e_jq, e_jn, e_cs, e_cq, e_jc, e_kc, e_js', e_jcq, e_icj, e_kcj, or_true, true_or, or_false, false_or, and_true, true_and, not_true_eq_false, not_false_eq_true, f_X12_layCell]
      rw [hfc, b_X12_layCell_2]
      rw [e_lit, nI_add, e_ldi (by omega) (by omega), e_bind, hcr, if_pos (by rw [e_lit, e_neg])]
      simp (disch := omega) only [e_let, e_call, e_cal0, e_bind, e_lit, e_ofN, e_neg, nI_add, pk_mul, e_sub, e_ldi, e_sti, e_ldj, e_stj, e_le_t, e_le_f, e_lt_t, e_lt_f, e_eq_t, e_eq_f, e_no_eq, e_no_eq', e_no_rfl, e_no_lt, e_no_le, e_le_no, e_lt_no, if_true, if_false, ↓reduceIte, e_rs, e_rq, e_rn, e_ji, e_ki, e_ij, e_kj, e_js, e_jq, e_jn, e_cs, e_cq, e_jc, e_kc, e_js', e_jcq, e_icj, e_kcj, or_true, true_or, or_false, false_or, and_true, true_and, not_true_eq_false, not_false_eq_true, hfun, hline, f_X12_madeBy, h3.1, h3.2.1, hpl, f_X12_node, hpt, hlt]
    by_cases hq : q_sc M 5 < q_sc M 4 + 1
    · refine ⟨m_si (m_si (m_si (m_si (m_si (m_si (m_si (m_si (m_si T (m + 2) (893 + c) (nI r)) (m + 2) (1093 + c) (nI ((q_F M).idxOf x))) (m + 2) (1293 + 2 * c + 0) (nI (q_K P M (p_fi P f + i) 0))) (m + 2) (1693 + 2 * c + 0) (q_V P M (p_fi P f + i) 0)) (m + 2) (1293 + 2 * c + 1) (nI (q_K P M (p_fi P f + i) 1))) (m + 2) (1693 + 2 * c + 1) (q_V P M (p_fi P f + i) 1)) (m + 2) 213 (nI (q_sc M 4 + 1))) (m + 2) 217 (nI (q_sc M 7 + 1))) (m + 2) 215 (nI (q_sc M 4 + 1)), ?_, ?_, ?_, ?_, ?_, ?_, ?_, ?_, ?_, ?_, ?_, ?_⟩
      · rw [hgo, hu]
        simp (disch := omega) only [e_let, e_call, e_cal0, e_bind, e_lit, e_ofN, e_neg, nI_add, pk_mul, e_sub, e_ldi, e_sti, e_ldj, e_stj, e_le_t, e_le_f, e_lt_t, e_lt_f, e_eq_t, e_eq_f, e_no_eq, e_no_eq', e_no_rfl, e_no_lt, e_no_le, e_le_no, e_lt_no, if_true, if_false, ↓reduceIte, e_rs, e_rq, e_rn, e_ji, e_ki, e_ij, e_kj, e_js, e_jq, e_jn, e_cs, e_cq, e_jc, e_kc, e_js', e_jcq, e_icj, e_kcj, or_true, true_or, or_false, false_or, and_true, true_and, not_true_eq_false, not_false_eq_true, b_X12_layCell_81, f_X12_kindAt, f_X12_valueAt, f_X12_lineOf, f_X12_funOf, f_X12_var, f_X12_slot, hff, hfl, h3.2.1, o0, o1, k0, k1, w0, w1, r_s4, r_s7, r_s5, q_K, q_V, Nat.reduceAdd, b_X12_layCell_196]
      · refine r_O.now (r_O.now (r_O.now (r_O.now (r_O.now (r_O.now (r_O.now (r_O.now (r_O.now r_O.rf ?_ ?_) ?_ ?_) ?_ ?_) ?_ ?_) ?_ ?_) ?_ ?_) ?_ ?_) ?_ ?_) ?_ ?_ <;> omega
      · intro t h1 h2 h3 h4 h5 h6 h7 h8 h9
        rw [e_rn h2, e_rn h3, e_rn h1, e_rn (by omega), e_rn (by omega), e_rn (by omega), e_rn (by omega), e_rn h5, e_rn h4]
      · simp (disch := omega) only [e_let, e_call, e_cal0, e_bind, e_lit, e_ofN, e_neg, nI_add, pk_mul, e_sub, e_ldi, e_sti, e_ldj, e_stj, e_le_t, e_le_f, e_lt_t, e_lt_f, e_eq_t, e_eq_f, e_no_eq, e_no_eq', e_no_rfl, e_no_lt, e_no_le, e_le_no, e_lt_no, if_true, if_false, ↓reduceIte, e_rs, e_rq, e_rn, e_ji, e_ki, e_ij, e_kj, e_js, e_jq, e_jn, e_cs, e_cq, e_jc, e_kc, e_js', e_jcq, e_icj, e_kcj, or_true, true_or, or_false, false_or, and_true, true_and, not_true_eq_false, not_false_eq_true]
      · rw [if_pos hq]; simp (disch := omega) only [e_let, e_call, e_cal0, e_bind, e_lit, e_ofN, e_neg, nI_add, pk_mul, e_sub, e_ldi, e_sti, e_ldj, e_stj, e_le_t, e_le_f, e_lt_t, e_lt_f, e_eq_t, e_eq_f, e_no_eq, e_no_eq', e_no_rfl, e_no_lt, e_no_le, e_le_no, e_lt_no, if_true, if_false, ↓reduceIte, e_rs, e_rq, e_rn, e_ji, e_ki, e_ij, e_kj, e_js, e_jq, e_jn, e_cs, e_cq, e_jc, e_kc, e_js', e_jcq, e_icj, e_kcj, or_true, true_or, or_false, false_or, and_true, true_and, not_true_eq_false, not_false_eq_true]
      · simp (disch := omega) only [e_let, e_call, e_cal0, e_bind, e_lit, e_ofN, e_neg, nI_add, pk_mul, e_sub, e_ldi, e_sti, e_ldj, e_stj, e_le_t, e_le_f, e_lt_t, e_lt_f, e_eq_t, e_eq_f, e_no_eq, e_no_eq', e_no_rfl, e_no_lt, e_no_le, e_le_no, e_lt_no, if_true, if_false, ↓reduceIte, e_rs, e_rq, e_rn, e_ji, e_ki, e_ij, e_kj, e_js, e_jq, e_jn, e_cs, e_cq, e_jc, e_kc, e_js', e_jcq, e_icj, e_kcj, or_true, true_or, or_false, false_or, and_true, true_and, not_true_eq_false, not_false_eq_true]
      · simp (disch := omega) only [e_let, e_call, e_cal0, e_bind, e_lit, e_ofN, e_neg, nI_add, pk_mul, e_sub, e_ldi, e_sti, e_ldj, e_stj, e_le_t, e_le_f, e_lt_t, e_lt_f, e_eq_t, e_eq_f, e_no_eq, e_no_eq', e_no_rfl, e_no_lt, e_no_le, e_le_no, e_lt_no, if_true, if_false, ↓reduceIte, e_rs, e_rq, e_rn, e_ji, e_ki, e_ij, e_kj, e_js, e_jq, e_jn, e_cs, e_cq, e_jc, e_kc, e_js', e_jcq, e_icj, e_kcj, or_true, true_or, or_false, false_or, and_true, true_and, not_true_eq_false, not_false_eq_true]
      · simp (disch := omega) only [e_let, e_call, e_cal0, e_bind, e_lit, e_ofN, e_neg, nI_add, pk_mul, e_sub, e_ldi, e_sti, e_ldj, e_stj, e_le_t, e_le_f, e_lt_t, e_lt_f, e_eq_t, e_eq_f, e_no_eq, e_no_eq', e_no_rfl, e_no_lt, e_no_le, e_le_no, e_lt_no, if_true, if_false, ↓reduceIte, e_rs, e_rq, e_rn, e_ji, e_ki, e_ij, e_kj, e_js, e_jq, e_jn, e_cs, e_cq, e_jc, e_kc, e_js', e_jcq, e_icj, e_kcj, or_true, true_or, or_false, false_or, and_true, true_and, not_true_eq_false, not_false_eq_true]
      · simp (disch := omega) only [e_let, e_call, e_cal0, e_bind, e_lit, e_ofN, e_neg, nI_add, pk_mul, e_sub, e_ldi, e_sti, e_ldj, e_stj, e_le_t, e_le_f, e_lt_t, e_lt_f, e_eq_t, e_eq_f, e_no_eq, e_no_eq', e_no_rfl, e_no_lt, e_no_le, e_le_no, e_lt_no, if_true, if_false, ↓reduceIte, e_rs, e_rq, e_rn, e_ji, e_ki, e_ij, e_kj, e_js, e_jq, e_jn, e_cs, e_cq, e_jc, e_kc, e_js', e_jcq, e_icj, e_kcj, or_true, true_or, or_false, false_or, and_true, true_and, not_true_eq_false, not_false_eq_true, ← Nat.add_assoc]
      · simp (disch := omega) only [e_let, e_call, e_cal0, e_bind, e_lit, e_ofN, e_neg, nI_add, pk_mul, e_sub, e_ldi, e_sti, e_ldj, e_stj, e_le_t, e_le_f, e_lt_t, e_lt_f, e_eq_t, e_eq_f, e_no_eq, e_no_eq', e_no_rfl, e_no_lt, e_no_le, e_le_no, e_lt_no, if_true, if_false, ↓reduceIte, e_rs, e_rq, e_rn, e_ji, e_ki, e_ij, e_kj, e_js, e_jq, e_jn, e_cs, e_cq, e_jc, e_kc, e_js', e_jcq, e_icj, e_kcj, or_true, true_or, or_false, false_or, and_true, true_and, not_true_eq_false, not_false_eq_true, ← Nat.add_assoc]
      · simp (disch := omega) only [e_let, e_call, e_cal0, e_bind, e_lit, e_ofN, e_neg, nI_add, pk_mul, e_sub, e_ldi, e_sti, e_ldj, e_stj, e_le_t, e_le_f, e_lt_t, e_lt_f, e_eq_t, e_eq_f, e_no_eq, e_no_eq', e_no_rfl, e_no_lt, e_no_le, e_le_no, e_lt_no, if_true, if_false, ↓reduceIte, e_rs, e_rq, e_rn, e_ji, e_ki, e_ij, e_kj, e_js, e_jq, e_jn, e_cs, e_cq, e_jc, e_kc, e_js', e_jcq, e_icj, e_kcj, or_true, true_or, or_false, false_or, and_true, true_and, not_true_eq_false, not_false_eq_true, ← Nat.add_assoc]
      · simp (disch := omega) only [e_let, e_call, e_cal0, e_bind, e_lit, e_ofN, e_neg, nI_add, pk_mul, e_sub, e_ldi, e_sti, e_ldj, e_stj, e_le_t, e_le_f, e_lt_t, e_lt_f, e_eq_t, e_eq_f, e_no_eq, e_no_eq', e_no_rfl, e_no_lt, e_no_le, e_le_no, e_lt_no, if_true, if_false, ↓reduceIte, e_rs, e_rq, e_rn, e_ji, e_ki, e_ij, e_kj, e_js, e_jq, e_jn, e_cs, e_cq, e_jc, e_kc, e_js', e_jcq, e_icj, e_kcj, or_true, true_or, or_false, false_or, and_true, true_and, not_true_eq_false, not_false_eq_true, ← Nat.add_assoc]
    · refine ⟨m_si (m_si (m_si (m_si (m_si (m_si (m_si (m_si T (m + 2) (893 + c) (nI r)) (m + 2) (1093 + c) (nI ((q_F M).idxOf x))) (m + 2) (1293 + 2 * c + 0) (nI (q_K P M (p_fi P f + i) 0))) (m + 2) (1693 + 2 * c + 0) (q_V P M (p_fi P f + i) 0)) (m + 2) (1293 + 2 * c + 1) (nI (q_K P M (p_fi P f + i) 1))) (m + 2) (1693 + 2 * c + 1) (q_V P M (p_fi P f + i) 1)) (m + 2) 213 (nI (q_sc M 4 + 1))) (m + 2) 217 (nI (q_sc M 7 + 1)), ?_, ?_, ?_, ?_, ?_, ?_, ?_, ?_, ?_, ?_, ?_, ?_⟩
      · rw [hgo, hu]
        simp (disch := omega) only [e_let, e_call, e_cal0, e_bind, e_lit, e_ofN, e_neg, nI_add, pk_mul, e_sub, e_ldi, e_sti, e_ldj, e_stj, e_le_t, e_le_f, e_lt_t, e_lt_f, e_eq_t, e_eq_f, e_no_eq, e_no_eq', e_no_rfl, e_no_lt, e_no_le, e_le_no, e_lt_no, if_true, if_false, ↓reduceIte, e_rs, e_rq, e_rn, e_ji, e_ki, e_ij, e_kj, e_js, e_jq, e_jn, e_cs, e_cq, e_jc, e_kc, e_js', e_jcq, e_icj, e_kcj, or_true, true_or, or_false, false_or, and_true, true_and, not_true_eq_false, not_false_eq_true, b_X12_layCell_81, f_X12_kindAt, f_X12_valueAt, f_X12_lineOf, f_X12_funOf, f_X12_var, f_X12_slot, hff, hfl, h3.2.1, o0, o1, k0, k1, w0, w1, r_s4, r_s7, r_s5, q_K, q_V, Nat.reduceAdd, b_X12_layCell_196]
      · refine r_O.now (r_O.now (r_O.now (r_O.now (r_O.now (r_O.now (r_O.now (r_O.now r_O.rf ?_ ?_) ?_ ?_) ?_ ?_) ?_ ?_) ?_ ?_) ?_ ?_) ?_ ?_) ?_ ?_ <;> omega
      · intro t h1 h2 h3 h4 h5 h6 h7 h8 h9
        rw [e_rn h3, e_rn h1, e_rn (by omega), e_rn (by omega), e_rn (by omega), e_rn (by omega), e_rn h5, e_rn h4]
      · simp (disch := omega) only [e_let, e_call, e_cal0, e_bind, e_lit, e_ofN, e_neg, nI_add, pk_mul, e_sub, e_ldi, e_sti, e_ldj, e_stj, e_le_t, e_le_f, e_lt_t, e_lt_f, e_eq_t, e_eq_f, e_no_eq, e_no_eq', e_no_rfl, e_no_lt, e_no_le, e_le_no, e_lt_no, if_true, if_false, ↓reduceIte, e_rs, e_rq, e_rn, e_ji, e_ki, e_ij, e_kj, e_js, e_jq, e_jn, e_cs, e_cq, e_jc, e_kc, e_js', e_jcq, e_icj, e_kcj, or_true, true_or, or_false, false_or, and_true, true_and, not_true_eq_false, not_false_eq_true]
      · rw [if_neg hq]; simp (disch := omega) only [e_let, e_call, e_cal0, e_bind, e_lit, e_ofN, e_neg, nI_add, pk_mul, e_sub, e_ldi, e_sti, e_ldj, e_stj, e_le_t, e_le_f, e_lt_t, e_lt_f, e_eq_t, e_eq_f, e_no_eq, e_no_eq', e_no_rfl, e_no_lt, e_no_le, e_le_no, e_lt_no, if_true, if_false, ↓reduceIte, e_rs, e_rq, e_rn, e_ji, e_ki, e_ij, e_kj, e_js, e_jq, e_jn, e_cs, e_cq, e_jc, e_kc, e_js', e_jcq, e_icj, e_kcj, or_true, true_or, or_false, false_or, and_true, true_and, not_true_eq_false, not_false_eq_true, r_s5]
      · simp (disch := omega) only [e_let, e_call, e_cal0, e_bind, e_lit, e_ofN, e_neg, nI_add, pk_mul, e_sub, e_ldi, e_sti, e_ldj, e_stj, e_le_t, e_le_f, e_lt_t, e_lt_f, e_eq_t, e_eq_f, e_no_eq, e_no_eq', e_no_rfl, e_no_lt, e_no_le, e_le_no, e_lt_no, if_true, if_false, ↓reduceIte, e_rs, e_rq, e_rn, e_ji, e_ki, e_ij, e_kj, e_js, e_jq, e_jn, e_cs, e_cq, e_jc, e_kc, e_js', e_jcq, e_icj, e_kcj, or_true, true_or, or_false, false_or, and_true, true_and, not_true_eq_false, not_false_eq_true]
      · simp (disch := omega) only [e_let, e_call, e_cal0, e_bind, e_lit, e_ofN, e_neg, nI_add, pk_mul, e_sub, e_ldi, e_sti, e_ldj, e_stj, e_le_t, e_le_f, e_lt_t, e_lt_f, e_eq_t, e_eq_f, e_no_eq, e_no_eq', e_no_rfl, e_no_lt, e_no_le, e_le_no, e_lt_no, if_true, if_false, ↓reduceIte, e_rs, e_rq, e_rn, e_ji, e_ki, e_ij, e_kj, e_js, e_jq, e_jn, e_cs, e_cq, e_jc, e_kc, e_js', e_jcq, e_icj, e_kcj, or_true, true_or, or_false, false_or, and_true, true_and, not_true_eq_false, not_false_eq_true]
      · simp (disch := omega) only [e_let, e_call, e_cal0, e_bind, e_lit, e_ofN, e_neg, nI_add, pk_mul, e_sub, e_ldi, e_sti, e_ldj, e_stj, e_le_t, e_le_f, e_lt_t, e_lt_f, e_eq_t, e_eq_f, e_no_eq, e_no_eq', e_no_rfl, e_no_lt, e_no_le, e_le_no, e_lt_no, if_true, if_false, ↓reduceIte, e_rs, e_rq, e_rn, e_ji, e_ki, e_ij, e_kj, e_js, e_jq, e_jn, e_cs, e_cq, e_jc, e_kc, e_js', e_jcq, e_icj, e_kcj, or_true, true_or, or_false, false_or, and_true, true_and, not_true_eq_false, not_false_eq_true]
      · simp (disch := omega) only [e_let, e_call, e_cal0, e_bind, e_lit, e_ofN, e_neg, nI_add, pk_mul, e_sub, e_ldi, e_sti, e_ldj, e_stj, e_le_t, e_le_f, e_lt_t, e_lt_f, e_eq_t, e_eq_f, e_no_eq, e_no_eq', e_no_rfl, e_no_lt, e_no_le, e_le_no, e_lt_no, if_true, if_false, ↓reduceIte, e_rs, e_rq, e_rn, e_ji, e_ki, e_ij, e_kj, e_js, e_jq, e_jn, e_cs, e_cq, e_jc, e_kc, e_js', e_jcq, e_icj, e_kcj, or_true, true_or, or_false, false_or, and_true, true_and, not_true_eq_false, not_false_eq_true, ← Nat.add_assoc]
      · simp (disch := omega) only [e_let, e_call, e_cal0, e_bind, e_lit, e_ofN, e_neg, nI_add, pk_mul, e_sub, e_ldi, e_sti, e_ldj, e_stj, e_le_t, e_le_f, e_lt_t, e_lt_f, e_eq_t, e_eq_f, e_no_eq, e_no_eq', e_no_rfl, e_no_lt, e_no_le, e_le_no, e_lt_no, if_true, if_false, ↓reduceIte, e_rs, e_rq, e_rn, e_ji, e_ki, e_ij, e_kj, e_js, e_jq, e_jn, e_cs, e_cq, e_jc, e_kc, e_js', e_jcq, e_icj, e_kcj, or_true, true_or, or_false, false_or, and_true, true_and, not_true_eq_false, not_false_eq_true, ← Nat.add_assoc]
      · simp (disch := omega) only [e_let, e_call, e_cal0, e_bind, e_lit, e_ofN, e_neg, nI_add, pk_mul, e_sub, e_ldi, e_sti, e_ldj, e_stj, e_le_t, e_le_f, e_lt_t, e_lt_f, e_eq_t, e_eq_f, e_no_eq, e_no_eq', e_no_rfl, e_no_lt, e_no_le, e_le_no, e_lt_no, if_true, if_false, ↓reduceIte, e_rs, e_rq, e_rn, e_ji, e_ki, e_ij, e_kj, e_js, e_jq, e_jn, e_cs, e_cq, e_jc, e_kc, e_js', e_jcq, e_icj, e_kcj, or_true, true_or, or_false, false_or, and_true, true_and, not_true_eq_false, not_false_eq_true, ← Nat.add_assoc]
      · simp (disch := omega) only [e_let, e_call, e_cal0, e_bind, e_lit, e_ofN, e_neg, nI_add, pk_mul, e_sub, e_ldi, e_sti, e_ldj, e_stj, e_le_t, e_le_f, e_lt_t, e_lt_f, e_eq_t, e_eq_f, e_no_eq, e_no_eq', e_no_rfl, e_no_lt, e_no_le, e_le_no, e_lt_no, if_true, if_false, ↓reduceIte, e_rs, e_rq, e_rn, e_ji, e_ki, e_ij, e_kj, e_js, e_jq, e_jn, e_cs, e_cq, e_jc, e_kc, e_js', e_jcq, e_icj, e_kcj, or_true, true_or, or_false, false_or, and_true, true_and, not_true_eq_false, not_false_eq_true, ← Nat.add_assoc]
  obtain ⟨T', g1, g2, g3, g4, g5, g6, g7, g8, g9, g10, g11, g12⟩ := hT
  refine ⟨T', g1, hM.lay (by omega) g3 g4 g5 g6 (by rw [hx2]; exact g7) g8 (fun s hs => ?_) (fun s hs => ?_), g2⟩
  · rcases (by omega : s = 0 ∨ s = 1) with h | h <;> subst h
    · exact g9
    · exact g10
  · rcases (by omega : s = 0 ∨ s = 1) with h | h <;> subst h
    · exact g11
    · exact g12
end RP
