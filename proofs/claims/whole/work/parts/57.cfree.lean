/-! a room is freed: the one side -/
section QG
variable {S : m_M} {a p : Nat} {P : pP} {D : pD} {M : qM}
def q_nw (M : qM) (x : Nat × Nat) (c : Nat) : Option (Nat × Nat) := if q_ce M c = some x then none else q_ce M c
def q_mid (M : qM) (x : Nat × Nat) (k c : Nat) : Bool := if c < k then (q_nw M x c).isSome else (q_ce M c).isSome
def q_fI (S : m_M) (a : Nat) (M : qM) (x : Nat × Nat) (F' : List (Nat × Nat)) (k : Nat) (S' : m_M) : Prop :=
  (∀ q, q ≠ a → q ≠ a + 6 → m_ri S' q = m_ri S q) ∧ (∀ j, j ≠ 4 → m_ri S' a j = m_ri S a j) ∧ m_ri S' a 4 = nI (fb_ct (q_mid M x k) 200) ∧
  (∀ c, c < 200 → m_ri S' (a + 6) c = if c < k then q_ix F' (q_nw M x c) else q_ix (q_F M) (q_ce M c)) ∧ m_rj S' = m_rj S ∧ m_rr S' = m_rr S
theorem q_mid_s {x : Nat × Nat} {k : Nat} (hk : k < 200) : fb_ct (q_mid M x (k + 1)) 200 + (if (q_ce M k).isSome = true then 1 else 0) = fb_ct (q_mid M x k) 200 + (if (q_nw M x k).isSome = true then 1 else 0) := by
  have h := fb_ct_upd (q_mid M x k) ((q_nw M x k).isSome) hk
  have h1 : (fun c => if c = k then (q_nw M x k).isSome else q_mid M x k c) = q_mid M x (k + 1) := by
    funext c
    simp only [q_mid]
    by_cases hc : c = k
    · subst hc; rw [if_pos rfl, if_pos (by omega)]
    · rw [if_neg hc]
      by_cases h2 : c < k
      · rw [if_pos h2, if_pos (by omega)]
      · rw [if_neg h2, if_neg (by omega)]
  have h2 : q_mid M x k k = (q_ce M k).isSome := by simp only [q_mid]; rw [if_neg (by omega)]
  rw [h1, h2] at h
  exact h
theorem k_frl {x : Nat × Nat} {A B : List (Nat × Nat)} (hl : (q_F M).length ≤ 312) (hx : x ∈ q_F M) (hm : ∀ c y, c < 200 → q_ce M c = some y → y ∈ q_F M)
    (hA : A.length = (q_F M).idxOf x) (hix : ∀ y, y ∈ q_F M → y ≠ x → ((q_F M).idxOf y < (q_F M).idxOf x ∧ (A ++ B).idxOf y = (q_F M).idxOf y) ∨ ((q_F M).idxOf x < (q_F M).idxOf y ∧ (A ++ B).idxOf y = (q_F M).idxOf y - 1))
    {K : m_M → Option m_M} : ∀ (d k fu : Nat) (S' : m_M), k + d = 200 → d < fu → q_fI S a M x (A ++ B) k S' →
    ∃ S'', q_fI S a M x (A ++ B) 200 S'' ∧ b_X2_freeRoom_11 a fu S' (nI ((q_F M).idxOf x)) (nI k) = b_X2_freeRoom_11 a (fu - d) S'' (nI ((q_F M).idxOf x)) (nI 200) := by
  have ht := List.idxOf_lt_length_of_mem hx
  intro d
  induction d with
  | zero =>
    intro k fu S' hk hf hI
    have hk : k = 200 := hk
    subst hk
    exact ⟨S', hI, rfl⟩
  | succ d ih =>
    intro k fu S' hk hf hI
    obtain ⟨fu, rfl⟩ : ∃ f, fu = f + 1 := ⟨fu - 1, by omega⟩
    obtain ⟨i1, i2, i3, i4, i5, i6⟩ := hI
    have hk2 : k < 200 := by omega
    have hv := i4 k hk2
    rw [if_neg (by omega)] at hv
    have hs := q_mid_s (M := M) (x := x) hk2
    have hc2 : fb_ct (q_mid M x k) 200 ≤ 200 := fb_ct_le _ _
    rw [show fu + 1 - (d + 1) = fu - d by omega]
    -- what stands there
    cases hce : q_ce M k with
    | none =>
      have hnw : q_nw M x k = none := by simp only [q_nw, hce]; rw [if_neg (by intro h; cases h)]
      rw [hce] at hv
      rw [hce, hnw] at hs
      have hv : m_ri S' (a + 6) k = m_no := hv
      simp only [Option.isSome_none, Bool.false_eq_true, if_false] at hs
      obtain ⟨S'', g1, g2⟩ := ih (k + 1) fu S' (by omega) (by omega) ⟨i1, i2, by rw [i3]; exact congrArg nI (by omega), fun c hc => by
        by_cases hck : c = k
        · subst hck; rw [if_pos (by omega), hv, hnw]; rfl
        · have := i4 c hc
          by_cases h2 : c < k
          · rw [if_pos (by omega)]; rw [if_pos h2] at this; exact this
          · rw [if_neg (by omega)]; rw [if_neg h2] at this; exact this, i5, i6⟩
      refine ⟨S'', g1, ?_⟩
      rw [← g2]
      simp (disch := omega) only [e_let, e_call, e_cal0, e_bind, e_lit, e_ofN, e_neg, nI_add, pk_mul, e_sub, e_ldi, e_sti, e_ldj, e_stj, e_le_t, e_le_f, e_lt_t, e_lt_f, e_eq_t, e_eq_f, e_no_eq, e_no_eq', e_no_rfl, e_no_lt, e_no_le, e_le_no, e_lt_no, if_true, if_false, ↓reduceIte, e_rs, e_rq, e_rn, e_ji, e_ki, e_ij, e_kj, e_js, e_jq, e_jn, e_cs, e_cq, e_jc, e_kc, e_js', e_jcq, e_icj, e_kcj, or_true, true_or, or_false, false_or, and_true, true_and, not_true_eq_false, not_false_eq_true, b_X2_freeRoom_11, hv, b_X2_freeRoom_68]
    | some y =>
      rw [hce] at hv
      have hv : m_ri S' (a + 6) k = nI ((q_F M).idxOf y) := hv
      have hy := hm k y hk2 hce
      have hyl := List.idxOf_lt_length_of_mem hy
      by_cases hyx : y = x
      · subst hyx
        have hnw : q_nw M y k = none := by simp only [q_nw, hce, if_true]
        rw [hce, hnw] at hs
        simp only [Option.isSome_none, Option.isSome_some, Bool.false_eq_true, if_false, if_true] at hs
        obtain ⟨S'', g1, g2⟩ := ih (k + 1) fu (m_si (m_si S' (a + 6) k m_no) a 4 (nI (fb_ct (q_mid M y k) 200 - 1))) (by omega) (by omega) ⟨fun q h1 h2 => by rw [e_rq h1, e_rq h2]; exact i1 q h1 h2, fun j hj => by rw [e_rn hj, e_rq (by omega)]; exact i2 j hj, by rw [e_rs]; exact congrArg nI (by omega), fun c hc => by
          rw [e_rq (by omega)]
          by_cases hck : c = k
          · subst hck; rw [if_pos (by omega), e_rs, hnw]; rfl
          · rw [e_rn hck]
            have := i4 c hc
            by_cases h2 : c < k
            · rw [if_pos (by omega)]; rw [if_pos h2] at this; exact this
            · rw [if_neg (by omega)]; rw [if_neg h2] at this; exact this, i5, i6⟩
        refine ⟨S'', g1, ?_⟩
        rw [← g2]
        simp (disch := omega) only [e_let, e_call, e_cal0, e_bind, e_lit, e_ofN, e_neg, nI_add, pk_mul, e_sub, e_ldi, e_sti, e_ldj, e_stj, e_le_t, e_le_f, e_lt_t, e_lt_f, e_eq_t, e_eq_f, e_no_eq, e_no_eq', e_no_rfl, e_no_lt, e_no_le, e_le_no, e_lt_no, if_true, if_false, ↓reduceIte, e_rs, e_rq, e_rn, e_ji, e_ki, e_ij, e_kj, e_js, e_jq, e_jn, e_cs, e_cq, e_jc, e_kc, e_js', e_jcq, e_icj, e_kcj, or_true, true_or, or_false, false_or, and_true, true_and, not_true_eq_false, not_false_eq_true, b_X2_freeRoom_11, hv, b_X2_freeRoom_68, i3]
      · have hnw : q_nw M x k = some y := by simp only [q_nw, hce]; rw [if_neg (by intro h; exact hyx (Option.some.inj h))]
        rw [hce, hnw] at hs
        simp only [Option.isSome_some, if_true] at hs
        rcases hix y hy hyx with ⟨h1, h2⟩ | ⟨h1, h2⟩
        · obtain ⟨S'', g1, g2⟩ := ih (k + 1) fu S' (by omega) (by omega) ⟨i1, i2, by rw [i3]; exact congrArg nI (by omega), fun c hc => by
            by_cases hck : c = k
            · subst hck; rw [if_pos (by omega), hv, hnw]; exact congrArg nI h2.symm
            · have := i4 c hc
              by_cases h2 : c < k
              · rw [if_pos (by omega)]; rw [if_pos h2] at this; exact this
              · rw [if_neg (by omega)]; rw [if_neg h2] at this; exact this, i5, i6⟩
          refine ⟨S'', g1, ?_⟩
          rw [← g2]
          simp (disch := omega) only [e_let, e_call, e_cal0, e_bind, e_lit, e_ofN, e_neg, nI_add, pk_mul, e_sub, e_ldi, e_sti, e_ldj, e_stj, e_le_t, e_le_f, e_lt_t, e_lt_f, e_eq_t, e_eq_f, e_no_eq, e_no_eq', e_no_rfl, e_no_lt, e_no_le, e_le_no, e_lt_no, if_true, if_false, ↓reduceIte, e_rs, e_rq, e_rn, e_ji, e_ki, e_ij, e_kj, e_js, e_jq, e_jn, e_cs, e_cq, e_jc, e_kc, e_js', e_jcq, e_icj, e_kcj, or_true, true_or, or_false, false_or, and_true, true_and, not_true_eq_false, not_false_eq_true, b_X2_freeRoom_11, hv, b_X2_freeRoom_68]
        · obtain ⟨S'', g1, g2⟩ := ih (k + 1) fu (m_si S' (a + 6) k (nI ((q_F M).idxOf y - 1))) (by omega) (by omega) ⟨fun q h1 h2 => by rw [e_rq h2]; exact i1 q h1 h2, fun j hj => by rw [e_rq (by omega)]; exact i2 j hj, by rw [e_rq (by omega), i3]; exact congrArg nI (by omega), fun c hc => by
            by_cases hck : c = k
            · subst hck; rw [if_pos (by omega), e_rs, hnw]; exact congrArg nI h2.symm
            · rw [e_rn hck]
              have := i4 c hc
              by_cases h2 : c < k
              · rw [if_pos (by omega)]; rw [if_pos h2] at this; exact this
              · rw [if_neg (by omega)]; rw [if_neg h2] at this; exact this, i5, i6⟩
          refine ⟨S'', g1, ?_⟩
          rw [← g2]
          simp (disch := omega) only [e_let, e_call, e_cal0, e_bind, e_lit, e_ofN, e_neg, nI_add, pk_mul, e_sub, e_ldi, e_sti, e_ldj, e_stj, e_le_t, e_le_f, e_lt_t, e_lt_f, e_eq_t, e_eq_f, e_no_eq, e_no_eq', e_no_rfl, e_no_lt, e_no_le, e_le_no, e_lt_no, if_true, if_false, ↓reduceIte, e_rs, e_rq, e_rn, e_ji, e_ki, e_ij, e_kj, e_js, e_jq, e_jn, e_cs, e_cq, e_jc, e_kc, e_js', e_jcq, e_icj, e_kcj, or_true, true_or, or_false, false_or, and_true, true_and, not_true_eq_false, not_false_eq_true, b_X2_freeRoom_11, hv, b_X2_freeRoom_68]
theorem k_free1 {x : Nat × Nat} (hM : q_R S a M) (hB : q_B P M) (hx : x ∈ q_F M) : ∃ S', f_X2_freeRoom a S (nI ((q_F M).idxOf x)) = some S' ∧ q_R S' a (q_fr1 M x) ∧ e_O a (a + 9) S S' := by
  have hf := m_fu_ge
  have hl := hB.2.1
  have hm := hB.2.2.2.2.2.1
  obtain ⟨A, B, hF, hA, hfl, hix⟩ := q_split hB.2.2.1 hx
  have ht := List.idxOf_lt_length_of_mem hx
  have r3 := hM.2.1
  have h4 := hM.1 4 (by omega) (by omega) (by omega)
  obtain ⟨S2, g1, g2⟩ := k_frl (K := fun s => some s) (S := S) (a := a) hl hx hm hA hix 200 0 m_fu S (by omega) (by omega) ⟨fun _ _ _ => rfl, fun _ _ => rfl, by
    rw [h4, hB.2.2.2.2.2.2.1]; exact congrArg nI (fb_ct_cong (fun k _ => by simp only [q_mid]; rw [if_neg (by omega)])), fun c hc => by rw [if_neg (by omega)]; exact hM.2.2.2.2.2.2.2.2.1 c hc, rfl, rfl⟩
  obtain ⟨i1, i2, i3, i4, i5, i6⟩ := g1
  obtain ⟨u, hu⟩ : ∃ u, m_fu - 200 = u + 1 := ⟨m_fu - 201, by omega⟩
  rw [hu] at g2
  have r3' : m_ri S2 a 3 = nI (q_F M).length := by rw [i2 3 (by omega)]; exact r3
  have hlen : (q_F M).length = A.length + B.length + 1 := by rw [hF]; simp; omega
  refine ⟨m_si (m_ci S2 (a + 5) (va_cpy (m_ri S2 (a + 5)) (m_ri S2 (a + 5)) ((q_F M).idxOf x + 1) ((q_F M).idxOf x) ((q_F M).length - (q_F M).idxOf x - 1))) a 3 (nI ((q_F M).length - 1)), ?_, ?_, ?_⟩
  · simp (disch := omega) only [e_let, e_call, e_cal0, e_bind, e_lit, e_ofN, e_neg, nI_add, pk_mul, e_sub, e_ldi, e_sti, e_ldj, e_stj, e_le_t, e_le_f, e_lt_t, e_lt_f, e_eq_t, e_eq_f, e_no_eq, e_no_eq', e_no_rfl, e_no_lt, e_no_le, e_le_no, e_lt_no, if_true, if_false, ↓reduceIte, e_rs, e_rq, e_rn, e_ji, e_ki, e_ij, e_kj, e_js, e_jq, e_jn, e_cs, e_cq, e_jc, e_kc, e_js', e_jcq, e_icj, e_kcj, or_true, true_or, or_false, false_or, and_true, true_and, not_true_eq_false, not_false_eq_true, f_X2_freeRoom, f_X2_hasRoom, r3, b_X2_hasRoom_17]
    have g2' := g2
    generalize m_fu = fu at *
    rw [g2']
    simp (disch := omega) only [e_let, e_call, e_cal0, e_bind, e_lit, e_ofN, e_neg, nI_add, pk_mul, e_sub, e_ldi, e_sti, e_ldj, e_stj, e_le_t, e_le_f, e_lt_t, e_lt_f, e_eq_t, e_eq_f, e_no_eq, e_no_eq', e_no_rfl, e_no_lt, e_no_le, e_le_no, e_lt_no, if_true, if_false, ↓reduceIte, e_rs, e_rq, e_rn, e_ji, e_ki, e_ij, e_kj, e_js, e_jq, e_jn, e_cs, e_cq, e_jc, e_kc, e_js', e_jcq, e_icj, e_kcj, or_true, true_or, or_false, false_or, and_true, true_and, not_true_eq_false, not_false_eq_true, b_X2_freeRoom_11, r3', e_cpi]
  · obtain ⟨r1, -, r3b, r4, r5, r6, r7, r8, r9, r10, r11⟩ := hM
    have e5 : m_ri S2 (a + 5) = m_ri S (a + 5) := i1 _ (by omega) (by omega)
    refine ⟨fun i hi h3' h10' => ?_, ?_, ?_, fun k' hk => ?_, fun k' hk => ?_, fun k' w hk hw => ?_, fun k' w hk hw => ?_, fun i y hy => ?_, fun c hc => ?_, fun c s hc hs hl => ?_, fun c s hc hs hl => ?_⟩
    · rw [e_rn h3', e_cq (by omega)]
      show _ = nI (va_up (q_sc M) 4 _ i)
      by_cases h44 : i = 4
      · subst h44; rw [va_up_self, i3]
        exact congrArg nI (fb_ct_cong (fun c hc => by simp only [q_mid, q_nw]; rw [if_pos hc]))
      · rw [va_up_ne _ _ h44, i2 i h44]; exact r1 i hi h3' h10'
    · rw [e_rs]
      show _ = nI ((q_F M).filter (fun y => decide (y ≠ x))).length
      rw [hfl, List.length_append]; exact congrArg nI (by omega)
    · rw [e_rn (by omega), e_cq (by omega), i2 10 (by omega)]; exact r3b
    · rw [e_rq (by omega), e_cq (by omega), i1 _ (by omega) (by omega)]; exact r4 k' hk
    · rw [e_rq (by omega), e_cq (by omega), i1 _ (by omega) (by omega)]; exact r5 k' hk
    · rw [e_rq (by omega), e_cq (by omega), i1 _ (by omega) (by omega)]; exact r6 k' w hk hw
    · rw [e_rq (by omega), e_cq (by omega), i1 _ (by omega) (by omega)]; exact r7 k' w hk hw
    · rw [e_rq (by omega), e_cs, e5]
      have hy : ((q_F M).filter (fun y => decide (y ≠ x)))[i]? = some y := hy
      rw [hfl] at hy
      simp only [va_cpy]
      by_cases hi : i < A.length
      · rw [if_neg (by omega)]
        refine r8 i y ?_
        rw [hF, List.getElem?_append_left hi]
        rw [List.getElem?_append_left hi] at hy; exact hy
      · have hil : i < (A ++ B).length := (List.getElem?_eq_some_iff.mp hy).1
        rw [List.length_append] at hil
        rw [if_pos (by omega), show (q_F M).idxOf x + 1 + (i - (q_F M).idxOf x) = i + 1 by omega]
        refine r8 (i + 1) y ?_
        rw [hF, List.getElem?_append_right (by omega)]
        rw [List.getElem?_append_right (by omega)] at hy
        rw [show i + 1 - A.length = (i - A.length) + 1 by omega, List.getElem?_cons_succ]; exact hy
    · rw [e_rq (by omega), e_cq (by omega), i4 c hc, if_pos (by omega)]
      show _ = q_ix ((q_F M).filter (fun y => decide (y ≠ x))) _
      rw [hfl]; rfl
    · have hl : q_nw M x c ≠ none := hl
      rw [e_rq (by omega), e_cq (by omega), i1 _ (by omega) (by omega)]; exact r10 c s hc hs (fun q => hl (by simp only [q_nw, q]; rfl))
    · have hl : q_nw M x c ≠ none := hl
      rw [e_rq (by omega), e_cq (by omega), i1 _ (by omega) (by omega)]; exact r11 c s hc hs (fun q => hl (by simp only [q_nw, q]; rfl))
  · refine e_O.si (e_O.ci ⟨fun q hq => i1 q (by omega) (by omega), i5, i6⟩ (by omega) (by omega)) (by omega) (by omega)
end QG
