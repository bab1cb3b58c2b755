/-! an expression, both sides, all -/
/-- what is read behind the word of an expression -/
def k_ch (x : Nat) (S : m_M) (l v : Int32) : Option (Int32 × m_M) :=
  if v = (3 : Int32) then b_X4_readsExpr_184 x S l else if v = (4 : Int32) then b_X4_readsExpr_184 x S l else if v = (5 : Int32) then b_X4_readsExpr_237 x S l else if v = (6 : Int32) then b_X4_readsExpr_237 x S l else
  if v = (7 : Int32) then (m_call (f_X4_takesVars x S l (0 : Int32) (3 : Int32)) fun v14 S13 => if v14 = 0 ∨ v14 = 1 then some (v14, S13) else none) else
  if v = (8 : Int32) then (m_call (f_X4_takesFun x S l) fun v17 S16 => if v17 = 0 then (b_X4_readsExpr_229 x S16) else (m_call (f_X3_argumentCount (x + 3) S16 l) fun v20 S19 => m_call (f_X4_takesVars x S19 l (0 : Int32) v20) fun v22 S21 => if v22 = 0 then (b_X4_readsExpr_229 x S21) else (b_X4_readsExpr_230 x S21 (1 : Int32)))) else
  if v = (9 : Int32) then (m_call (f_X4_readsWhen x S l) fun v26 S25 => if v26 = 0 ∨ v26 = 1 then some (v26, S25) else none) else b_X4_readsExpr_237 x S l
section VE
variable {S S' S'' T T' T'' : m_M} {x m l : Nat} {t : Nat → Nat} {N L p : Nat} {P : pP} {n w : Nat → Int64} {o c u : Nat} {va : Nat → Nat}
theorem j_ex53 {l2 : Int32} (hJ : t_yj T m t N L p) : ∀ (c i fu : Nat) (l2 : Int32), i + c = 10 → b_X12_readExpr_53 m (fu + c) T (nI l) l2 (nI i) = b_X12_readExpr_53 m fu T (nI l) (if t_K t N L p = 3 ∧ i ≤ t_ki (t_W t N p) ∧ t_ki (t_W t N p) ≤ 9 then nI (t_ki (t_W t N p)) else l2) (nI 10) := by
  intro c
  induction c with
  | zero =>
    intro i fu l2 h
    obtain rfl : i = 10 := by omega
    rw [if_neg (by omega)]; rfl
  | succ c ih =>
    intro i fu l2 h
    have hw := j_isWord hJ (i := i) (by omega)
    have hlt : ¬ ((9 : Int32) < nI i) := by
      rw [show (9 : Int32) = nI 9 from rfl, e_lt (by omega) (by omega)]; omega
    rw [show fu + (c + 1) = (fu + c) + 1 from rfl, b_X12_readExpr_53, if_neg hlt, hw, e_call]
    by_cases g : t_K t N L p = 3 ∧ t_ki (t_W t N p) = i
    · rw [if_pos g, if_neg (show ¬ nI 1 = (0 : Int32) by decide), e_let, b_X12_readExpr_73, e_let, show (1 : Int32) = nI 1 from rfl, nI_add, ih (i + 1) fu _ (by omega), if_neg (by omega), if_pos (by omega), show (2 : Int32) = nI 2 from rfl, nI_add, e_sub (by omega), show 2 + i - 2 = t_ki (t_W t N p) by omega]
    · rw [if_neg g, if_pos (show nI 0 = (0 : Int32) from rfl), b_X12_readExpr_73, e_let, show (1 : Int32) = nI 1 from rfl, nI_add, ih (i + 1) fu _ (by omega)]
      by_cases h3 : t_K t N L p = 3 ∧ i + 1 ≤ t_ki (t_W t N p) ∧ t_ki (t_W t N p) ≤ 9
      · rw [if_pos h3, if_pos (by omega)]
      · rw [if_neg h3, if_neg (by omega)]
theorem v_expr (hW : v_W P) (hf : 0 < p_fu P) (hl : l < 24) (hlP : l = p_ln P) (hJ : v_J S T x m t N L p) (hS : v_QS S x P n w) (hT : v_QT T m P n w) (hno : ∀ k, k < 5 → m_ri T (m + 3) (66 + 5 * l + k) = m_no) :
    ∃ S' T' r, f_X4_readsExpr x S (nI l) = some (nI r, S') ∧ f_X12_readExpr m T (nI l) = some (nI r, T') ∧ v_fs x l S S' ∧ v_ft m l T T' ∧ ((r = 0 ∧ v_B S' T' x m) ∨ (r = 1 ∧ ∃ p' o c u va, v_J S' T' x m t N L p' ∧ v_LL S' T' x m (v_ed P l o c u va) l)) := by
  have hfu := m_fu_ge
  have hf5 := hW.1
  have hKS : ∀ {S'}, v_fs x l S S' → v_QS S' x P n w := fun h => hS.kept hW (by rw [← hlP]; exact h)
  have hKT : ∀ {T'}, v_ft m l T T' → v_QT T' m P n w := fun h => hT.kept hW (by rw [← hlP]; exact h) (by omega)
  obtain ⟨k9, k10, k11, k12, _, k14⟩ := hJ.1.tk
  have hK5 := t_K_5 (t := t) (N := N) (L := L) (p := p)
  obtain ⟨_, ⟨_, j7, _, _, j8, _⟩, _⟩ := hJ.2
  have hnm := j_isName hJ.2
  have hj : t_j (t_K t N L p) < 5 := by simp only [t_j]; split <;> omega
  have hl23 : (nI l * (5 : Int32)) = nI (l * 5) := by rw [show (5 : Int32) = nI 5 from rfl, pk_mul]
  by_cases h4 : t_K t N L p = 4
  · rw [h4] at k9 j7
    rw [if_pos h4] at k12
    have j8 := j8 h4
    have hM := t_K_4 h4
    obtain ⟨S2, a1, a2, a3, a4⟩ := k_go2 (S := m_si (m_si S (x + 8) l (nI 22)) (x + 10) (l * 5) (nI (t_M t N p))) (hJ.1.kept fun q h1 h2 => ⟨by rw [e_rq (by omega), e_rq (by omega)], rfl⟩) (by omega)
    obtain ⟨T2, b1, b2, b3⟩ := j_go2 (T := m_si (m_si T (m + 3) (18 + l) (nI 0)) (m + 3) (186 + l) (nI (t_M t N p))) (hJ.2.kept (fun i _ _ => by rw [e_rq (by omega), e_rq (by omega)]) rfl (by rw [e_rq (by omega), e_rq (by omega)])) (by omega)
    refine ⟨S2, T2, 1, ?_, ?_, (v_fs.rf.s3.s5 (by omega) (by omega)).tr (v_fs.of a4), ((v_ft.rf.s3 (by omega)).s3 (by omega)).tr (v_ft.of b3), Or.inr ⟨rfl, _, 0, 0, t_M t N p, _, ⟨a2, b2⟩, v_mk0 hl hM ?_ ?_ ?_ ?_ (fun k hk => ?_)⟩⟩
    · rw [f_X4_readsExpr, k9, if_pos (show nI 4 = (4 : Int32) from rfl), e_sti (by omega) (by omega), e_bind, hl23, e_sti (by omega) (by omega), e_bind, e_rq (by omega), k12, show (22 : Int32) = nI 22 from rfl, a1]
      rfl
    · rw [f_X12_readExpr, j7, if_pos (show nI (t_j 4) = (3 : Int32) from rfl), show (18 : Int32) = nI 18 from rfl, nI_add, e_sti (by omega) (by omega), e_bind, show (186 : Int32) = nI 186 from rfl, nI_add, e_sti (by omega) (by omega), e_bind, e_rq (by omega), j8, show (0 : Int32) = nI 0 from rfl, b1]
      rfl
    · rw [(a4.1 (x + 8) (by omega)).1, e_rq (by omega), e_rs]
    · rw [(a4.1 (x + 10) (by omega)).1, e_rs]
    · rw [(b3.2.2.1 (m + 3) (by omega)).1, e_rn (by omega), e_rs]
    · rw [(b3.2.2.1 (m + 3) (by omega)).1, e_rs]
    · rw [(b3.2.2.1 (m + 3) (by omega)).1, e_rn (by omega), e_rn (by omega)]; exact hno k hk
  · have n94 : ¬ (nI (t_K t N L p) = (4 : Int32)) := fun q => (e_eq_f (a := t_K t N L p) (b := 4) h4 (by omega) (by omega)).mp q
    have nj3 : ¬ (nI (t_j (t_K t N L p)) = (3 : Int32)) := fun q => (e_eq_f (a := t_j (t_K t N L p)) (b := 3) (by simp only [t_j]; split <;> omega) (by omega) (by omega)).mp q
    obtain ⟨fu, hfu'⟩ : ∃ fu, m_fu = (fu + 1) + 8 := ⟨m_fu - 9, by omega⟩
    have hst : ∀ l2 : Int32, b_X12_readExpr_50 m T (nI l) l2 = b_X12_readExpr_53 m (fu + 1) T (nI l) (if t_K t N L p = 3 ∧ 2 ≤ t_ki (t_W t N p) ∧ t_ki (t_W t N p) ≤ 9 then nI (t_ki (t_W t N p)) else l2) (nI 10) := fun l2 => by
      rw [b_X12_readExpr_50, hfu', show (2 : Int32) = nI 2 from rfl]; exact j_ex53 (l2 := l2) hJ.2 8 2 (fu + 1) l2 rfl
    have h910 : (9 : Int32) < nI 10 := by decide
    have h18n : ∀ v : Int32, m_sti T (m + 3) 210 ((18 : Int32) + nI l) v = some (m_si T (m + 3) (18 + l) v) := fun v => by rw [show (18 : Int32) = nI 18 from rfl, nI_add, e_sti (by omega) (by omega)]
    by_cases h2 : t_K t N L p = 2
    · rw [h2] at k9
      rw [if_pos h2] at hnm
      have fS := (v_fs.rf (S := S) (x := x) (l := l)).s3 (v := nI 23)
      have fT := (v_ft.rf (T := T) (m := m) (l := l)).s3 (k := 18 + l) (v := nI 1) (by omega)
      obtain ⟨S1, T1, r, a1, a2, a3⟩ := v_one (S := m_si S (x + 8) l (nI 23)) (T := m_si T (m + 3) (18 + l) (nI 1)) (a := 0) (b := 0) (l := l) (p := p) hW hf hl (by omega) (by omega) ⟨hJ.1.kept fun q h1 h2 => ⟨e_rq (by omega), rfl⟩, hJ.2.kept (fun i _ _ => by rw [e_rq (by omega)]) rfl (e_rq (by omega))⟩ (hKS fS) (hKT fT)
      have hr : r = 0 ∨ r = 1 := by
        rcases a3.2.2.2.2.2.2 with h | h
        · exact Or.inl h.1
        · exact Or.inr h.1
      refine ⟨S1, T1, r, ?_, ?_, fS.tr a3.1, fT.tr a3.2.1, ?_⟩
      · rw [f_X4_readsExpr, k9, if_neg (show ¬ nI 2 = (4 : Int32) by decide), if_pos (show nI 2 = (2 : Int32) from rfl), e_sti (by omega) (by omega), e_bind, show (23 : Int32) = nI 23 from rfl, show (0 : Int32) = nI 0 from rfl, show (1 : Int32) = nI 1 from rfl, a1, e_call]
        rcases hr with e | e <;> subst e <;> rfl
      · rw [f_X12_readExpr, j7, if_neg nj3, hnm, e_call, if_neg (show ¬ nI 1 = (0 : Int32) by decide), hst, if_neg (by omega), b_X12_readExpr_53, if_pos h910, if_neg (show ¬ (1 : Int32) = (-1 : Int32) by decide), h18n, e_bind, if_pos rfl, b_X12_readExpr_109, if_pos rfl, b_X12_readExpr_156, show (0 : Int32) = nI 0 from rfl, show (1 : Int32) = nI 1 from rfl, a2, e_call]
        rcases hr with e | e <;> subst e <;> rfl
      · rcases hr with e | e
        · subst e
          rcases a3.2.2.2.2.2.2 with h | h
          · exact Or.inl h
          · omega
        · subst e
          obtain ⟨p', va, g1, g2⟩ := v_mkv (o := 1) hl (by omega) (by omega) (by rw [e_rs]; rfl) (by rw [e_rs]) (fun k hk => by rw [e_rn (by omega)]; exact hno k hk) a3
          exact Or.inr ⟨rfl, p', 1, 0, 0, va, g1, g2⟩
    · have n92 : ¬ (nI (t_K t N L p) = (2 : Int32)) := fun q => (e_eq_f (a := t_K t N L p) (b := 2) h2 (by omega) (by omega)).mp q
      rw [if_neg h2] at hnm
      by_cases h3 : t_K t N L p = 3 ∧ 2 ≤ t_ki (t_W t N p) ∧ t_ki (t_W t N p) ≤ 9
      · obtain ⟨h3a, h3b, h3c⟩ := h3
        rw [if_pos h3a] at k11
        generalize ho : t_ki (t_W t N p) = o at *
        have fS0 := (v_fs.rf (S := S) (x := x) (l := l)).s3 (v := nI o)
        have fT0 := (v_ft.rf (T := T) (m := m) (l := l)).s3 (k := 18 + l) (v := nI o) (by omega)
        obtain ⟨S6, a1, a2, a3, a4⟩ := k_go2 (S := m_si S (x + 8) l (nI o)) (hJ.1.kept fun q h1 h2 => ⟨e_rq (by omega), rfl⟩) (by omega)
        obtain ⟨T6, b1, b2, b3⟩ := j_go2 (T := m_si T (m + 3) (18 + l) (nI o)) (hJ.2.kept (fun i _ _ => by rw [e_rq (by omega)]) rfl (e_rq (by omega))) (by omega)
        have fS := fS0.tr (v_fs.of (l := l) a4)
        have fT := fT0.tr (v_ft.of (l := l) b3)
        have hJ6 : v_J S6 T6 x m t N L (t_E t N p) := ⟨a2, b2⟩
        have h13 : m_ri S6 (x + 8) l = nI o := by rw [(a4.1 (x + 8) (by omega)).1, e_rs]
        have h18 : m_ri T6 (m + 3) (18 + l) = nI o := by rw [(b3.2.2.1 (m + 3) (by omega)).1, e_rs]
        have hno6 : ∀ k, k < 5 → m_ri T6 (m + 3) (66 + 5 * l + k) = m_no := fun k hk => by rw [(b3.2.2.1 (m + 3) (by omega)).1, e_rn (by omega)]; exact hno k hk
        have ec : f_X4_readsExpr x S (nI l) = k_ch x S6 (nI l) (nI o) := by
          rw [f_X4_readsExpr, k9, if_neg n94, if_neg n92, k11, if_neg (by rw [show (2 : Int32) = nI 2 from rfl, e_lt (by omega) (by omega)]; omega), if_pos (by rw [show (9 : Int32) = nI 9 from rfl, e_le (by omega) (by omega)]; omega), e_sti (by omega) (by omega), e_bind, a1, e_cal0, e_ldi (by omega) (by omega), e_bind, h13]
          rfl
        have er : f_X12_readExpr m T (nI l) = b_X12_readExpr_109 m T6 (nI l) (nI o) := by
          rw [f_X12_readExpr, j7, if_neg nj3, hnm, e_call, if_pos (show nI 0 = (0 : Int32) from rfl), hst, if_pos ⟨h3a, h3b, h3c⟩, b_X12_readExpr_53, if_pos h910, if_neg (show ¬ nI o = (-1 : Int32) from fun q => (e_no_eq (a := o) (by omega)).mp q), h18n, e_bind, if_neg (show ¬ nI o = (1 : Int32) from fun q => (e_eq_f (a := o) (b := 1) (by omega) (by omega) (by omega)).mp q), b1, e_cal0]
        rw [ec, er]
        have hv : ∀ {S' T' r}, 1 ≤ o → o ≤ 7 → k_ch x S6 (nI l) (nI o) = some (nI r, S') → b_X12_readExpr_109 m T6 (nI l) (nI o) = some (nI r, T') → v_R S6 T6 S' T' x m t N L P l 0 0 0 (v_ar o) r → ∃ S' T' r, k_ch x S6 (nI l) (nI o) = some (nI r, S') ∧ b_X12_readExpr_109 m T6 (nI l) (nI o) = some (nI r, T') ∧ v_fs x l S S' ∧ v_ft m l T T' ∧ ((r = 0 ∧ v_B S' T' x m) ∨ (r = 1 ∧ ∃ p' o c u va, v_J S' T' x m t N L p' ∧ v_LL S' T' x m (v_ed P l o c u va) l)) := by
          intro S' T' r o1 o7 q1 q2 q3
          refine ⟨S', T', r, q1, q2, fS.tr q3.1, fT.tr q3.2.1, ?_⟩
          rcases q3.2.2.2.2.2.2 with h | h
          · exact Or.inl h
          · have e := h.1
            subst e
            obtain ⟨p', va, g1, g2⟩ := v_mkv (o := o) hl o1 o7 (by rw [h13, p_ex, if_neg (by omega), if_neg (by omega)]) h18 hno6 q3
            exact Or.inr ⟨rfl, p', o, 0, 0, va, g1, g2⟩
        have hr01 : ∀ {S' T' a b h r}, v_R S6 T6 S' T' x m t N L P l a b 0 h r → r = 0 ∨ r = 1 := fun q => by
          rcases q.2.2.2.2.2.2 with h | h
          · exact Or.inl h.1
          · exact Or.inr h.1
        rcases (by omega : o = 3 ∨ o = 4 ∨ o = 2 ∨ o = 5 ∨ o = 6 ∨ o = 7 ∨ o = 8 ∨ o = 9) with e | e | e | e | e | e | e | e
        · subst e
          obtain ⟨S', T', r, q1, q2, q3⟩ := v_one (a := 0) (b := 0) (l := l) hW hf hl (by omega) (by omega) hJ6 (hKS fS) (hKT fT)
          refine hv (by omega) (by omega) ?_ ?_ q3
          · rcases hr01 q3 with e | e <;> subst e <;> simp (disch := omega) only [e_let, e_call, e_cal0, e_bind, e_lit, e_ofN, e_neg, nI_add, pk_mul, e_sub, e_ldi, e_sti, e_ldj, e_stj, e_le_t, e_le_f, e_lt_t, e_lt_f, e_eq_t, e_eq_f, e_no_eq, e_no_eq', e_no_rfl, e_no_lt, e_no_le, e_le_no, e_lt_no, if_true, if_false, ↓reduceIte, e_rs, e_rq, e_rn, e_ji, e_ki, e_ij, e_kj, e_js, e_jq, e_jn, e_cs, e_cq, e_jc, e_kc, e_js', e_jcq, e_icj, e_kcj, or_true, true_or, or_false, false_or, and_true, true_and, not_true_eq_false, not_false_eq_true, k_ch, b_X4_readsExpr_184, q1]
          · rcases hr01 q3 with e | e <;> subst e <;> simp (disch := omega) only [e_let, e_call, e_cal0, e_bind, e_lit, e_ofN, e_neg, nI_add, pk_mul, e_sub, e_ldi, e_sti, e_ldj, e_stj, e_le_t, e_le_f, e_lt_t, e_lt_f, e_eq_t, e_eq_f, e_no_eq, e_no_eq', e_no_rfl, e_no_lt, e_no_le, e_le_no, e_lt_no, if_true, if_false, ↓reduceIte, e_rs, e_rq, e_rn, e_ji, e_ki, e_ij, e_kj, e_js, e_jq, e_jn, e_cs, e_cq, e_jc, e_kc, e_js', e_jcq, e_icj, e_kcj, or_true, true_or, or_false, false_or, and_true, true_and, not_true_eq_false, not_false_eq_true, b_X12_readExpr_109, b_X12_readExpr_156, q2]
        · subst e
          obtain ⟨S', T', r, q1, q2, q3⟩ := v_one (a := 0) (b := 0) (l := l) hW hf hl (by omega) (by omega) hJ6 (hKS fS) (hKT fT)
          refine hv (by omega) (by omega) ?_ ?_ q3
          · rcases hr01 q3 with e | e <;> subst e <;> simp (disch := omega) only [e_let, e_call, e_cal0, e_bind, e_lit, e_ofN, e_neg, nI_add, pk_mul, e_sub, e_ldi, e_sti, e_ldj, e_stj, e_le_t, e_le_f, e_lt_t, e_lt_f, e_eq_t, e_eq_f, e_no_eq, e_no_eq', e_no_rfl, e_no_lt, e_no_le, e_le_no, e_lt_no, if_true, if_false, ↓reduceIte, e_rs, e_rq, e_rn, e_ji, e_ki, e_ij, e_kj, e_js, e_jq, e_jn, e_cs, e_cq, e_jc, e_kc, e_js', e_jcq, e_icj, e_kcj, or_true, true_or, or_false, false_or, and_true, true_and, not_true_eq_false, not_false_eq_true, k_ch, b_X4_readsExpr_184, q1]
          · rcases hr01 q3 with e | e <;> subst e <;> simp (disch := omega) only [e_let, e_call, e_cal0, e_bind, e_lit, e_ofN, e_neg, nI_add, pk_mul, e_sub, e_ldi, e_sti, e_ldj, e_stj, e_le_t, e_le_f, e_lt_t, e_lt_f, e_eq_t, e_eq_f, e_no_eq, e_no_eq', e_no_rfl, e_no_lt, e_no_le, e_le_no, e_lt_no, if_true, if_false, ↓reduceIte, e_rs, e_rq, e_rn, e_ji, e_ki, e_ij, e_kj, e_js, e_jq, e_jn, e_cs, e_cq, e_jc, e_kc, e_js', e_jcq, e_icj, e_kcj, or_true, true_or, or_false, false_or, and_true, true_and, not_true_eq_false, not_false_eq_true, b_X12_readExpr_109, b_X12_readExpr_156, q2]
        · subst e
          obtain ⟨S', T', r, q1, q2, q3⟩ := v_takes (a := 0) (b := 0) (h := 2) (l := l) hW hf hl hlP (by omega) (by omega) hJ6 (hKS fS) (hKT fT)
          refine hv (by omega) (by omega) ?_ ?_ q3
          · rcases hr01 q3 with e | e <;> subst e <;> simp (disch := omega) only [e_let, e_call, e_cal0, e_bind, e_lit, e_ofN, e_neg, nI_add, pk_mul, e_sub, e_ldi, e_sti, e_ldj, e_stj, e_le_t, e_le_f, e_lt_t, e_lt_f, e_eq_t, e_eq_f, e_no_eq, e_no_eq', e_no_rfl, e_no_lt, e_no_le, e_le_no, e_lt_no, if_true, if_false, ↓reduceIte, e_rs, e_rq, e_rn, e_ji, e_ki, e_ij, e_kj, e_js, e_jq, e_jn, e_cs, e_cq, e_jc, e_kc, e_js', e_jcq, e_icj, e_kcj, or_true, true_or, or_false, false_or, and_true, true_and, not_true_eq_false, not_false_eq_true, k_ch, b_X4_readsExpr_237, q1]
          · rcases hr01 q3 with e | e <;> subst e <;> simp (disch := omega) only [e_let, e_call, e_cal0, e_bind, e_lit, e_ofN, e_neg, nI_add, pk_mul, e_sub, e_ldi, e_sti, e_ldj, e_stj, e_le_t, e_le_f, e_lt_t, e_lt_f, e_eq_t, e_eq_f, e_no_eq, e_no_eq', e_no_rfl, e_no_lt, e_no_le, e_le_no, e_lt_no, if_true, if_false, ↓reduceIte, e_rs, e_rq, e_rn, e_ji, e_ki, e_ij, e_kj, e_js, e_jq, e_jn, e_cs, e_cq, e_jc, e_kc, e_js', e_jcq, e_icj, e_kcj, or_true, true_or, or_false, false_or, and_true, true_and, not_true_eq_false, not_false_eq_true, b_X12_readExpr_109, b_X12_readExpr_163, q2]
        · subst e
          obtain ⟨S', T', r, q1, q2, q3⟩ := v_takes (a := 0) (b := 0) (h := 2) (l := l) hW hf hl hlP (by omega) (by omega) hJ6 (hKS fS) (hKT fT)
          refine hv (by omega) (by omega) ?_ ?_ q3
          · rcases hr01 q3 with e | e <;> subst e <;> simp (disch := omega) only [e_let, e_call, e_cal0, e_bind, e_lit, e_ofN, e_neg, nI_add, pk_mul, e_sub, e_ldi, e_sti, e_ldj, e_stj, e_le_t, e_le_f, e_lt_t, e_lt_f, e_eq_t, e_eq_f, e_no_eq, e_no_eq', e_no_rfl, e_no_lt, e_no_le, e_le_no, e_lt_no, if_true, if_false, ↓reduceIte, e_rs, e_rq, e_rn, e_ji, e_ki, e_ij, e_kj, e_js, e_jq, e_jn, e_cs, e_cq, e_jc, e_kc, e_js', e_jcq, e_icj, e_kcj, or_true, true_or, or_false, false_or, and_true, true_and, not_true_eq_false, not_false_eq_true, k_ch, b_X4_readsExpr_237, q1]
          · rcases hr01 q3 with e | e <;> subst e <;> simp (disch := omega) only [e_let, e_call, e_cal0, e_bind, e_lit, e_ofN, e_neg, nI_add, pk_mul, e_sub, e_ldi, e_sti, e_ldj, e_stj, e_le_t, e_le_f, e_lt_t, e_lt_f, e_eq_t, e_eq_f, e_no_eq, e_no_eq', e_no_rfl, e_no_lt, e_no_le, e_le_no, e_lt_no, if_true, if_false, ↓reduceIte, e_rs, e_rq, e_rn, e_ji, e_ki, e_ij, e_kj, e_js, e_jq, e_jn, e_cs, e_cq, e_jc, e_kc, e_js', e_jcq, e_icj, e_kcj, or_true, true_or, or_false, false_or, and_true, true_and, not_true_eq_false, not_false_eq_true, b_X12_readExpr_109, b_X12_readExpr_163, q2]
        · subst e
          obtain ⟨S', T', r, q1, q2, q3⟩ := v_takes (a := 0) (b := 0) (h := 2) (l := l) hW hf hl hlP (by omega) (by omega) hJ6 (hKS fS) (hKT fT)
          refine hv (by omega) (by omega) ?_ ?_ q3
          · rcases hr01 q3 with e | e <;> subst e <;> simp (disch := omega) only [e_let, e_call, e_cal0, e_bind, e_lit, e_ofN, e_neg, nI_add, pk_mul, e_sub, e_ldi, e_sti, e_ldj, e_stj, e_le_t, e_le_f, e_lt_t, e_lt_f, e_eq_t, e_eq_f, e_no_eq, e_no_eq', e_no_rfl, e_no_lt, e_no_le, e_le_no, e_lt_no, if_true, if_false, ↓reduceIte, e_rs, e_rq, e_rn, e_ji, e_ki, e_ij, e_kj, e_js, e_jq, e_jn, e_cs, e_cq, e_jc, e_kc, e_js', e_jcq, e_icj, e_kcj, or_true, true_or, or_false, false_or, and_true, true_and, not_true_eq_false, not_false_eq_true, k_ch, b_X4_readsExpr_237, q1]
          · rcases hr01 q3 with e | e <;> subst e <;> simp (disch := omega) only [e_let, e_call, e_cal0, e_bind, e_lit, e_ofN, e_neg, nI_add, pk_mul, e_sub, e_ldi, e_sti, e_ldj, e_stj, e_le_t, e_le_f, e_lt_t, e_lt_f, e_eq_t, e_eq_f, e_no_eq, e_no_eq', e_no_rfl, e_no_lt, e_no_le, e_le_no, e_lt_no, if_true, if_false, ↓reduceIte, e_rs, e_rq, e_rn, e_ji, e_ki, e_ij, e_kj, e_js, e_jq, e_jn, e_cs, e_cq, e_jc, e_kc, e_js', e_jcq, e_icj, e_kcj, or_true, true_or, or_false, false_or, and_true, true_and, not_true_eq_false, not_false_eq_true, b_X12_readExpr_109, b_X12_readExpr_163, q2]
        · subst e
          obtain ⟨S', T', r, q1, q2, q3⟩ := v_takes (a := 0) (b := 0) (h := 3) (l := l) hW hf hl hlP (by omega) (by omega) hJ6 (hKS fS) (hKT fT)
          refine hv (by omega) (by omega) ?_ ?_ q3
          · rcases hr01 q3 with e | e <;> subst e <;> simp (disch := omega) only [e_let, e_call, e_cal0, e_bind, e_lit, e_ofN, e_neg, nI_add, pk_mul, e_sub, e_ldi, e_sti, e_ldj, e_stj, e_le_t, e_le_f, e_lt_t, e_lt_f, e_eq_t, e_eq_f, e_no_eq, e_no_eq', e_no_rfl, e_no_lt, e_no_le, e_le_no, e_lt_no, if_true, if_false, ↓reduceIte, e_rs, e_rq, e_rn, e_ji, e_ki, e_ij, e_kj, e_js, e_jq, e_jn, e_cs, e_cq, e_jc, e_kc, e_js', e_jcq, e_icj, e_kcj, or_true, true_or, or_false, false_or, and_true, true_and, not_true_eq_false, not_false_eq_true, k_ch, q1]
          · rcases hr01 q3 with e | e <;> subst e <;> simp (disch := omega) only [e_let, e_call, e_cal0, e_bind, e_lit, e_ofN, e_neg, nI_add, pk_mul, e_sub, e_ldi, e_sti, e_ldj, e_stj, e_le_t, e_le_f, e_lt_t, e_lt_f, e_eq_t, e_eq_f, e_no_eq, e_no_eq', e_no_rfl, e_no_lt, e_no_le, e_le_no, e_lt_no, if_true, if_false, ↓reduceIte, e_rs, e_rq, e_rn, e_ji, e_ki, e_ij, e_kj, e_js, e_jq, e_jn, e_cs, e_cq, e_jc, e_kc, e_js', e_jcq, e_icj, e_kcj, or_true, true_or, or_false, false_or, and_true, true_and, not_true_eq_false, not_false_eq_true, b_X12_readExpr_109, q2]
        · subst e
          obtain ⟨S7, T7, r7, c1, c2, c3, c4, c5, c6, c7⟩ := v_cal hW hf hl hlP hJ6 (hKS fS) (hKT fT)
          rcases c7 with ⟨e, hB, hrc⟩ | ⟨e, g, hg, hJ7, g14, g42, hrc⟩
          · subst e
            have hrc := hrc 0
            refine ⟨S7, T7, 0, ?_, ?_, fS.tr c2, fT.tr c3, Or.inl ⟨rfl, hB⟩⟩
            · simp (disch := omega) only [e_let, e_call, e_cal0, e_bind, e_lit, e_ofN, e_neg, nI_add, pk_mul, e_sub, e_ldi, e_sti, e_ldj, e_stj, e_le_t, e_le_f, e_lt_t, e_lt_f, e_eq_t, e_eq_f, e_no_eq, e_no_eq', e_no_rfl, e_no_lt, e_no_le, e_le_no, e_lt_no, if_true, if_false, ↓reduceIte, e_rs, e_rq, e_rn, e_ji, e_ki, e_ij, e_kj, e_js, e_jq, e_jn, e_cs, e_cq, e_jc, e_kc, e_js', e_jcq, e_icj, e_kcj, or_true, true_or, or_false, false_or, and_true, true_and, not_true_eq_false, not_false_eq_true, k_ch, c1, b_X4_readsExpr_229, b_X4_readsExpr_230]
            · simp (disch := omega) only [e_let, e_call, e_cal0, e_bind, e_lit, e_ofN, e_neg, nI_add, pk_mul, e_sub, e_ldi, e_sti, e_ldj, e_stj, e_le_t, e_le_f, e_lt_t, e_lt_f, e_eq_t, e_eq_f, e_no_eq, e_no_eq', e_no_rfl, e_no_lt, e_no_le, e_le_no, e_lt_no, if_true, if_false, ↓reduceIte, e_rs, e_rq, e_rn, e_ji, e_ki, e_ij, e_kj, e_js, e_jq, e_jn, e_cs, e_cq, e_jc, e_kc, e_js', e_jcq, e_icj, e_kcj, or_true, true_or, or_false, false_or, and_true, true_and, not_true_eq_false, not_false_eq_true, b_X12_readExpr_109, hrc]
          · subst e
            have hpa := (hW.2.2.1 g hg).1
            have fS7 := fS.tr c2
            have fT7 := fT.tr c3
            have hac := k_argc (hKS fS7) hg hf5 hl g14
            have hrc := hrc 0
            obtain ⟨S', T', r, q1, q2, q3⟩ := v_takes (a := 0) (b := 0) (h := p_pa P g) (l := l) hW hf hl hlP (by omega) (by omega) hJ7 (hKS fS7) (hKT fT7)
            have hr' : r = 0 ∨ r = 1 := by
              rcases q3.2.2.2.2.2.2 with h | h
              · exact Or.inl h.1
              · exact Or.inr h.1
            refine ⟨S', T', r, ?_, ?_, fS7.tr q3.1, fT7.tr q3.2.1, ?_⟩
            · rcases hr' with e | e <;> subst e <;> simp (disch := omega) only [e_let, e_call, e_cal0, e_bind, e_lit, e_ofN, e_neg, nI_add, pk_mul, e_sub, e_ldi, e_sti, e_ldj, e_stj, e_le_t, e_le_f, e_lt_t, e_lt_f, e_eq_t, e_eq_f, e_no_eq, e_no_eq', e_no_rfl, e_no_lt, e_no_le, e_le_no, e_lt_no, if_true, if_false, ↓reduceIte, e_rs, e_rq, e_rn, e_ji, e_ki, e_ij, e_kj, e_js, e_jq, e_jn, e_cs, e_cq, e_jc, e_kc, e_js', e_jcq, e_icj, e_kcj, or_true, true_or, or_false, false_or, and_true, true_and, not_true_eq_false, not_false_eq_true, k_ch, c1, hac, q1, b_X4_readsExpr_229, b_X4_readsExpr_230]
            · rcases hr' with e | e <;> subst e <;> simp (disch := omega) only [e_let, e_call, e_cal0, e_bind, e_lit, e_ofN, e_neg, nI_add, pk_mul, e_sub, e_ldi, e_sti, e_ldj, e_stj, e_le_t, e_le_f, e_lt_t, e_lt_f, e_eq_t, e_eq_f, e_no_eq, e_no_eq', e_no_rfl, e_no_lt, e_no_le, e_le_no, e_lt_no, if_true, if_false, ↓reduceIte, e_rs, e_rq, e_rn, e_ji, e_ki, e_ij, e_kj, e_js, e_jq, e_jn, e_cs, e_cq, e_jc, e_kc, e_js', e_jcq, e_icj, e_kcj, or_true, true_or, or_false, false_or, and_true, true_and, not_true_eq_false, not_false_eq_true, b_X12_readExpr_109, hrc, q2]
            · rcases q3.2.2.2.2.2.2 with h | h
              · exact Or.inl h
              · have e := h.1
                subst e
                obtain ⟨p', va, g1, g2⟩ := v_mk8 (g := g) hl hg hpa (by rw [c4]; exact h13) g14 (by rw [c6 _ (by omega)]; exact h18) g42 (fun k hk => by rw [c6 _ (by omega)]; exact hno6 k hk) q3
                exact Or.inr ⟨rfl, p', 8, g, 0, va, g1, g2⟩
        · subst e
          obtain ⟨S', T', r, q1, q2, q3, q4, q5⟩ := v_when hW hf hl hlP hJ6 (hKS fS) (hKT fT) h13 h18 hno6
          have hr' : r = 0 ∨ r = 1 := by
            rcases q5 with h | h
            · exact Or.inl h.1
            · exact Or.inr h.1
          refine ⟨S', T', r, ?_, ?_, fS.tr q3, fT.tr q4, ?_⟩
          · rcases hr' with e | e <;> subst e <;> simp (disch := omega) only [e_let, e_call, e_cal0, e_bind, e_lit, e_ofN, e_neg, nI_add, pk_mul, e_sub, e_ldi, e_sti, e_ldj, e_stj, e_le_t, e_le_f, e_lt_t, e_lt_f, e_eq_t, e_eq_f, e_no_eq, e_no_eq', e_no_rfl, e_no_lt, e_no_le, e_le_no, e_lt_no, if_true, if_false, ↓reduceIte, e_rs, e_rq, e_rn, e_ji, e_ki, e_ij, e_kj, e_js, e_jq, e_jn, e_cs, e_cq, e_jc, e_kc, e_js', e_jcq, e_icj, e_kcj, or_true, true_or, or_false, false_or, and_true, true_and, not_true_eq_false, not_false_eq_true, k_ch, q1]
          · rcases hr' with e | e <;> subst e <;> simp (disch := omega) only [e_let, e_call, e_cal0, e_bind, e_lit, e_ofN, e_neg, nI_add, pk_mul, e_sub, e_ldi, e_sti, e_ldj, e_stj, e_le_t, e_le_f, e_lt_t, e_lt_f, e_eq_t, e_eq_f, e_no_eq, e_no_eq', e_no_rfl, e_no_lt, e_no_le, e_le_no, e_lt_no, if_true, if_false, ↓reduceIte, e_rs, e_rq, e_rn, e_ji, e_ki, e_ij, e_kj, e_js, e_jq, e_jn, e_cs, e_cq, e_jc, e_kc, e_js', e_jcq, e_icj, e_kcj, or_true, true_or, or_false, false_or, and_true, true_and, not_true_eq_false, not_false_eq_true, b_X12_readExpr_109, q2]
          · rcases q5 with h | ⟨e, p', g, va, g1, g2⟩
            · exact Or.inl h
            · exact Or.inr ⟨e, p', 9, g, 0, va, g1, g2⟩
      · obtain ⟨b1, b2, b3⟩ := v_fail (κ := 1) hJ (fun _ => rfl) (by omega) (by omega)
        refine ⟨_, _, 0, ?_, ?_, v_fs.rf.sl.sl, (v_ft.rf.sl (by omega) (by omega)).sl (by omega) (by omega), Or.inl ⟨rfl, b3⟩⟩
        · have e0 : f_X4_readsExpr x S (nI l) = b_X4_readsExpr_102 x S := by
            rw [f_X4_readsExpr, k9, if_neg n94, if_neg n92, k11]
            have hle := t_ki_le (w := t_W t N p)
            by_cases g : t_K t N L p = 3
            · rw [if_pos g]
              by_cases g2 : t_ki (t_W t N p) < 2
              · rw [if_pos (by rw [show (2 : Int32) = nI 2 from rfl, e_lt (by omega) (by omega)]; exact g2)]
              · rw [if_neg (by rw [show (2 : Int32) = nI 2 from rfl, e_lt (by omega) (by omega)]; exact g2), if_neg (by rw [show (9 : Int32) = nI 9 from rfl, e_le (by omega) (by omega)]; omega)]
            · rw [if_neg g, if_pos (show m_no < (2 : Int32) by decide)]
          rw [e0, b_X4_readsExpr_102, show (1 : Int32) = nI 1 from rfl, b1]
          rfl
        · rw [f_X12_readExpr, j7, if_neg nj3, hnm, e_call, if_pos (show nI 0 = (0 : Int32) from rfl), hst, if_neg h3, b_X12_readExpr_53, if_pos h910, if_pos rfl, show (1 : Int32) = nI 1 from rfl, b2]
          rfl
end VE
