/-! vars and called funs, both sides -/
section VS
variable {S S' S'' T T' T'' : m_M} {x m l : Nat} {t : Nat → Nat} {N L p : Nat} {P : pP} {n w : Nat → Int64}
/-- what both sides hold after vars were read: where they begin, how many -/
def v_R (S T S' T' : m_M) (x m : Nat) (t : Nat → Nat) (N L : Nat) (P : pP) (l a b i h r : Nat) : Prop :=
  v_fs x l S S' ∧ v_ft m l T T' ∧ m_ri S' (x + 8) = m_ri S (x + 8) ∧ m_ri S' (x + 9) = m_ri S (x + 9) ∧ (∀ j, j < l * 5 + (a + i) ∨ l * 5 + (a + h) ≤ j → m_ri S' (x + 10) j = m_ri S (x + 10) j) ∧ (∀ j, j < 66 + 5 * l + (b + i) ∨ 66 + 5 * l + (b + h) ≤ j → m_ri T' (m + 3) j = m_ri T (m + 3) j) ∧
    ((r = 0 ∧ v_B S' T' x m) ∨ (r = 1 ∧ ∃ (p' : Nat) (vv : Nat → Nat), v_J S' T' x m t N L p' ∧ ∀ k, i ≤ k → k < h → vv k < v_n P ∧ m_ri S' (x + 10) (l * 5 + (a + k)) = nI (vv k) ∧ m_ri T' (m + 3) (66 + 5 * l + (b + k)) = nI (vv k)))
theorem v_vars {a b h : Nat} (hW : v_W P) (hf : 0 < p_fu P) (hl : l < 24) (hlP : l = p_ln P) (ha : a + h ≤ 5) (hb : b + h ≤ 5) : ∀ (c i fu fu' p : Nat) (S T : m_M), i + c = h → c < fu → c < fu' → v_J S T x m t N L p → v_QS S x P n w → v_QT T m P n w →
    ∃ S' T' r, b_X4_takesVars_3 x fu S (nI l) (nI a) (nI h) (nI (a + i)) = some (nI r, S') ∧ b_X12_readVars_3 m fu' T (nI l) (nI b) (nI h) (nI i) = some (nI r, T') ∧ v_R S T S' T' x m t N L P l a b i h r := by
  intro c
  induction c with
  | zero =>
    intro i fu fu' p S T h1 hf1 hf2 hJ hS hT
    obtain ⟨fu, rfl⟩ : ∃ f, fu = f + 1 := ⟨fu - 1, by omega⟩
    obtain ⟨fu', rfl⟩ : ∃ f, fu' = f + 1 := ⟨fu' - 1, by omega⟩
    refine ⟨S, T, 1, ?_, ?_, v_fs.rf, v_ft.rf, rfl, rfl, fun _ _ => rfl, fun _ _ => rfl, Or.inr ⟨rfl, p, fun _ => 0, hJ, fun k h1 h2 => by omega⟩⟩
    · simp (disch := omega) only [e_let, e_call, e_cal0, e_bind, e_lit, e_ofN, e_neg, nI_add, pk_mul, e_sub, e_ldi, e_sti, e_ldj, e_stj, e_le_t, e_le_f, e_lt_t, e_lt_f, e_eq_t, e_eq_f, e_no_eq, e_no_eq', e_no_rfl, e_no_lt, e_no_le, e_le_no, e_lt_no, if_true, if_false, ↓reduceIte, e_rs, e_rq, e_rn, e_ji, e_ki, e_ij, e_kj, e_js, e_jq, e_jn, e_cs, e_cq, e_jc, e_kc, e_js', e_jcq, e_icj, e_kcj, or_true, true_or, or_false, false_or, and_true, true_and, not_true_eq_false, not_false_eq_true, b_X4_takesVars_3]
    · simp (disch := omega) only [e_let, e_call, e_cal0, e_bind, e_lit, e_ofN, e_neg, nI_add, pk_mul, e_sub, e_ldi, e_sti, e_ldj, e_stj, e_le_t, e_le_f, e_lt_t, e_lt_f, e_eq_t, e_eq_f, e_no_eq, e_no_eq', e_no_rfl, e_no_lt, e_no_le, e_le_no, e_lt_no, if_true, if_false, ↓reduceIte, e_rs, e_rq, e_rn, e_ji, e_ki, e_ij, e_kj, e_js, e_jq, e_jn, e_cs, e_cq, e_jc, e_kc, e_js', e_jcq, e_icj, e_kcj, or_true, true_or, or_false, false_or, and_true, true_and, not_true_eq_false, not_false_eq_true, b_X12_readVars_3]
  | succ c ih =>
    intro i fu fu' p S T h1 hf1 hf2 hJ hS hT
    obtain ⟨fu, rfl⟩ : ∃ f, fu = f + 1 := ⟨fu - 1, by omega⟩
    obtain ⟨fu', rfl⟩ : ∃ f, fu' = f + 1 := ⟨fu' - 1, by omega⟩
    obtain ⟨S1, T1, r, a1, a2, a3, a4, a5, a6, a7, a8, a9⟩ := v_var1 (a := a) (h := h) (k := a + i) (kb := b + i) (l := l) hJ hS hT hW hf hl (by omega) (by omega) (by omega) (by omega)
    have hrd : b_X12_readVars_3 m (fu' + 1) T (nI l) (nI b) (nI h) (nI i) = m_call (f_X12_readVar m T (nI l) (nI (b + i))) fun v3 S2 => if v3 = 0 then (if (0 : Int32) = 0 ∨ (0 : Int32) = 1 then some ((0 : Int32), S2) else none) else (m_let (nI i + (1 : Int32)) fun v5 => b_X12_readVars_3 m fu' S2 (nI l) (nI b) (nI h) v5) := by
      rw [b_X12_readVars_3, if_neg (by rw [e_le (by omega) (by omega)]; omega), nI_add]
    rw [hrd, a2, e_call, a1 fu]
    rcases a9 with ⟨e, hB⟩ | ⟨e, v, hv, hJ1, v1, v2⟩
    · subst e
      rw [if_neg (by omega)]
      refine ⟨S1, T1, 0, rfl, rfl, a3, a4, a5, a6, fun j hj => a7 j (by omega), fun j hj => a8 j (by omega), Or.inl ⟨rfl, hB⟩⟩
    · subst e
      obtain ⟨S2, T2, r, b1, b2, b3, b4, b5, b6, b7, b8, b9⟩ := ih (i + 1) fu fu' (t_E t N p) S1 T1 (by omega) (by omega) (by omega) hJ1 (hS.kept hW (by rw [← hlP]; exact a3)) (hT.kept hW (by rw [← hlP]; exact a4) (by omega))
      rw [if_pos rfl]
      refine ⟨S2, T2, r, b1, ?_, a3.tr b3, a4.tr b4, b5.trans a5, b6.trans a6, fun j hj => by rw [b7 j (by omega)]; exact a7 j (by omega), fun j hj => by rw [b8 j (by omega)]; exact a8 j (by omega), ?_⟩
      · rw [← b2, if_neg (show ¬ nI 1 = (0 : Int32) by decide)]
        simp (disch := omega) only [e_let, e_call, e_cal0, e_bind, e_lit, e_ofN, e_neg, nI_add, pk_mul, e_sub, e_ldi, e_sti, e_ldj, e_stj, e_le_t, e_le_f, e_lt_t, e_lt_f, e_eq_t, e_eq_f, e_no_eq, e_no_eq', e_no_rfl, e_no_lt, e_no_le, e_le_no, e_lt_no, if_true, if_false, ↓reduceIte, e_rs, e_rq, e_rn, e_ji, e_ki, e_ij, e_kj, e_js, e_jq, e_jn, e_cs, e_cq, e_jc, e_kc, e_js', e_jcq, e_icj, e_kcj, or_true, true_or, or_false, false_or, and_true, true_and, not_true_eq_false, not_false_eq_true]
      · rcases b9 with h | ⟨e, p', vv, g1, g2⟩
        · exact Or.inl h
        · refine Or.inr ⟨e, p', fun k => if k = i then v else vv k, g1, fun k h1 h2 => ?_⟩
          by_cases hk : k = i
          · subst hk
            dsimp only
            rw [if_pos rfl]
            refine ⟨hv, ?_, ?_⟩
            · rw [b7 _ (by omega)]; exact v1
            · rw [b8 _ (by omega)]; exact v2
          · dsimp only
            rw [if_neg hk]
            exact g2 k (by omega) h2
theorem v_takes {a b h : Nat} (hW : v_W P) (hf : 0 < p_fu P) (hl : l < 24) (hlP : l = p_ln P) (ha : a + h ≤ 5) (hb : b + h ≤ 5) (hJ : v_J S T x m t N L p) (hS : v_QS S x P n w) (hT : v_QT T m P n w) :
    ∃ S' T' r, f_X4_takesVars x S (nI l) (nI a) (nI h) = some (nI r, S') ∧ f_X12_readVars m T (nI l) (nI b) (nI h) = some (nI r, T') ∧ v_R S T S' T' x m t N L P l a b 0 h r := by
  have hfu := m_fu_ge
  exact v_vars hW hf hl hlP ha hb h 0 m_fu m_fu p S T (by omega) (by omega) (by omega) hJ hS hT
theorem v_one {a b : Nat} (hW : v_W P) (hf : 0 < p_fu P) (hl : l < 24) (ha : a < 5) (hb : b < 5) (hJ : v_J S T x m t N L p) (hS : v_QS S x P n w) (hT : v_QT T m P n w) :
    ∃ S' T' r, f_X4_takesVars x S (nI l) (nI a) (nI 1) = some (nI r, S') ∧ f_X12_readVar m T (nI l) (nI b) = some (nI r, T') ∧ v_R S T S' T' x m t N L P l a b 0 1 r := by
  have hfu := m_fu_ge
  obtain ⟨S1, T1, r, a1, a2, a3, a4, a5, a6, a7, a8, a9⟩ := v_var1 (a := a) (h := 1) (k := a) (kb := b) (l := l) hJ hS hT hW hf hl (by omega) (by omega) (by omega) (by omega)
  refine ⟨S1, T1, r, ?_, a2, a3, a4, a5, a6, fun j hj => a7 j (by omega), fun j hj => a8 j (by omega), ?_⟩
  · obtain ⟨u, hu⟩ : ∃ u, m_fu = u + 1 + 1 := ⟨m_fu - 2, by omega⟩
    rw [f_X4_takesVars, hu, a1 (u + 1)]
    rcases a9 with ⟨e, _⟩ | ⟨e, _⟩
    · subst e; rw [if_neg (by omega)]
    · subst e
      rw [if_pos rfl]
      simp (disch := omega) only [e_let, e_call, e_cal0, e_bind, e_lit, e_ofN, e_neg, nI_add, pk_mul, e_sub, e_ldi, e_sti, e_ldj, e_stj, e_le_t, e_le_f, e_lt_t, e_lt_f, e_eq_t, e_eq_f, e_no_eq, e_no_eq', e_no_rfl, e_no_lt, e_no_le, e_le_no, e_lt_no, if_true, if_false, ↓reduceIte, e_rs, e_rq, e_rn, e_ji, e_ki, e_ij, e_kj, e_js, e_jq, e_jn, e_cs, e_cq, e_jc, e_kc, e_js', e_jcq, e_icj, e_kcj, or_true, true_or, or_false, false_or, and_true, true_and, not_true_eq_false, not_false_eq_true, b_X4_takesVars_3]
  · rcases a9 with h | ⟨e, v, hv, hJ1, v1, v2⟩
    · exact Or.inl h
    · refine Or.inr ⟨e, _, fun _ => v, hJ1, fun k h1 h2 => ?_⟩
      obtain rfl : k = 0 := by omega
      exact ⟨hv, v1, v2⟩
theorem k_argc {g : Nat} (hS : v_QS S x P n w) (hg : g < p_fu P) (hf5 : p_fu P ≤ 5) (hl : l < 24) (hc : m_ri S (x + 9) l = nI g) : f_X3_argumentCount (x + 3) S (nI l) = some (nI (p_pa P g), S) := by
  have h1 := hS.1.2.2.1 g hg
  rw [f_X3_argumentCount, e_ldi hl (by omega), e_bind, show x + 3 + 6 = x + 9 from rfl, hc, e_ldi (by omega) (by omega), e_bind, h1]
/-- the name of a fun that is called -/
theorem v_cal (hW : v_W P) (hf : 0 < p_fu P) (hl : l < 24) (hlP : l = p_ln P) (hJ : v_J S T x m t N L p) (hS : v_QS S x P n w) (hT : v_QT T m P n w) :
    ∃ S' T' r, f_X4_takesFun x S (nI l) = some (nI r, S') ∧ v_fs x l S S' ∧ v_ft m l T T' ∧ m_ri S' (x + 8) = m_ri S (x + 8) ∧ m_ri S' (x + 10) = m_ri S (x + 10) ∧ (∀ j, j ≠ 42 + l → m_ri T' (m + 3) j = m_ri T (m + 3) j) ∧
      ((r = 0 ∧ v_B S' T' x m ∧ ∀ b, f_X12_readCalled m T (nI l) (nI b) = some (nI 0, T')) ∨ (r = 1 ∧ ∃ g, g < p_fu P ∧ v_J S' T' x m t N L (t_E t N p) ∧ m_ri S' (x + 9) l = nI g ∧ m_ri T' (m + 3) (42 + l) = nI g ∧ ∀ b, f_X12_readCalled m T (nI l) (nI b) = m_call (f_X12_readVars m T' (nI l) (nI b) (nI (p_pa P g))) fun v12 S11 => if v12 = 0 ∨ v12 = 1 then some (v12, S11) else none)) := by
  have hf5 := hW.1
  obtain ⟨k9, k10, _, _, _, k14⟩ := hJ.1.tk
  have hK5 := t_K_5 (t := t) (N := N) (L := L) (p := p)
  have hnm := j_isName hJ.2
  have hr1 := hT.1.1
  have hfi := fun W => j_findIn (T := T) (o := m + 8) (n0 := 5) (b := 0) (h := p_fu P) (w := n) (W := W) (by omega) (by omega) (fun i hi => by rw [Nat.zero_add]; exact hT.2.2.1 i hi)
  have hfin : ∀ κ, (t_K t N L p = 1 → κ = 1) → 1 ≤ κ → κ ≤ 4 → (f_X4_takesFun x S (nI l) = m_call (f_X9_failsBy x S (nI κ)) fun v S9 => if v = 0 ∨ v = 1 then some (v, S9) else none) → (∀ b, f_X12_readCalled m T (nI l) (nI b) = m_call (f_X12_bad m T (nI κ)) fun v S9 => if v = 0 ∨ v = 1 then some (v, S9) else none) → ∃ S' T' r, f_X4_takesFun x S (nI l) = some (nI r, S') ∧ v_fs x l S S' ∧ v_ft m l T T' ∧ m_ri S' (x + 8) = m_ri S (x + 8) ∧ m_ri S' (x + 10) = m_ri S (x + 10) ∧ (∀ j, j ≠ 42 + l → m_ri T' (m + 3) j = m_ri T (m + 3) j) ∧
      ((r = 0 ∧ v_B S' T' x m ∧ ∀ b, f_X12_readCalled m T (nI l) (nI b) = some (nI 0, T')) ∨ (r = 1 ∧ ∃ g, g < p_fu P ∧ v_J S' T' x m t N L (t_E t N p) ∧ m_ri S' (x + 9) l = nI g ∧ m_ri T' (m + 3) (42 + l) = nI g ∧ ∀ b, f_X12_readCalled m T (nI l) (nI b) = m_call (f_X12_readVars m T' (nI l) (nI b) (nI (p_pa P g))) fun v12 S11 => if v12 = 0 ∨ v12 = 1 then some (v12, S11) else none)) := by
    intro κ h1 h2 h3 g1 g2
    obtain ⟨b1, b2, b3⟩ := v_fail hJ h1 h2 h3
    refine ⟨_, _, 0, ?_, v_fs.rf.sl.sl, (v_ft.rf.sl (by omega) (by omega)).sl (by omega) (by omega), ?_, ?_, fun j _ => ?_, Or.inl ⟨rfl, b3, fun b => ?_⟩⟩
    · rw [g1, b1]; rfl
    · rw [e_rq (by omega), e_rq (by omega)]
    · rw [e_rq (by omega), e_rq (by omega)]
    · rw [e_rq (by omega), e_rq (by omega)]
    · rw [g2, b2]; rfl
  by_cases g : t_K t N L p = 2
  · rw [if_pos g] at hnm k14
    rw [g] at k9
    have h12 := hJ.2.2.1.2.2.2.1 (Or.inl g)
    have hv := k_funOf (W := t_W t N p) hS hW
    have hfi := hfi (t_W t N p)
    by_cases e : v_lk n (t_W t N p) (p_fu P) < p_fu P
    · have ean : v_an n (t_W t N p) (p_fu P) = nI (v_lk n (t_W t N p) (p_fu P)) := by rw [v_an, if_pos e]
      rw [ean] at hv hfi
      generalize hvv : v_lk n (t_W t N p) (p_fu P) = v at *
      obtain ⟨S2, a1, a2, a3, a4⟩ := k_go2 (S := m_si S (x + 9) l (nI v)) (hJ.1.kept fun q h1 h2 => ⟨e_rq (by omega), rfl⟩) (by omega)
      obtain ⟨T2, b1, b2, b3⟩ := j_go2 (T := m_si T (m + 3) (42 + l) (nI v)) (hJ.2.kept (fun i _ _ => by rw [e_rq (by omega)]) rfl (e_rq (by omega))) (by omega)
      have hpa : m_ri T2 (m + 3) (3 + v) = nI (p_pa P v) := by
        rw [(b3.2.2.1 (m + 3) (by omega)).1, e_rn (by omega)]; exact (hT.1.2.2.1 v e).1
      refine ⟨S2, T2, 1, ?_, v_fs.rf.s4.tr (v_fs.of a4), (v_ft.rf.s3 (by omega)).tr (v_ft.of b3), ?_, ?_, fun j hj => ?_, Or.inr ⟨rfl, v, e, ⟨a2, b2⟩, ?_, ?_, fun b => ?_⟩⟩
      · rw [f_X4_takesFun, k9, if_pos (show nI 2 = (2 : Int32) from rfl), k14, hv, e_call]
        simp (disch := omega) only [e_let, e_call, e_cal0, e_bind, e_lit, e_ofN, e_neg, nI_add, pk_mul, e_sub, e_ldi, e_sti, e_ldj, e_stj, e_le_t, e_le_f, e_lt_t, e_lt_f, e_eq_t, e_eq_f, e_no_eq, e_no_eq', e_no_rfl, e_no_lt, e_no_le, e_le_no, e_lt_no, if_true, if_false, ↓reduceIte, e_rs, e_rq, e_rn, e_ji, e_ki, e_ij, e_kj, e_js, e_jq, e_jn, e_cs, e_cq, e_jc, e_kc, e_js', e_jcq, e_icj, e_kcj, or_true, true_or, or_false, false_or, and_true, true_and, not_true_eq_false, not_false_eq_true, a1]
      · rw [(a4.1 (x + 8) (by omega)).1, e_rq (by omega)]
      · rw [(a4.1 (x + 10) (by omega)).1, e_rq (by omega)]
      · rw [(b3.2.2.1 (m + 3) (by omega)).1, e_rn hj]
      · rw [(a4.1 (x + 9) (by omega)).1, e_rs]
      · rw [(b3.2.2.1 (m + 3) (by omega)).1, e_rs]
      · rw [f_X12_readCalled, hnm, e_call, if_neg (show ¬ nI 1 = (0 : Int32) by decide), show (0 : Int32) = nI 0 from rfl, e_ldi (by omega) (by omega), e_bind, hr1, h12, hfi, e_call, if_neg (show ¬ nI v = (-1 : Int32) from fun q => (e_no_eq (a := v) (by omega)).mp q), show (42 : Int32) = nI 42 from rfl, nI_add, e_sti (by omega) (by omega), e_bind, b1, e_cal0, show (3 : Int32) = nI 3 from rfl, nI_add, e_ldi (by omega) (by omega), e_bind, hpa]
    · have ean : v_an n (t_W t N p) (p_fu P) = m_no := by rw [v_an, if_neg e]
      rw [ean] at hv hfi
      refine hfin 3 (fun q => by omega) (by omega) (by omega) ?_ (fun b => ?_)
      · rw [f_X4_takesFun, k9, if_pos (show nI 2 = (2 : Int32) from rfl), k14, hv, e_call, if_pos (show m_no = (-1 : Int32) from rfl)]
        rfl
      · rw [f_X12_readCalled, hnm, e_call, if_neg (show ¬ nI 1 = (0 : Int32) by decide), show (0 : Int32) = nI 0 from rfl, e_ldi (by omega) (by omega), e_bind, hr1, h12, hfi, e_call, if_pos (show m_no = (-1 : Int32) from rfl)]
        rfl
  · rw [if_neg g] at hnm
    have h92 : ¬ (nI (t_K t N L p) = (2 : Int32)) := by
      have := e_eq_f (a := t_K t N L p) (b := 2) g (by omega) (by omega)
      exact fun q => this.mp q
    refine hfin 1 (fun _ => rfl) (by omega) (by omega) ?_ (fun b => ?_)
    · rw [f_X4_takesFun, k9, if_neg h92]
      rfl
    · rw [f_X12_readCalled, hnm, e_call, if_pos (show nI 0 = (0 : Int32) from rfl)]
      rfl
end VS
