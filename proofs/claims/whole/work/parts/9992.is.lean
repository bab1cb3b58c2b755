/-! a line, both sides -/
def v_FT (m : Nat) (T T' : m_M) : Prop := (∀ i, i < 5 ∨ 11 < i → m_ri T' m i = m_ri T m i) ∧ (∀ i, i ≠ 12 → m_rj T' m i = m_rj T m i) ∧ (∀ q, q ≠ m → q ≠ m + 3 → m_ri T' q = m_ri T q) ∧ (∀ q, q ≠ m → q ≠ m + 8 → q ≠ m + 10 → m_rj T' q = m_rj T q) ∧ m_rr T' = m_rr T
/-- what reading a program's text changes -/
def v_oS (x : Nat) (S S' : m_M) : Prop := t_O (x + 2) (x + 31) S S' ∧ m_rj S' (x + 26) = m_rj S (x + 26)
section VI
variable {S S' S'' T T' T'' : m_M} {x m l : Nat} {t : Nat → Nat} {N L p : Nat} {P : pP} {n w : Nat → Int64} {o c u : Nat} {va : Nat → Nat}
theorem v_FT.of (h : v_ft m l T T') : v_FT m T T' := ⟨h.1, h.2.1, h.2.2.1, fun q a _ _ => h.2.2.2.1 q a, h.2.2.2.2.1⟩
theorem v_FT.tr (h : v_FT m T T') (h' : v_FT m T' T'') : v_FT m T T'' := ⟨fun i a => (h'.1 i a).trans (h.1 i a), fun i a => (h'.2.1 i a).trans (h.2.1 i a), fun q a b => (h'.2.2.1 q a b).trans (h.2.2.1 q a b), fun q a b c => (h'.2.2.2.1 q a b c).trans (h.2.2.2.1 q a b c), h'.2.2.2.2.trans h.2.2.2.2⟩
theorem v_oS.rf : v_oS x S S := ⟨t_O.rf, rfl⟩
theorem v_oS.tr (h : v_oS x S S') (h' : v_oS x S' S'') : v_oS x S S'' := ⟨h.1.tr h'.1, h'.2.trans h.2⟩
theorem v_oS.si {q i : Nat} {v : Int32} (h : v_oS x S S') (h1 : x + 2 ≤ q) (h2 : q < x + 31) : v_oS x S (m_si S' q i v) := ⟨h.1.si h1 h2, h.2⟩
theorem v_oS.of (h : v_pf x S S') : v_oS x S S' := ⟨⟨fun q hq => h.1 q (by omega), h.2⟩, (h.1 (x + 26) (by omega)).2⟩
theorem v_oS.of3 (h : t_O (x + 25) (x + 26) S S') : v_oS x S S' := ⟨h.wide (by omega) (by omega), (h.1 (x + 26) (by omega)).2⟩
theorem v_oS.vf (h : v_fs x l S S') : v_oS x S S' := ⟨⟨fun q hq => ⟨h.1 q (by omega) (by omega) (by omega) (by omega), h.2.1 q (by omega)⟩, h.2.2.1⟩, h.2.1 (x + 26) (by omega)⟩
/-- all places of a new line are emptied -/
theorem j_is102 {W : Int64} {f : Int32} (hl : l < 24) : ∀ (c i fu : Nat) (T : m_M), i + c = 5 → (∀ k, k < i → m_ri T (m + 3) (66 + 5 * l + k) = m_no) →
    ∃ T', b_X12_readIs_102 m (fu + c) T W f (nI l) (nI i) = b_X12_readIs_102 m fu T' W f (nI l) (nI 5) ∧ (∀ k, k < 5 → m_ri T' (m + 3) (66 + 5 * l + k) = m_no) ∧ v_ft m l T T' ∧ (∀ q, q ≠ m + 3 → m_ri T' q = m_ri T q) ∧ m_rj T' = m_rj T := by
  intro c
  induction c with
  | zero =>
    intro i fu T h hn
    obtain rfl : i = 5 := by omega
    exact ⟨T, rfl, hn, v_ft.rf, fun _ _ => rfl, rfl⟩
  | succ c ih =>
    intro i fu T h hn
    obtain ⟨T', a1, a2, a3, a4, a5⟩ := ih (i + 1) fu (m_si T (m + 3) (66 + 5 * l + i) m_no) (by omega) (fun k hk => by
      rw [e_rif]
      by_cases e : k = i
      · rw [if_pos (by omega)]
      · rw [if_neg (by omega)]; exact hn k (by omega))
    refine ⟨T', ?_, a2, (v_ft.rf.s3 (by omega)).tr a3, fun q hq => by rw [a4 q hq, e_rq hq], a5⟩
    rw [← a1, show fu + (c + 1) = (fu + c) + 1 from rfl, b_X12_readIs_102, if_neg (by rw [show (5 : Int32) = nI 5 from rfl, e_le (by omega) (by omega)]; omega), show (66 : Int32) = nI 66 from rfl, show (5 : Int32) = nI 5 from rfl, pk_mul, nI_add, nI_add, e_sti (by omega) (by omega), e_bind, e_let, show (1 : Int32) = nI 1 from rfl, nI_add]
    rfl
theorem v_is (hW : v_W P) (hJ : v_J S T x m t N L p) (hS : v_QS S x P n w) (hT : v_QT T m P n w) :
    ∃ S' T' r, f_X4_readsIs x S = some (nI r, S') ∧ f_X12_readIs m T = some (nI r, T') ∧ v_oS x S S' ∧ v_FT m T T' ∧ ((r = 0 ∧ v_B S' T' x m) ∨ (r = 1 ∧ ∃ (p' : Nat) (P' : pP) (w' : Nat → Int64), v_J S' T' x m t N L p' ∧ v_QS S' x P' n w' ∧ v_QT T' m P' n w' ∧ v_W P' ∧ p_fu P' = p_fu P ∧ p_ln P' = p_ln P + 1)) := by
  have hfu := m_fu_ge
  have hf5 := hW.1
  have h24 := hW.2.1
  obtain ⟨k9, _, _, _, _, k14⟩ := hJ.1.tk
  have hK5 := t_K_5 (t := t) (N := N) (L := L) (p := p)
  have hnm := j_isName hJ.2
  have hr1 := hT.1.1
  have hr2 := hT.1.2.1
  have hp1 := hS.1.1
  have hp2 := hS.1.2.1
  have hfin : ∀ κ, (t_K t N L p = 1 → κ = 1) → 1 ≤ κ → κ ≤ 4 → (f_X4_readsIs x S = m_call (f_X9_failsBy x S (nI κ)) fun v S9 => if v = 0 ∨ v = 1 then some (v, S9) else none) → (f_X12_readIs m T = m_call (f_X12_bad m T (nI κ)) fun v S9 => if v = 0 ∨ v = 1 then some (v, S9) else none) → ∃ S' T' r, f_X4_readsIs x S = some (nI r, S') ∧ f_X12_readIs m T = some (nI r, T') ∧ v_oS x S S' ∧ v_FT m T T' ∧ ((r = 0 ∧ v_B S' T' x m) ∨ (r = 1 ∧ ∃ (p' : Nat) (P' : pP) (w' : Nat → Int64), v_J S' T' x m t N L p' ∧ v_QS S' x P' n w' ∧ v_QT T' m P' n w' ∧ v_W P' ∧ p_fu P' = p_fu P ∧ p_ln P' = p_ln P + 1)) := by
    intro κ h1 h2 h3 g1 g2
    obtain ⟨b1, b2, b3⟩ := v_fail hJ h1 h2 h3
    refine ⟨_, _, 0, ?_, ?_, (v_oS.rf.si (by omega) (by omega)).si (by omega) (by omega), v_FT.of (l := 0) ((v_ft.rf.sl (by omega) (by omega)).sl (by omega) (by omega)), Or.inl ⟨rfl, b3⟩⟩
    · rw [g1, b1]; rfl
    · rw [g2, b2]; rfl
  by_cases g : t_K t N L p = 2
  · rw [if_pos g] at hnm k14
    rw [g] at k9
    have h12 := hJ.2.2.1.2.2.2.1 (Or.inl g)
    have hv := k_varOf (W := t_W t N p) hS hW
    have n10 : ¬ (nI 1 = (0 : Int32)) := by decide
    have e2 : nI 2 = (2 : Int32) := rfl
    have em : m_no = (-1 : Int32) := rfl
    have z0 : (0 : Int32) = nI 0 := rfl
    by_cases hf : p_fu P = 0
    · have hn0 : v_n P = 0 := by rw [v_n, if_pos hf]
      have ean : v_an w (t_W t N p) (v_n P) = m_no := by rw [v_an, if_neg (by omega)]
      rw [ean] at hv
      rw [hf] at hr1 hp1
      refine hfin 4 (fun q => by omega) (by omega) (by omega) ?_ ?_
      · rw [f_X4_readsIs, k9, if_pos e2, k14, hv, e_call, if_pos em, hp1, if_pos (show nI 0 = (0 : Int32) from rfl)]
        rfl
      · rw [f_X12_readIs, hnm, e_call, if_neg n10, z0, e_ldi (by omega) (by omega), e_bind, hr1, if_pos rfl]
        rfl
    · have hf' : 0 < p_fu P := by omega
      have hfv := j_findVar hT hW hf'
      rw [h12] at hfv
      have nf0 : ¬ (nI (p_fu P) = (0 : Int32)) := fun q => (e_eq_f (a := p_fu P) (b := 0) hf (by omega) (by omega)).mp q
      have nf1 : ¬ (nI (p_fu P) = nI 0) := nf0
      by_cases e : v_lk w (t_W t N p) (v_n P) < v_n P
      · have h27 := v_n_le hW
        have ean : v_an w (t_W t N p) (v_n P) = nI (v_lk w (t_W t N p) (v_n P)) := by rw [v_an, if_pos e]
        rw [ean] at hv hfv
        have nn : ¬ (nI (v_lk w (t_W t N p) (v_n P)) = (-1 : Int32)) := fun q => (e_no_eq (a := v_lk w (t_W t N p) (v_n P)) (by omega)).mp q
        refine hfin 3 (fun q => by omega) (by omega) (by omega) ?_ ?_
        · rw [f_X4_readsIs, k9, if_pos e2, k14, hv, e_call, if_neg nn]
          rfl
        · rw [f_X12_readIs, hnm, e_call, if_neg n10, z0, e_ldi (by omega) (by omega), e_bind, hr1, if_neg nf1, hfv, e_call, if_neg nn]
          rfl
      · have ean : v_an w (t_W t N p) (v_n P) = m_no := by rw [v_an, if_neg e]
        rw [ean] at hv hfv
        by_cases hl : p_ln P < 24
        · obtain ⟨S1, a1, a2, a3, a4⟩ := k_go2 hJ.1 (by omega)
          obtain ⟨T1, b1, b2, b3⟩ := j_go2 hJ.2 (by omega)
          obtain ⟨S2, T2, r2, c1, c2, c3, c4, c5⟩ := v_else (l := p_ln P) (i := 1) (by omega) (show v_J S1 T1 x m t N L (t_E t N p) from ⟨a2, b2⟩)
          have ec : f_X4_readsIs x S = m_call (some (nI r2, S2)) fun v10 S9 => if v10 = 0 then (b_X4_readsIs_115 x S9) else (m_call (f_X4_readsExpr x S9 (m_ri S9 (x + 3) 1)) fun v13 S12 => if v13 = 0 then (b_X4_readsIs_115 x S12) else (m_cal0 (f_X4_addVar x S12 (t_W t N p)) fun S15 => m_cal0 (f_X3_closeLine (x + 3) S15) fun S16 => if (1 : Int32) = 0 ∨ (1 : Int32) = 1 then some ((1 : Int32), S16) else none)) := by
            rw [f_X4_readsIs, k9, if_pos e2, k14, hv, e_call, if_pos em, hp1, if_neg nf0, hp2, if_pos (by rw [show (24 : Int32) = nI 24 from rfl, e_lt (by omega) (by omega)]; exact hl), e_let, a1, e_cal0, show (1 : Int32) = nI 1 from rfl, c1, k14]
          have er : f_X12_readIs m T = m_call (f_X12_isWord m T1 (nI 1)) fun v16 S15 => if v16 = 0 then (m_call (f_X12_bad m S15 (1 : Int32)) fun v21 S20 => if v21 = 0 ∨ v21 = 1 then some (v21, S20) else none) else (m_cal0 (f_X12_go m S15) fun S18 => (m_ldi S18 (m + 3) 210 (1 : Int32)).bind fun v19 => b_X12_readIs_102 m m_fu S18 (t_W t N p) (nI (p_fu P - 1)) v19 (0 : Int32)) := by
            rw [f_X12_readIs, hnm, e_call, if_neg n10, z0, e_ldi (by omega) (by omega), e_bind, hr1, if_neg nf1, hfv, e_call, if_pos em, show (1 : Int32) = nI 1 from rfl, e_ldi (by omega) (by omega), e_bind, hr2, if_neg (show ¬ nI (p_ln P) = (24 : Int32) from fun q => (e_eq_f (a := p_ln P) (b := 24) (by omega) (by omega) (by omega)).mp q), e_let, h12, f_X12_funNow, z0, e_ldi (by omega) (by omega), e_bind, hr1, show (1 : Int32) = nI 1 from rfl, e_sub (by omega), e_call, b1, e_cal0]
          rw [ec, er, e_call]
          have fS2 := (v_fs.of (l := p_ln P) a4).tr (v_fs.of (l := p_ln P) c2)
          have fT2 := (v_ft.of (l := p_ln P) b3).tr c3
          rcases c5 with ⟨e, hB, q1, q2⟩ | ⟨e, hJ2, q1, q2⟩
          · subst e
            rw [q1, e_call, if_pos (show nI 0 = (0 : Int32) from rfl), if_pos (show nI 0 = (0 : Int32) from rfl), show (1 : Int32) = nI 1 from rfl, q2]
            exact ⟨S2, T2, 0, rfl, rfl, v_oS.vf fS2, v_FT.of fT2, Or.inl ⟨rfl, hB⟩⟩
          · subst e
            have hQ2 := hS.kept hW fS2
            have hR2 := hT.kept hW fT2 hl
            have hn1 : m_ri T2 (m + 3) 1 = nI (p_ln P) := hR2.1.2.1
            obtain ⟨fu, hfu'⟩ : ∃ fu, m_fu = (fu + 1) + 5 := ⟨m_fu - 6, by omega⟩
            obtain ⟨T3, d1, d2, d3, d4, d5⟩ := j_is102 (W := t_W t N p) (f := nI (p_fu P - 1)) (m := m) hl 5 0 (fu + 1) T2 rfl (fun k hk => by omega)
            have fT4 := (v_ft.rf (m := m) (l := p_ln P) (T := T3)).s3 (k := 42 + p_ln P) (v := m_no) (by omega)
            have fT24 := fT2.tr (d3.tr fT4)
            have hJ4 : v_J S2 (m_si T3 (m + 3) (42 + p_ln P) m_no) x m t N L (t_E t N (t_E t N p)) := ⟨hJ2.1, hJ2.2.kept (fun i _ _ => by rw [e_rq (by omega), d4 m (by omega)]) (by rw [e_ji, d5]) (by rw [e_rq (by omega), d4 (m + 1) (by omega)])⟩
            obtain ⟨S5, T5, r5, f1, f2, f3, f4, f5⟩ := v_expr (l := p_ln P) hW hf' hl rfl hJ4 hQ2 (hT.kept hW fT24 hl) (fun k hk => by rw [e_rn (by omega)]; exact d2 k hk)
            have fS5 := fS2.tr f3
            have fT5 := fT24.tr f4
            have ec2 : (if nI 1 = 0 then (b_X4_readsIs_115 x S2) else (m_call (f_X4_readsExpr x S2 (m_ri S2 (x + 3) 1)) fun v13 S12 => if v13 = 0 then (b_X4_readsIs_115 x S12) else (m_cal0 (f_X4_addVar x S12 (t_W t N p)) fun S15 => m_cal0 (f_X3_closeLine (x + 3) S15) fun S16 => if (1 : Int32) = 0 ∨ (1 : Int32) = 1 then some ((1 : Int32), S16) else none))) = (if nI r5 = 0 then (b_X4_readsIs_115 x S5) else (m_cal0 (f_X4_addVar x S5 (t_W t N p)) fun S15 => m_cal0 (f_X3_closeLine (x + 3) S15) fun S16 => if (1 : Int32) = 0 ∨ (1 : Int32) = 1 then some ((1 : Int32), S16) else none)) := by
              rw [if_neg n10, hQ2.1.2.1, f1, e_call]
            rw [ec2, q1, e_call, if_neg n10, q2, e_cal0, show (1 : Int32) = nI 1 from rfl, e_ldi (by omega) (by omega), e_bind, hn1, hfu', z0, d1, b_X12_readIs_102, if_pos (show (5 : Int32) ≤ nI 5 by decide), show (42 : Int32) = nI 42 from rfl, nI_add, e_sti (by omega) (by omega), e_bind, show (-1 : Int32) = m_no from rfl, f2, e_call]
            rcases f5 with ⟨e, hB⟩ | ⟨e, p', o, c, u, va, hJ5, hL5⟩
            · subst e
              exact ⟨S5, T5, 0, rfl, rfl, v_oS.vf fS5, v_FT.of fT5, Or.inl ⟨rfl, hB⟩⟩
            · subst e
              obtain ⟨S6, T6, g1, g2, g3, g4, g5, g6, g7, g8⟩ := v_add (W := t_W t N p) hW hf' hl (hS.kept hW fS5) (hT.kept hW fT5 hl) hL5
              refine ⟨S6, T6, 1, ?_, ?_, (v_oS.vf fS5).tr (v_oS.of g5), (v_FT.of fT5).tr ⟨fun i _ => by rw [g6 m (by omega)], fun i _ => by rw [g7 m (by omega)], fun q _ h => g6 q h, fun q _ _ h => g7 q h, g8⟩, Or.inr ⟨rfl, p', _, _, ⟨hJ5.1.kept fun q h1 h2 => g5.1 q (by omega), hJ5.2.kept (fun i _ _ => by rw [g6 m (by omega)]) (by rw [g7 m (by omega)]) (g6 (m + 1) (by omega))⟩, g3, g4, v_W_nl hW hf' hl hL5.2.2, by rw [v_nl_fu, v_ed_fu], by rw [v_nl_ln]; rw [show p_ln (v_ed P (p_ln P) o c u va) = p_ln P from v_ed_h (by omega)]⟩⟩
              · have e6 : ∀ k : m_M → Option (Int32 × m_M), (m_cal0 (f_X4_addVar x S5 (t_W t N p)) fun S15 => m_cal0 (f_X3_closeLine (x + 3) S15) k) = m_cal0 (m_cal0 (f_X4_addVar x S5 (t_W t N p)) fun S15 => f_X3_closeLine (x + 3) S15) k := fun k => by
                  cases f_X4_addVar x S5 (t_W t N p) <;> rfl
                rw [if_neg (show ¬ nI 1 = nI 0 by decide), e6, g1]
                rfl
              · rw [if_neg n10]
                exact g2
        · have hl' : p_ln P = 24 := by omega
          rw [hl'] at hr2 hp2
          refine hfin 4 (fun q => by omega) (by omega) (by omega) ?_ ?_
          · rw [f_X4_readsIs, k9, if_pos e2, k14, hv, e_call, if_pos em, hp1, if_neg nf0, hp2, if_neg (show ¬ nI 24 < (24 : Int32) by decide)]
            rfl
          · rw [f_X12_readIs, hnm, e_call, if_neg n10, z0, e_ldi (by omega) (by omega), e_bind, hr1, if_neg nf1, hfv, e_call, if_pos em, show (1 : Int32) = nI 1 from rfl, e_ldi (by omega) (by omega), e_bind, hr2, if_pos (show nI 24 = (24 : Int32) from rfl)]
            rfl
  · rw [if_neg g] at hnm
    have h92 : ¬ (nI (t_K t N L p) = (2 : Int32)) := fun q => (e_eq_f (a := t_K t N L p) (b := 2) g (by omega) (by omega)).mp q
    refine hfin 1 (fun _ => rfl) (by omega) (by omega) ?_ ?_
    · rw [f_X4_readsIs, k9, if_neg h92]
      rfl
    · rw [f_X12_readIs, hnm, e_call, if_pos (show nI 0 = (0 : Int32) from rfl)]
      rfl
end VI
