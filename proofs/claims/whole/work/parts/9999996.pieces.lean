/-! one piece of a sentence, whole: both sides -/
section ZQ
variable {S S' S'' T T' T'' : m_M} {x m : Nat} {Z Z' Z'' : zT} {c c' fu w s n l b k o o' wi r : Nat} {t : Nat → Nat} {N L p : Nat} {nm : Nat → Int64}
/-- a measure -/
theorem z_meas (hJ : v_Js S T x m t N L p) (hz : z_J S T x m fu (o + 1) c wi Z) (hn : z_nm S T x m fu nm) (ho : c ≤ 2 * o) (h1 : 19 ≤ w) (h2 : w ≤ 21) : ∃ S' T' r, f_X8_readsMeasure x S (nI w) = some (nI r, S') ∧ f_X12_readCompare m T (nI w) = some (nI r, T') ∧ z_RS S T S' T' x m t N L fu o c wi Z r := by
  obtain ⟨_, _, _, _, k13, _⟩ := hJ.1.tk
  have s60 := j_isSign (c := 60) hJ.2 (by omega)
  have s61 := j_isSign (c := 61) hJ.2 (by omega)
  have s62 := j_isSign (c := 62) hJ.2 (by omega)
  have n10 : ¬ (nI 1 = (0 : Int32)) := by decide
  have y00 : nI 0 = (0 : Int32) := rfl
  by_cases g : t_K t N L p = 5 ∧ (t_G t N p = 60 ∨ t_G t N p = 61 ∨ t_G t N p = 62)
  · obtain ⟨g5, gg⟩ := g
    rw [if_pos g5] at k13
    have t9 := hJ.2.2.1.2.2.2.2.2 g5
    have ec : f_X8_readsMeasure x S (nI w) = b_X8_readsMeasure_35 x S (nI w) (nI (t_G t N p)) := by
      rw [f_X8_readsMeasure, k13, e_let]
      rcases gg with e | e | e <;> rw [e]
      · rw [if_pos (show nI 60 = (60 : Int32) from rfl)]
      · rw [if_neg (by decide), if_pos (show nI 61 = (61 : Int32) from rfl)]
      · rw [if_neg (by decide), if_neg (by decide), if_pos (show nI 62 = (62 : Int32) from rfl)]
    have er : f_X12_readCompare m T (nI w) = b_X12_readCompare_33 m T (nI w) := by
      rw [f_X12_readCompare, show (60 : Int32) = nI 60 from rfl, s60, e_call]
      rcases gg with e | e | e
      · rw [if_pos (show t_K t N L p = 5 ∧ t_G t N p = 60 from ⟨g5, e⟩), if_neg n10]
      · rw [if_neg (show ¬ (t_K t N L p = 5 ∧ t_G t N p = 60) by omega), if_pos y00, show (61 : Int32) = nI 61 from rfl, s61, e_call, if_pos (show t_K t N L p = 5 ∧ t_G t N p = 61 from ⟨g5, e⟩), if_neg n10]
      · rw [if_neg (show ¬ (t_K t N L p = 5 ∧ t_G t N p = 60) by omega), if_pos y00, show (61 : Int32) = nI 61 from rfl, s61, e_call, if_neg (show ¬ (t_K t N L p = 5 ∧ t_G t N p = 61) by omega), if_pos y00, show (62 : Int32) = nI 62 from rfl, s62, e_call, if_pos (show t_K t N L p = 5 ∧ t_G t N p = 62 from ⟨g5, e⟩), if_neg n10]
    have hG : 60 ≤ t_G t N p ∧ t_G t N p ≤ 62 := by omega
    generalize t_G t N p = sg at *
    obtain ⟨S1, T1, a1, a2, a3, a4, a5, a6, a7, a8, a9⟩ := z_go hJ (by omega) hz hn
    generalize t_E t N p = p1 at *
    have hK5 := t_K_5 (t := t) (N := N) (L := L) (p := p1)
    obtain ⟨k9, _, _, k12, _, _⟩ := a3.1.tk
    have j7 := a3.2.2.1.2.1
    by_cases g4 : t_K t N L p1 = 4
    · rw [if_pos g4] at k12
      rw [g4] at k9 j7
      have t8 := a3.2.2.1.2.2.2.2.1 g4
      have h999 := t_K_4 g4
      have hJ' : v_Js S1 (m_si T1 m 13 (nI (t_M t N p1))) x m t N L p1 := ⟨a3.1, a3.2.kept (fun i _ _ => by rw [e_rn (by omega)]) rfl (by rw [e_rq (by omega)])⟩
      have hz' : z_J S1 (m_si T1 m 13 (nI (t_M t N p1))) x m fu (o + 1) c wi Z := a4.kept (fun _ _ _ => rfl) (fun i _ _ => by rw [e_rn (by omega)]) (by rw [e_rq (by omega)])
      have hn' : z_nm S1 (m_si T1 m 13 (nI (t_M t N p1))) x m fu nm := a5.kept z_oS.rf (z_FT.rf.sl (by omega))
      obtain ⟨S2, T2, b1, b2, b3, b4, b5, b6, b7, b8, b9⟩ := z_go hJ' (by omega) hz' hn'
      have t13 : m_ri T2 m 13 = nI (t_M t N p1) := by rw [b9.1 13 (by omega), e_rs]
      obtain ⟨S3, T3, c1, c2, c3, c4, c5, c6, c7, c8, c9⟩ := z_new (a := nI w) (b' := nI sg) (e := nI (t_M t N p1)) (a2 := (50 : Int32) + nI w) (b2 := (0 : Int32)) (e2 := nI (t_M t N p1)) (g2 := nI sg) (w := w) (s := sg) (n := t_M t N p1) (l := 0) (b := c) b3 b4 (by omega) (by omega) (by omega) (by omega) (fun h => by omega) (fun h => by omega) (fun _ => rfl) (fun h => by omega) (fun _ => ⟨h999, hG⟩) rfl (fun _ => rfl) (fun _ => rfl) ⟨fun h => by omega, fun h => by omega, fun h => by omega, fun _ => by rw [show (50 : Int32) = nI 50 from rfl, nI_add], fun h => by omega, fun _ => ⟨rfl, rfl⟩⟩
      refine ⟨S3, m_si T3 m 50 (nI c), 1, ?_, ?_, a6.tr (b6.tr c5), a7.tr ((z_FT.rf.sl (by omega)).tr (b7.tr (c6.sl (by omega)))), Or.inr ⟨rfl, _, o + 1, c + 1, _, ⟨c3.1, c3.2.kept (fun i _ _ => by rw [e_rn (by omega)]) rfl (by rw [e_rq (by omega)])⟩, c4.kept (fun _ _ _ => rfl) (fun i _ _ => by rw [e_rn (by omega)]) (by rw [e_rq (by omega)]), by rw [e_rs]; rfl, by omega, by rw [show c + 1 - 1 = c from rfl, z_up_b, if_pos rfl], z_ag.up, by omega, by omega, by omega⟩⟩
      · rw [ec, b_X8_readsMeasure_35, a1, e_cal0, k9, if_pos (show nI 4 = (4 : Int32) from rfl), k12, e_let, b1, e_cal0, c1]; rfl
      · have eN : f_X12_readNumber m T1 (0 : Int32) (999 : Int32) = some (nI 1, T2) := by
          have hin : f_X12_isIn T1 (nI (t_M t N p1)) (0 : Int32) (999 : Int32) = some (nI 1, T1) := by simp (disch := omega) only [e_let, e_call, e_cal0, e_bind, e_lit, e_ofN, e_neg, nI_add, pk_mul, e_sub, e_ldi, e_sti, e_ldj, e_stj, e_le_t, e_le_f, e_lt_t, e_lt_f, e_eq_t, e_eq_f, e_no_eq, e_no_eq', e_no_rfl, e_no_lt, e_no_le, e_le_no, e_lt_no, if_true, if_false, ↓reduceIte, e_rs, e_rq, e_rn, e_ji, e_ki, e_ij, e_kj, e_js, e_jq, e_jn, e_cs, e_cq, e_jc, e_kc, e_js', e_jcq, e_icj, e_kcj, or_true, true_or, or_false, false_or, and_true, true_and, not_true_eq_false, not_false_eq_true, f_X12_isIn, b_X12_isIn_15]
          rw [f_X12_readNumber, j7, if_pos (show nI (t_j 4) = (3 : Int32) from rfl), t8, hin, e_call, if_neg n10, e_let, t8, b2]; rfl
        rw [er, b_X12_readCompare_33, t9, e_let, a2, e_cal0, eN, e_call, if_neg n10, t13, c2]; rfl
    · have h94 : ¬ (nI (t_K t N L p1) = (4 : Int32)) := fun q => (e_eq_f (a := t_K t N L p1) (b := 4) g4 (by omega) (by omega)).mp q
      have hj3 : t_j (t_K t N L p1) ≠ 3 ∧ t_j (t_K t N L p1) < 5 := by simp only [t_j]; split <;> omega
      have h73 : ¬ (nI (t_j (t_K t N L p1)) = (3 : Int32)) := fun q => (e_eq_f (a := t_j (t_K t N L p1)) (b := 3) hj3.1 (by omega) (by omega)).mp q
      obtain ⟨S2, T2, b1, b2, b3, b4, b5, _⟩ := z_RS.fail (κ := 1) a3 (fun h => rfl) (by omega) (by omega)
      refine ⟨S2, T2, 0, ?_, ?_, a6.tr b3, a7.tr b4, Or.inl ⟨rfl, b5⟩⟩
      · rw [ec, b_X8_readsMeasure_35, a1, e_cal0, k9, if_neg h94, show (1 : Int32) = nI 1 from rfl, b1]; rfl
      · rw [er, b_X12_readCompare_33, e_let, a2, e_cal0, f_X12_readNumber, j7, if_neg h73, show (1 : Int32) = nI 1 from rfl, b2]; rfl
  · have hn : ∀ q, q = 60 ∨ q = 61 ∨ q = 62 → ¬ m_ri S (x + 37) 13 = nI q := fun q hq => by
      rw [k13]
      by_cases g5 : t_K t N L p = 5
      · rw [if_pos g5]
        have := t_K_G g5
        exact fun h => (e_eq_f (a := t_G t N p) (b := q) (fun e => g ⟨g5, by omega⟩) (by omega) (by omega)).mp h
      · rw [if_neg g5]
        exact fun h => (e_no_eq' (a := q) (by omega)).mp h
    obtain ⟨S2, T2, b1, b2, b3, b4, b5, _⟩ := z_RS.fail (κ := 1) hJ (fun h => rfl) (by omega) (by omega)
    refine ⟨S2, T2, 0, ?_, ?_, b3, b4, Or.inl ⟨rfl, b5⟩⟩
    · rw [f_X8_readsMeasure, e_let, if_neg (show ¬ m_ri S (x + 37) 13 = (60 : Int32) from hn 60 (by omega)), if_neg (show ¬ m_ri S (x + 37) 13 = (61 : Int32) from hn 61 (by omega)), if_neg (show ¬ m_ri S (x + 37) 13 = (62 : Int32) from hn 62 (by omega)), show (1 : Int32) = nI 1 from rfl, b1]; rfl
    · rw [f_X12_readCompare, show (60 : Int32) = nI 60 from rfl, s60, e_call, if_neg (show ¬ (t_K t N L p = 5 ∧ t_G t N p = 60) from fun h => g ⟨h.1, by omega⟩), if_pos y00, show (61 : Int32) = nI 61 from rfl, s61, e_call, if_neg (show ¬ (t_K t N L p = 5 ∧ t_G t N p = 61) from fun h => g ⟨h.1, by omega⟩), if_pos y00, show (62 : Int32) = nI 62 from rfl, s62, e_call, if_neg (show ¬ (t_K t N L p = 5 ∧ t_G t N p = 62) from fun h => g ⟨h.1, by omega⟩), if_pos y00, show (1 : Int32) = nI 1 from rfl, b2]; rfl
/-- not -/
theorem z_not {F : Nat → Nat → m_M → Int32 → Option (Int32 × m_M)} {G : Nat → m_M → Option (Int32 × m_M)} (hF : z_HF (fun S => F x (x + 48) S (nI wi)) (fun T => G m T) x m t N L fu nm wi) (hJ : v_Js S T x m t N L p) (hz : z_J S T x m fu (o + 1) c wi Z) (hn : z_nm S T x m fu nm) : ∃ S' T' r, (m_call (F x (x + 48) S (nI wi)) fun v8 S7 => if v8 = 0 then (b_X8_readsOne_217 F x (x + 48) S7) else (m_call (f_X7_put (x + 32) S7 (13 : Int32) (-1 : Int32) (-1 : Int32)) fun v11 S10 => if v11 = 0 then (b_X8_readsOne_217 F x (x + 48) S10) else (b_X8_readsOne_218 F x (x + 48) S10 (1 : Int32)))) = some (nI r, S') ∧ f_X12_readNot G m T = some (nI r, T') ∧ z_RS S T S' T' x m t N L fu o c wi Z r := by
  have n10 : ¬ (nI 1 = (0 : Int32)) := by decide
  obtain ⟨S2, T2, r, b1, b2, b3, b4, b5⟩ := hF S T p (o + 1) c Z hJ hz hn
  dsimp only at b1 b2
  rw [b1, e_call, f_X12_readNot, b2, e_call]
  rcases b5 with ⟨e, hB⟩ | ⟨e, p2, o2, c2, Z2, hJ2, hz2, h50, hc1, hzb, hag2, hle2, ho2, hcc2⟩
  · subst e
    exact ⟨S2, T2, 0, rfl, rfl, b3, b4, Or.inl ⟨rfl, hB⟩⟩
  · subst e
    have h40 := hz.2.2.2.2
    obtain ⟨S3, T3, c1, c2', c3, c4, c5, c6, c7, c8, c9⟩ := z_new (a := (13 : Int32)) (b' := (-1 : Int32)) (e := (-1 : Int32)) (a2 := (1 : Int32)) (b2 := nI (c2 - 1)) (e2 := (0 : Int32)) (g2 := (0 : Int32)) (w := 13) (s := 0) (n := 0) (l := 0) (b := c) hJ2 hz2 (by omega) (by omega) (by omega) (by omega) (fun _ => ⟨hc1, hzb.symm⟩) (fun h => by omega) (fun h => by omega) (fun h => by omega) (fun h => by omega) rfl (fun h => by omega) (fun h => by omega) ⟨fun _ => ⟨rfl, rfl⟩, fun h => by omega, fun h => by omega, fun h => by omega, fun h => by omega, fun h => by omega⟩
    refine ⟨S3, m_si T3 m 50 (nI c2), 1, ?_, ?_, b3.tr c5, b4.tr (c6.sl (by omega)), Or.inr ⟨rfl, p2, o2, c2 + 1, _, ⟨c3.1, c3.2.kept (fun i _ _ => by rw [e_rn (by omega)]) rfl (by rw [e_rq (by omega)])⟩, c4.kept (fun _ _ _ => rfl) (fun i _ _ => by rw [e_rn (by omega)]) (by rw [e_rq (by omega)]), by rw [e_rs]; rfl, by omega, by rw [show c2 + 1 - 1 = c2 from rfl, z_up_b, if_pos rfl], hag2.tr z_ag.up (by omega), by omega, by omega, by omega⟩⟩
    · rw [if_neg n10, c1]; rfl
    · rw [if_neg n10, h50, c2']; rfl
/-- a bracket -/
theorem z_brk {F : Nat → Nat → m_M → Int32 → Option (Int32 × m_M)} {G : Nat → m_M → Option (Int32 × m_M)} (hF : z_HF (fun S => F x (x + 48) S (nI wi)) (fun T => G m T) x m t N L fu nm wi) (hJ : v_Js S T x m t N L p) (hz : z_J S T x m fu (o + 1) c wi Z) (hn : z_nm S T x m fu nm) : ∃ S' T' r, (m_call (f_X8_readsCond F x (x + 48) S (nI wi)) fun v22 S21 => if v22 = 0 then (b_X8_readsOne_132 F x (x + 48) S21) else (m_call (f_X9s_takesSign x S21 (41 : Int32)) fun v25 S24 => if v25 = 0 then (b_X8_readsOne_132 F x (x + 48) S24) else (b_X8_readsOne_133 F x (x + 48) S24 (1 : Int32)))) = some (nI r, S') ∧ f_X12_readBracket G m T = some (nI r, T') ∧ z_RS S T S' T' x m t N L fu o c wi Z r := by
  have n10 : ¬ (nI 1 = (0 : Int32)) := by decide
  have y00 : nI 0 = (0 : Int32) := rfl
  obtain ⟨S2, T2, r, b1, b2, b3, b4, b5⟩ := v_ors (v_ands hF) S T p (o + 1) c Z hJ hz hn
  dsimp only at b1 b2
  rw [b1, e_call, f_X12_readBracket, b2, e_call]
  rcases b5 with ⟨e, hB⟩ | ⟨e, p2, o2, c2, Z2, hJ2, hz2, h50, hc1, hzb, hag2, hle2, ho2, hcc2⟩
  · subst e
    exact ⟨S2, T2, 0, rfl, rfl, b3, b4, Or.inl ⟨rfl, hB⟩⟩
  · subst e
    rw [if_neg n10, if_neg n10]
    obtain ⟨_, _, _, _, k13, _⟩ := hJ2.1.tk
    have s41 := j_isSign (c := 41) hJ2.2 (by omega)
    by_cases g : t_K t N L p2 = 5 ∧ t_G t N p2 = 41
    · rw [if_pos g] at s41
      rw [if_pos g.1, g.2] at k13
      obtain ⟨S1, T1, a1, a2, a3, a4, a5, a6, a7, a8, a9⟩ := z_go hJ2 (by omega) hz2 (hn.kept b3 b4)
      refine ⟨S1, T1, 1, ?_, ?_, b3.tr a6, b4.tr a7, Or.inr ⟨rfl, _, o2, c2, Z2, a3, a4, by rw [a9.1 50 (by omega)]; exact h50, hc1, hzb, hag2, by omega, by omega, hcc2⟩⟩
      · rw [f_X9s_takesSign, k13, if_pos (show nI 41 = (41 : Int32) from rfl), a1]; rfl
      · rw [show (41 : Int32) = nI 41 from rfl, s41, e_call, if_neg n10, a2]; rfl
    · rw [if_neg g] at s41
      have hn : ¬ m_ri S2 (x + 37) 13 = (41 : Int32) := by
        rw [k13]
        by_cases g5 : t_K t N L p2 = 5
        · rw [if_pos g5]
          have := t_K_G g5
          exact fun q => (e_eq_f (a := t_G t N p2) (b := 41) (fun e => g ⟨g5, e⟩) (by omega) (by omega)).mp q
        · rw [if_neg g5]
          exact fun q => (e_no_eq' (a := 41) (by omega)).mp q
      obtain ⟨S3, T3, c1, c2', c3, c4, c5, _⟩ := z_RS.fail (κ := 1) hJ2 (fun h => rfl) (by omega) (by omega)
      refine ⟨S3, T3, 0, ?_, ?_, b3.tr c3, b4.tr c4, Or.inl ⟨rfl, c5⟩⟩
      · rw [f_X9s_takesSign, if_neg hn, show (1 : Int32) = nI 1 from rfl, c1]; rfl
      · rw [show (41 : Int32) = nI 41 from rfl, s41, e_call, if_pos y00, show (1 : Int32) = nI 1 from rfl, c2']; rfl
end ZQ
