/-! one piece of a sentence: both sides -/
section ZO
variable {S S' S'' T T' T'' : m_M} {x m : Nat} {Z Z' Z'' : zT} {c c' fu w s n l b k o o' wi r : Nat} {t : Nat → Nat} {N L p : Nat} {nm : Nat → Int64}
theorem z_new {a b' e a2 b2 e2 g2 : Int32} (hJ : v_Js S T x m t N L p) (hz : z_J S T x m fu o c wi Z) (hc : c + 1 ≤ 2 * o) (h1 : 11 ≤ w) (h2 : w ≤ 21) (h3 : b ≤ c) (h13 : w = 13 → 1 ≤ c ∧ b = z_b Z (c - 1)) (h11 : w = 11 ∨ w = 12 → 1 ≤ c ∧ l + 1 = z_b Z (c - 1) ∧ b = z_b Z l ∧ l < c) (h14 : 14 ≤ w → b = c) (h17 : w = 17 ∨ w = 18 → n < fu) (h19 : 19 ≤ w → n ≤ 999 ∧ 60 ≤ s ∧ s ≤ 62)
    (ha : a = nI w) (hb' : 19 ≤ w → b' = nI s) (he : 17 ≤ w → e = nI n)
    (hn1 : (w = 13 → a2 = nI 1 ∧ b2 = nI (c - 1)) ∧ (w = 12 → a2 = nI 2 ∧ b2 = nI l ∧ e2 = nI (c - 1)) ∧ (w = 11 → a2 = nI 3 ∧ b2 = nI l ∧ e2 = nI (c - 1)) ∧ (14 ≤ w → a2 = nI (50 + w)) ∧ (w = 17 ∨ w = 18 → b2 = nI n) ∧ (19 ≤ w → e2 = nI n ∧ g2 = nI s)) :
    ∃ S' T', f_X7_put (x + 32) S a b' e = some (nI 1, S') ∧ f_X12_saysOne m T a2 b2 e2 g2 = some (nI c, T') ∧ v_Js S' T' x m t N L p ∧ z_J S' T' x m fu o (c + 1) wi (z_up Z c w s n l b) ∧ z_oS x S S' ∧ z_FT m T T' ∧ (∀ i, i ≠ 47 → m_ri T' m i = m_ri T m i) ∧ (∀ q, q ≠ m → q ≠ m + 29 → m_ri T' q = m_ri T q) ∧ m_rj T' = m_rj T := by
  have h20 := hz.2.2.2.1
  obtain ⟨S3, d1, d2, d3, d4, d5, d6, d7, d8⟩ := k_putz (a := a) (b' := b') (e := e) hz (by omega)
  obtain ⟨T3, e1, e2', e3, e4, e5, e6, e7, e8, e9, e10, e11⟩ := j_says (a := a2) (b' := b2) (e := e2) (g := g2) hz (by omega)
  obtain ⟨n1, n2, n3, n4, n5, n6⟩ := hn1
  refine ⟨S3, T3, d1, e1, ⟨hJ.1.kept fun q h1 h2 => d8.1 q (by omega), hJ.2.kept (fun i h1 h2 => e3 i (by omega)) (by rw [e11]) (e10 _ (by omega) (by omega))⟩, ?_, ⟨d8.wide (by omega) (by omega), (d8.1 (x + 38) (by omega)).2⟩, e9, e3, e10, e11⟩
  refine ⟨⟨d2, d3, hz.1.2.2.up (by rw [d4]; exact ha) (fun h => by rw [d5]; exact hb' h) (fun h => by rw [d6]; exact he h) d7⟩, ⟨by rw [e3 48 (by omega)]; exact hz.2.1.1, by rw [e3 49 (by omega)]; exact hz.2.1.2.1, e2', hz.2.1.2.2.2.up e8 ?_⟩, hz.2.2.1.up h1 h2 h3 h13 h11 h14 h17 h19, h20, hc⟩
  rw [e4, e5, e6, e7]
  exact ⟨n1, n2, n3, n4, n5, n6⟩
theorem z_fin {G : Nat → m_M → Option (Int32 × m_M)} (h : z_RS S T S' T' x m t N L fu o c (wi + 1) Z r) (hwi : wi ≤ 8) : ∃ T'', b_X12_readSaid_166 G m T' (nI r) = some (nI r, T'') ∧ z_RS S T S' T'' x m t N L fu o c wi Z r := by
  have h01 := h.r01
  obtain ⟨h1, h2, h3⟩ := h
  refine ⟨m_si T' m 49 (m_ri T' m 49 - (1 : Int32)), ?_, h1, h2.sl (by omega), ?_⟩
  · rw [b_X12_readSaid_166, e_let]; exact e_01 h01
  · rcases h3 with ⟨e, κ, pl, b1, b2, b3, b4, b5, b6, b7⟩ | ⟨e, p', o', c', Z', hJ, hz, h50, a1, a2, a3, a4, a5, a6⟩
    · exact Or.inl ⟨e, κ, pl, b1, b2, b3, b4, by rw [e_rn (by omega)]; exact b5, b6, by rw [e_rn (by omega)]; exact b7⟩
    · refine Or.inr ⟨e, p', o', c', Z', ⟨hJ.1, hJ.2.kept (fun i _ _ => by rw [e_rn (by omega)]) rfl (by rw [e_rq (by omega)])⟩, ?_, by rw [e_rn (by omega)]; exact h50, a1, a2, a3, a4, a5, a6⟩
      obtain ⟨z1, ⟨z2, z3, z4, z5⟩, z6⟩ := hz
      refine ⟨z1, ⟨by rw [e_rn (by omega)]; exact z2, ?_, by rw [e_rn (by omega)]; exact z4, by rw [e_rq (by omega)]; exact z5⟩, z6⟩
      rw [e_rs, z3, show (1 : Int32) = nI 1 from rfl, e_sub (by omega)]
      rfl
theorem k_funOf2 {W : Int64} {q : Nat} (h5 : fu ≤ 5) (h0 : m_ri S q 0 = nI fu) (hn : ∀ f, f < fu → m_rj S (q + 1) f = nm f) : f_X3_funOf q S W = some (v_an nm W fu, S) := by
  have hfu := m_fu_ge
  have : ∀ (c i fl : Nat), i + c = fu → c < fl → b_X3_funOf_2 q fl S W (nI i) = some (if v_ix nm W c i < fu then nI (v_ix nm W c i) else m_no, S) := by
    intro c
    induction c with
    | zero =>
      intro i fl h hf
      obtain ⟨fl, rfl⟩ : ∃ f, fl = f + 1 := ⟨fl - 1, by omega⟩
      rw [v_ix, if_neg (by omega)]
      simp (disch := omega) only [e_let, e_call, e_cal0, e_bind, e_lit, e_ofN, e_neg, nI_add, pk_mul, e_sub, e_ldi, e_sti, e_ldj, e_stj, e_le_t, e_le_f, e_lt_t, e_lt_f, e_eq_t, e_eq_f, e_no_eq, e_no_eq', e_no_rfl, e_no_lt, e_no_le, e_le_no, e_lt_no, if_true, if_false, ↓reduceIte, e_rs, e_rq, e_rn, e_ji, e_ki, e_ij, e_kj, e_js, e_jq, e_jn, e_cs, e_cq, e_jc, e_kc, e_js', e_jcq, e_icj, e_kcj, or_true, true_or, or_false, false_or, and_true, true_and, not_true_eq_false, not_false_eq_true, b_X3_funOf_2, h0]
    | succ c ih =>
      intro i fl h hf
      obtain ⟨fl, rfl⟩ : ∃ f, fl = f + 1 := ⟨fl - 1, by omega⟩
      have hi := hn i (by omega)
      have hn := ih (i + 1) fl (by omega) (by omega)
      rw [v_ix]
      by_cases hw : nm i = W
      · rw [if_pos hw, if_pos (by omega)]
        simp (disch := omega) only [e_let, e_call, e_cal0, e_bind, e_lit, e_ofN, e_neg, nI_add, pk_mul, e_sub, e_ldi, e_sti, e_ldj, e_stj, e_le_t, e_le_f, e_lt_t, e_lt_f, e_eq_t, e_eq_f, e_no_eq, e_no_eq', e_no_rfl, e_no_lt, e_no_le, e_le_no, e_lt_no, if_true, if_false, ↓reduceIte, e_rs, e_rq, e_rn, e_ji, e_ki, e_ij, e_kj, e_js, e_jq, e_jn, e_cs, e_cq, e_jc, e_kc, e_js', e_jcq, e_icj, e_kcj, or_true, true_or, or_false, false_or, and_true, true_and, not_true_eq_false, not_false_eq_true, b_X3_funOf_2, h0, hi, e_lg, hw]
      · rw [if_neg hw, ← hn]
        simp (disch := omega) only [e_let, e_call, e_cal0, e_bind, e_lit, e_ofN, e_neg, nI_add, pk_mul, e_sub, e_ldi, e_sti, e_ldj, e_stj, e_le_t, e_le_f, e_lt_t, e_lt_f, e_eq_t, e_eq_f, e_no_eq, e_no_eq', e_no_rfl, e_no_lt, e_no_le, e_le_no, e_lt_no, if_true, if_false, ↓reduceIte, e_rs, e_rq, e_rn, e_ji, e_ki, e_ij, e_kj, e_js, e_jq, e_jn, e_cs, e_cq, e_jc, e_kc, e_js', e_jcq, e_icj, e_kcj, or_true, true_or, or_false, false_or, and_true, true_and, not_true_eq_false, not_false_eq_true, b_X3_funOf_2, h0, hi, e_lg, hw]
  rw [f_X3_funOf]
  exact this fu 0 m_fu (by omega) (by omega)
/-- a plain word -/
theorem z_plain (hJ : v_Js S T x m t N L p) (hz : z_J S T x m fu (o + 1) c wi Z) (hn : z_nm S T x m fu nm) (ho : c ≤ 2 * o) (h1 : 14 ≤ w) (h2 : w ≤ 16) {F : Nat → Nat → m_M → Int32 → Option (Int32 × m_M)} : ∃ S' T', b_X8_readsOne_234 F x (x + 48) S (nI w) = some (nI 1, S') ∧ (m_call (f_X12_saysOne m T ((50 : Int32) + nI w) (0 : Int32) (0 : Int32) (0 : Int32)) fun v15 S14 => m_let (m_si S14 m 50 v15) fun S16 => some (nI 1, S16)) = some (nI 1, T') ∧ z_RS S T S' T' x m t N L fu o c wi Z 1 := by
  obtain ⟨S1, T1, a1, a2, a3, a4, a5, a6, a7, a8, a9⟩ := z_new (a := nI w) (b' := (-1 : Int32)) (e := (-1 : Int32)) (a2 := (50 : Int32) + nI w) (b2 := (0 : Int32)) (e2 := (0 : Int32)) (g2 := (0 : Int32)) (w := w) (s := 0) (n := 0) (l := 0) (b := c) hJ hz (by omega) (by omega) (by omega) (by omega) (fun h => by omega) (fun h => by omega) (fun _ => rfl) (fun h => by omega) (fun h => by omega) rfl (fun h => by omega) (fun h => by omega) ⟨fun h => by omega, fun h => by omega, fun h => by omega, fun _ => by rw [show (50 : Int32) = nI 50 from rfl, nI_add], fun h => by omega, fun h => by omega⟩
  refine ⟨S1, m_si T1 m 50 (nI c), ?_, ?_, a5, a6.sl (by omega), Or.inr ⟨rfl, p, o + 1, c + 1, _, ⟨a3.1, a3.2.kept (fun i _ _ => by rw [e_rn (by omega)]) rfl (by rw [e_rq (by omega)])⟩, a4.kept (fun _ _ _ => rfl) (fun i _ _ => by rw [e_rn (by omega)]) (by rw [e_rq (by omega)]), by rw [e_rs]; rfl, by omega, by rw [show c + 1 - 1 = c from rfl, z_up_b, if_pos rfl], z_ag.up, by omega, by omega, by omega⟩⟩
  · rw [b_X8_readsOne_234, a1]; rfl
  · rw [a2]; rfl
/-- a word with a fun -/
theorem z_ofun (hJ : v_Js S T x m t N L p) (hz : z_J S T x m fu (o + 1) c wi Z) (hn : z_nm S T x m fu nm) (ho : c ≤ 2 * o) (h1 : 17 ≤ w) (h2 : w ≤ 18) : ∃ S' T' r, f_X8_readsFunOf x (x + 48) S (nI w) = some (nI r, S') ∧ f_X12_readOf m T (nI w) = some (nI r, T') ∧ z_RS S T S' T' x m t N L fu o c wi Z r := by
  have hK5 := t_K_5 (t := t) (N := N) (L := L) (p := p)
  obtain ⟨k9, _, _, _, _, k14⟩ := hJ.1.tk
  have hnm := j_isName hJ.2
  have n10 : ¬ (nI 1 = (0 : Int32)) := by decide
  have y00 : nI 0 = (0 : Int32) := rfl
  have z0 : (0 : Int32) = nI 0 := rfl
  have em : m_no = (-1 : Int32) := rfl
  obtain ⟨h5, g0, g1, g2, g3⟩ := hn
  by_cases g : t_K t N L p = 2
  · rw [if_pos g] at hnm k14
    rw [g] at k9
    have h12 := hJ.2.2.1.2.2.2.1 (Or.inl g)
    have hv := k_funOf2 (q := x + 48) (W := t_W t N p) h5 g0 g1
    have hfi := j_findIn (T := T) (o := m + 7) (n0 := 5) (b := 0) (h := fu) (w := nm) (W := t_W t N p) (by omega) (by omega) (fun i hi => by rw [Nat.zero_add]; exact g3 i hi)
    have ef : f_X12_readFunName m T = m_let (m_si T m 13 (v_an nm (t_W t N p) fu)) fun S7 => if (m_ri S7 m 13) = (-1 : Int32) then (m_call (f_X12_bad m S7 (3 : Int32)) fun v11 S10 => if v11 = 0 ∨ v11 = 1 then some (v11, S10) else none) else (m_cal0 (f_X12_go m S7) fun S9 => if (1 : Int32) = 0 ∨ (1 : Int32) = 1 then some ((1 : Int32), S9) else none) := by
      rw [f_X12_readFunName, hnm, e_call, if_neg n10, z0, e_ldi (by omega) (by omega), e_bind, g2, h12, hfi, e_call]
    have hJ' : ∀ v, v_Js S (m_si T m 13 v) x m t N L p := fun v => ⟨hJ.1, hJ.2.kept (fun i _ _ => by rw [e_rn (by omega)]) rfl (by rw [e_rq (by omega)])⟩
    have hz' : ∀ v, z_J S (m_si T m 13 v) x m fu (o + 1) c wi Z := fun v => hz.kept (fun _ _ _ => rfl) (fun i _ _ => by rw [e_rn (by omega)]) (by rw [e_rq (by omega)])
    have hn' : ∀ v, z_nm S (m_si T m 13 v) x m fu nm := fun v => ⟨h5, g0, g1, by rw [e_rq (by omega)]; exact g2, g3⟩
    by_cases e : v_lk nm (t_W t N p) fu < fu
    · have ean : v_an nm (t_W t N p) fu = nI (v_lk nm (t_W t N p) fu) := by rw [v_an, if_pos e]
      rw [ean] at hv ef
      generalize v_lk nm (t_W t N p) fu = q at *
      have nn : ¬ (nI q = (-1 : Int32)) := fun h => (e_no_eq (a := q) (by omega)).mp h
      obtain ⟨S1, T1, a1, a2, a3, a4, a5, a6, a7, a8, a9⟩ := z_go (hJ' (nI q)) (by omega) (hz' (nI q)) (hn' (nI q))
      have t13 : m_ri T1 m 13 = nI q := by rw [a9.1 13 (by omega), e_rs]
      obtain ⟨S2, T2, b1, b2, b3, b4, b5, b6, b7, b8, b9⟩ := z_new (a := nI w) (b' := (-1 : Int32)) (e := nI q) (a2 := (50 : Int32) + nI w) (b2 := nI q) (e2 := (0 : Int32)) (g2 := (0 : Int32)) (w := w) (s := 0) (n := q) (l := 0) (b := c) a3 a4 (by omega) (by omega) (by omega) (by omega) (fun h => by omega) (fun h => by omega) (fun _ => rfl) (fun _ => e) (fun h => by omega) rfl (fun h => by omega) (fun _ => rfl) ⟨fun h => by omega, fun h => by omega, fun h => by omega, fun _ => by rw [show (50 : Int32) = nI 50 from rfl, nI_add], fun _ => rfl, fun h => by omega⟩
      refine ⟨S2, m_si T2 m 50 (nI c), 1, ?_, ?_, a6.tr b5, (z_FT.rf.sl (by omega)).tr (a7.tr (b6.sl (by omega))), Or.inr ⟨rfl, _, o + 1, c + 1, _, ⟨b3.1, b3.2.kept (fun i _ _ => by rw [e_rn (by omega)]) rfl (by rw [e_rq (by omega)])⟩, b4.kept (fun _ _ _ => rfl) (fun i _ _ => by rw [e_rn (by omega)]) (by rw [e_rq (by omega)]), by rw [e_rs]; rfl, by omega, by rw [show c + 1 - 1 = c from rfl, z_up_b, if_pos rfl], z_ag.up, by omega, by omega, by omega⟩⟩
      · rw [f_X8_readsFunOf, k9, if_pos (show nI 2 = (2 : Int32) from rfl), k14, hv, e_call, if_neg nn, a1, e_cal0, b1]; rfl
      · rw [f_X12_readOf, ef, e_let, e_rs, if_neg nn, a2, e_cal0]
        show m_call (some ((1 : Int32), T1)) _ = _
        rw [e_call, if_neg (by decide), t13, b2]; rfl
    · have ean : v_an nm (t_W t N p) fu = m_no := by rw [v_an, if_neg e]
      rw [ean] at hv ef
      obtain ⟨S1, T1, a1, a2, a3, a4, a5, _⟩ := z_RS.fail (κ := 3) (hJ' m_no) (fun h => by omega) (by omega) (by omega)
      refine ⟨S1, T1, 0, ?_, ?_, a3, (z_FT.rf.sl (by omega)).tr a4, Or.inl ⟨rfl, a5⟩⟩
      · rw [f_X8_readsFunOf, k9, if_pos (show nI 2 = (2 : Int32) from rfl), k14, hv, e_call, if_pos em, show (3 : Int32) = nI 3 from rfl, a1]; rfl
      · rw [f_X12_readOf, ef, e_let, e_rs, if_pos em, show (3 : Int32) = nI 3 from rfl, a2]; rfl
  · rw [if_neg g] at hnm
    have h92 : ¬ (nI (t_K t N L p) = (2 : Int32)) := fun q => (e_eq_f (a := t_K t N L p) (b := 2) g (by omega) (by omega)).mp q
    obtain ⟨S1, T1, a1, a2, a3, a4, a5, _⟩ := z_RS.fail (κ := 1) hJ (fun h => rfl) (by omega) (by omega)
    refine ⟨S1, T1, 0, ?_, ?_, a3, a4, Or.inl ⟨rfl, a5⟩⟩
    · rw [f_X8_readsFunOf, k9, if_neg h92, show (1 : Int32) = nI 1 from rfl, a1]; rfl
    · rw [f_X12_readOf, f_X12_readFunName, hnm, e_call, if_pos y00, show (1 : Int32) = nI 1 from rfl, a2]; rfl
end ZO
