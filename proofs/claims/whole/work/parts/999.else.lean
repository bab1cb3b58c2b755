/-! a line with else, both sides -/
section VE
variable {S S' S'' T T' T'' : m_M} {x m l : Nat} {t : Nat → Nat} {N L p : Nat} {P : pP} {n w : Nat → Int64} {o c u : Nat} {va : Nat → Nat}
theorem v_mk9 {g v0 v4 : Nat} {vv : Nat → Nat} (hlP : l < 24) (hg : g < p_fu P) (hpa : p_pa P g ≤ 3) (h13 : m_ri S (x + 8) l = nI 9) (h14 : m_ri S (x + 9) l = nI g) (h18 : m_ri T (m + 3) (18 + l) = nI 9) (h42 : m_ri T (m + 3) (42 + l) = nI g)
    (hv0 : v0 < v_n P) (hv4 : v4 < v_n P) (s0 : m_ri S (x + 10) (l * 5 + p_pa P g) = nI v0) (s4 : m_ri S (x + 10) (l * 5 + (p_pa P g + 1)) = nI v4) (t0 : m_ri T (m + 3) (66 + 5 * l + 0) = nI v0) (t4 : m_ri T (m + 3) (66 + 5 * l + 4) = nI v4)
    (hvv : ∀ k, k < p_pa P g → vv k < v_n P ∧ m_ri S (x + 10) (l * 5 + k) = nI (vv k) ∧ m_ri T (m + 3) (66 + 5 * l + (1 + k)) = nI (vv k)) (hno : ∀ k, p_pa P g < k → k < 4 → m_ri T (m + 3) (66 + 5 * l + k) = m_no) : v_LL S T x m (v_ed P l 9 g 0 (fun k => if k = 0 then v0 else if k = 4 then v4 else vv (k - 1))) l := by
  have hus : ∀ k, p_us (v_ed P l 9 g 0 (fun k => if k = 0 then v0 else if k = 4 then v4 else vv (k - 1))) l k ↔ (k = 0 ∨ (1 ≤ k ∧ k ≤ p_pa P g) ∨ k = 4) := fun k => by
    simp only [p_us, v_ed_op, v_ed_ca, v_ed_pa]
  have h9 : p_op (v_ed P l 9 g 0 (fun k => if k = 0 then v0 else if k = 4 then v4 else vv (k - 1))) l = 9 := v_ed_op
  have hpe : p_pa (v_ed P l 9 g 0 (fun k => if k = 0 then v0 else if k = 4 then v4 else vv (k - 1))) (p_ca (v_ed P l 9 g 0 (fun k => if k = 0 then v0 else if k = 4 then v4 else vv (k - 1))) l) = p_pa P g := by rw [v_ed_ca, v_ed_pa]
  have sa := fun (s : Nat) (hs : s < p_pa P g) => p_sl_a (s := s) h9 (by rw [hpe]; exact hs)
  have sc := p_sl_c h9
  have se := p_sl_e h9
  rw [hpe] at sc se
  refine ⟨⟨?_, fun h => ?_, fun h => ?_, fun s hs hu => ?_⟩, ⟨?_, fun h => ?_, fun h => ?_, fun k hk => ⟨fun hu => ?_, fun hu => ?_⟩⟩, ?_, ?_, fun h => ?_, fun k hu => ?_⟩
  · rw [v_ed_op]; exact h13
  · rw [v_ed_ca]; exact h14
  · rw [v_ed_op] at h; omega
  · rcases (by omega : s < p_pa P g ∨ s = p_pa P g ∨ s = p_pa P g + 1 ∨ p_pa P g + 1 < s) with e | e | e | e
    · rw [sa s e, v_ed_va (by omega)]
      rw [if_neg (by omega), if_neg (by omega), Nat.add_sub_cancel]
      exact (hvv s e).2.1
    · rw [e, sc, v_ed_va (by omega), if_pos rfl]; exact s0
    · rw [e, se, v_ed_va (by omega), if_neg (by omega), if_pos rfl]; exact s4
    · have : p_sl (v_ed P l 9 g 0 (fun k => if k = 0 then v0 else if k = 4 then v4 else vv (k - 1))) l s = 5 := by
        unfold p_sl; rw [if_pos h9, hpe, if_neg (by omega), if_neg (by omega), if_neg (by omega)]
      rw [this, hus] at hu
      omega
  · rw [v_ed_op]; exact h18
  · rw [v_ed_ca]; exact h42
  · rw [v_ed_op] at h; omega
  · rw [hus] at hu
    rw [v_ed_va hk]
    rcases hu with e | e | e
    · rw [e, if_pos rfl]; exact t0
    · rw [if_neg (by omega), if_neg (by omega)]
      have := (hvv (k - 1) (by omega)).2.2
      rw [show 1 + (k - 1) = k by omega] at this; exact this
    · rw [e, if_neg (by omega), if_pos rfl]; exact t4
  · rw [hus] at hu
    exact hno k (by omega) (by omega)
  · rw [v_ed_op]; omega
  · rw [v_ed_nu]; omega
  · rw [v_ed_ca, v_ed_fu]; exact hg
  · rw [hus] at hu
    refine ⟨by omega, ?_⟩
    rw [v_ed_va (by omega), v_ed_n]
    rcases hu with e | e | e
    · rw [e, if_pos rfl]; exact hv0
    · rw [if_neg (by omega), if_neg (by omega)]
      exact (hvv (k - 1) (by omega)).1
    · rw [e, if_neg (by omega), if_pos rfl]; exact hv4
theorem k_kw (hJ : t_cz S x t N L p) {i : Nat} (hi : i < 22) : (m_ri S (x + 25) 11 = nI i) = (t_K t N L p = 3 ∧ t_ki (t_W t N p) = i) := by
  have k11 := hJ.tk.2.2.1
  rw [k11]
  have hle := t_ki_le (w := t_W t N p)
  by_cases h : t_K t N L p = 3
  · rw [if_pos h, e_eq (by omega) (by omega)]; exact propext ⟨fun e => ⟨h, e⟩, fun e => e.2⟩
  · rw [if_neg h, e_no_eq' (by omega)]; exact propext ⟨fun e => False.elim e, fun e => absurd e.1 h⟩
/-- the word else -/
theorem v_else {i : Nat} (hi : i < 22) (hJ : v_J S T x m t N L p) : ∃ S' T' r, f_X9_takesKeyword x S (nI i) = some (nI r, S') ∧ t_O (x + 25) (x + 26) S S' ∧ v_ft m l T T' ∧ m_ri T' (m + 3) = m_ri T (m + 3) ∧
    ((r = 0 ∧ v_B S' T' x m ∧ f_X12_isWord m T (nI i) = some (nI 0, T) ∧ f_X12_bad m T (nI 1) = some (nI 0, T')) ∨ (r = 1 ∧ v_J S' T' x m t N L (t_E t N p) ∧ f_X12_isWord m T (nI i) = some (nI 1, T) ∧ f_X12_go m T = some T')) := by
  have hk := k_kw hJ.1 hi
  have hw := j_isWord hJ.2 hi
  by_cases h : t_K t N L p = 3 ∧ t_ki (t_W t N p) = i
  · obtain ⟨S2, a1, a2, a3, a4⟩ := k_go2 hJ.1 (by omega)
    obtain ⟨T2, b1, b2, b3⟩ := j_go2 hJ.2 (by omega)
    rw [if_pos h] at hw
    refine ⟨S2, T2, 1, ?_, a4, v_ft.of b3, (b3.2.2.1 (m + 3) (by omega)).1, Or.inr ⟨rfl, ⟨a2, b2⟩, hw, b1⟩⟩
    rw [f_X9_takesKeyword, if_pos (hk.mpr h), a1]
    rfl
  · obtain ⟨b1, b2, b3⟩ := v_fail (κ := 1) hJ (fun _ => rfl) (by omega) (by omega)
    rw [if_neg h] at hw
    refine ⟨_, _, 0, ?_, (t_O.rf.si (by omega) (by omega)).si (by omega) (by omega), (v_ft.rf.sl (by omega) (by omega)).sl (by omega) (by omega), ?_, Or.inl ⟨rfl, b3, hw, b2⟩⟩
    · rw [f_X9_takesKeyword, if_neg (fun q => h (hk.mp q)), show (1 : Int32) = nI 1 from rfl, b1]
      rfl
    · rw [e_rq (by omega), e_rq (by omega)]
theorem v_when (hW : v_W P) (hf : 0 < p_fu P) (hl : l < 24) (hlP : l = p_ln P) (hJ : v_J S T x m t N L p) (hS : v_QS S x P n w) (hT : v_QT T m P n w) (h13 : m_ri S (x + 8) l = nI 9) (h18 : m_ri T (m + 3) (18 + l) = nI 9) (hno : ∀ k, k < 5 → m_ri T (m + 3) (66 + 5 * l + k) = m_no) :
    ∃ S' T' r, f_X4_readsWhen x S (nI l) = some (nI r, S') ∧ f_X12_readWhen m T (nI l) = some (nI r, T') ∧ v_fs x l S S' ∧ v_ft m l T T' ∧ ((r = 0 ∧ v_B S' T' x m) ∨ (r = 1 ∧ ∃ p' g va, v_J S' T' x m t N L p' ∧ v_LL S' T' x m (v_ed P l 9 g 0 va) l)) := by
  have hf5 := hW.1
  have hKS : ∀ {S'}, v_fs x l S S' → v_QS S' x P n w := fun h => hS.kept hW (by rw [← hlP]; exact h)
  have hKT : ∀ {T'}, v_ft m l T T' → v_QT T' m P n w := fun h => hT.kept hW (by rw [← hlP]; exact h) (by omega)
  obtain ⟨S1, T1, r1, a1, a2, a3, a4, a5, a6, a7, a8, a9⟩ := v_one (a := 0) (b := 0) hW hf hl (by omega) (by omega) hJ hS hT
  rcases a9 with ⟨e, hB⟩ | ⟨e, p1, v1, hJ1, hv1⟩
  · subst e
    refine ⟨S1, T1, 0, ?_, ?_, a3, a4, Or.inl ⟨rfl, hB⟩⟩
    · rw [f_X4_readsWhen, show (0 : Int32) = nI 0 from rfl, show (1 : Int32) = nI 1 from rfl, a1]; rfl
    · rw [f_X12_readWhen, show (0 : Int32) = nI 0 from rfl, a2]; rfl
  · subst e
    obtain ⟨hv0, s0, t0⟩ := hv1 0 (by omega) (by omega)
    generalize v1 0 = v0 at hv0 s0 t0
    obtain ⟨S2, T2, r2, b1, b2, b3, b4, b5, b6, b7⟩ := v_cal hW hf hl hlP hJ1 (hKS a3) (hKT a4)
    have e1 : f_X4_readsWhen x S (nI l) = m_call (f_X4_takesFun x S1 (nI l)) fun v6 S5 => if v6 = 0 then (if (0 : Int32) = 0 ∨ (0 : Int32) = 1 then some ((0 : Int32), S5) else none) else (m_call (f_X3_argumentCount (x + 3) S5 (nI l)) fun v9 S8 => (m_sti S8 (x + 10) 120 ((nI l * (5 : Int32)) + v9) (nI v0)).bind fun S10 => m_call (f_X4_takesVars x S10 (nI l) (0 : Int32) v9) fun v12 S11 => if v12 = 0 then (b_X4_readsWhen_79 x S11) else (m_call (f_X9_takesKeyword x S11 (10 : Int32)) fun v15 S14 => if v15 = 0 then (b_X4_readsWhen_79 x S14) else (m_call (f_X4_takesVars x S14 (nI l) (v9 + (1 : Int32)) (1 : Int32)) fun v18 S17 => if v18 = 0 ∨ v18 = 1 then some (v18, S17) else none))) := by
      rw [f_X4_readsWhen, show (0 : Int32) = nI 0 from rfl, show (1 : Int32) = nI 1 from rfl, a1, e_call, if_neg (show ¬ nI 1 = nI 0 by decide), show (5 : Int32) = nI 5 from rfl, pk_mul, e_ldi (by omega) (by omega), e_bind]
      rw [show l * 5 + (0 + 0) = l * 5 by omega] at s0
      rw [s0]
    have e2 : f_X12_readWhen m T (nI l) = m_call (f_X12_readCalled m T1 (nI l) (nI 1)) fun v5 S4 => if v5 = 0 then (b_X12_readWhen_18 m S4) else (m_call (f_X12_isWord m S4 (10 : Int32)) fun v8 S7 => if v8 = 0 then (m_call (f_X12_bad m S7 (1 : Int32)) fun v14 S13 => if v14 = 0 ∨ v14 = 1 then some (v14, S13) else none) else (m_cal0 (f_X12_go m S7) fun S10 => m_call (f_X12_readVar m S10 (nI l) (4 : Int32)) fun v12 S11 => if v12 = 0 ∨ v12 = 1 then some (v12, S11) else none)) := by
      rw [f_X12_readWhen, show (0 : Int32) = nI 0 from rfl, a2, e_call, if_neg (show ¬ nI 1 = nI 0 by decide)]
      rfl
    rw [e1, e2, b1, e_call]
    rcases b7 with ⟨e, hB, hrc⟩ | ⟨e, g, hg, hJ2, g14, g42, hrc⟩
    · subst e
      rw [hrc 1]
      exact ⟨S2, T2, 0, rfl, rfl, a3.tr b2, a4.tr b3, Or.inl ⟨rfl, hB⟩⟩
    · subst e
      have hpa := (hW.2.2.1 g hg).1
      have hac := k_argc (hKS (a3.tr b2)) hg hf5 hl g14
      have f3 : v_fs x l S2 (m_si S2 (x + 10) (l * 5 + p_pa P g) (nI v0)) := v_fs.rf.s5 (by omega) (by omega)
      have hJ3 : v_J (m_si S2 (x + 10) (l * 5 + p_pa P g) (nI v0)) T2 x m t N L (t_E t N p1) := ⟨hJ2.1.kept fun q h1 h2 => ⟨e_rq (by omega), rfl⟩, hJ2.2⟩
      obtain ⟨S4, T4, r4, c1, c2, c3, c4, c5, c6, c7, c8, c9⟩ := v_takes (a := 0) (b := 1) (h := p_pa P g) hW hf hl hlP (by omega) (by omega) hJ3 (hKS ((a3.tr b2).tr f3)) (hKT (a4.tr b3))
      have e3 : (m_call (some (nI 1, S2)) fun v6 S5 => if v6 = 0 then (if (0 : Int32) = 0 ∨ (0 : Int32) = 1 then some ((0 : Int32), S5) else none) else (m_call (f_X3_argumentCount (x + 3) S5 (nI l)) fun v9 S8 => (m_sti S8 (x + 10) 120 ((nI l * (5 : Int32)) + v9) (nI v0)).bind fun S10 => m_call (f_X4_takesVars x S10 (nI l) (0 : Int32) v9) fun v12 S11 => if v12 = 0 then (b_X4_readsWhen_79 x S11) else (m_call (f_X9_takesKeyword x S11 (10 : Int32)) fun v15 S14 => if v15 = 0 then (b_X4_readsWhen_79 x S14) else (m_call (f_X4_takesVars x S14 (nI l) (v9 + (1 : Int32)) (1 : Int32)) fun v18 S17 => if v18 = 0 ∨ v18 = 1 then some (v18, S17) else none)))) = (if nI r4 = 0 then (b_X4_readsWhen_79 x S4) else (m_call (f_X9_takesKeyword x S4 (10 : Int32)) fun v15 S14 => if v15 = 0 then (b_X4_readsWhen_79 x S14) else (m_call (f_X4_takesVars x S14 (nI l) (nI (p_pa P g + 1)) (1 : Int32)) fun v18 S17 => if v18 = 0 ∨ v18 = 1 then some (v18, S17) else none))) := by
        rw [e_call, if_neg (show ¬ nI 1 = (0 : Int32) by decide), hac, e_call, show (5 : Int32) = nI 5 from rfl, pk_mul, nI_add, e_sti (by omega) (by omega), e_bind, show (0 : Int32) = nI 0 from rfl, c1, e_call, show (1 : Int32) = nI 1 from rfl, nI_add]
      rw [hrc 1, c2, e_call]
      have e3' := e3
      rw [e_call] at e3'
      rw [e3']
      rcases c9 with ⟨e, hB⟩ | ⟨e, p4, vv, hJ4, hvv⟩
      · subst e
        exact ⟨S4, T4, 0, rfl, rfl, (a3.tr b2).tr (f3.tr c3), (a4.tr b3).tr c4, Or.inl ⟨rfl, hB⟩⟩
      · subst e
        obtain ⟨S5, T5, r5, d1, d2, d3, d4, d5⟩ := v_else (l := l) (i := 10) (by omega) hJ4
        rw [if_neg (show ¬ nI 1 = (0 : Int32) by decide), if_pos (Or.inr (show nI 1 = (1 : Int32) from rfl)), e_call, if_neg (show ¬ nI 1 = (0 : Int32) by decide), show (10 : Int32) = nI 10 from rfl, d1, e_call]
        rcases d5 with ⟨e, hB, q1, q2⟩ | ⟨e, hJ5, q1, q2⟩
        · subst e
          rw [q1, e_call, if_pos (show nI 0 = (0 : Int32) from rfl), show (1 : Int32) = nI 1 from rfl, q2, e_call]
          exact ⟨S5, T5, 0, rfl, rfl, ((a3.tr b2).tr (f3.tr c3)).tr (v_fs.of d2), ((a4.tr b3).tr c4).tr d3, Or.inl ⟨rfl, hB⟩⟩
        · subst e
          have fS5 := ((a3.tr b2).tr (f3.tr c3)).tr (v_fs.of (l := l) d2)
          have fT5 := ((a4.tr b3).tr c4).tr d3
          obtain ⟨S6, T6, r6, f1, f2, f3', f4, f5, f6, f7, f8, f9⟩ := v_one (a := p_pa P g + 1) (b := 4) hW hf hl (by omega) (by omega) hJ5 (hKS fS5) (hKT fT5)
          rw [q1, e_call, if_neg (show ¬ nI 1 = (0 : Int32) by decide), if_neg (show ¬ nI 1 = (0 : Int32) by decide), q2, e_cal0, show (1 : Int32) = nI 1 from rfl, show (4 : Int32) = nI 4 from rfl, f1, f2, e_call, e_call]
          rcases f9 with ⟨e, hB⟩ | ⟨e, p6, v6, hJ6, hv6⟩
          · subst e
            exact ⟨S6, T6, 0, rfl, rfl, fS5.tr f3', fT5.tr f4, Or.inl ⟨rfl, hB⟩⟩
          · subst e
            obtain ⟨hv4, s4, t4⟩ := hv6 0 (by omega) (by omega)
            have x13 : m_ri S6 (x + 8) = m_ri S (x + 8) := by rw [f5, (d2.1 (x + 8) (by omega)).1, c5, e_rq (by omega), b4, a5]
            have x14 : m_ri S6 (x + 9) = m_ri S2 (x + 9) := by rw [f6, (d2.1 (x + 9) (by omega)).1, c6, e_rq (by omega)]
            have x15 : ∀ j, j < l * 5 + (p_pa P g + 1) → m_ri S6 (x + 10) j = m_ri S4 (x + 10) j := fun j hj => by rw [f7 j (by omega), (d2.1 (x + 10) (by omega)).1]
            have n6 : ∀ j, j ≠ 66 + 5 * l + 4 → m_ri T6 (m + 3) j = m_ri T4 (m + 3) j := fun j hj => by rw [f8 j (by omega), d4]
            have n4 : ∀ j, j < 66 + 5 * l + 1 ∨ 66 + 5 * l + (1 + p_pa P g) ≤ j → j ≠ 42 + l → m_ri T4 (m + 3) j = m_ri T1 (m + 3) j := fun j hj hj' => by rw [c8 j (by omega), b6 j hj']
            refine ⟨S6, T6, 1, rfl, rfl, fS5.tr f3', fT5.tr f4, Or.inr ⟨rfl, p6, g, _, hJ6, v_mk9 (v0 := v0) (v4 := v6 0) (vv := vv) hl hg hpa ?_ ?_ ?_ ?_ hv0 hv4 ?_ ?_ ?_ ?_ (fun k hk => ⟨(hvv k (by omega) hk).1, ?_, ?_⟩) (fun k h1 h2 => ?_)⟩⟩
            · rw [x13]; exact h13
            · rw [x14]; exact g14
            · rw [n6 _ (by omega), n4 _ (by omega) (by omega), a8 _ (by omega)]; exact h18
            · rw [n6 _ (by omega), c8 _ (by omega)]; exact g42
            · rw [x15 _ (by omega), c7 _ (by omega), e_rs]
            · exact s4
            · rw [n6 _ (by omega), n4 _ (by omega) (by omega)]; exact t0
            · exact t4
            · rw [x15 _ (by omega)]
              have := (hvv k (by omega) hk).2.1
              rw [Nat.zero_add] at this; exact this
            · rw [n6 _ (by omega)]; exact (hvv k (by omega) hk).2.2
            · rw [n6 _ (by omega), n4 _ (by omega) (by omega), a8 _ (by omega)]; exact hno k (by omega)
end VE
