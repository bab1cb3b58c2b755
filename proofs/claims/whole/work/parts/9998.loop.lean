/-! all lines of a program: both sides -/
section VF
variable {S S' T T' : m_M} {x m : Nat} {P : pP} {n w : Nat → Int64} {f i j k s : Nat} {W : Int64} {t : Nat → Nat} {N L p : Nat}
theorem v_sign (hJ : v_J S T x m t N L p) : ∃ S' T' r, f_X9_takesSign x S (nI 59) = some (nI r, S') ∧ f_X12_readEnd m T = some (nI r, T') ∧ t_O (x + 25) (x + 26) S S' ∧ v_FT m T T' ∧ t_O m (m + 1) T T' ∧ ((r = 0 ∧ v_B S' T' x m) ∨ (r = 1 ∧ v_J S' T' x m t N L (t_E t N p))) := by
  obtain ⟨_, _, _, _, k13, _⟩ := hJ.1.tk
  have hsg := j_isSign (c := 59) hJ.2 (by omega)
  have n10 : ¬ (nI 1 = (0 : Int32)) := by decide
  by_cases g : t_K t N L p = 5 ∧ t_G t N p = 59
  · rw [if_pos g] at hsg
    rw [if_pos g.1, g.2] at k13
    obtain ⟨S1, a1, a2, a3, a4⟩ := k_go2 hJ.1 (by omega)
    obtain ⟨T1, b1, b2, b3⟩ := j_go2 hJ.2 (by omega)
    refine ⟨S1, T1, 1, ?_, ?_, a4, v_FT.of (v_ft.of (l := 0) b3), b3.2.2, Or.inr ⟨rfl, a2, b2⟩⟩
    · rw [f_X9_takesSign, k13, if_pos rfl, a1]
      rfl
    · rw [f_X12_readEnd, show (59 : Int32) = nI 59 from rfl, hsg, e_call, if_neg n10, b1]
      rfl
  · rw [if_neg g] at hsg
    obtain ⟨b1, b2, b3⟩ := v_fail (κ := 1) hJ (fun _ => rfl) (by omega) (by omega)
    have hn : ¬ m_ri S (x + 25) 13 = nI 59 := by
      rw [k13]
      by_cases g5 : t_K t N L p = 5
      · rw [if_pos g5]
        have := t_K_G g5
        exact fun q => (e_eq_f (a := t_G t N p) (b := 59) (fun e => g ⟨g5, e⟩) (by omega) (by omega)).mp q
      · rw [if_neg g5]
        exact fun q => (e_no_eq' (a := 59) (by omega)).mp q
    refine ⟨_, _, 0, ?_, ?_, (t_O.rf.si (by omega) (by omega)).si (by omega) (by omega), v_FT.of (l := 0) ((v_ft.rf.sl (by omega) (by omega)).sl (by omega) (by omega)), (t_O.rf.si (by omega) (by omega)).si (by omega) (by omega), Or.inl ⟨rfl, b3⟩⟩
    · rw [f_X9_takesSign, if_neg hn, show (1 : Int32) = nI 1 from rfl, b1]
      rfl
    · rw [f_X12_readEnd, show (59 : Int32) = nI 59 from rfl, hsg, e_call, if_pos (show nI 0 = (0 : Int32) from rfl), show (1 : Int32) = nI 1 from rfl, b2]
      rfl
theorem v_W.toP (hW : v_W P) (hb : ¬ v_br P) : p_W P := by
  obtain ⟨w1, w2, w3, w4, w5, _, _⟩ := hW
  refine ⟨w1, w2, fun f hf => ?_, w4, w5⟩
  obtain ⟨a1, a2, a3, a4⟩ := w3 f hf
  refine ⟨a1, ?_, a3⟩
  by_cases e : f + 1 < p_fu P
  · exact a2 e
  · have : p_ct P f ≠ 0 := fun h => hb ⟨by omega, by rw [show p_fu P - 1 = f by omega]; exact h⟩
    omega
/-- what both sides hold behind all lines -/
def v_RA (S T S' T' : m_M) (x m : Nat) (cl : Option (Int32 × m_M)) (re : Option (Int32 × m_M)) : Prop :=
  v_oS x S S' ∧ v_FT m T T' ∧ ((cl = some (nI 0, S') ∧ re = some ((-1 : Int32) - m_ri T' m 11, T') ∧ v_B S' T' x m) ∨
    (∃ (P' : pP) (n' w' : Nat → Int64), cl = some (nI 1, S') ∧ re = b_X12_program_105 m m_fu T' (nI (p_fu P' + p_ln P')) (nI 0) ∧ v_QS S' x P' n' w' ∧ v_QT T' m P' n' w' ∧ p_W P' ∧ (m_ri S' (x + 25) 15 = nI 0 ∧ m_ri S' (x + 25) 0 = nI 900) ∧ m_ri T' m 10 = nI 0))
theorem v_loop : ∀ (c fu fu' p : Nat) (S T : m_M) (P : pP) (n w : Nat → Int64), p_fu P + p_ln P + c = 30 → c < fu → c < fu' → v_W P → v_J S T x m t N L p → v_QS S x P n w → v_QT T m P n w →
    ∃ S' T', v_RA S T S' T' x m (b_X4_readsAll_23 x fu S (nI (p_fu P + p_ln P))) (b_X12_program_31 m fu' T (nI (p_fu P + p_ln P))) := by
  intro c
  induction c with
  | zero =>
    intro fu fu' p S T P n w hc _ _ hW
    have := hW.1
    have := hW.2.1
    omega
  | succ c ih =>
    intro fu fu' p S T P n w hc hf hf' hW hJ hS hT
    obtain ⟨fu, rfl⟩ : ∃ f, fu = f + 1 := ⟨fu - 1, by omega⟩
    obtain ⟨fu', rfl⟩ : ∃ f, fu' = f + 1 := ⟨fu' - 1, by omega⟩
    have n10 : ¬ (nI 1 = (0 : Int32)) := by decide
    have y00 : nI 0 = (0 : Int32) := rfl
    have hK5 := t_K_5 (t := t) (N := N) (L := L) (p := p)
    have k9 := hJ.1.tk.1
    have j7 := hJ.2.2.1.2.1
    have h900 : ¬ (900 : Int32) ≤ nI (p_fu P + p_ln P) := by rw [show (900 : Int32) = nI 900 from rfl, e_le (by omega) (by omega)]; omega
    by_cases g0 : t_K t N L p = 0
    · rw [g0] at k9 j7
      have ec : b_X4_readsAll_23 x (fu + 1) S (nI (p_fu P + p_ln P)) = b_X4_readsAll_88 x S := by
        rw [b_X4_readsAll_23, if_neg h900, k9, if_pos y00]
      by_cases hb : v_br P
      · obtain ⟨b1, b2, b3⟩ := v_fail (κ := 3) hJ (fun q => by omega) (by omega) (by omega)
        refine ⟨_, _, (v_oS.rf.si (by omega) (by omega)).si (by omega) (by omega), v_FT.of (l := 0) ((v_ft.rf.sl (by omega) (by omega)).sl (by omega) (by omega)), Or.inl ⟨?_, ?_, b3⟩⟩
        · rw [ec, b_X4_readsAll_88, k_bare_t hW hS hb, e_call, if_neg n10, show (3 : Int32) = nI 3 from rfl, b1]
          rfl
        · rw [b_X12_program_31, j7, if_pos (show nI (t_j 0) = (0 : Int32) from rfl), j_bare_t hW hT hb, e_call, if_neg n10, show (3 : Int32) = nI 3 from rfl, b2]
          rfl
      · refine ⟨S, T, v_oS.rf, v_FT.rf, Or.inr ⟨P, n, w, ?_, ?_, hS, hT, hW.toP hb, ⟨hJ.1.2.2, hJ.1.1.2.2.1.2⟩, hJ.2.2.2.2⟩⟩
        · rw [ec, b_X4_readsAll_88, k_bare_f hW hS hb]
          rfl
        · rw [b_X12_program_31, j7, if_pos (show nI (t_j 0) = (0 : Int32) from rfl), j_bare_f hW hT hb, e_call, if_pos y00]
          rfl
    · have k90 : ¬ nI (t_K t N L p) = (0 : Int32) := fun q => (e_eq_f (a := t_K t N L p) (b := 0) g0 (by omega) (by omega)).mp q
      have hj : t_j (t_K t N L p) < 5 ∧ t_j (t_K t N L p) ≠ 0 := by simp only [t_j]; split <;> omega
      have j70 : ¬ nI (t_j (t_K t N L p)) = (0 : Int32) := fun q => (e_eq_f (a := t_j (t_K t N L p)) (b := 0) hj.2 (by omega) (by omega)).mp q
      have key : ∀ (S1 T1 : m_M) (a b r : Nat), a + b = p_fu P + p_ln P + 1 → v_RF S T S1 T1 x m t N L a b r → ∃ S' T', v_RA S T S' T' x m (b_X4_readsAll_61 x (b_X4_readsAll_23 x fu) S1 (nI (p_fu P + p_ln P)) (nI r)) (if nI r = 0 then (b_X12_program_70 m T1) else (b_X12_program_63 m (b_X12_program_31 m fu') T1 (nI (p_fu P + p_ln P)))) := by
        intro S1 T1 a b r hab hR
        obtain ⟨o1, o2, hR | ⟨e, p', P', n', w', hJ1, hS1, hT1, hW1, f1, f2⟩⟩ := hR
        · obtain ⟨e, hB⟩ := hR
          subst e
          exact ⟨S1, T1, o1, o2, Or.inl ⟨rfl, rfl, hB⟩⟩
        · subst e
          obtain ⟨S2, T2, r, s1, s2, s3, s4, s5, s6⟩ := v_sign hJ1
          rw [b_X4_readsAll_61, if_neg n10, show (59 : Int32) = nI 59 from rfl, s1, e_call, if_neg n10, b_X12_program_63, s2, e_call]
          rcases s6 with ⟨e, hB⟩ | ⟨e, hJ2⟩
          · subst e
            exact ⟨S2, T2, o1.tr (v_oS.of3 s3), o2.tr s4, Or.inl ⟨rfl, rfl, hB⟩⟩
          · subst e
            have hS2 := hS1.kept hW1 (v_fs.of s3)
            have hT2 := hT1.kn (T' := T2) (s5.1 (m + 3) (by omega)).1 (s5.1 (m + 8) (by omega)).2 (s5.1 (m + 10) (by omega)).2
            obtain ⟨S3, T3, q1, q2, q3⟩ := ih fu fu' _ S2 T2 P' n' w' (by omega) (by omega) (by omega) hW1 hJ2 hS2 hT2
            rw [if_neg n10, if_neg n10, e_let, e_let, show (1 : Int32) = nI 1 from rfl, nI_add, ← hab, ← f1, ← f2]
            exact ⟨S3, T3, o1.tr ((v_oS.of3 s3).tr q1), o2.tr (s4.tr q2), q3⟩
      have hkw := k_kw hJ.1 (i := 0) (by omega)
      have hiw := j_isWord (i := 0) hJ.2 (by omega)
      by_cases gf : t_K t N L p = 3 ∧ t_ki (t_W t N p) = 0
      · rw [if_pos gf] at hiw
        obtain ⟨S1, T1, r, a1, a2, a3⟩ := v_fun hW hJ gf.1 hS hT
        obtain ⟨S2, T2, h⟩ := key S1 T1 _ _ r (by omega) a3
        refine ⟨S2, T2, ?_⟩
        rw [b_X4_readsAll_23, if_neg h900, k9, if_neg k90, if_pos (show m_ri S (x + 25) 11 = (0 : Int32) from hkw.mpr gf), a1, e_call, b_X12_program_31, j7, if_neg j70, show (0 : Int32) = nI 0 from rfl, hiw, e_call, if_neg (show ¬ nI 1 = nI 0 from n10), a2, e_call]
        exact h
      · rw [if_neg gf] at hiw
        obtain ⟨S1, T1, r, a1, a2, a3, a4, a5⟩ := v_is hW hJ hS hT
        obtain ⟨S2, T2, h⟩ := key S1 T1 (p_fu P) (p_ln P + 1) r (by omega) ⟨a3, a4, by
          rcases a5 with h | ⟨e, p', P', w', h1, h2, h3, h4, h5, h6⟩
          · exact Or.inl h
          · exact Or.inr ⟨e, p', P', n, w', h1, h2, h3, h4, h5, h6⟩⟩
        refine ⟨S2, T2, ?_⟩
        rw [b_X4_readsAll_23, if_neg h900, k9, if_neg k90, if_neg (show ¬ m_ri S (x + 25) 11 = (0 : Int32) from fun q => gf (hkw.mp q)), a1, e_call, b_X12_program_31, j7, if_neg j70, show (0 : Int32) = nI 0 from rfl, hiw, e_call, if_pos rfl, a2, e_call]
        exact h
end VF
