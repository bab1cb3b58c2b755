/-! chains of a sentence: both sides -/
section ZL
variable {S S' S'' T T' T'' : m_M} {x m : Nat} {Z Z' Z'' : zT} {c c' fu w s n l b k o wi : Nat} {t : Nat → Nat} {N L p : Nat} {nm : Nat → Int64}
/-- what both sides hold behind a piece of a sentence -/
def z_RS (S T S' T' : m_M) (x m : Nat) (t : Nat → Nat) (N L fu o c wi : Nat) (Z : zT) (r : Nat) : Prop :=
  z_oS x S S' ∧ z_FT m T T' ∧ ((r = 0 ∧ v_Bs S' T' x m) ∨ (r = 1 ∧ ∃ (p' o' c' : Nat) (Z' : zT), v_Js S' T' x m t N L p' ∧ z_J S' T' x m fu o' c' wi Z' ∧ m_ri T' m 50 = nI (c' - 1) ∧ 1 ≤ c' ∧ z_b Z' (c' - 1) = c ∧ z_ag Z Z' c ∧ c' + 1 + 2 * o ≤ c + 2 * o' ∧ o < o' ∧ c < c'))
theorem z_RS.r01 {r : Nat} (h : z_RS S T S' T' x m t N L fu o c wi Z r) : r = 0 ∨ r = 1 := by
  rcases h.2.2 with h | h
  · exact Or.inl h.1
  · exact Or.inr h.1
def z_HF (F G : m_M → Option (Int32 × m_M)) (x m : Nat) (t : Nat → Nat) (N L fu : Nat) (nm : Nat → Int64) (wi : Nat) : Prop :=
  ∀ (S T : m_M) (p o c : Nat) (Z : zT), v_Js S T x m t N L p → z_J S T x m fu o c wi Z → z_nm S T x m fu nm → ∃ S' T' r, F S = some (nI r, S') ∧ G T = some (nI r, T') ∧ z_RS S T S' T' x m t N L fu o c wi Z r
theorem z_RS.fail {κ : Nat} (hJ : v_Js S T x m t N L p) (hκ : t_K t N L p = 1 → κ = 1) (h1 : 1 ≤ κ) (h4 : κ ≤ 4) : ∃ S' T', f_X9s_failsBy x S (nI κ) = some (nI 0, S') ∧ f_X12_bad m T (nI κ) = some (nI 0, T') ∧ z_oS x S S' ∧ z_FT m T T' ∧ v_Bs S' T' x m ∧ (∀ i, i ≠ 10 → i ≠ 11 → m_ri T' m i = m_ri T m i) := by
  obtain ⟨b1, b2, b3⟩ := v_fails hJ hκ h1 h4
  exact ⟨_, _, b1, b2, (z_oS.rf.si (by omega) (by omega)).si (by omega) (by omega), (z_FT.rf.sl (by omega)).sl (by omega), b3, fun i h1 h2 => by rw [e_rn h2, e_rn h1]⟩
/-- the next piece: both sides -/
theorem z_go (hJ : v_Js S T x m t N L p) (h2 : 2 ≤ t_K t N L p) (hz : z_J S T x m fu o c wi Z) (hn : z_nm S T x m fu nm) : ∃ S' T', f_X9s_advance x S = some S' ∧ f_X12_go m T = some T' ∧ v_Js S' T' x m t N L (t_E t N p) ∧ z_J S' T' x m fu o c wi Z ∧ z_nm S' T' x m fu nm ∧ z_oS x S S' ∧ z_FT m T T' ∧ t_O (x + 37) (x + 38) S S' ∧ t_N m T T' := by
  obtain ⟨S1, a1, a2, a3, a4⟩ := k_go2s hJ.1 h2
  obtain ⟨T1, b1, b2, b3⟩ := j_go2 hJ.2 h2
  have f1 := z_oS.of3 a4
  have f2 := z_FT.of b3
  exact ⟨S1, T1, a1, b1, ⟨a2, b2⟩, hz.kept (fun q h1 h2 => (a4.1 q (by omega)).1) (fun i h1 h2 => b3.1 i (by omega)) (b3.2.2.1 _ (by omega)).1, hn.kept f1 f2, f1, f2, a4, b3⟩
theorem v_and {F : Nat → Nat → m_M → Int32 → Option (Int32 × m_M)} {G : Nat → m_M → Option (Int32 × m_M)} {o0 c0 : Nat} (h00 : c0 ≤ 2 * o0) (hF : z_HF (fun S => F x (x + 48) S (nI wi)) (fun T => G m T) x m t N L fu nm wi) : ∀ (d i fc fr p o c : Nat) (S T : m_M) (Z1 : zT), 20 - o = d → d < fc → d < fr → i + 1 ≤ o → v_Js S T x m t N L p → z_J S T x m fu o c wi Z1 → z_nm S T x m fu nm → 1 ≤ c → z_b Z1 (c - 1) = c0 → z_ag Z Z1 c0 → c + 1 + 2 * o0 ≤ c0 + 2 * o → o0 < o → c0 < c →
    ∃ S' T' r, b_X8_readsParts_13 F x (x + 48) fc S (nI wi) (nI i) = some (nI r, S') ∧ b_X12_readAnd_14 G m fr T (nI (c - 1)) = some (nI r, T') ∧ z_RS S T S' T' x m t N L fu o0 c0 wi Z r := by
  intro d
  induction d using Nat.strongRecOn with
  | ind d ih =>
    intro i fc fr p o c S T Z1 hd hfc hfr hi hJ hz hn h1 hb hag hle ho hcc
    obtain ⟨fc, rfl⟩ : ∃ f, fc = f + 1 := ⟨fc - 1, by omega⟩
    obtain ⟨fr, rfl⟩ : ∃ f, fr = f + 1 := ⟨fr - 1, by omega⟩
    have n10 : ¬ (nI 1 = (0 : Int32)) := by decide
    have y00 : nI 0 = (0 : Int32) := rfl
    have ho20 := hz.2.2.2.1
    have n20 : ¬ (20 : Int32) ≤ nI i := by rw [show (20 : Int32) = nI 20 from rfl, e_le (by omega) (by omega)]; omega
    have hkw := k_kws hJ.1 (i := 12) (by omega)
    have hiw := j_isWord (i := 12) hJ.2 (by omega)
    by_cases g : t_K t N L p = 3 ∧ t_ki (t_W t N p) = 12
    · rw [if_pos g] at hiw
      obtain ⟨S1, T1, a1, a2, a3, a4, a5, a6, a7, a8, a9⟩ := z_go hJ (by omega) hz hn
      obtain ⟨S2, T2, r, b1, b2, b3, b4, b5⟩ := hF S1 T1 _ o c Z1 a3 a4 a5
      have b1 : (fun S => F x (x + 48) S (nI wi)) S1 = some (nI r, S2) := b1
      have b2 : (fun T => G m T) T1 = some (nI r, T2) := b2
      dsimp only at b1 b2
      rw [b_X8_readsParts_13, if_neg n20, if_pos (show m_ri S (x + 37) 11 = (12 : Int32) from hkw.mpr g), a1, e_cal0, b1, e_call, b_X12_readAnd_14, show (12 : Int32) = nI 12 from rfl, hiw, e_call, if_neg n10, a2, e_cal0, b2, e_call]
      rcases b5 with ⟨e, hB⟩ | ⟨e, p2, o2, c2, Z2, hJ2, hz2, h50, hc1, hzb, hag2, hle2, ho2, hcc2⟩
      · subst e
        exact ⟨S2, T2, 0, rfl, rfl, a6.tr b3, a7.tr b4, Or.inl ⟨rfl, hB⟩⟩
      · subst e
        have h20 := hz2.2.2.2.1
        have h40 := hz2.2.2.2.2
        obtain ⟨S3, d1, d2, d3, d4, d5, d6, d7, d8⟩ := k_putz (a := (12 : Int32)) (b' := (-1 : Int32)) (e := (-1 : Int32)) hz2 (by omega)
        obtain ⟨T3, e1, e2, e3, e4, e5, e6, e7, e8, e9, e10, e11⟩ := j_says (a := (2 : Int32)) (b' := nI (c - 1)) (e := nI (c2 - 1)) (g := (0 : Int32)) hz2 (by omega)
        have hbl : z_b Z2 (c - 1) = c0 := by rw [(hag2 (c - 1) (by omega)).2.2.2.2]; exact hb
        have hz3 : z_J S3 T3 x m fu o2 (c2 + 1) wi (z_up Z2 c2 12 0 0 (c - 1) c0) := by
          refine ⟨⟨d2, d3, hz2.1.2.2.up d4 (fun h => by omega) (fun h => by omega) d7⟩, ⟨by rw [e3 48 (by omega)]; exact hz2.2.1.1, by rw [e3 49 (by omega)]; exact hz2.2.1.2.1, e2, hz2.2.1.2.2.2.up e8 ⟨fun h => by omega, fun h => ⟨e4, e5, e6⟩, fun h => by omega, fun h => by omega, fun h => by omega, fun h => by omega⟩⟩, hz2.2.2.1.up (by omega) (by omega) (by omega) (fun h => by omega) (fun _ => ⟨hc1, by omega, hbl.symm, by omega⟩) (fun h => by omega) (fun h => by omega) (fun h => by omega), h20, by omega⟩
        have hJ3 : v_Js S3 T3 x m t N L p2 := ⟨hJ2.1.kept fun q h1 h2 => d8.1 q (by omega), hJ2.2.kept (fun i h1 h2 => e3 i (by omega)) (by rw [e11]) (e10 _ (by omega) (by omega))⟩
        have o3 : z_oS x S2 S3 := ⟨d8.wide (by omega) (by omega), (d8.1 (x + 38) (by omega)).2⟩
        obtain ⟨S4, T4, r, f1, f2, f3, f4, f5⟩ := ih (20 - o2) (by omega) (i + 1) fc fr p2 o2 (c2 + 1) S3 T3 _ rfl (by omega) (by omega) (by omega) hJ3 hz3 ((a5.kept b3 b4).kept o3 e9) (by omega) (by rw [show c2 + 1 - 1 = c2 from rfl, z_up_b, if_pos rfl]) (hag.tr (hag2.tr z_ag.up (by omega)) (by omega)) (by omega) (by omega) (by omega)
        refine ⟨S4, T4, r, ?_, ?_, a6.tr (b3.tr (o3.tr f3)), a7.tr (b4.tr (e9.tr f4)), f5⟩
        · rw [if_neg n10, show nI 12 = (12 : Int32) from rfl, d1, e_call, e_let, show (1 : Int32) = nI 1 from rfl, nI_add]; exact f1
        · rw [if_neg n10, h50, e1, e_call]; exact f2
    · rw [if_neg g] at hiw
      refine ⟨S, m_si T m 50 (nI (c - 1)), 1, ?_, ?_, z_oS.rf, z_FT.rf.sl (by omega), Or.inr ⟨rfl, p, o, c, Z1, ⟨hJ.1, hJ.2.kept (fun i _ _ => by rw [e_rn (by omega)]) rfl (by rw [e_rq (by omega)])⟩, hz.kept (fun _ _ _ => rfl) (fun i h1 h2 => by rw [e_rn (by omega)]) (by rw [e_rq (by omega)]), by rw [e_rs], h1, hb, hag, hle, ho, hcc⟩⟩
      · rw [b_X8_readsParts_13, if_neg n20, if_neg (show ¬ m_ri S (x + 37) 11 = (12 : Int32) from fun q => g (hkw.mp q))]; rfl
      · rw [b_X12_readAnd_14, show (12 : Int32) = nI 12 from rfl, hiw, e_call, if_pos y00]; rfl
theorem v_ands {F : Nat → Nat → m_M → Int32 → Option (Int32 × m_M)} {G : Nat → m_M → Option (Int32 × m_M)} (hF : z_HF (fun S => F x (x + 48) S (nI wi)) (fun T => G m T) x m t N L fu nm wi) : z_HF (fun S => f_X8_readsParts F x (x + 48) S (nI wi)) (fun T => f_X12_readAnd G m T) x m t N L fu nm wi := by
  intro S T p o c Z hJ hz hn
  have hfu := m_fu_ge
  have n10 : ¬ (nI 1 = (0 : Int32)) := by decide
  obtain ⟨S2, T2, r, b1, b2, b3, b4, b5⟩ := hF S T p o c Z hJ hz hn
  have b1 : (fun S => F x (x + 48) S (nI wi)) S = some (nI r, S2) := b1
  have b2 : (fun T => G m T) T = some (nI r, T2) := b2
  dsimp only at b1 b2 ⊢
  rw [f_X8_readsParts, b1, e_call, f_X12_readAnd, b2, e_call]
  rcases b5 with ⟨e, hB⟩ | ⟨e, p2, o2, c2, Z2, hJ2, hz2, h50, hc1, hzb, hag2, hle2, ho2, hcc2⟩
  · subst e
    exact ⟨S2, T2, 0, rfl, rfl, b3, b4, Or.inl ⟨rfl, hB⟩⟩
  · subst e
    have h20 := hz2.2.2.2.1
    obtain ⟨S4, T4, r, f1, f2, f3, f4, f5⟩ := v_and (Z := Z) (o0 := o) (c0 := c) hz.2.2.2.2 hF (20 - o2) 0 m_fu m_fu p2 o2 c2 S2 T2 Z2 rfl (by omega) (by omega) (by omega) hJ2 hz2 (hn.kept b3 b4) hc1 hzb hag2 hle2 ho2 hcc2
    refine ⟨S4, T4, r, ?_, ?_, b3.tr f3, b4.tr f4, f5⟩
    · rw [if_neg n10]; exact f1
    · rw [if_neg n10, e_let, h50]; exact f2
theorem v_or {F : Nat → Nat → m_M → Int32 → Option (Int32 × m_M)} {G : Nat → m_M → Option (Int32 × m_M)} {o0 c0 : Nat} (h00 : c0 ≤ 2 * o0) (hF : z_HF (fun S => f_X8_readsParts F x (x + 48) S (nI wi)) (fun T => f_X12_readAnd G m T) x m t N L fu nm wi) : ∀ (d i fc fr p o c : Nat) (S T : m_M) (Z1 : zT), 20 - o = d → d < fc → d < fr → i + 1 ≤ o → v_Js S T x m t N L p → z_J S T x m fu o c wi Z1 → z_nm S T x m fu nm → 1 ≤ c → z_b Z1 (c - 1) = c0 → z_ag Z Z1 c0 → c + 1 + 2 * o0 ≤ c0 + 2 * o → o0 < o → c0 < c →
    ∃ S' T' r, b_X8_readsCond_13 F x (x + 48) fc S (nI wi) (nI i) = some (nI r, S') ∧ b_X12_readOr_14 G m fr T (nI (c - 1)) = some (nI r, T') ∧ z_RS S T S' T' x m t N L fu o0 c0 wi Z r := by
  intro d
  induction d using Nat.strongRecOn with
  | ind d ih =>
    intro i fc fr p o c S T Z1 hd hfc hfr hi hJ hz hn h1 hb hag hle ho hcc
    obtain ⟨fc, rfl⟩ : ∃ f, fc = f + 1 := ⟨fc - 1, by omega⟩
    obtain ⟨fr, rfl⟩ : ∃ f, fr = f + 1 := ⟨fr - 1, by omega⟩
    have n10 : ¬ (nI 1 = (0 : Int32)) := by decide
    have y00 : nI 0 = (0 : Int32) := rfl
    have ho20 := hz.2.2.2.1
    have n20 : ¬ (20 : Int32) ≤ nI i := by rw [show (20 : Int32) = nI 20 from rfl, e_le (by omega) (by omega)]; omega
    have hkw := k_kws hJ.1 (i := 11) (by omega)
    have hiw := j_isWord (i := 11) hJ.2 (by omega)
    by_cases g : t_K t N L p = 3 ∧ t_ki (t_W t N p) = 11
    · rw [if_pos g] at hiw
      obtain ⟨S1, T1, a1, a2, a3, a4, a5, a6, a7, a8, a9⟩ := z_go hJ (by omega) hz hn
      obtain ⟨S2, T2, r, b1, b2, b3, b4, b5⟩ := hF S1 T1 _ o c Z1 a3 a4 a5
      have b1 : (fun S => f_X8_readsParts F x (x + 48) S (nI wi)) S1 = some (nI r, S2) := b1
      have b2 : (fun T => f_X12_readAnd G m T) T1 = some (nI r, T2) := b2
      dsimp only at b1 b2
      rw [b_X8_readsCond_13, if_neg n20, if_pos (show m_ri S (x + 37) 11 = (11 : Int32) from hkw.mpr g), a1, e_cal0, b1, e_call, b_X12_readOr_14, show (11 : Int32) = nI 11 from rfl, hiw, e_call, if_neg n10, a2, e_cal0, b2, e_call]
      rcases b5 with ⟨e, hB⟩ | ⟨e, p2, o2, c2, Z2, hJ2, hz2, h50, hc1, hzb, hag2, hle2, ho2, hcc2⟩
      · subst e
        exact ⟨S2, T2, 0, rfl, rfl, a6.tr b3, a7.tr b4, Or.inl ⟨rfl, hB⟩⟩
      · subst e
        have h20 := hz2.2.2.2.1
        have h40 := hz2.2.2.2.2
        obtain ⟨S3, d1, d2, d3, d4, d5, d6, d7, d8⟩ := k_putz (a := (11 : Int32)) (b' := (-1 : Int32)) (e := (-1 : Int32)) hz2 (by omega)
        obtain ⟨T3, e1, e2, e3, e4, e5, e6, e7, e8, e9, e10, e11⟩ := j_says (a := (3 : Int32)) (b' := nI (c - 1)) (e := nI (c2 - 1)) (g := (0 : Int32)) hz2 (by omega)
        have hbl : z_b Z2 (c - 1) = c0 := by rw [(hag2 (c - 1) (by omega)).2.2.2.2]; exact hb
        have hz3 : z_J S3 T3 x m fu o2 (c2 + 1) wi (z_up Z2 c2 11 0 0 (c - 1) c0) := by
          refine ⟨⟨d2, d3, hz2.1.2.2.up d4 (fun h => by omega) (fun h => by omega) d7⟩, ⟨by rw [e3 48 (by omega)]; exact hz2.2.1.1, by rw [e3 49 (by omega)]; exact hz2.2.1.2.1, e2, hz2.2.1.2.2.2.up e8 ⟨fun h => by omega, fun h => by omega, fun h => ⟨e4, e5, e6⟩, fun h => by omega, fun h => by omega, fun h => by omega⟩⟩, hz2.2.2.1.up (by omega) (by omega) (by omega) (fun h => by omega) (fun _ => ⟨hc1, by omega, hbl.symm, by omega⟩) (fun h => by omega) (fun h => by omega) (fun h => by omega), h20, by omega⟩
        have hJ3 : v_Js S3 T3 x m t N L p2 := ⟨hJ2.1.kept fun q h1 h2 => d8.1 q (by omega), hJ2.2.kept (fun i h1 h2 => e3 i (by omega)) (by rw [e11]) (e10 _ (by omega) (by omega))⟩
        have o3 : z_oS x S2 S3 := ⟨d8.wide (by omega) (by omega), (d8.1 (x + 38) (by omega)).2⟩
        obtain ⟨S4, T4, r, f1, f2, f3, f4, f5⟩ := ih (20 - o2) (by omega) (i + 1) fc fr p2 o2 (c2 + 1) S3 T3 _ rfl (by omega) (by omega) (by omega) hJ3 hz3 ((a5.kept b3 b4).kept o3 e9) (by omega) (by rw [show c2 + 1 - 1 = c2 from rfl, z_up_b, if_pos rfl]) (hag.tr (hag2.tr z_ag.up (by omega)) (by omega)) (by omega) (by omega) (by omega)
        refine ⟨S4, T4, r, ?_, ?_, a6.tr (b3.tr (o3.tr f3)), a7.tr (b4.tr (e9.tr f4)), f5⟩
        · rw [if_neg n10, show nI 11 = (11 : Int32) from rfl, d1, e_call, e_let, show (1 : Int32) = nI 1 from rfl, nI_add]; exact f1
        · rw [if_neg n10, h50, e1, e_call]; exact f2
    · rw [if_neg g] at hiw
      refine ⟨S, m_si T m 50 (nI (c - 1)), 1, ?_, ?_, z_oS.rf, z_FT.rf.sl (by omega), Or.inr ⟨rfl, p, o, c, Z1, ⟨hJ.1, hJ.2.kept (fun i _ _ => by rw [e_rn (by omega)]) rfl (by rw [e_rq (by omega)])⟩, hz.kept (fun _ _ _ => rfl) (fun i h1 h2 => by rw [e_rn (by omega)]) (by rw [e_rq (by omega)]), by rw [e_rs], h1, hb, hag, hle, ho, hcc⟩⟩
      · rw [b_X8_readsCond_13, if_neg n20, if_neg (show ¬ m_ri S (x + 37) 11 = (11 : Int32) from fun q => g (hkw.mp q))]; rfl
      · rw [b_X12_readOr_14, show (11 : Int32) = nI 11 from rfl, hiw, e_call, if_pos y00]; rfl
theorem v_ors {F : Nat → Nat → m_M → Int32 → Option (Int32 × m_M)} {G : Nat → m_M → Option (Int32 × m_M)} (hF : z_HF (fun S => f_X8_readsParts F x (x + 48) S (nI wi)) (fun T => f_X12_readAnd G m T) x m t N L fu nm wi) : z_HF (fun S => f_X8_readsCond F x (x + 48) S (nI wi)) (fun T => f_X12_readOr G m T) x m t N L fu nm wi := by
  intro S T p o c Z hJ hz hn
  have hfu := m_fu_ge
  have n10 : ¬ (nI 1 = (0 : Int32)) := by decide
  obtain ⟨S2, T2, r, b1, b2, b3, b4, b5⟩ := hF S T p o c Z hJ hz hn
  have b1 : (fun S => f_X8_readsParts F x (x + 48) S (nI wi)) S = some (nI r, S2) := b1
  have b2 : (fun T => f_X12_readAnd G m T) T = some (nI r, T2) := b2
  dsimp only at b1 b2 ⊢
  rw [f_X8_readsCond, b1, e_call, f_X12_readOr, b2, e_call]
  rcases b5 with ⟨e, hB⟩ | ⟨e, p2, o2, c2, Z2, hJ2, hz2, h50, hc1, hzb, hag2, hle2, ho2, hcc2⟩
  · subst e
    exact ⟨S2, T2, 0, rfl, rfl, b3, b4, Or.inl ⟨rfl, hB⟩⟩
  · subst e
    have h20 := hz2.2.2.2.1
    obtain ⟨S4, T4, r, f1, f2, f3, f4, f5⟩ := v_or (Z := Z) (o0 := o) (c0 := c) hz.2.2.2.2 hF (20 - o2) 0 m_fu m_fu p2 o2 c2 S2 T2 Z2 rfl (by omega) (by omega) (by omega) hJ2 hz2 (hn.kept b3 b4) hc1 hzb hag2 hle2 ho2 hcc2
    refine ⟨S4, T4, r, ?_, ?_, b3.tr f3, b4.tr f4, f5⟩
    · rw [if_neg n10]; exact f1
    · rw [if_neg n10, e_let, h50]; exact f2
end ZL
