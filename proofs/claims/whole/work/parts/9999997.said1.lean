/-! a sentence: both sides -/
section ZR
variable {S S' S'' T T' T'' : m_M} {x m : Nat} {Z Z' Z'' : zT} {c c' fu w n l b k o o' wi r : Nat} {t : Nat → Nat} {N L p : Nat} {nm : Nat → Int64} {s : sT}
theorem j_rs10 {G : Nat → m_M → Option (Int32 × m_M)} {l1 : Int32} (hJ : t_yj T m t N L p) : ∀ (c i fl : Nat), i + c = 22 → 13 ≤ i → c < fl → b_X12_readSaid_10 G m fl T l1 (nI i) = b_X12_readSaid_30 G m T l1 (nI (if t_K t N L p = 3 ∧ i ≤ t_ki (t_W t N p) ∧ t_ki (t_W t N p) ≤ 21 then t_ki (t_W t N p) else 22)) := by
  intro c
  induction c with
  | zero =>
    intro i fl h1 h13 hf
    obtain ⟨fl, rfl⟩ : ∃ f, fl = f + 1 := ⟨fl - 1, by omega⟩
    rw [b_X12_readSaid_10, if_pos (show (21 : Int32) < nI i by rw [show (21 : Int32) = nI 21 from rfl, e_lt (by omega) (by omega)]; omega), if_neg (by omega), show i = 22 by omega]
  | succ c ih =>
    intro i fl h1 h13 hf
    obtain ⟨fl, rfl⟩ : ∃ f, fl = f + 1 := ⟨fl - 1, by omega⟩
    have hw := j_isWord (i := i) hJ (by omega)
    rw [b_X12_readSaid_10, if_neg (show ¬ (21 : Int32) < nI i by rw [show (21 : Int32) = nI 21 from rfl, e_lt (by omega) (by omega)]; omega), hw, e_call]
    by_cases e : t_K t N L p = 3 ∧ t_ki (t_W t N p) = i
    · rw [if_pos e, if_neg (by decide), if_pos (show t_K t N L p = 3 ∧ i ≤ t_ki (t_W t N p) ∧ t_ki (t_W t N p) ≤ 21 by omega), e.2]
    · rw [if_neg e, if_pos (show nI 0 = (0 : Int32) from rfl), e_let, show (1 : Int32) = nI 1 from rfl, nI_add, ih (i + 1) fl (by omega) (by omega) (by omega)]
      by_cases e2 : t_K t N L p = 3 ∧ i ≤ t_ki (t_W t N p) ∧ t_ki (t_W t N p) ≤ 21
      · rw [if_pos e2, if_pos (show t_K t N L p = 3 ∧ i + 1 ≤ t_ki (t_W t N p) ∧ t_ki (t_W t N p) ≤ 21 by omega)]
      · rw [if_neg e2, if_neg (show ¬ (t_K t N L p = 3 ∧ i + 1 ≤ t_ki (t_W t N p) ∧ t_ki (t_W t N p) ≤ 21) by omega)]
theorem z_pl {G : Nat → m_M → Option (Int32 × m_M)} {w : Int32} (h : (m_call (f_X12_saysOne m T ((50 : Int32) + w) (0 : Int32) (0 : Int32) (0 : Int32)) fun v15 S14 => m_let (m_si S14 m 50 v15) fun S16 => some (nI 1, S16)) = some (nI 1, T')) : (m_call (f_X12_saysOne m T ((50 : Int32) + w) (0 : Int32) (0 : Int32) (0 : Int32)) fun v15 S14 => m_let (m_si S14 m 50 v15) fun S16 => b_X12_readSaid_166 G m S16 (1 : Int32)) = b_X12_readSaid_166 G m T' (nI 1) := by
  obtain ⟨v, U, h1, h2⟩ := m_call_of h
  rw [h1, e_call, e_let]
  rw [e_let] at h2
  have h3 : m_si U m 50 v = T' := (Prod.mk.inj (Option.some.inj h2)).2
  rw [h3]; rfl
theorem v_said1 : ∀ (d wi : Nat), wi ≤ 8 → 9 ≤ d + wi → z_HF (fun S => f_X8_readsOne d x (x + 48) S (nI wi)) (fun T => f_X12_readSaid d m T) x m t N L fu nm wi := by
  intro d
  induction d with
  | zero => intro wi h1 h2; omega
  | succ d ih =>
    intro wi h1 h2 S T p o c Z hJ hz hn
    show ∃ S' T' r, g_X8_readsOne (f_X8_readsOne d) x (x + 48) S (nI wi) = some (nI r, S') ∧ g_X12_readSaid (f_X12_readSaid d) m T = some (nI r, T') ∧ z_RS S T S' T' x m t N L fu o c wi Z r
    have hfu := m_fu_ge
    have n10 : ¬ (nI 1 = (0 : Int32)) := by decide
    have y00 : nI 0 = (0 : Int32) := rfl
    have hK5 := t_K_5 (t := t) (N := N) (L := L) (p := p)
    obtain ⟨_, _, k11, _, k13, _⟩ := hJ.1.tk
    have s40 := j_isSign (c := 40) hJ.2 (by omega)
    have rs := fun l1 => j_rs10 (G := f_X12_readSaid d) (l1 := l1) hJ.2 9 13 m_fu rfl (by omega) (by omega)
    have ho20 := hz.2.2.2.1
    have ho40 := hz.2.2.2.2
    have z1 := hz.1.1
    have z48 := hz.2.1.1
    have z49 := hz.2.1.2.1
    by_cases hbw : (t_K t N L p = 5 ∧ t_G t N p = 40) ∨ (t_K t N L p = 3 ∧ 13 ≤ t_ki (t_W t N p) ∧ t_ki (t_W t N p) ≤ 21)
    · have hK2 : 2 ≤ t_K t N L p := by omega
      obtain ⟨bq, wq, v4, hv4, ec, er, hcase⟩ : ∃ (bq wq : Nat) (v4 : Int32), (bq = 0 → v4 = nI wq) ∧ g_X8_readsOne (f_X8_readsOne d) x (x + 48) S (nI wi) = b_X8_readsOne_54 (f_X8_readsOne d) x (x + 48) S (nI wi) (nI bq) v4 ∧ g_X12_readSaid (f_X12_readSaid d) m T = b_X12_readSaid_46 (f_X12_readSaid d) m T (nI bq) (nI wq) ∧ ((bq = 1) ∨ (bq = 0 ∧ 13 ≤ wq ∧ wq ≤ 21)) := by
        by_cases hbr : t_K t N L p = 5 ∧ t_G t N p = 40
        · refine ⟨1, 22, m_ri S (x + 37) 11, fun h => by omega, ?_, ?_, Or.inl rfl⟩
          · rw [if_pos hbr.1, hbr.2] at k13
            rw [g_X8_readsOne, k13, if_pos (show nI 40 = (40 : Int32) from rfl), b_X8_readsOne_17, e_let, if_neg (by decide)]; rfl
          · rw [if_pos hbr] at s40
            rw [g_X12_readSaid, show (40 : Int32) = nI 40 from rfl, s40, e_call, show (13 : Int32) = nI 13 from rfl, rs, if_neg (show ¬ (t_K t N L p = 3 ∧ 13 ≤ t_ki (t_W t N p) ∧ t_ki (t_W t N p) ≤ 21) by omega), b_X12_readSaid_30, if_neg n10]
        · have hwd := hbw.resolve_left hbr
          refine ⟨0, t_ki (t_W t N p), nI (t_ki (t_W t N p)), fun _ => rfl, ?_, ?_, Or.inr ⟨rfl, hwd.2⟩⟩
          · rw [if_neg (by omega)] at k13
            rw [if_pos hwd.1] at k11
            rw [g_X8_readsOne, k13, if_neg (show ¬ m_no = (40 : Int32) by decide), b_X8_readsOne_17, k11, e_let, if_pos rfl, if_neg (show ¬ nI (t_ki (t_W t N p)) < (13 : Int32) by rw [show (13 : Int32) = nI 13 from rfl, e_lt (by omega) (by omega)]; omega), if_pos (show nI (t_ki (t_W t N p)) ≤ (21 : Int32) by rw [show (21 : Int32) = nI 21 from rfl, e_le (by omega) (by omega)]; omega)]; rfl
          · rw [if_neg hbr] at s40
            rw [g_X12_readSaid, show (40 : Int32) = nI 40 from rfl, s40, e_call, show (13 : Int32) = nI 13 from rfl, rs, if_pos hwd, b_X12_readSaid_30, if_pos y00, if_pos (show nI (t_ki (t_W t N p)) ≤ (21 : Int32) by rw [show (21 : Int32) = nI 21 from rfl, e_le (by omega) (by omega)]; omega)]
      rw [ec, er]
      by_cases hlim : o = 20 ∨ wi = 8
      · obtain ⟨S1, T1, a1, a2, a3, a4, a5, _⟩ := z_RS.fail (κ := 4) hJ (fun h => by omega) (by omega) (by omega)
        refine ⟨S1, T1, 0, ?_, ?_, a3, a4, Or.inl ⟨rfl, a5⟩⟩
        · have e72 : b_X8_readsOne_72 (f_X8_readsOne d) x (x + 48) S = some (nI 0, S1) := by
            rw [b_X8_readsOne_72, show (4 : Int32) = nI 4 from rfl, a1]; rfl
          rw [b_X8_readsOne_54, z1]
          by_cases e : o = 20
          · rw [e, if_pos (show (20 : Int32) ≤ nI 20 by decide), e72]
          · rw [if_neg (show ¬ (20 : Int32) ≤ nI o by rw [show (20 : Int32) = nI 20 from rfl, e_le (by omega) (by omega)]; omega), if_neg (show ¬ nI wi < (8 : Int32) by rw [show (8 : Int32) = nI 8 from rfl, e_lt (by omega) (by omega)]; omega), e72]
        · have e64 : b_X12_readSaid_64 (f_X12_readSaid d) m T = some (nI 0, T1) := by
            rw [b_X12_readSaid_64, show (4 : Int32) = nI 4 from rfl, a2]; rfl
          rw [b_X12_readSaid_46, z48]
          by_cases e : o = 20
          · rw [e, if_pos (show nI 20 = (20 : Int32) from rfl), e64]
          · rw [if_neg (show ¬ nI o = (20 : Int32) from fun q => (e_eq_f (a := o) (b := 20) e (by omega) (by omega)).mp q), z49, show wi = 8 by omega, if_pos (show nI 8 = (8 : Int32) from rfl), e64]
      · have hJ3 : v_Js (m_si S (x + 32) 1 (nI (o + 1))) (m_si (m_si T m 48 (nI (o + 1))) m 49 (nI (wi + 1))) x m t N L p := ⟨hJ.1.kept fun q h1 h2 => ⟨by rw [e_rq (by omega)], rfl⟩, hJ.2.kept (fun i _ _ => by rw [e_rn (by omega), e_rn (by omega)]) rfl (by rw [e_rq (by omega), e_rq (by omega)])⟩
        have hz3 : z_J (m_si S (x + 32) 1 (nI (o + 1))) (m_si (m_si T m 48 (nI (o + 1))) m 49 (nI (wi + 1))) x m fu (o + 1) c (wi + 1) Z := by
          obtain ⟨⟨y1, y2, y3⟩, ⟨y4, y5, y6, y7⟩, y8, y9, y10⟩ := hz
          refine ⟨⟨by rw [e_rs], by rw [e_rn (by omega)]; exact y2, fun k hk => ?_⟩, ⟨by rw [e_rn (by omega), e_rs], by rw [e_rs], by rw [e_rn (by omega), e_rn (by omega)]; exact y6, by rw [e_rq (by omega), e_rq (by omega)]; exact y7⟩, y8, by omega, by omega⟩
          rw [e_rq (by omega), e_rq (by omega), e_rq (by omega)]; exact y3 k hk
        have hn3 : z_nm (m_si S (x + 32) 1 (nI (o + 1))) (m_si (m_si T m 48 (nI (o + 1))) m 49 (nI (wi + 1))) x m fu nm := hn.kept (z_oS.rf.si (by omega) (by omega)) ((z_FT.rf.sl (by omega)).sl (by omega))
        obtain ⟨S4, T4, a1, a2, a3, a4, a5, a6, a7, _, _⟩ := z_go hJ3 hK2 hz3 hn3
        have o1 : z_oS x S S4 := (z_oS.rf.si (by omega) (by omega)).tr a6
        have o2 : z_FT m T T4 := ((z_FT.rf.sl (by omega)).sl (by omega)).tr a7
        have ec2 : ∀ v, b_X8_readsOne_54 (f_X8_readsOne d) x (x + 48) S (nI wi) (nI bq) v = b_X8_readsOne_54 (f_X8_readsOne d) x (x + 48) S (nI wi) (nI bq) v := fun _ => rfl
        have fin : ∀ (S' T' : m_M) (r : Nat), z_RS S4 T4 S' T' x m t N L fu o c (wi + 1) Z r → ∃ T'', b_X12_readSaid_166 (f_X12_readSaid d) m T' (nI r) = some (nI r, T'') ∧ z_RS S T S' T'' x m t N L fu o c wi Z r := fun S' T' r h => by
          obtain ⟨T'', g1, g2, g3, g4⟩ := z_fin (G := f_X12_readSaid d) h (by omega)
          exact ⟨T'', g1, o1.tr g2, o2.tr g3, g4⟩
        rw [b_X8_readsOne_54, z1, if_neg (show ¬ (20 : Int32) ≤ nI o by rw [show (20 : Int32) = nI 20 from rfl, e_le (by omega) (by omega)]; omega), if_pos (show nI wi < (8 : Int32) by rw [show (8 : Int32) = nI 8 from rfl, e_lt (by omega) (by omega)]; omega), show (1 : Int32) = nI 1 from rfl, nI_add, nI_add, e_let, a1, e_cal0]
        rw [b_X12_readSaid_46, z48, if_neg (show ¬ nI o = (20 : Int32) from fun q => (e_eq_f (a := o) (b := 20) (by omega) (by omega) (by omega)).mp q), z49, if_neg (show ¬ nI wi = (8 : Int32) from fun q => (e_eq_f (a := wi) (b := 8) (by omega) (by omega) (by omega)).mp q), show (1 : Int32) = nI 1 from rfl, nI_add, e_let, e_rn (by omega), z49, nI_add, e_let, a2, e_cal0]
        rcases hcase with hb1 | ⟨hb0, hw1, hw2⟩
        · subst hb1
          obtain ⟨S5, T5, r, b1, b2, b3⟩ := z_brk (ih (wi + 1) (by omega) (by omega)) a3 a4 a5
          obtain ⟨T6, g1, g2⟩ := fin S5 T5 r b3
          refine ⟨S5, T6, r, ?_, ?_, g2⟩
          · rw [if_neg n10]; exact b1
          · rw [if_neg n10, b2, e_call]; exact g1
        · subst hb0
          rw [hv4 rfl, if_pos y00, if_pos y00]
          have hw : wq = 13 ∨ wq = 14 ∨ wq = 15 ∨ wq = 16 ∨ wq = 17 ∨ wq = 18 ∨ wq = 19 ∨ wq = 20 ∨ wq = 21 := by omega
          rcases hw with rfl | rfl | rfl | rfl | rfl | rfl | rfl | rfl | rfl
          · obtain ⟨S5, T5, r, b1, b2, b3⟩ := z_not (ih (wi + 1) (by omega) (by omega)) a3 a4 a5
            obtain ⟨T6, g1, g2⟩ := fin S5 T5 r b3
            refine ⟨S5, T6, r, ?_, ?_, g2⟩
            · rw [if_pos (show nI 13 = (13 : Int32) from rfl)]; exact b1
            · rw [if_pos (show nI 13 = (13 : Int32) from rfl), b2, e_call]; exact g1
          · obtain ⟨S5, T5, b1, b2, b3⟩ := z_plain (w := 14) (F := f_X8_readsOne d) a3 a4 a5 ho40 (by omega) (by omega)
            obtain ⟨T6, g1, g2⟩ := fin S5 T5 1 b3
            refine ⟨S5, T6, 1, b1, ?_, g2⟩
            rw [if_neg (by decide), if_neg (by decide)]
            exact (z_pl b2).trans g1
          · obtain ⟨S5, T5, b1, b2, b3⟩ := z_plain (w := 15) (F := f_X8_readsOne d) a3 a4 a5 ho40 (by omega) (by omega)
            obtain ⟨T6, g1, g2⟩ := fin S5 T5 1 b3
            refine ⟨S5, T6, 1, b1, ?_, g2⟩
            rw [if_neg (by decide), if_neg (by decide)]
            exact (z_pl b2).trans g1
          · obtain ⟨S5, T5, b1, b2, b3⟩ := z_plain (w := 16) (F := f_X8_readsOne d) a3 a4 a5 ho40 (by omega) (by omega)
            obtain ⟨T6, g1, g2⟩ := fin S5 T5 1 b3
            refine ⟨S5, T6, 1, b1, ?_, g2⟩
            rw [if_neg (by decide), if_neg (by decide)]
            exact (z_pl b2).trans g1
          · obtain ⟨S5, T5, r, b1, b2, b3⟩ := z_ofun (w := 17) a3 a4 a5 ho40 (by omega) (by omega)
            obtain ⟨T6, g1, g2⟩ := fin S5 T5 r b3
            refine ⟨S5, T6, r, ?_, ?_, g2⟩
            · rw [if_neg (by decide), if_neg (by decide), if_neg (by decide), if_neg (by decide), if_pos (show nI 17 = (17 : Int32) from rfl), b_X8_readsOne_219, b1, e_call]; exact e_01 b3.r01
            · rw [if_neg (by decide), if_pos (by decide), if_neg (by decide), b2, e_call]; exact g1
          · obtain ⟨S5, T5, r, b1, b2, b3⟩ := z_ofun (w := 18) a3 a4 a5 ho40 (by omega) (by omega)
            obtain ⟨T6, g1, g2⟩ := fin S5 T5 r b3
            refine ⟨S5, T6, r, ?_, ?_, g2⟩
            · rw [if_neg (by decide), if_neg (by decide), if_neg (by decide), if_neg (by decide), if_neg (by decide), if_pos (show nI 18 = (18 : Int32) from rfl), b_X8_readsOne_219, b1, e_call]; exact e_01 b3.r01
            · rw [if_neg (by decide), if_pos (by decide), if_neg (by decide), b2, e_call]; exact g1
          · obtain ⟨S5, T5, r, b1, b2, b3⟩ := z_meas (w := 19) a3 a4 a5 ho40 (by omega) (by omega)
            obtain ⟨T6, g1, g2⟩ := fin S5 T5 r b3
            refine ⟨S5, T6, r, ?_, ?_, g2⟩
            · rw [if_neg (by decide), if_neg (by decide), if_neg (by decide), if_neg (by decide), if_neg (by decide), if_neg (by decide), if_pos (show nI 19 = (19 : Int32) from rfl), b_X8_readsOne_227, b1, e_call]; exact e_01 b3.r01
            · rw [if_neg (by decide), if_pos (by decide), if_pos (by decide), b2, e_call]; exact g1
          · obtain ⟨S5, T5, r, b1, b2, b3⟩ := z_meas (w := 20) a3 a4 a5 ho40 (by omega) (by omega)
            obtain ⟨T6, g1, g2⟩ := fin S5 T5 r b3
            refine ⟨S5, T6, r, ?_, ?_, g2⟩
            · rw [if_neg (by decide), if_neg (by decide), if_neg (by decide), if_neg (by decide), if_neg (by decide), if_neg (by decide), if_neg (by decide), if_pos (show nI 20 = (20 : Int32) from rfl), b_X8_readsOne_227, b1, e_call]; exact e_01 b3.r01
            · rw [if_neg (by decide), if_pos (by decide), if_pos (by decide), b2, e_call]; exact g1
          · obtain ⟨S5, T5, r, b1, b2, b3⟩ := z_meas (w := 21) a3 a4 a5 ho40 (by omega) (by omega)
            obtain ⟨T6, g1, g2⟩ := fin S5 T5 r b3
            refine ⟨S5, T6, r, ?_, ?_, g2⟩
            · rw [if_neg (by decide), if_neg (by decide), if_neg (by decide), if_neg (by decide), if_neg (by decide), if_neg (by decide), if_neg (by decide), if_neg (by decide), if_pos (show nI 21 = (21 : Int32) from rfl), b_X8_readsOne_227, b1, e_call]; exact e_01 b3.r01
            · rw [if_neg (by decide), if_pos (by decide), if_pos (by decide), b2, e_call]; exact g1
    · have hnb : ¬ (t_K t N L p = 5 ∧ t_G t N p = 40) := fun h => hbw (Or.inl h)
      have hnw : ¬ (t_K t N L p = 3 ∧ 13 ≤ t_ki (t_W t N p) ∧ t_ki (t_W t N p) ≤ 21) := fun h => hbw (Or.inr h)
      obtain ⟨S1, T1, a1, a2, a3, a4, a5, _⟩ := z_RS.fail (κ := 1) hJ (fun h => rfl) (by omega) (by omega)
      have hkl := t_ki_le (w := t_W t N p)
      refine ⟨S1, T1, 0, ?_, ?_, a3, a4, Or.inl ⟨rfl, a5⟩⟩
      · have h40 : ¬ m_ri S (x + 37) 13 = (40 : Int32) := by
          rw [k13]
          by_cases g5 : t_K t N L p = 5
          · rw [if_pos g5]
            have := t_K_G g5
            exact fun q => (e_eq_f (a := t_G t N p) (b := 40) (fun e => hnb ⟨g5, e⟩) (by omega) (by omega)).mp q
          · rw [if_neg g5]
            exact fun q => (e_no_eq' (a := 40) (by omega)).mp q
        have e45 : b_X8_readsOne_45 (f_X8_readsOne d) x (x + 48) S = some (nI 0, S1) := by
          rw [b_X8_readsOne_45, show (1 : Int32) = nI 1 from rfl, a1]; rfl
        rw [g_X8_readsOne, if_neg h40, b_X8_readsOne_17, k11, e_let, if_pos rfl]
        by_cases g3 : t_K t N L p = 3
        · rw [if_pos g3]
          by_cases g13 : t_ki (t_W t N p) < 13
          · rw [if_pos (show nI (t_ki (t_W t N p)) < (13 : Int32) by rw [show (13 : Int32) = nI 13 from rfl, e_lt (by omega) (by omega)]; exact g13), e45]
          · rw [if_neg (show ¬ nI (t_ki (t_W t N p)) < (13 : Int32) by rw [show (13 : Int32) = nI 13 from rfl, e_lt (by omega) (by omega)]; exact g13), if_neg (show ¬ nI (t_ki (t_W t N p)) ≤ (21 : Int32) by rw [show (21 : Int32) = nI 21 from rfl, e_le (by omega) (by omega)]; omega), e45]
        · rw [if_neg g3, if_pos (show m_no < (13 : Int32) by decide), e45]
      · rw [if_neg hnb] at s40
        rw [g_X12_readSaid, show (40 : Int32) = nI 40 from rfl, s40, e_call, show (13 : Int32) = nI 13 from rfl, rs, if_neg hnw, b_X12_readSaid_30, if_pos y00, if_neg (by decide), show (1 : Int32) = nI 1 from rfl, a2]; rfl
end ZR
