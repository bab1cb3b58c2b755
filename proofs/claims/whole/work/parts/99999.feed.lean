/-! bytes come behind the tape -/
theorem e_byte (y : Int32) : vp_nar .byte y.toInt8.toInt32 = t_b (y.toBitVec.toNat % 256) := by
  have k1 : ∀ b, b < 256 → 128 ≤ b → (nI b - nI 256).toInt = (b : Int) - 256 := by decide +kernel
  have h1 : (vp_nar .byte y.toInt8.toInt32).toInt = y.toInt.bmod 256 := by
    show (y.toInt8.toInt32.toInt8.toInt32).toInt = _
    rw [Int8.toInt8_toInt32, Int8.toInt_toInt32, Int32.toInt_toInt8]
  have h2 : y.toInt = if 2 * y.toBitVec.toNat < 2 ^ 32 then (y.toBitVec.toNat : Int) else (y.toBitVec.toNat : Int) - (2 ^ 32 : Nat) := BitVec.toInt_eq_toNat_cond y.toBitVec
  have h3 : y.toBitVec.toNat < 2 ^ 32 := y.toBitVec.isLt
  apply Int32.toInt_inj.mp
  rw [h1]
  have hb : y.toBitVec.toNat % 256 < 256 := Nat.mod_lt _ (by omega)
  have h4 : y.toInt % ((256 : Nat) : Int) = ((y.toBitVec.toNat % 256 : Nat) : Int) := by
    rw [h2]; split <;> omega
  rw [Int.bmod, h4]
  generalize y.toBitVec.toNat % 256 = b at *
  rw [t_b]
  by_cases e : b < 128
  · rw [if_pos e, nI_toInt (by omega)]
    rw [if_pos (by omega)]
  · rw [if_neg e, k1 b hb (by omega)]
    rw [if_neg (by omega)]
    rfl
def tp_F (a sl : Nat) (S S' : m_M) : Prop := (∀ q, q ≠ a → q ≠ a + 1 → m_ri S' q = m_ri S q) ∧ (∀ j, j ≠ sl → m_ri S' a j = m_ri S a j) ∧ m_rj S' = m_rj S ∧ m_rr S' = m_rr S
section FD
variable {S S' S'' T T' : m_M} {x m a sl : Nat} {s : sT} {i j k : Int32} {t : Nat → Nat} {N : Nat} {w l2 i1 i2 i3 i4 i5 : Int32}
theorem tp_F.tr (h : tp_F a sl S S') (h' : tp_F a sl S' S'') : tp_F a sl S S'' := ⟨fun q a b => (h'.1 q a b).trans (h.1 q a b), fun j a => (h'.2.1 j a).trans (h.2.1 j a), h'.2.2.1.trans h.2.2.1, h'.2.2.2.trans h.2.2.2⟩
theorem v_by {fu fu' : Nat} (hN : N < 940) (hl : ¬ l2 < 0) (hc : c_tp S x t N) (hr : r_tp T m t N) : ∃ S' T' b, b < 256 ∧ b_X11_putBytes_3 x (fu + 1) S w l2 = b_X11_putBytes_3 x fu S' w (l2 + (-8 : Int32)) ∧ b_X12_come_3 m (fu' + 1) T w l2 = b_X12_come_3 m fu' T' w (l2 + (-8 : Int32)) ∧ c_tp S' x (fun i => if i = N then b else t i) (N + 1) ∧ r_tp T' m (fun i => if i = N then b else t i) (N + 1) ∧ tp_F x 1 S S' ∧ tp_F m 2 T T' := by
  obtain ⟨c1, c2, c3⟩ := hc
  obtain ⟨d1, d2⟩ := hr
  generalize hy : (w.toUInt32 >>> (l2.toUInt32 &&& Int32.toUInt32 31)).toInt32 = y
  have eb := e_byte y
  have ea := pk_and y (m := (255 : Int32)) 8 (by decide)
  have hb : y.toBitVec.toNat % 256 < 256 := Nat.mod_lt _ (by omega)
  rw [show (2 ^ 8 : Nat) = 256 from rfl] at ea
  generalize y.toBitVec.toNat % 256 = b at *
  refine ⟨m_si (m_si S (x + 1) N (t_b b)) x 1 (nI (N + 1)), m_si (m_si T (m + 1) N (nI b)) m 2 (nI (N + 1)), b, hb, ?_, ?_, ⟨?_, fun i hi => ?_, c3.kept ⟨rfl, rfl, by rw [e_rq (by omega), e_rq (by omega)], by rw [e_rq (by omega), e_rq (by omega)]⟩⟩, ⟨?_, fun i hi => ?_⟩, ⟨fun q h1 h2 => ?_, fun j hj => ?_, rfl, rfl⟩, ⟨fun q h1 h2 => ?_, fun j hj => ?_, rfl, rfl⟩⟩
  · rw [b_X11_putBytes_3, if_neg hl, hy, eb, c1, e_sti hN (by omega), e_bind, e_let, e_let, e_rq (by omega), c1, show (1 : Int32) = nI 1 from rfl, nI_add]
  · rw [b_X12_come_3, if_neg hl, hy, ea, d1, e_sti hN (by omega), e_bind, e_let, e_let, e_rq (by omega), d1, show (1 : Int32) = nI 1 from rfl, nI_add]
  · rw [e_rs]
  · rw [e_rq (by omega)]
    dsimp only
    by_cases e : i = N
    · rw [if_pos e, e, e_rs]
    · rw [if_neg e, e_rn e]; exact c2 i (by omega)
  · rw [e_rs]
  · rw [e_rq (by omega)]
    dsimp only
    by_cases e : i = N
    · rw [if_pos e, e, e_rs]
    · rw [if_neg e, e_rn e]; exact d2 i (by omega)
  · rw [e_rq h1, e_rq h2]
  · rw [e_rn hj, e_rq (by omega)]
  · rw [e_rq h1, e_rq h2]
  · rw [e_rn hj, e_rq (by omega)]
theorem v_int (hN : N + 4 ≤ 940) (ht : ∀ i, t i < 256) (hc : c_tp S x t N) (hr : r_tp T m t N) : ∃ S' T' t', (∀ i, t' i < 256) ∧ f_X11_putBytes x S w = some S' ∧ f_X12_come m T w = some T' ∧ c_tp S' x t' (N + 4) ∧ r_tp T' m t' (N + 4) ∧ tp_F x 1 S S' ∧ tp_F m 2 T T' := by
  obtain ⟨fu, hfu⟩ : ∃ fu, m_fu = fu + 1 + 1 + 1 + 1 + 1 := ⟨m_fu - 5, by have := m_fu_ge; omega⟩
  obtain ⟨S1, T1, b1, l1, p1, q1, c1, d1, f1, g1⟩ := v_by (fu := fu + 1 + 1 + 1 + 1) (fu' := fu + 1 + 1 + 1 + 1) (w := w) (l2 := (24 : Int32)) (by omega) (by decide) hc hr
  obtain ⟨S2, T2, b2, l2, p2, q2, c2, d2, f2, g2⟩ := v_by (fu := fu + 1 + 1 + 1) (fu' := fu + 1 + 1 + 1) (w := w) (l2 := (24 : Int32) + (-8 : Int32)) (by omega) (by decide) c1 d1
  obtain ⟨S3, T3, b3, l3, p3, q3, c3, d3, f3, g3⟩ := v_by (fu := fu + 1 + 1) (fu' := fu + 1 + 1) (w := w) (l2 := (24 : Int32) + (-8 : Int32) + (-8 : Int32)) (by omega) (by decide) c2 d2
  obtain ⟨S4, T4, b4, l4, p4, q4, c4, d4, f4, g4⟩ := v_by (fu := fu + 1) (fu' := fu + 1) (w := w) (l2 := (24 : Int32) + (-8 : Int32) + (-8 : Int32) + (-8 : Int32)) (by omega) (by decide) c3 d3
  refine ⟨S4, T4, _, fun i => ?_, ?_, ?_, c4, d4, ((f1.tr f2).tr f3).tr f4, ((g1.tr g2).tr g3).tr g4⟩
  · have := ht i
    repeat (first | assumption | split)
  · rw [f_X11_putBytes, hfu, p1, p2, p3, p4, b_X11_putBytes_3, if_pos (by decide)]
  · rw [f_X12_come, hfu, q1, q2, q3, q4, b_X12_come_3, if_pos (by decide)]
theorem s_feed (hV : s_V s) (hC : s_C S x s) (hR : s_R T m s) : s_OK S T x m (f_X11_feed x S i1 i2 i3 i4 i5) (f_X12_feed m T i1 i2 i3 i4 i5) := by
  have h940 := hV.1
  have hc := hC.1
  have hr := (s_th (v := nI 0) hR).1
  have et : m_si T m 0 (0 : Int32) = m_si T m 0 (nI 0) := rfl
  have e0 : m_ri S x 1 + (20 : Int32) = nI (s_N s + 20) := by rw [hc.1, show (20 : Int32) = nI 20 from rfl, nI_add]
  have e0' : m_ri (m_si T m 0 (nI 0)) m 2 + (20 : Int32) = nI (s_N s + 20) := by rw [hr.1, show (20 : Int32) = nI 20 from rfl, nI_add]
  by_cases h : s_N s + 20 ≤ 940
  · have hle : nI (s_N s + 20) ≤ (940 : Int32) := by rw [show (940 : Int32) = nI 940 from rfl, e_le (by omega) (by omega)]; exact h
    obtain ⟨S1, T1, t1, b1, p1, q1, c1, d1, f1, g1⟩ := v_int (w := i1) (by omega) hV.2.1 hc hr
    obtain ⟨S2, T2, t2, b2, p2, q2, c2, d2, f2, g2⟩ := v_int (w := i2) (by omega) b1 c1 d1
    obtain ⟨S3, T3, t3, b3, p3, q3, c3, d3, f3, g3⟩ := v_int (w := i3) (by omega) b2 c2 d2
    obtain ⟨S4, T4, t4, b4, p4, q4, c4, d4, f4, g4⟩ := v_int (w := i4) (by omega) b3 c3 d3
    obtain ⟨S5, T5, t5, b5, p5, q5, c5, d5, f5, g5⟩ := v_int (w := i5) (by omega) b4 c4 d4
    have F := (((f1.tr f2).tr f3).tr f4).tr f5
    have G := (((g1.tr g2).tr g3).tr g4).tr g5
    refine ⟨S5, T5, nI (s_N s + 4 + 4 + 4 + 4 + 4), ((t5, s_N s + 4 + 4 + 4 + 4 + 4, s_f s), s.2), ?_, ?_, hV.up rfl (show s_N s + 4 + 4 + 4 + 4 + 4 ≤ 940 by omega) b5 hV.2.2.1, ?_, ?_, ?_, ?_⟩
    · rw [f_X11_feed, e0, if_pos hle, p1, e_cal0, p2, e_cal0, p3, e_cal0, p4, e_cal0, p5, e_cal0, c5.1]
    · rw [f_X12_feed, e_let, et, e0', if_pos hle, q1, e_cal0, q2, e_cal0, q3, e_cal0, q4, e_cal0, q5, e_cal0, d5.1]
    · exact hC.up hV rfl c5 (by rw [F.2.1 5 (by omega)]; exact hC.2.1) (F.2.1 12 (by omega)) (fun q hq => F.1 q (by omega) (by omega)) (fun q _ => by rw [F.2.2.1]) F.2.2.2
    · exact hR.up rfl d5 (by rw [G.2.1 10 (by omega), e_rn (by omega)]; exact hR.2.1) (fun j hj => by rw [G.2.1 j (by omega), e_rn (by omega)]) (fun q hq => by rw [G.1 q (by omega) (by omega), e_rq (by omega)]) (fun q _ => by rw [G.2.2.1]; rfl)
    · exact fun q a b => ⟨F.1 q (by omega) (by omega), by rw [F.2.2.1], by rw [F.2.2.2]⟩
    · exact (y_O.rf.si (by omega) (by omega)).tr ⟨fun q hq => ⟨G.1 q (by omega) (by omega), by rw [G.2.2.1]⟩, G.2.2.2⟩
  · have hle : ¬ nI (s_N s + 20) ≤ (940 : Int32) := by rw [show (940 : Int32) = nI 940 from rfl, e_le (by omega) (by omega)]; exact h
    refine s_OK.ask0 (v := m_no) hV hC hR ?_ ?_
    · rw [f_X11_feed, e0, if_neg hle]; rfl
    · rw [f_X12_feed, e_let, et, e0', if_neg hle]; rfl
end FD
