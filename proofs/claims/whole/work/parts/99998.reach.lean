/-! cells that could yet be reached; the tape -/
section AM
variable {S S' T T' : m_M} {x m : Nat} {s s' : sT} {i j k : Int32}
theorem s_ap : w_ap (x + 70) (x + 93) (x + 48) := ⟨Or.inl (by omega), Or.inr (by omega)⟩
theorem x_K.jd (h : e_O (x + 93) (x + 96) S S') : x_K x S S' := ⟨fun q hq => h.1 q (by omega), fun q _ => by rw [h.2.1], by rw [h.2.1], h.2.2⟩
theorem x_O.of {lo hi : Nat} (h : e_O lo hi S S') (h1 : hi ≤ x + 100) : x_O x S S' := fun q a b => ⟨h.1 q (by omega), by rw [h.2.1], by rw [h.2.2]⟩
theorem y_K.wO (h : w_O m T T') : y_K m T T' := ⟨fun j hj => h.2.1 j (by omega), fun q hq => h.1 q (by omega) (by omega) (by omega), fun q _ => by rw [h.2.2.1]⟩
theorem y_O.wO (h : w_O m T T') : y_O m T T' := ⟨fun q hq => ⟨h.1 q (by omega) (by omega) (by omega), by rw [h.2.2.1]⟩, h.2.2.2⟩
theorem y_K.tr {T'' : m_M} (h : y_K m T T') (h' : y_K m T' T'') : y_K m T T'' := ⟨fun j hj => (h'.1 j hj).trans (h.1 j hj), fun q hq => (h'.2.1 q hq).trans (h.2.1 q hq), fun q hq => (h'.2.2 q hq).trans (h.2.2 q hq)⟩
theorem y_O.tr {T'' : m_M} (h : y_O m T T') (h' : y_O m T' T'') : y_O m T T'' := ⟨fun q hq => ⟨(h'.1 q hq).1.trans (h.1 q hq).1, (h'.1 q hq).2.trans (h.1 q hq).2⟩, h'.2.trans h.2⟩
theorem x_O.tr {S'' : m_M} (h : x_O x S S') (h' : x_O x S' S'') : x_O x S S'' := fun q a b => ⟨(h' q a b).1.trans (h q a b).1, (h' q a b).2.1.trans (h q a b).2.1, (h' q a b).2.2.trans (h q a b).2.2⟩
theorem s_cnt (hV : s_V s) (hC : s_C S x s) : ∃ S', f_X1_countReached (x + 93) (x + 48) (x + 70) S = some (nI (w_all (w_p (s_w s)) (w_m (s_w s))).length, S') ∧ w_R S' (x + 93) 2 (x + 93 + 1) (x + 93 + 2) (w_all (w_p (s_w s)) (w_m (s_w s))) ∧ e_O (x + 93) (x + 93 + 3) S S' :=
  k_count s_ap (s_qP hV hC) hC.2.2.1.2.1 hV.2.2.2.1.2.1.B.1 hV.2.2.2.1.2.1.B.2
theorem s_mrk (hV : s_V s) (hR : s_R T m s) : ∃ T', f_X12_markReached m T = some (nI (w_all (w_p (s_w s)) (w_m (s_w s))).length, T') ∧ w_R T' m 41 (m + 25) (m + 26) (w_all (w_p (s_w s)) (w_m (s_w s))) ∧ w_O m T T' :=
  j_mark hV.2.2.2.1.1 hR.2.2.1.1.1 hR.2.2.1.1.2.1 hV.2.2.2.1.2.1.B.1 hV.2.2.2.1.2.1.B.2
theorem s_reached (hV : s_V s) (hC : s_C S x s) (hR : s_R T m s) : s_OK S T x m (f_X11_reached x S) (f_X12_reached m T) := by
  obtain ⟨S1, a1, _, a3⟩ := s_cnt hV hC
  obtain ⟨T1, b1, _, b3⟩ := s_mrk hV (s_th (v := nI 0) hR)
  refine s_OK.ask hV hC hR (v := nI (w_all (w_p (s_w s)) (w_m (s_w s))).length) (S' := S1) (T' := T1) ?_ ?_ (x_K.jd a3) (y_K.th.tr (y_K.wO b3)) (x_O.of a3 (by omega)) ((y_O.rf.si (by omega) (by omega)).tr (y_O.wO b3))
  · rw [f_X11_reached, a1]; rfl
  · rw [f_X12_reached, e_let, show m_si T m 0 (0 : Int32) = m_si T m 0 (nI 0) from rfl, b1]; rfl
theorem s_drag (hV : s_V s) (hC : s_C S x s) (hR : s_R T m s) : s_OK S T x m (f_X11_drag x S) (f_X12_drag m T) := by
  obtain ⟨S1, a1, _, a3⟩ := s_cnt hV hC
  have hR' := s_th (v := nI 0) hR
  obtain ⟨T1, b1, b3⟩ := j_drag (s_rC hV hR') hR'.2.2.1.1.2.1 hV.2.2.2.1.2.1.B.1 hV.2.2.2.1.2.1.B.2
  have hlen := (w_dr_un hV.2.2.2.1.2.1.B.1 hV.2.2.2.1.2.1.B.2).2
  have e4 : m_ri S (x + 70) 4 = _ := hC.2.2.1.2.1.1 4 (by omega) (by omega) (by omega)
  refine s_OK.ask hV hC hR (v := nI (w_dr (w_p (s_w s)) (w_m (s_w s)))) (S' := S1) (T' := T1) ?_ ?_ (x_K.jd a3) (y_K.th.tr (y_K.wO b3)) (x_O.of a3 (by omega)) ((y_O.rf.si (by omega) (by omega)).tr (y_O.wO b3))
  · rw [f_X11_drag, a1, e_call, e4, e_sub hlen]; rfl
  · rw [f_X12_drag, e_let, show m_si T m 0 (0 : Int32) = m_si T m 0 (nI 0) from rfl, b1]; rfl
theorem s_isReached (hV : s_V s) (hC : s_C S x s) (hR : s_R T m s) : s_OK S T x m (f_X11_isReached x S i) (f_X12_isReached m T i) := by
  have hM : q_R S (x + 70) (w_m (s_w s)) := hC.2.2.1.2.1
  have hR' := s_th (v := nI 0) hR
  have hN : r_R (m_ri (m_si T m 0 (nI 0)) (m + 2)) (w_m (s_w s)) := hR'.2.2.1.1.2.1
  have hB := hV.2.2.2.1.2.1.b
  have n10 : ¬ (nI 1 = (0 : Int32)) := by decide
  have et : m_si T m 0 (0 : Int32) = m_si T m 0 (nI 0) := rfl
  rcases e_cell (w_m (s_w s)) i with ⟨c, hc, rfl, hl⟩ | h
  · obtain ⟨S1, a1, a2, a3⟩ := s_cnt hV hC
    obtain ⟨T1, b1, b2, b3⟩ := s_mrk hV hR'
    have g := k_hasCell_t hM hB hc hl
    have g' := j_isCell_t hN hB hc hl
    have c1 : m_ri S1 (x + 94) c = _ := a2.2.1 c hc
    have d1 := b2.2.1 c hc
    refine s_OK.ask hV hC hR (v := nI (if c ∈ w_all (w_p (s_w s)) (w_m (s_w s)) then 1 else 0)) (S' := S1) (T' := T1) ?_ ?_ (x_K.jd a3) (y_K.th.tr (y_K.wO b3)) (x_O.of a3 (by omega)) ((y_O.rf.si (by omega) (by omega)).tr (y_O.wO b3))
    · rw [f_X11_isReached, g, e_call, if_neg n10, a1, e_call, e_ldi (by omega) (by omega), e_bind, c1]
      by_cases e : c ∈ w_all (w_p (s_w s)) (w_m (s_w s))
      · rw [if_pos e, if_neg n10]; rfl
      · rw [if_neg e, if_pos (show nI 0 = (0 : Int32) from rfl)]; rfl
    · rw [f_X12_isReached, e_let, et, g', e_call, if_neg n10, b1, e_call, e_ldi (by omega) (by omega), e_bind, d1]
      by_cases e : c ∈ w_all (w_p (s_w s)) (w_m (s_w s))
      · rw [if_pos e, if_neg n10]; rfl
      · rw [if_neg e, if_pos (show nI 0 = (0 : Int32) from rfl)]; rfl
  · have g := k_hasCell_f hM hB h
    have g' := j_isCell_f hN h
    refine s_OK.ask0 (v := m_no) hV hC hR ?_ ?_
    · rw [f_X11_isReached, g]; rfl
    · rw [f_X12_isReached, e_let, et, g']; rfl
/-- tape and fault are new, the rest stays -/
theorem s_C.up (hV : s_V s) (h : s_C S x s) (h2 : s'.2 = s.2) (ht : c_tp S' x (s_t s') (s_N s')) (hf : m_ri S' x 5 = nI (s_f s')) (h13 : m_ri S' x 12 = m_ri S x 12) (w : ∀ q, (x + 47 ≤ q ∧ q < x + 83) ∨ x + 96 ≤ q → m_ri S' q = m_ri S q) (wj : ∀ q, x + 47 ≤ q → m_rj S' q = m_rj S q) (wr : m_rr S' = m_rr S) : s_C S' x s' := by
  obtain ⟨_, _, h5, ⟨h6, h6'⟩, h7, h8, h9⟩ := h
  obtain ⟨_, _, _, v4, _, _, _, v8⟩ := hV
  have e1 : s_w s' = s_w s := congrArg (fun z => z.1) h2
  have e2 : s_h s' = s_h s := congrArg (fun z => z.2.1.1) h2
  have e3 : s_r s' = s_r s := congrArg (fun z => z.2.1.2) h2
  have e4 : s_hi s' = s_hi s := congrArg (fun z => z.2.2.1) h2
  have e5 : s_g s' = s_g s := congrArg (fun z => z.2.2.2) h2
  refine ⟨ht, hf, ?_, ?_, ?_, ?_, h9.kept wr⟩
  · rw [e1]
    exact ⟨h5.1.kept v4.1 (fun q a b => w q (by omega)) (wj _ (by omega)), h5.2.1.kept (fun q a b => w q (by omega)), h5.2.2.kept (fun q a b => w q (by omega))⟩
  · rw [e2, e3]
    exact ⟨by rw [h13]; exact h6, fun h i hi => by rw [w (x + 99) (by omega)]; exact h6' h i hi⟩
  · rw [e4]; exact h7.kept h9 (fun q h => w q (by omega)) wr
  · rw [e5]; exact h8.kept v8 h9 (fun q h => w q (by omega)) wj wr
theorem s_R.up (h : s_R T m s) (h2 : s'.2 = s.2) (ht : r_tp T' m (s_t s') (s_N s')) (hf : m_ri T' m 10 = nI (s_f s')) (hk : ∀ j, j = 24 ∨ j = 44 → m_ri T' m j = m_ri T m j) (w2 : ∀ q, q = m + 2 ∨ q = m + 4 ∨ q = m + 5 ∨ q = m + 11 ∨ (m + 15 ≤ q ∧ q < m + 23) ∨ q = m + 27 → m_ri T' q = m_ri T q) (w3 : ∀ q, q = m + 7 ∨ q = m + 9 → m_rj T' q = m_rj T q) : s_R T' m s' := by
  obtain ⟨_, _, ⟨h3, h4, h5⟩, h6, h7, h8⟩ := h
  have e1 : s_w s' = s_w s := congrArg (fun z => z.1) h2
  have e2 : s_h s' = s_h s := congrArg (fun z => z.2.1.1) h2
  have e3 : s_r s' = s_r s := congrArg (fun z => z.2.1.2) h2
  have e4 : s_hi s' = s_hi s := congrArg (fun z => z.2.2.1) h2
  have e5 : s_g s' = s_g s := congrArg (fun z => z.2.2.2) h2
  have hd := h4.kept (T' := T') (fun q hq => w2 q (by omega))
  refine ⟨ht, hf, ?_, ?_, ?_, ?_⟩
  · rw [e1]
    exact ⟨by rw [w2 (m + 2) (by omega)]; exact h3, hd, fun f hf => by rw [w3 _ (by omega)]; exact h5 f hf⟩
  · rw [e2, e3]; simp only [r_rn] at *; rw [hk 44 (by omega), w2 (m + 27) (by omega)]; exact h6
  · rw [e4]; simp only [r_H] at *; rw [hk 24 (by omega), w2 (m + 5) (by omega)]; exact h7
  · rw [e5]; simp only [r_G] at *; rw [w2 (m + 11) (by omega), w2 (m + 4) (by omega), w3 (m + 9) (by omega)]; exact h8
theorem s_V.up (h : s_V s) (h2 : s'.2 = s.2) (hN : s_N s' ≤ 940) (ht : ∀ i, s_t s' i < 256) (hf : s_f s' ≤ 4) : s_V s' := by
  obtain ⟨_, _, _, v4, v5, v6, v7, v8⟩ := h
  have e1 : s_w s' = s_w s := congrArg (fun z => z.1) h2
  have e2 : s_h s' = s_h s := congrArg (fun z => z.2.1.1) h2
  have e4 : s_hi s' = s_hi s := congrArg (fun z => z.2.2.1) h2
  have e5 : s_g s' = s_g s := congrArg (fun z => z.2.2.2) h2
  exact ⟨hN, ht, hf, by rw [e1]; exact v4, by rw [e2]; exact v5, by rw [e4]; exact v6, by rw [e1, e4]; exact v7, by rw [e5]; exact v8⟩
theorem s_end (hV : s_V s) (hC : s_C S x s) (hR : s_R T m s) : s_OK S T x m (f_X11_end x S i) (f_X12_end m T i) := by
  have h940 := hV.1
  obtain ⟨c1, c2, c3⟩ := hC.1
  obtain ⟨d1, d2⟩ := hR.1
  have d1' : m_ri (m_si T m 0 (0 : Int32)) m 2 = nI (s_N s) := by rw [e_rn (by omega)]; exact d1
  rcases e_arg i (s_N s + 1) (by omega) with ⟨k, hk, rfl⟩ | h
  · have n0 : ¬ nI k < (0 : Int32) := nI_pos (n := k) (by omega)
    have hle : nI k ≤ nI (s_N s) := nI_le (by omega) (by omega)
    refine ⟨m_si S x 1 (nI k), m_si (m_si T m 0 (nI 0)) m 2 (nI k), nI 1, ((s_t s, k, s_f s), s.2), ?_, ?_, hV.up rfl (show k ≤ 940 by omega) hV.2.1 hV.2.2.1, ?_, ?_, ?_, (y_O.rf.si (by omega) (by omega)).si (by omega) (by omega)⟩
    · rw [f_X11_end, if_neg n0, c1, if_pos hle]; rfl
    · rw [f_X12_end, e_let, if_neg n0, d1', if_pos hle]; rfl
    · exact hC.up hV rfl ⟨by rw [e_rs]; rfl, fun i (hi : i < k) => by rw [e_rq (by omega)]; exact c2 i (by omega), c3.kept ⟨rfl, rfl, by rw [e_rq (by omega)], by rw [e_rq (by omega)]⟩⟩ (by rw [e_rn (by omega)]; exact hC.2.1) (by rw [e_rn (by omega)]) (fun q hq => by rw [e_rq (by omega)]) (fun _ _ => rfl) rfl
    · exact hR.up rfl ⟨by rw [e_rs]; rfl, fun i (hi : i < k) => by rw [e_rq (by omega), e_rq (by omega)]; exact d2 i (by omega)⟩ (by rw [e_rn (by omega), e_rn (by omega)]; exact hR.2.1) (fun j hj => by rw [e_rn (by omega), e_rn (by omega)]) (fun q hq => by rw [e_rq (by omega), e_rq (by omega)]) (fun _ _ => rfl)
    · exact fun q a b => ⟨by rw [e_rq (by omega)], rfl, rfl⟩
  · rcases h with h | ⟨h1, h2⟩
    · refine s_OK.ask0 (v := nI 0) hV hC hR ?_ ?_
      · rw [f_X11_end, if_pos (show i < (0 : Int32) from h)]; rfl
      · rw [f_X12_end, e_let, if_pos (show i < (0 : Int32) from h)]; rfl
    · have hn : ¬ i ≤ nI (s_N s) := fun q => by
        rw [Int32.le_iff_toInt_le, nI_toInt (by omega)] at h2
        rw [Int32.le_iff_toInt_le, nI_toInt (by omega)] at q
        omega
      refine s_OK.ask0 (v := nI 0) hV hC hR ?_ ?_
      · rw [f_X11_end, if_neg (show ¬ i < (0 : Int32) from h1), c1, if_neg hn]; rfl
      · rw [f_X12_end, e_let, if_neg (show ¬ i < (0 : Int32) from h1), d1', if_neg hn]; rfl
end AM
