/-! load, steps, undo -/
section LS
variable {S S' T T' : m_M} {x m a nx : Nat} {s s' : sT} {M : qM} {P : pP} {U : List qM} {I : Nat → Option wT} {i : Int32}
theorem s_qPk (hV : s_V s) (hC : s_C S x s) (w : ∀ q, x + 48 ≤ q → q < x + 70 → m_ri S' q = m_ri S q) : q_P S' (x + 70) (x + 48) (w_p (s_w s)) (d_of (w_p (s_w s))) :=
  (s_qP hV hC).kep (fun q h1 h2 => w q (by omega) (by omega))
theorem s_rCk (hV : s_V s) (hR : s_R T m s) (w : ∀ q, q = m + 2 ∨ (m + 15 ≤ q ∧ q < m + 23) → m_ri T' q = m_ri T q) : r_C T' m (w_p (s_w s)) (d_of (w_p (s_w s))) (d_z (w_p (s_w s))) :=
  d_TX.C hV.2.2.2.1.1 (by rw [w (m + 2) (by omega)]; exact hR.2.2.1.1.1) (hR.2.2.1.2.1.kept w)
theorem y_O.th {v : Int32} : y_O m T (m_si T m 0 v) := y_O.rf.si (by omega) (by omega)
theorem s_load (hV : s_V s) (hC : s_C S x s) (hR : s_R T m s) (hb : h_B S x nx) : s_OK S T x m (f_X11_load nx x S) (f_X12_load m T) := by
  have hN := hV.1
  have hW := hV.2.2.2.1.1
  obtain ⟨hV1, hC1, hR1⟩ := s_take hV hC hR
  have ec : f_X11_load nx x S = m_call (f_X11_fitsMain x (m_si S x 1 (nI 0)) (nI (s_N s))) fun v4 S3 => if v4 = 0 then (if (0 : Int32) = 0 ∨ (0 : Int32) = 1 then some ((0 : Int32), S3) else none) else (m_cal0 (f_X0_keep nx (x + 96) (x + 70) S3) fun S6 => m_cal0 (f_X11_beginWithTape x (x + 70) S6) fun S7 => if (1 : Int32) = 0 ∨ (1 : Int32) = 1 then some ((1 : Int32), S7) else none) := by
    rw [f_X11_load, f_X11_takeTape, e_let, e_let, e_call, hC.1.1]; rfl
  have d2 : m_ri (m_si T m 0 (0 : Int32)) m 2 = nI (s_N s) := by rw [e_rn (by omega)]; exact hR.1.1
  have er : f_X12_load m T = m_call (f_X12_canLoad m (m_si (m_si T m 0 (nI 0)) m 2 (nI 0)) (nI (s_N s))) fun v5 S4 => if v5 = 0 then (if (0 : Int32) = 0 ∨ (0 : Int32) = 1 then some ((0 : Int32), S4) else none) else (m_cal0 (f_X12_snap m S4) fun S7 => m_cal0 (f_X12_loads m (m + 1) 940 S7) fun S8 => if (1 : Int32) = 0 ∨ (1 : Int32) = 1 then some ((1 : Int32), S8) else none) := by
    rw [f_X12_load, e_let, f_X12_take, e_let, e_let, e_call, d2]; rfl
  have kf := k_fits (x := x) (N := s_N s) hW hC1.2.2.1.1.1 hN
  have jf := j_fits (m := m) (N := s_N s) hW hR1.2.2.1.1.1 hN
  have o1 : x_O x S (m_si S x 1 (nI 0)) := fun q a b => ⟨by rw [e_rq (by omega)], rfl, rfl⟩
  have o2 : y_O m T (m_si (m_si T m 0 (nI 0)) m 2 (nI 0)) := (y_O.rf.si (by omega) (by omega)).si (by omega) (by omega)
  rw [ec, er]
  by_cases hfit : w_fit (w_p (s_w s)) (s_N s)
  · obtain ⟨h1, h2⟩ := hfit
    have hc2 := hC.1.2.1
    have hr2 := hR.1.2
    have hb1 : h_B (m_si S x 1 (nI 0)) x nx := hb
    rw [kf.1 ⟨h1, h2⟩, jf.1 ⟨h1, h2⟩, e_call, e_call, if_neg (by decide), if_neg (by decide)]
    generalize hS1 : m_si S x 1 (nI 0) = S1 at *
    generalize hT1 : m_si (m_si T m 0 (nI 0)) m 2 (nI 0) = T1 at *
    obtain ⟨S2, a1, a2, a3, a4, a5, a6, a7⟩ := k_keep (nx := nx) hV1.2.2.2.2.2.1 hC1.2.2.2.2.1 hC1.2.2.1.2.1 hV1.2.2.2.1.2.1.b hC1.2.2.2.2.2.1 hV1.2.2.2.2.2.2.2 hC1.2.2.2.2.2.2 hb1
    obtain ⟨S3, b1, b2, b3⟩ := k_bwt (x := x) (a := x + 70) (num := fun i => nI (s_t s i)) rfl (by omega) (s_qPk hV1 hC1 (fun q g1 g2 => a5 q (by omega) (by omega))) h1 (fun i hi => by
      have hi : i < p_pa (w_p (s_w s)) (p_fu (w_p (s_w s)) - 1) := hi
      rw [a5 _ (by omega) (by omega), ← hS1, e_rq (by omega), hc2 i (by omega)]; exact e_t255 _ (hV.2.1 i))
    obtain ⟨T2, c1, c2, c3, c4, c5, c6⟩ := j_snap hV1.2.2.2.2.2.1 hR1.2.2.2.2.1 hR1.2.2.1.1.2.1
    obtain ⟨T3, d1, d3, d4, d5⟩ := j_loads (o := m + 1) (n := 940) (num := fun i => nI (s_t s i)) (s_rCk hV1 hR1 (T' := T2) (fun q hq => c3 q (by omega) (by omega))) h1 (show p_pa (w_p (s_w s)) (p_fu (w_p (s_w s)) - 1) ≤ 940 by omega) (by omega) (fun i hi => by
      have hi : i < p_pa (w_p (s_w s)) (p_fu (w_p (s_w s)) - 1) := hi
      rw [c3 (m + 1) (by omega) (by omega), ← hT1, e_rq (by omega), e_rq (by omega), hr2 i (by omega)])
    have hz := i_ld (num := fun i => nI (s_t s i)) hW (d_S_of hW) h1
    refine ⟨S3, T3, nI 1, _, ?_, ?_, s_V.mach (U' := q_kp (s_hi s) (w_m (s_w s))) hV1 (Or.inl hz) (q_kp_len hV.2.2.2.2.2.1) (fun M hM => ?_), s_C.mach hV1 hC1 b2 ?_ (a3.kept b3.2.2) ?_ (fun q h1 h2 h3 => ?_) (fun q h1 => ?_), s_R.mach hV1 hR1 d3 ?_ (fun q h1 h2 h3 h4 h5 => ?_) (fun j hj => ?_) (fun j hj => ?_) ?_, o1.tr (fun q h1 h2 => ⟨?_, ?_, ?_⟩), o2.tr ⟨fun q hq => ⟨?_, ?_⟩, ?_⟩⟩
    · rw [a1, e_cal0, b1]; rfl
    · rw [c1, e_cal0, d1]; rfl
    · rcases q_kp_mem hM with h | h
      · exact hV.2.2.2.2.2.2.1 M h
      · rw [h]; exact hV.2.2.2.1.2.1
    · exact a2.kept a3 (fun q hq => b3.1 q (by omega)) b3.2.2
    · exact a4.kep hV1.2.2.2.2.2.2.2 a3 (fun q hq => b3.1 q (by omega)) (fun q _ => by rw [b3.2.1]) b3.2.2
    · rw [b3.1 q (by omega), a5 q h1 h2]
    · rw [b3.2.1, a6 q h1]
    · exact ⟨by rw [d5 m (by omega)]; exact c2.1, by rw [d5 (m + 5) (by omega)]; exact c2.2⟩
    · rw [d5 q h2, c3 q h1 h3]
    · rw [d5 m (by omega), c4 j hj]
    · rw [d4.2.1 j hj, c3 _ (by omega) (by omega)]
    · rw [d4.2.2.1, c5]
    · rw [b3.1 q (by omega), a5 q (by omega) (by omega)]
    · rw [b3.2.1, a6 q (by omega)]
    · rw [b3.2.2, a7 q (by omega) (by omega)]
    · rw [d5 q (by omega), c3 q (by omega) (by omega)]
    · rw [d4.2.2.1, c5]
    · rw [d4.2.2.2, c6]
  · rw [kf.2 hfit, jf.2 hfit]
    exact ⟨_, _, nI 0, _, rfl, rfl, hV1, hC1, hR1, o1, o2⟩
theorem s_steps (hV : s_V s) (hC : s_C S x s) (hR : s_R T m s) (hb : h_B S x nx) : s_OK S T x m (f_X11_steps nx x S i) (f_X12_steps m T i) := by
  have hfu := m_fu_ge
  have hW := hV.2.2.2.1.1
  have hR' := s_th (v := nI 0) hR
  have hQ := hV.2.2.2.1.2.1
  have b0 := hQ.b.2.2.2.2.2.2.2.2.2.2.2.2.1
  have p0 : m_ri S (x + 70) 0 = nI (q_sc (w_m (s_w s)) 0) := hC.2.2.1.2.1.1 0 (by omega) (by omega) (by omega)
  have r0 : m_ri (m_si T m 0 (nI 0)) (m + 2) 210 = nI (q_sc (w_m (s_w s)) 0) := hR'.2.2.1.1.2.1.1
  have et : m_si T m 0 (0 : Int32) = m_si T m 0 (nI 0) := rfl
  rcases e_from1 i 500 (by omega) with ⟨n, h1, h2, rfl⟩ | h
  · have gj := j_isIn1_t (T := m_si T m 0 (nI 0)) h1 h2 (by omega)
    have n1 : ¬ nI n < (1 : Int32) := by rw [show (1 : Int32) = nI 1 from rfl, e_lt (by omega) (by omega)]; omega
    have n500 : nI n ≤ (500 : Int32) := by rw [show (500 : Int32) = nI 500 from rfl, e_le (by omega) (by omega)]; omega
    by_cases e : q_sc (w_m (s_w s)) 0 = 1
    · rw [e] at p0 r0
      obtain ⟨S2, a1, a2, a3, a4, a5, a6, a7⟩ := k_keep (nx := nx) hV.2.2.2.2.2.1 hC.2.2.2.2.1 hC.2.2.1.2.1 hV.2.2.2.1.2.1.b hC.2.2.2.2.2.1 hV.2.2.2.2.2.2.2 hC.2.2.2.2.2.2 hb
      have hSd := d_S_of hW
      have hG := d_G_of hW
      have hM2 : q_R S2 (x + 70) (w_m (s_w s)) := hC.2.2.1.2.1.kept (fun q g1 g2 => a5 q (by omega) (by omega))
      obtain ⟨S3, b1, b2, b3⟩ := k_steps hW hSd hG (nx := nx) h2 n 0 m_fu S2 _ (by omega) (by omega) hQ (s_qPk hV hC (fun q g1 g2 => a5 q (by omega) (by omega))) hM2
      obtain ⟨T2, c1, c2, c3, c4, c5, c6⟩ := j_snap hV.2.2.2.2.2.1 hR'.2.2.2.2.1 hR'.2.2.1.1.2.1
      have hN2 : r_R (m_ri T2 (m + 2)) (w_m (s_w s)) := by rw [c3 _ (by omega) (by omega)]; exact hR'.2.2.1.1.2.1
      obtain ⟨T3, d1, d3, d4⟩ := j_steps hSd hG h2 n 0 m_fu T2 _ (by omega) (by omega) hQ (s_rCk hV hR' (T' := T2) (fun q hq => c3 q (by omega) (by omega))) hN2
      refine ⟨S3, T3, nI (0 + q_cnt (w_p (s_w s)) (d_of (w_p (s_w s))) n (w_m (s_w s))), _, ?_, ?_, s_V.mach (U' := q_kp (s_hi s) (w_m (s_w s))) hV (q_run_Q hW hSd hG n _ hQ) (q_kp_len hV.2.2.2.2.2.1) (fun M hM => ?_), s_C.mach hV hC b2 ?_ (a3.kept b3.2.2) ?_ (fun q h1 h2 h3 => ?_) (fun q h1 => ?_), s_R.mach hV hR' d3 ?_ (fun q h1 h2 h3 h4 h5 => ?_) (fun j hj => ?_) (fun j hj => ?_) ?_, (fun q h1 h2 => ⟨?_, ?_, ?_⟩), (y_O.th (v := nI 0)).tr ⟨fun q hq => ⟨?_, ?_⟩, ?_⟩⟩
      · rw [f_X11_steps, if_neg n1, if_pos n500, p0, if_pos (show nI 1 = (1 : Int32) from rfl), a1, e_cal0]
        exact b1
      · rw [f_X12_steps, e_let, et, show (500 : Int32) = nI 500 from rfl, gj, e_call, if_neg (by decide), show (210 : Int32) = nI 210 from rfl, e_ldi (by omega) (by omega), e_bind, r0, if_pos (show nI 1 = (1 : Int32) from rfl), c1, e_cal0]
        exact d1
      · rcases q_kp_mem hM with h | h
        · exact hV.2.2.2.2.2.2.1 M h
        · rw [h]; exact hV.2.2.2.1.2.1
      · exact a2.kept a3 (fun q hq => b3.1 q (by omega)) b3.2.2
      · exact a4.kep hV.2.2.2.2.2.2.2 a3 (fun q hq => b3.1 q (by omega)) (fun q _ => by rw [b3.2.1]) b3.2.2
      · rw [b3.1 q (by omega), a5 q h1 h2]
      · rw [b3.2.1, a6 q h1]
      · exact ⟨by rw [d4.1 m (by omega) (by omega) (by omega)]; exact c2.1, by rw [d4.1 (m + 5) (by omega) (by omega) (by omega)]; exact c2.2⟩
      · rw [d4.1 q h2 h4 h5, c3 q h1 h3]
      · rw [d4.1 m (by omega) (by omega) (by omega), c4 j hj]
      · rw [d4.2.1 j hj, c3 _ (by omega) (by omega)]
      · rw [d4.2.2.1, c5]
      · rw [b3.1 q (by omega), a5 q (by omega) (by omega)]
      · rw [b3.2.1, a6 q (by omega)]
      · rw [b3.2.2, a7 q (by omega) (by omega)]
      · rw [d4.1 q (by omega) (by omega) (by omega), c3 q (by omega) (by omega)]
      · rw [d4.2.2.1, c5]
      · rw [d4.2.2.2, c6]
    · have ne : ¬ nI (q_sc (w_m (s_w s)) 0) = (1 : Int32) := fun q => (e_eq_f (a := q_sc (w_m (s_w s)) 0) (b := 1) e (by omega) (by omega)).mp q
      refine s_OK.ask0 (v := nI 0) hV hC hR ?_ ?_
      · rw [f_X11_steps, if_neg n1, if_pos n500, p0, if_neg ne]; rfl
      · rw [f_X12_steps, e_let, et, show (500 : Int32) = nI 500 from rfl, gj, e_call, if_neg (by decide), show (210 : Int32) = nI 210 from rfl, e_ldi (by omega) (by omega), e_bind, r0, if_neg ne]; rfl
  · refine s_OK.ask0 (v := m_no) hV hC hR ?_ ?_
    · rcases h with h | ⟨h1, h2⟩
      · rw [f_X11_steps, if_pos h]; rfl
      · have : ¬ i ≤ (500 : Int32) := fun q => by
          have h2 : nI 500 < i := h2
          have q : i ≤ nI 500 := q
          rw [Int32.lt_iff_toInt_lt] at h2
          rw [Int32.le_iff_toInt_le] at q
          omega
        rw [f_X11_steps, if_neg h1, if_neg this]; rfl
    · rw [f_X12_steps, e_let, et, show (500 : Int32) = nI 500 from rfl, j_isIn1_f h]; rfl
theorem s_undo (hV : s_V s) (hC : s_C S x s) (hR : s_R T m s) : s_OK S T x m (f_X11_undo x S) (f_X12_undo m T) := by
  have hW := hV.2.2.2.1.1
  have hl := hV.2.2.2.2.2.1
  have et : m_si T m 0 (0 : Int32) = m_si T m 0 (nI 0) := rfl
  have hH := hC.2.2.2.2.1
  have hA := hC.2.2.2.2.2.2
  obtain ⟨f, hf, h1, h2, hE⟩ := hH
  have hR' := s_th (v := nI 0) hR
  obtain ⟨g1, g2⟩ := hR'.2.2.2.2.1
  by_cases e : (s_hi s).length = 0
  · rw [e] at h2 g1
    refine s_OK.ask0 (v := m_no) hV hC hR ?_ ?_
    · rw [f_X11_undo, f_X0_takeBack, h2, if_pos (show nI 0 = (0 : Int32) from rfl)]; rfl
    · rw [f_X12_undo, e_let, et, g1, if_pos (show nI 0 = (0 : Int32) from rfl)]; rfl
  · obtain ⟨n, hn⟩ : ∃ n, (s_hi s).length = n + 1 := ⟨(s_hi s).length - 1, by omega⟩
    have hlt : n < (s_hi s).length := by omega
    obtain ⟨M, hM⟩ : ∃ M, (s_hi s)[n]? = some M := ⟨_, List.getElem?_eq_getElem hlt⟩
    have hMm : M ∈ s_hi s := List.mem_of_getElem? hM
    have hQ := hV.2.2.2.2.2.2.1 M hMm
    have hB := hQ.b
    obtain ⟨b, k1, k2⟩ := hE n M hM
    have hat : (f + n) % 8 < 8 := Nat.mod_lt _ (by omega)
    have hb := hA.1 _ b hat k1
    have rN := g2 n M hM
    rw [hn] at h2 g1
    have n0 : ¬ nI (n + 1) = (0 : Int32) := fun q => (e_eq_f (a := n + 1) (b := 0) (by omega) (by omega) (by omega)).mp q
    obtain ⟨S1, a1, a2⟩ := k_copyM (a := x + 70) (o := b) (S := S) (Or.inl (by omega)) (by
      have := k2.1 11 (by omega) (by omega) (by omega)
      have h11 := hB.2.2.2.2.2.2.2.2.2.2.2.2.2.2.1
      rcases Nat.lt_or_ge (q_sc M 11) 1 with h | h
      · rw [show q_sc M 11 = 0 by omega] at this; exact Or.inl this
      · rw [show q_sc M 11 = 1 by omega] at this; exact Or.inr this)
    have rj := a2.2.2.2.1 rfl
    have rr := a2.2.2.2.2.2
    have ro := a2.2.1
    have hM1 : q_R S1 (x + 70) M := k2.cp (by have := hB.1; omega) hB.2.1 a2.1
    have hU' : ∀ i M', (s_hi s).dropLast[i]? = some M' → (s_hi s)[i]? = some M' := fun i M' h => by
      rw [List.getElem?_dropLast] at h
      split at h
      · exact h
      · cases h
    have hdl : (s_hi s).dropLast.length = n := by rw [List.length_dropLast, hn]; rfl
    generalize hT2 : m_si (m_si T m 0 (nI 0)) m 24 (nI n) = T2
    obtain ⟨T3, d1, d2, d3, d4⟩ := j_back (m := m) (o := m + 5) (n1 := 17560) (b := 2195 * n) (by omega) (by omega) (by omega) T2
    have t2 : ∀ q, q ≠ m → m_ri T2 q = m_ri T q := fun q hq => by rw [← hT2, e_rq hq, e_rq hq]
    have t2m : ∀ j, j ≠ 24 → m_ri T2 m j = m_ri (m_si T m 0 (nI 0)) m j := fun j hj => by rw [← hT2, e_rn hj]
    have t24 : m_ri T2 m 24 = nI n := by rw [← hT2, e_rs]
    have t2j : m_rj T2 = m_rj T := by rw [← hT2]; rfl
    have t2r : m_rr T2 = m_rr T := by rw [← hT2]; rfl
    have rN' : r_R (m_ri T3 (m + 2)) M := rN.cong (fun t h1 h2 => by
      obtain ⟨k, rfl⟩ : ∃ k, t = 210 + k := ⟨t - 210, by omega⟩
      rw [d2 k (by omega), t2 _ (by omega), show 210 + k - 210 = k by omega, e_rq (by omega)])
    refine ⟨m_si S1 (x + 96) 2 (nI n), T3, nI n, _, ?_, ?_, s_V.mach (U' := (s_hi s).dropLast) hV hQ (by omega) (fun M' hM' => hV.2.2.2.2.2.2.1 M' (List.dropLast_subset _ hM')), s_C.mach hV hC (hM1.kept (fun q _ _ => by rw [e_rq (by omega)])) ⟨f, hf, ?_, ?_, fun i M' hi => ?_⟩ (hA.kept rr) ?_ (fun q h1 h2 h3 => ?_) (fun q h1 => ?_), s_R.mach hV hR' rN' ⟨?_, fun i M' hi => ?_⟩ (fun q h1 h2 h3 h4 h5 => ?_) (fun j hj => ?_) (fun j hj => ?_) ?_, (fun q h1 h2 => ⟨?_, ?_, ?_⟩), (y_O.th (v := nI 0)).tr ⟨fun q hq => ⟨?_, ?_⟩, ?_⟩⟩
    · rw [f_X11_undo, f_X0_takeBack, h2, if_neg n0, h1, nI_add, show (1 : Int32) = nI 1 from rfl, e_sub (by omega), show f + (n + 1) - 1 = f + n by omega, e_m8 _ (by omega), e_let, e_ldr hat (by omega), e_bind, k1, if_neg (by exact fun h => (by cases h)), e_bind]
      show m_call (m_cal0 (f_X2_copyFrom (x + 70) b S) _) _ = _
      rw [a1, e_cal0, ro _ (by omega), h2, e_sub (by omega), e_let, e_call, show n + 1 - 1 = n by omega, e_rs]
    · rw [f_X12_undo, e_let, et, g1, if_neg n0, show (1 : Int32) = nI 1 from rfl, e_sub (by omega), show n + 1 - 1 = n by omega, e_let, hT2, t24, show (2195 : Int32) = nI 2195 from rfl, pk_mul, d1, e_cal0, d4.1 m (by omega), t24]
    · rw [e_rn (by omega), ro _ (by omega)]; exact h1
    · rw [e_rs, hdl]
    · obtain ⟨c, c1, c2⟩ := hE i M' (hU' i M' hi)
      have := hA.1 _ c (Nat.mod_lt _ (by omega)) c1
      exact ⟨c, by rw [show m_rr (m_si S1 (x + 96) 2 (nI n)) = m_rr S1 from rfl, rr]; exact c1, c2.kept (fun q h1 h2 => by rw [e_rq (by omega), ro q (by omega)])⟩
    · exact hC.2.2.2.2.2.1.kep hV.2.2.2.2.2.2.2 hA (fun q hq => by rw [e_rq (by omega), ro q (by omega)]) (fun q _ => by rw [e_ji, rj]) rr
    · rw [e_rq h2, ro q (by omega)]
    · rw [e_ji, rj]
    · rw [d4.1 m (by omega), t24, hdl]
    · have := g2 i M' (hU' i M' hi)
      rw [d4.1 (m + 5) (by omega), t2 _ (by omega)]
      rw [e_rq (by omega)] at this; exact this
    · rw [d4.1 q (by omega), t2 q h1, e_rq h1]
    · rw [d4.1 m (by omega), t2m j hj]
    · rw [d3 j hj, t2 _ (by omega), e_rq (by omega)]
    · rw [d4.2.1, t2j]; rfl
    · rw [e_rq (by omega), ro q (by omega)]
    · rw [e_ji, rj]
    · show m_rr S1 q = _; rw [rr]
    · rw [d4.1 q (by omega), t2 q (by omega), e_rq (by omega)]
    · rw [d4.2.1, t2j]; rfl
    · rw [d4.2.2, t2r]; rfl
end LS
