/-! machines as they were: the other side; load, steps, undo -/
section SN
variable {S S' T T' : m_M} {x m a nx : Nat} {s s' : sT} {M : qM} {P : pP} {U : List qM} {I : Nat → Option wT} {i : Int32}
theorem j_s11 : ∀ (c k fu : Nat) (T : m_M), k + c = 15365 → c < fu →
    ∃ T', b_X12_snap_11 m fu T (nI k) = (m_let (m_si T' m 24 ((m_ri T' m 24) - (1 : Int32))) fun S2 => b_X12_snap_50 m S2) ∧ (∀ i, k ≤ i → i < 15365 → m_ri T' (m + 5) i = m_ri T (m + 5) (i + 2195)) ∧ (∀ t, t < k ∨ 15365 ≤ t → m_ri T' (m + 5) t = m_ri T (m + 5) t) ∧ e_O (m + 5) (m + 6) T T' := by
  intro c
  induction c with
  | zero =>
    intro k fu T hk hf
    obtain ⟨fu, rfl⟩ : ∃ f, fu = f + 1 := ⟨fu - 1, by omega⟩
    obtain rfl : k = 15365 := by omega
    refine ⟨T, ?_, fun t h1 h2 => by omega, fun _ _ => rfl, e_O.rf⟩
    rw [b_X12_snap_11, if_pos (show (15365 : Int32) ≤ nI 15365 by decide)]
  | succ c ih =>
    intro k fu T hk hf
    obtain ⟨fu, rfl⟩ : ∃ f, fu = f + 1 := ⟨fu - 1, by omega⟩
    obtain ⟨T', a1, a2, a3, a4⟩ := ih (k + 1) fu (m_si T (m + 5) k (m_ri T (m + 5) (k + 2195))) (by omega) (by omega)
    refine ⟨T', ?_, fun t h1 h2 => ?_, fun t h => ?_, (e_O.rf.si (by omega) (by omega)).tr a4⟩
    · rw [← a1, b_X12_snap_11, if_neg (by rw [show (15365 : Int32) = nI 15365 from rfl, e_le (by omega) (by omega)]; omega), show (2195 : Int32) = nI 2195 from rfl, nI_add, e_ldi (by omega) (by omega), e_bind, e_sti (by omega) (by omega), e_bind, e_let, show (1 : Int32) = nI 1 from rfl, nI_add]
    · by_cases e : t = k
      · rw [a3 t (by omega), e, e_rs]
      · rw [a2 t (by omega) h2, e_rn (by omega)]
    · rw [a3 t (by omega), e_rn (by omega)]
theorem j_s50 (hU : U.length < 8) (hH : r_H T m U) (hM : r_R (m_ri T (m + 2)) M) : ∃ T', b_X12_snap_50 m T = some T' ∧ r_H T' m (U ++ [M]) ∧ (∀ q, q ≠ m → q ≠ m + 5 → m_ri T' q = m_ri T q) ∧ (∀ j, j ≠ 24 → m_ri T' m j = m_ri T m j) ∧ m_rj T' = m_rj T ∧ m_rr T' = m_rr T := by
  obtain ⟨h24, hE⟩ := hH
  obtain ⟨T1, a1, a2, a3, a4⟩ := j_save (m := m) (o := m + 5) (n1 := 17560) (b := 2195 * U.length) (by omega) (by omega) (by omega) T
  refine ⟨m_si T1 m 24 (nI (U.length + 1)), ?_, ⟨?_, fun i M' hi => ?_⟩, fun q h1 h2 => ?_, fun j hj => ?_, a4.2.1, a4.2.2⟩
  · rw [b_X12_snap_50, h24, show (2195 : Int32) = nI 2195 from rfl, pk_mul, a1, e_cal0, e_let, a4.1 m (by omega), h24, show (1 : Int32) = nI 1 from rfl, nI_add]
  · rw [e_rs, List.length_append]; rfl
  · by_cases hl : i < U.length
    · rw [List.getElem?_append_left hl] at hi
      exact (hE i M' hi).cong (fun t h1 h2 => by rw [e_rq (by omega)]; exact a3 _ (Or.inl (by
        have : i + 1 ≤ U.length := hl
        have := Nat.mul_le_mul_left 2195 this
        omega)))
    · rw [List.getElem?_append_right (by omega)] at hi
      have hi0 : i = U.length := by
        rcases Nat.lt_or_ge (i - U.length) 1 with h | h
        · omega
        · rw [List.getElem?_eq_none (by simpa using h)] at hi; cases hi
      subst hi0
      rw [Nat.sub_self] at hi
      obtain rfl : M = M' := by simpa using hi
      exact hM.cong (fun t h1 h2 => by rw [e_rq (by omega), a2 _ (by omega), show 210 + (t - 210) = t by omega])
  · rw [e_rq h1, a4.1 q (by omega)]
  · rw [e_rn hj, a4.1 m (by omega)]
theorem j_snap (hU : U.length ≤ 8) (hH : r_H T m U) (hM : r_R (m_ri T (m + 2)) M) : ∃ T', f_X12_snap m T = some T' ∧ r_H T' m (q_kp U M) ∧ (∀ q, q ≠ m → q ≠ m + 5 → m_ri T' q = m_ri T q) ∧ (∀ j, j ≠ 24 → m_ri T' m j = m_ri T m j) ∧ m_rj T' = m_rj T ∧ m_rr T' = m_rr T := by
  have hfu := m_fu_ge
  have h24 := hH.1
  rw [q_kp]
  by_cases e : U.length = 8
  · rw [if_pos e]
    obtain ⟨T1, a1, a2, a3, a4⟩ := j_s11 (m := m) 15365 0 m_fu T rfl (by omega)
    have hlen : U.tail.length = 7 := by rw [List.length_tail, e]
    have h24' : m_ri T1 m 24 = nI 8 := by rw [a4.1 m (by omega), h24, e]
    have hH2 : r_H (m_si T1 m 24 (nI 7)) m U.tail := by
      refine ⟨by rw [e_rs, hlen], fun i M' hi => ?_⟩
      have hl : i < 7 := by rw [← hlen]; exact (List.getElem?_eq_some_iff.mp hi).1
      rw [List.getElem?_tail] at hi
      exact (hH.2 (i + 1) M' hi).cong (fun t h1 h2 => by rw [e_rq (by omega), a2 _ (by omega) (by omega), show 2195 * i + (t - 210) + 2195 = 2195 * (i + 1) + (t - 210) by omega])
    obtain ⟨T2, b1, b2, b3, b4, b5, b6⟩ := j_s50 (T := m_si T1 m 24 (nI 7)) (U := U.tail) (M := M) (by omega) hH2 (by rw [e_rq (by omega), a4.1 _ (by omega)]; exact hM)
    refine ⟨T2, ?_, b2, fun q h1 h2 => by rw [b3 q h1 h2, e_rq h1, a4.1 q (by omega)], fun j hj => by rw [b4 j hj, e_rn hj, a4.1 m (by omega)], by rw [b5]; exact a4.2.1, by rw [b6]; exact a4.2.2⟩
    rw [f_X12_snap, h24, e, if_pos (show nI 8 = (8 : Int32) from rfl), show (0 : Int32) = nI 0 from rfl, a1, h24', show (1 : Int32) = nI 1 from rfl, e_sub (by omega), e_let]
    exact b1
  · rw [if_neg e]
    obtain ⟨T2, b1, b2⟩ := j_s50 (by omega) hH hM
    refine ⟨T2, ?_, b2⟩
    rw [f_X12_snap, h24, if_neg (show ¬ nI U.length = (8 : Int32) from fun q => (e_eq_f (a := U.length) (b := 8) e (by omega) (by omega)).mp q), b1]
theorem q_kp_len (hU : U.length ≤ 8) : (q_kp U M).length ≤ 8 := by
  rw [q_kp, List.length_append]
  by_cases e : U.length = 8
  · rw [if_pos e, List.length_tail, e]; show 8 - 1 + 1 ≤ 8; omega
  · rw [if_neg e]; show U.length + 1 ≤ 8; omega
theorem q_kp_mem {M' : qM} (h : M' ∈ q_kp U M) : M' ∈ U ∨ M' = M := by
  rw [q_kp, List.mem_append] at h
  rcases h with h | h
  · left
    by_cases e : U.length = 8
    · rw [if_pos e] at h; exact List.mem_of_mem_tail h
    · rw [if_neg e] at h; exact h
  · right; simpa using h
/-- the machine and what can be undone are new, the rest stays -/
theorem s_C.mach {M' : qM} {U' : List qM} (hV : s_V s) (h : s_C S x s) (hM : q_R S' (x + 70) M') (hU : c_H S' x U') (hA : c_A S' x) (hG : c_G S' x (s_g s)) (w : ∀ q, q < x + 131 → q ≠ x + 96 → (q < x + 70 ∨ x + 79 ≤ q) → m_ri S' q = m_ri S q) (wj : ∀ q, q < x + 131 → m_rj S' q = m_rj S q) : s_C S' x (s.1, (w_p (s_w s), w_n (s_w s), M', w_z (s_w s)), s.2.2.1, U', s_g s) := by
  obtain ⟨⟨h1, h2, h3⟩, h4, h5, ⟨h6, h6'⟩, _, _, _⟩ := h
  refine ⟨⟨?_, fun i hi => ?_, h3.kept ⟨wj _ (by omega), wj _ (by omega), by rw [w _ (by omega) (by omega) (by omega)], by rw [w _ (by omega) (by omega) (by omega)]⟩⟩, ?_, ⟨?_, hM, ?_⟩, ⟨?_, fun h i hi => ?_⟩, hU, hG, hA⟩
  · rw [w x (by omega) (by omega) (by omega)]; exact h1
  · rw [w (x + 1) (by omega) (by omega) (by omega)]; exact h2 i hi
  · rw [w x (by omega) (by omega) (by omega)]; exact h4
  · exact h5.1.kept hV.2.2.2.1.1 (fun q h1 h2 => w q (by omega) (by omega) (by omega)) (wj _ (by omega))
  · exact h5.2.2.kept (fun q h1 h2 => w q (by omega) (by omega) (by omega))
  · rw [w x (by omega) (by omega) (by omega)]; exact h6
  · rw [w (x + 99) (by omega) (by omega) (by omega)]; exact h6' h i hi
theorem s_R.mach {M' : qM} {U' : List qM} (hV : s_V s) (h : s_R T m s) (hM : r_R (m_ri T' (m + 2)) M') (hU : r_H T' m U') (w : ∀ q, q ≠ m → q ≠ m + 2 → q ≠ m + 5 → q ≠ m + 23 → q ≠ m + 24 → m_ri T' q = m_ri T q) (wm : ∀ j, j ≠ 24 → m_ri T' m j = m_ri T m j) (w2 : ∀ j, j < 210 ∨ 2405 ≤ j → m_ri T' (m + 2) j = m_ri T (m + 2) j) (wj : m_rj T' = m_rj T) : s_R T' m (s.1, (w_p (s_w s), w_n (s_w s), M', w_z (s_w s)), s.2.2.1, U', s_g s) := by
  obtain ⟨⟨h1, h1'⟩, h2, ⟨⟨h3, _, h3'⟩, h4, h5⟩, ⟨h6, h6'⟩, _, h8⟩ := h
  refine ⟨⟨?_, fun i hi => ?_⟩, ?_, ⟨⟨?_, hM, ?_⟩, ?_, fun f hf => ?_⟩, ⟨?_, fun h i hi => ?_⟩, hU, ?_⟩
  · rw [wm 2 (by omega)]; exact h1
  · rw [w (m + 1) (by omega) (by omega) (by omega) (by omega) (by omega)]; exact h1' i hi
  · rw [wm 10 (by omega)]; exact h2
  · exact h3.cong hV.2.2.2.1.1 (fun t ht => w2 t (by omega))
  · refine ⟨by rw [w2 _ (by omega)]; exact h3'.1, fun ht => ?_⟩
    obtain ⟨g1, g2⟩ := h3'.2 ht
    refine ⟨by rw [w2 _ (by omega)]; exact g1, ?_⟩
    rw [show (fun i => m_ri T' (m + 2) (2407 + i)) = (fun i => m_ri T (m + 2) (2407 + i)) from funext fun i => w2 _ (by omega)]
    exact g2
  · obtain ⟨⟨x1, x2⟩, x3, x4⟩ := h4
    refine ⟨⟨by rw [w2 2 (by omega)]; exact x1, fun r s hr hs => by rw [w (m + 17) (by omega) (by omega) (by omega) (by omega) (by omega)]; exact x2 r s hr hs⟩, ?_⟩
    simp only [d_T1, d_TF, d_Sp] at *
    rw [w (m + 15) (by omega) (by omega) (by omega) (by omega) (by omega), w (m + 16) (by omega) (by omega) (by omega) (by omega) (by omega), w (m + 18) (by omega) (by omega) (by omega) (by omega) (by omega), w (m + 19) (by omega) (by omega) (by omega) (by omega) (by omega), w (m + 20) (by omega) (by omega) (by omega) (by omega) (by omega), w (m + 21) (by omega) (by omega) (by omega) (by omega) (by omega), w (m + 22) (by omega) (by omega) (by omega) (by omega) (by omega)]
    exact ⟨x3, x4⟩
  · rw [wj]; exact h5 f hf
  · rw [wm 44 (by omega)]; exact h6
  · rw [w (m + 27) (by omega) (by omega) (by omega) (by omega) (by omega)]; exact h6' h i hi
  · simp only [r_G] at *
    rw [w (m + 11) (by omega) (by omega) (by omega) (by omega) (by omega), w (m + 4) (by omega) (by omega) (by omega) (by omega) (by omega), wj]
    exact h8
theorem s_V.mach {M' : qM} {U' : List qM} (hV : s_V s) (hM : q_Q (w_p (s_w s)) (d_of (w_p (s_w s))) M') (hl : U'.length ≤ 8) (hU : ∀ M, M ∈ U' → q_Q (w_p (s_w s)) (d_of (w_p (s_w s))) M) : s_V (s.1, (w_p (s_w s), w_n (s_w s), M', w_z (s_w s)), s.2.2.1, U', s_g s) := by
  obtain ⟨v1, v2, v3, v4, v5, v6, v7, v8⟩ := hV
  exact ⟨v1, v2, v3, ⟨v4.1, hM, v4.2.2⟩, v5, hl, hU, v8⟩
end SN
