/-! images -/
section IM
variable {S S' T T' : m_M} {x m a o nx : Nat} {s s' : sT} {W : wT} {i : Int32} {Z : zT}
theorem k_initW : ∃ S', f_X10_init a S = some S' ∧ n_O a 37 S S' := by
  rw [f_X10_init]
  simp only [e_let, f_X3_init, f_X6_init, e_cal0]
  obtain ⟨S1, a1, a2⟩ := k_initM (a := a + 23) (S := m_new (m_new (m_new (m_new (m_new (m_new (m_new (m_new (m_new (m_new (m_new (m_new (m_new (m_new (m_si (m_si (m_new (m_new (m_new (m_new (m_new (m_new (m_new (m_new (m_si (m_si (m_new S (a + 1)) (a + 1) 0 0) (a + 1) 1 0) (a + 1 + 1)) (a + 1 + 2)) (a + 1 + 3)) (a + 1 + 4)) (a + 1 + 5)) (a + 1 + 6)) (a + 1 + 7)) (a + 1 + 8)) (a + 1 + 8) 0 0) (a + 1 + 8) 1 0) (a + 1 + 8 + 1)) (a + 1 + 8 + 2)) (a + 1 + 8 + 3)) (a + 1 + 8 + 4)) (a + 1 + 8 + 5)) (a + 1 + 8 + 6)) (a + 1 + 8 + 7)) (a + 1 + 8 + 8)) (a + 1 + 8 + 9)) (a + 1 + 8 + 10)) (a + 1 + 8 + 11)) (a + 1 + 8 + 12)) (a + 1 + 8 + 13)) (a + 23))
  rw [a1, e_cal0]
  simp only [f_X7_init, e_let, e_cal0]
  refine ⟨_, rfl, ?_⟩
  have a3 : n_O a 37 S S1 := by
    refine n_O.tr ?_ (show n_O a 37 _ S1 from fun q hq => a2 q (by omega))
    repeat (first | exact n_O.rf | refine n_O.nw ?_ (by omega) (by omega) | refine n_O.si ?_ (by omega) (by omega))
  repeat (first | exact a3 | refine n_O.nw ?_ (by omega) (by omega) | refine n_O.si ?_ (by omega) (by omega))
theorem k_copyW (hV : w_V W) (h : c_W S o W) (hap : a + 37 ≤ o ∨ o + 37 ≤ a) : ∃ S', f_X10_copyFrom a o S = some S' ∧ c_W S' a W ∧ (∀ q, q < a ∨ a + 37 ≤ q → m_ri S' q = m_ri S q ∧ m_rj S' q = m_rj S q) ∧ m_rr S' = m_rr S := by
  obtain ⟨h1, h2, h3⟩ := h
  obtain ⟨hW, hQ, hz⟩ := hV
  have hB := hQ.b
  obtain ⟨S1, a1, a2⟩ := k_copyP (S := S) (a := a + 1) (o := o + 1) (by omega)
  have hp1 : c_P S1 (a + 1) (w_p W) (w_n W) := h1.cp hW a2.1 (a2.2.2.2.2.1 (by omega))
  have hm1 : q_R S1 (o + 23) (w_m W) := h2.kept (fun q _ _ => a2.2.1 q (by omega))
  obtain ⟨S2, b1, b2⟩ := k_copyM (S := S1) (a := a + 23) (o := o + 23) (by omega) (by
    have := hm1.1 11 (by omega) (by omega) (by omega)
    have h11 := hB.2.2.2.2.2.2.2.2.2.2.2.2.2.2.1
    rcases Nat.lt_or_ge (q_sc (w_m W) 11) 1 with h | h
    · rw [show q_sc (w_m W) 11 = 0 by omega] at this; exact Or.inl this
    · rw [show q_sc (w_m W) 11 = 1 by omega] at this; exact Or.inr this)
  have hm2 : q_R S2 (a + 23) (w_m W) := hm1.cp (by have := hB.1; omega) hB.2.1 b2.1
  have hz2 : z_R S2 (o + 32) (w_z W) := h3.kept (fun q _ _ => by rw [b2.2.1 q (by omega), a2.2.1 q (by omega)])
  obtain ⟨S3, c1, c2⟩ := k_copyZ (S := S2) (a := a + 32) (o := o + 32) (by omega) (by
    have := hz2.1
    have h11 := hz.1
    rcases Nat.lt_or_ge (z_t (w_z W)) 1 with h | h
    · rw [show z_t (w_z W) = 0 by omega] at this; exact Or.inl this
    · rw [show z_t (w_z W) = 1 by omega] at this; exact Or.inr this)
  have rj2 := b2.2.2.2.1 rfl
  have rj3 := c2.2.2.2.1 rfl
  refine ⟨S3, ?_, ⟨?_, ?_, ?_⟩, fun q hq => ⟨?_, ?_⟩, ?_⟩
  · rw [f_X10_copyFrom, a1, e_cal0, b1, e_cal0, c1]; rfl
  · exact hp1.kept hW (fun q g1 g2 => by rw [c2.2.1 q (by omega), b2.2.1 q (by omega)]) (by rw [rj3, rj2])
  · exact hm2.kept (fun q g1 g2 => c2.2.1 q (by omega))
  · exact hz2.cp (fun ht => (hz.2 ht).2.1) c2.1
  · rw [c2.2.1 q (by omega), b2.2.1 q (by omega), a2.2.1 q (by omega)]
  · rw [rj3, rj2, a2.2.2.1 q (by omega)]
  · rw [c2.2.2.2.2.2, b2.2.2.2.2.2, a2.2.2.2.2.2]
theorem z_Y.cong {N N' : Nat → Int32} (h : z_Y N Z) (hz : z_t Z = 1 → z_n Z ≤ 40) (w : ∀ t, 2405 ≤ t → t < 2647 → N' t = N t) : z_Y N' Z := by
  refine ⟨by rw [w _ (by omega) (by omega)]; exact h.1, fun ht => ?_⟩
  obtain ⟨h1, h2⟩ := h.2 ht
  have hz := hz ht
  refine ⟨by rw [w _ (by omega) (by omega)]; exact h1, fun k hk => ?_⟩
  have := h2 k hk
  dsimp only at *
  rw [w _ (by omega) (by omega), w _ (by omega) (by omega), w _ (by omega) (by omega), w _ (by omega) (by omega)]
  exact this
theorem r_W.cong {N N' : Nat → Int32} (hV : w_V W) (h : r_W N W) (w : ∀ t, t < 2647 → t ≠ 2 → N' t = N t) : r_W N' W :=
  ⟨h.1.cong2 hV.1 (fun t ht h2 => w t (by omega) h2), h.2.1.cong (fun t _ _ => w t (by omega) (by omega)), h.2.2.cong (fun ht => (hV.2.2.2 ht).2.1) (fun t _ _ => w t (by omega) (by omega))⟩
theorem j_im18 {k : Nat} (hk : k < 2) : ∀ (c j fu : Nat) (T : m_M), j + c = 2647 → c < fu →
    ∃ T', b_X12_image_18 m fu T (nI k) (nI j) = b_X12_image_51 m m_fu T' (nI k) (nI 0) ∧ (∀ t, j ≤ t → t < 2647 → m_ri T' (m + 4) (2647 * k + t) = m_ri T (m + 2) t) ∧ (∀ t, t < 2647 * k + j ∨ 2647 * k + 2647 ≤ t → m_ri T' (m + 4) t = m_ri T (m + 4) t) ∧ e_O (m + 4) (m + 5) T T' := by
  intro c
  induction c with
  | zero =>
    intro j fu T hj hf
    obtain ⟨fu, rfl⟩ : ∃ f, fu = f + 1 := ⟨fu - 1, by omega⟩
    obtain rfl : j = 2647 := by omega
    refine ⟨T, ?_, fun t h1 h2 => by omega, fun _ _ => rfl, e_O.rf⟩
    rw [b_X12_image_18, if_pos (show (2647 : Int32) ≤ nI 2647 by decide)]
    rfl
  | succ c ih =>
    intro j fu T hj hf
    obtain ⟨fu, rfl⟩ : ∃ f, fu = f + 1 := ⟨fu - 1, by omega⟩
    obtain ⟨T', a1, a2, a3, a4⟩ := ih (j + 1) fu (m_si T (m + 4) (2647 * k + j) (m_ri T (m + 2) j)) (by omega) (by omega)
    refine ⟨T', ?_, fun t h1 h2 => ?_, fun t h => ?_, (e_O.rf.si (by omega) (by omega)).tr a4⟩
    · rw [← a1, b_X12_image_18, if_neg (by rw [show (2647 : Int32) = nI 2647 from rfl, e_le (by omega) (by omega)]; omega), e_ldi (by omega) (by omega), e_bind, show (2647 : Int32) = nI 2647 from rfl, pk_mul, nI_add, e_sti (by omega) (by omega), e_bind, e_let, show (1 : Int32) = nI 1 from rfl, nI_add]
    · by_cases e : t = j
      · rw [a3 _ (by omega), e, e_rs]
      · rw [a2 t (by omega) h2, e_rq (by omega)]
    · rw [a3 t (by omega), e_rn (by omega)]
theorem j_im51 {k : Nat} (hk : k < 2) : ∀ (c j fu : Nat) (T : m_M), j + c = 5 → c < fu →
    ∃ T', b_X12_image_51 m fu T (nI k) (nI j) = some (nI 1, m_si T' (m + 11) k (nI 1)) ∧ (∀ t, j ≤ t → t < 5 → m_rj T' (m + 9) (5 * k + t) = m_rj T (m + 7) t) ∧ (∀ t, t < 5 * k + j ∨ 5 * k + 5 ≤ t → m_rj T' (m + 9) t = m_rj T (m + 9) t) ∧ m_ri T' = m_ri T ∧ m_rr T' = m_rr T ∧ ∀ q, q ≠ m + 9 → m_rj T' q = m_rj T q := by
  intro c
  induction c with
  | zero =>
    intro j fu T hj hf
    obtain ⟨fu, rfl⟩ : ∃ f, fu = f + 1 := ⟨fu - 1, by omega⟩
    obtain rfl : j = 5 := by omega
    refine ⟨T, ?_, fun t h1 h2 => by omega, fun _ _ => rfl, rfl, rfl, fun _ _ => rfl⟩
    rw [b_X12_image_51, if_pos (show (5 : Int32) ≤ nI 5 by decide), show (1 : Int32) = nI 1 from rfl, e_nz1, e_sti (by omega) (by omega), e_bind]
    rfl
  | succ c ih =>
    intro j fu T hj hf
    obtain ⟨fu, rfl⟩ : ∃ f, fu = f + 1 := ⟨fu - 1, by omega⟩
    obtain ⟨T', a1, a2, a3, a4, a5, a6⟩ := ih (j + 1) fu (m_sj T (m + 9) (5 * k + j) (m_rj T (m + 7) j)) (by omega) (by omega)
    refine ⟨T', ?_, fun t h1 h2 => ?_, fun t h => ?_, a4, a5, fun q hq => by rw [a6 q hq, e_jq hq]⟩
    · rw [← a1, b_X12_image_51, if_neg (by rw [show (5 : Int32) = nI 5 from rfl, e_le (by omega) (by omega)]; omega), e_ldj (by omega) (by omega), e_bind, show (5 : Int32) = nI 5 from rfl, pk_mul, nI_add, e_stj (by omega) (by omega), e_bind, e_let, show (1 : Int32) = nI 1 from rfl, nI_add]
    · by_cases e : t = j
      · rw [a3 _ (by omega), e, e_js]
      · rw [a2 t (by omega) h2, e_jq (by omega)]
    · rw [a3 t (by omega), e_jn (by omega)]
theorem j_re27 {k : Nat} (hk : k < 2) : ∀ (c j fu : Nat) (T : m_M), j + c = 2647 → c < fu →
    ∃ T', b_X12_restore_27 m fu T (nI k) (nI j) = b_X12_restore_60 m m_fu T' (nI k) (nI 0) ∧ (∀ t, j ≤ t → t < 2647 → m_ri T' (m + 2) t = m_ri T (m + 4) (2647 * k + t)) ∧ (∀ t, t < j → m_ri T' (m + 2) t = m_ri T (m + 2) t) ∧ e_O (m + 2) (m + 3) T T' := by
  intro c
  induction c with
  | zero =>
    intro j fu T hj hf
    obtain ⟨fu, rfl⟩ : ∃ f, fu = f + 1 := ⟨fu - 1, by omega⟩
    obtain rfl : j = 2647 := by omega
    refine ⟨T, ?_, fun t h1 h2 => by omega, fun _ _ => rfl, e_O.rf⟩
    rw [b_X12_restore_27, if_pos (show (2647 : Int32) ≤ nI 2647 by decide)]
    rfl
  | succ c ih =>
    intro j fu T hj hf
    obtain ⟨fu, rfl⟩ : ∃ f, fu = f + 1 := ⟨fu - 1, by omega⟩
    obtain ⟨T', a1, a2, a3, a4⟩ := ih (j + 1) fu (m_si T (m + 2) j (m_ri T (m + 4) (2647 * k + j))) (by omega) (by omega)
    refine ⟨T', ?_, fun t h1 h2 => ?_, fun t h => ?_, (e_O.rf.si (by omega) (by omega)).tr a4⟩
    · rw [← a1, b_X12_restore_27, if_neg (by rw [show (2647 : Int32) = nI 2647 from rfl, e_le (by omega) (by omega)]; omega), show (2647 : Int32) = nI 2647 from rfl, pk_mul, nI_add, e_ldi (by omega) (by omega), e_bind, e_sti (by omega) (by omega), e_bind, e_let, show (1 : Int32) = nI 1 from rfl, nI_add]
    · by_cases e : t = j
      · rw [a3 _ (by omega), e, e_rs]
      · rw [a2 t (by omega) h2, e_rq (by omega)]
    · rw [a3 t (by omega), e_rn (by omega)]
theorem j_re60 {k : Nat} (hk : k < 2) : ∀ (c j fu : Nat) (T : m_M), j + c = 5 → c < fu →
    ∃ T', b_X12_restore_60 m fu T (nI k) (nI j) = (m_cal0 (f_X12_layRegions m T') fun S2 => m_let (m_si S2 m 24 (0 : Int32)) fun S3 => if (1 : Int32) = 0 ∨ (1 : Int32) = 1 then some ((1 : Int32), S3) else none) ∧ (∀ t, j ≤ t → t < 5 → m_rj T' (m + 7) t = m_rj T (m + 9) (5 * k + t)) ∧ (∀ t, t < j → m_rj T' (m + 7) t = m_rj T (m + 7) t) ∧ m_ri T' = m_ri T ∧ m_rr T' = m_rr T ∧ ∀ q, q ≠ m + 7 → m_rj T' q = m_rj T q := by
  intro c
  induction c with
  | zero =>
    intro j fu T hj hf
    obtain ⟨fu, rfl⟩ : ∃ f, fu = f + 1 := ⟨fu - 1, by omega⟩
    obtain rfl : j = 5 := by omega
    refine ⟨T, ?_, fun t h1 h2 => by omega, fun _ _ => rfl, rfl, rfl, fun _ _ => rfl⟩
    rw [b_X12_restore_60, if_pos (show (5 : Int32) ≤ nI 5 by decide)]
  | succ c ih =>
    intro j fu T hj hf
    obtain ⟨fu, rfl⟩ : ∃ f, fu = f + 1 := ⟨fu - 1, by omega⟩
    obtain ⟨T', a1, a2, a3, a4, a5, a6⟩ := ih (j + 1) fu (m_sj T (m + 7) j (m_rj T (m + 9) (5 * k + j))) (by omega) (by omega)
    refine ⟨T', ?_, fun t h1 h2 => ?_, fun t h => ?_, a4, a5, fun q hq => by rw [a6 q hq, e_jq hq]⟩
    · rw [← a1, b_X12_restore_60, if_neg (by rw [show (5 : Int32) = nI 5 from rfl, e_le (by omega) (by omega)]; omega), show (5 : Int32) = nI 5 from rfl, pk_mul, nI_add, e_ldj (by omega) (by omega), e_bind, e_stj (by omega) (by omega), e_bind, e_let, show (1 : Int32) = nI 1 from rfl, nI_add]
    · by_cases e : t = j
      · rw [a3 _ (by omega), e, e_js]
      · rw [a2 t (by omega) h2, e_jq (by omega)]
    · rw [a3 t (by omega), e_jn (by omega)]
end IM
