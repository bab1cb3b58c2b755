/-! regions are found: the one side -/
section DG
variable {S : m_M} {a p : Nat} {P : pP}
theorem k_findAll (hW : p_W P) (hap : p + 22 ≤ a ∨ a + 5 ≤ p) (hP : p_R S p P) : ∃ S', f_X5_findAll a p S = some S' ∧ d_R0 S' (p + 8) P ∧ d_PP S' (p + 8) P ∧ (∀ q, (q < a ∨ a + 5 ≤ q) → q ≠ p + 8 → q ≠ p + 9 → q ≠ p + 11 → q ≠ p + 12 → m_ri S' q = m_ri S q) ∧ m_rj S' = m_rj S ∧ m_rr S' = m_rr S := by
  have hfu := m_fu_ge
  have h5 := hW.1
  have hz := d_z_le hW
  obtain ⟨o, s1, -, s3, -, -⟩ := d_pcs hW
  have hV : u_V (u_E 30 false P).2 o (d_U P) := s1.2.1
  obtain ⟨S1, a1, a2, a3, a4⟩ := k_uclr (S := S) (a := a)
  have hP1 : p_R S1 p P := hP.kept (fun q h1 h2 => a4.1 q (by omega))
  obtain ⟨S2, fu', b1, b2, b3⟩ := k_funs hW hap (p_fu P) 0 m_fu S1 u_0 (fun _ => 0) (by omega) (by omega) u_0_ok (fun _ => Nat.zero_le _) a2 hP1
  have hP2 : p_R S2 p P := hP1.kept (fun q h1 h2 => b3.1 q (by omega))
  have b2 : u_R1 S2 a (d_U P) (u_E 30 false P).2 := b2
  have kp : ∀ q, q ≠ p + 8 → m_ri (m_si S2 (p + 8) 0 (nI 0)) q = m_ri S2 q := fun q hq => e_rq hq
  have hR3 : u_R1 (m_si S2 (p + 8) 0 (nI 0)) a (d_U P) (u_E 30 false P).2 := by
    simp only [u_R1, kp a (by omega), kp (a + 1) (by omega), kp (a + 2) (by omega), kp (a + 3) (by omega)]; exact b2
  have hQ3 : u_Q1 (m_si S2 (p + 8) 0 (nI 0)) a p (d_U P) u_g0 := by
    refine ⟨fun n hn => ?_, e_rs⟩
    rw [kp (a + 4) (by omega), b3.1 (a + 4) (by omega), a3 n hn]
    split <;> rfl
  have hP3 : p_R (m_si S2 (p + 8) 0 (nI 0)) p P := by
    simp only [p_R, kp p (by omega), kp (p + 2) (by omega), kp (p + 3) (by omega), kp (p + 4) (by omega), kp (p + 5) (by omega), kp (p + 6) (by omega), kp (p + 7) (by omega)]; exact hP2
  obtain ⟨S4, c1, c2, c3, c4⟩ := k_numf hV hap hW (p_fu P) 0 m_fu _ u_g0 (by omega) (by omega) u_g0_NV hR3 hQ3 hP3
  have c2 : u_Q1 S4 a p (d_U P) (d_Gx P) := c2
  have hR4 := hR3.kep hap c4
  have hP4 := hP3.kep1 hap c4
  obtain ⟨S5, d1, d2, d3⟩ := k_tellf hV s3 hap hW (p_fu P) 0 m_fu S4 (by omega) (by omega) hR4 c2 hP4 (fun g w hg hw h => by omega)
  have k5 : ∀ q, q ≠ p + 9 → m_ri S5 q = m_ri S4 q := fun q hq => d3.1 q (by omega)
  have hR5 : u_R1 S5 a (d_U P) (u_E 30 false P).2 := by
    simp only [u_R1, k5 a (by omega), k5 (a + 1) (by omega), k5 (a + 2) (by omega), k5 (a + 3) (by omega)]; exact hR4
  have hQ5 : u_Q1 S5 a p (d_U P) (d_Gx P) := by
    simp only [u_Q1, k5 (a + 4) (by omega), k5 (p + 8) (by omega)]; exact c2
  obtain ⟨S6, e1, e2, e3⟩ := k_tells hV s3 hap 183 0 m_fu S5 (by omega) (by omega) hR5 hQ5 (fun j hj => by omega)
  refine ⟨S6, ?_, ⟨?_, fun r hr => ?_⟩, fun f v hf hv => ?_, fun q hq h8 h9 h11 h12 => ?_, ?_, ?_⟩
  · rw [f_X5_findAll, a1, e_cal0, e_lit]
    show b_X5_findAll_6 a p m_fu S1 (nI 0) = _
    rw [b1, b_X5_findAll_6, hP2.1, if_pos (by rw [e_le_t (Nat.le_refl _) (by omega)]; trivial), f_X5_numberAll, e_let, e_lit]
    rw [show b_X5_numberAll_10 a p m_fu (m_si S2 (p + 8) 0 (nI 0)) (nI 0) = some S4 from c1, e_cal0, f_X5_tellAll]
    show m_cal0 (b_X5_tellAll_2 a p m_fu S4 (nI 0)) _ = _
    rw [d1, e1, e_cal0]
  · rw [e3.1 (p + 8) (by omega)]; exact hQ5.2
  · obtain ⟨k, k1, k2⟩ := s3.2.2.2.1 r hr
    have hok := hV.2.2.1 k k1
    obtain ⟨t1, t2⟩ := hV.1 (o k) (by omega)
    have hg : (d_Gx P).1 ((d_U P).1 (o k)) = r + 1 := by rw [s3.1 _ (o k) t1 (by omega) t2]; exact k2
    have := e2 ((d_U P).1 (o k)) t1 t2 (by rw [hg]; omega)
    rw [hg, Nat.add_sub_cancel] at this
    show m_ri S6 (p + 8 + 3) r = nO (d_s P r 0) ∧ m_ri S6 (p + 8 + 4) r = nO (d_s P r 1)
    rw [d_s, d_s, if_pos ⟨hr, by omega⟩, if_pos ⟨hr, by omega⟩]
    exact this
  · show m_ri S6 (p + 9) (f * 27 + v) = nO (d_p P f v)
    rw [e3.1 (p + 9) (by omega), d2 f v hf hv (Or.inl hf), d_p, if_pos]
    have := hW.2.2.1 f hf
    have := hW.2.1
    simp only [p_vs] at hv
    simp only [u_nd]; omega
  · rw [e3.1 q (by omega), k5 q h9, c4.1 q (by omega) h8, kp q h8, b3.1 q (by omega), a4.1 q (by omega)]
  · rw [e3.2.1, d3.2.1, c4.2.2.1]; exact b3.2.1.trans a4.2.1
  · rw [e3.2.2, d3.2.2, c4.2.2.2]; exact b3.2.2.trans a4.2.2
/-- regions are found and all is derived -/
theorem k_regions (hW : p_W P) (hap : p + 22 ≤ a ∨ a + 5 ≤ p) (hP : p_R S p P) : ∃ S1 S2, f_X5_findAll a p S = some S1 ∧ f_X6_derive (p + 8) p S1 = some S2 ∧ p_R S2 p P ∧ d_XX S2 (p + 8) P ∧ (∀ q, (q < a ∨ a + 5 ≤ q) → (q < p + 8 ∨ p + 22 ≤ q) → m_ri S2 q = m_ri S q) ∧ m_rj S2 = m_rj S ∧ m_rr S2 = m_rr S := by
  obtain ⟨S1, a1, a2, a3, a4, a5, a6⟩ := k_findAll hW hap hP
  have hP1 : p_R S1 p P := by
    simp only [p_R, a4 p (by omega) (by omega) (by omega) (by omega) (by omega), a4 (p + 2) (by omega) (by omega) (by omega) (by omega) (by omega), a4 (p + 3) (by omega) (by omega) (by omega) (by omega) (by omega), a4 (p + 4) (by omega) (by omega) (by omega) (by omega) (by omega), a4 (p + 5) (by omega) (by omega) (by omega) (by omega) (by omega), a4 (p + 6) (by omega) (by omega) (by omega) (by omega) (by omega), a4 (p + 7) (by omega) (by omega) (by omega) (by omega) (by omega)]; exact hP
  obtain ⟨S2, b1, b2, b3⟩ := k_derive hW hP1 a2 a3
  refine ⟨S1, S2, a1, b1, ?_, b2, fun q h1 h2 => ?_, b3.2.1.trans a5, b3.2.2.trans a6⟩
  · simp only [p_R, b3.1 p (by omega), b3.1 (p + 2) (by omega), b3.1 (p + 3) (by omega), b3.1 (p + 4) (by omega), b3.1 (p + 5) (by omega), b3.1 (p + 6) (by omega), b3.1 (p + 7) (by omega)]; exact hP1
  · rw [b3.1 q (by omega), a4 q h1 (by omega) (by omega) (by omega) (by omega)]
end DG
