/-! a fun is opened, a parameter is counted: what a program being read keeps -/
section VF
variable {S T : m_M} {x m : Nat} {P : pP} {n w : Nat → Int64} {f i j k s : Nat}
theorem v_of_l (hW : v_W P) (hf : f < p_fu P) (hi : i < p_ct P f) : (∀ k, p_us (v_of P) (p_fi P f + i) k = p_us P (p_fi P f + i) k) ∧ ∀ s, p_sl (v_of P) (p_fi P f + i) s = p_sl P (p_fi P f + i) s :=
  v_us_e v_of_op v_of_ca (fun h => by
    have := (hW.2.2.2.2.1 f i hf hi).2.2.1 h
    rw [v_of_pa, if_neg (by omega)]) (hW.2.2.2.2.1 f i hf hi).1
theorem v_W_of (hW : v_W P) (h5 : p_fu P < 5) (hb : 0 < p_fu P → 1 ≤ p_ct P (p_fu P - 1)) : v_W (v_of P) := by
  refine ⟨?_, ?_, fun f hf => ?_, fun f g h1 h2 => ?_, fun f i hf hi => ?_, fun h => ?_, fun f i hf hi h8 => ?_⟩
  · rw [v_of_fu]; omega
  · rw [v_of_ln]; exact hW.2.1
  · rw [v_of_fu] at hf ⊢
    rw [v_of_pa, v_of_ct, v_of_fi, v_of_ln]
    by_cases e : f = p_fu P
    · rw [if_pos e, if_pos e, if_pos e]
      exact ⟨by omega, fun h => by omega, by omega, fun _ => rfl⟩
    · rw [if_neg e, if_neg e, if_neg e]
      obtain ⟨w1, w2, w3, w4⟩ := hW.2.2.1 f (by omega)
      refine ⟨w1, fun h => ?_, w3, fun h => by omega⟩
      by_cases e' : f + 1 = p_fu P
      · have := hb (by omega)
        rw [show p_fu P - 1 = f by omega] at this; exact this
      · exact w2 (by omega)
  · rw [v_of_fu] at h2
    rw [v_of_fi, v_of_fi, v_of_ct, if_neg (by omega), if_neg (by omega)]
    by_cases e : g = p_fu P
    · rw [if_pos e]; exact (hW.2.2.1 f (by omega)).2.2.1
    · rw [if_neg e]; exact hW.2.2.2.1 f g h1 (by omega)
  · rw [v_of_fu] at hf
    rw [v_of_ct] at hi
    by_cases e : f = p_fu P
    · rw [if_pos e] at hi; omega
    · rw [if_neg e] at hi
      rw [v_of_fi, if_neg e, v_of_op, v_of_nu, v_of_ca, v_of_fu, v_of_pa, if_neg e]
      obtain ⟨g1, g2, g3, g4⟩ := hW.2.2.2.2.1 f i (by omega) hi
      refine ⟨g1, g2, fun h => by have := g3 h; omega, fun k hk => ?_⟩
      rw [(v_of_l hW (by omega) hi).1] at hk
      rw [v_of_va]; exact g4 k hk
  · rw [v_of_fu] at h; omega
  · rw [v_of_fu] at hf
    rw [v_of_ct] at hi
    by_cases e : f = p_fu P
    · rw [if_pos e] at hi; omega
    · rw [if_neg e] at hi
      rw [v_of_fi, if_neg e] at h8 ⊢
      rw [v_of_op] at h8
      rw [v_of_ca]
      exact hW.2.2.2.2.2.2 f i (by omega) hi h8
theorem v_pp_l (hW : v_W P) (hb : p_ct P (p_fu P - 1) = 0) (hf : f < p_fu P) (hi : i < p_ct P f) : (∀ k, p_us (v_pp P) (p_fi P f + i) k = p_us P (p_fi P f + i) k) ∧ ∀ s, p_sl (v_pp P) (p_fi P f + i) s = p_sl P (p_fi P f + i) s :=
  v_us_e v_pp_op v_pp_ca (fun h => by
    have h1 := hW.2.2.2.2.2.2 f i hf hi h
    have h2 : f ≠ p_fu P - 1 := fun e => by rw [e] at hi; omega
    rw [v_pp_pa, if_neg (by omega)]) (hW.2.2.2.2.1 f i hf hi).1
theorem v_W_pp (hW : v_W P) (hf : 0 < p_fu P) (hb : p_ct P (p_fu P - 1) = 0) (h3 : p_pa P (p_fu P - 1) < 3) : v_W (v_pp P) := by
  refine ⟨?_, ?_, fun f hf => ?_, fun f g h1 h2 => ?_, fun f i hf hi => ?_, fun h => ?_, fun f i hf hi h8 => ?_⟩
  · rw [v_pp_fu]; exact hW.1
  · rw [v_pp_ln]; exact hW.2.1
  · rw [v_pp_fu] at hf ⊢
    rw [v_pp_pa, v_pp_ct, v_pp_fi, v_pp_ln]
    obtain ⟨w1, w2, w3, w4⟩ := hW.2.2.1 f hf
    refine ⟨?_, w2, w3, w4⟩
    by_cases e : f = p_fu P - 1
    · rw [if_pos e, e]; omega
    · rw [if_neg e]; exact w1
  · rw [v_pp_fu] at h2
    rw [v_pp_fi, v_pp_fi, v_pp_ct]
    exact hW.2.2.2.1 f g h1 h2
  · rw [v_pp_fu] at hf
    rw [v_pp_ct] at hi
    have h2 : f ≠ p_fu P - 1 := fun e => by rw [e] at hi; omega
    rw [v_pp_fi, v_pp_op, v_pp_nu, v_pp_ca, v_pp_fu, v_pp_pa, if_neg h2]
    obtain ⟨g1, g2, g3, g4⟩ := hW.2.2.2.2.1 f i hf hi
    refine ⟨g1, g2, g3, fun k hk => ?_⟩
    rw [(v_pp_l hW hb hf hi).1] at hk
    rw [v_pp_va]; exact g4 k hk
  · rw [v_pp_fu] at h; rw [v_pp_ln]; exact hW.2.2.2.2.2.1 h
  · rw [v_pp_fu] at hf
    rw [v_pp_ct] at hi
    rw [v_pp_fi] at h8 ⊢
    rw [v_pp_op] at h8
    rw [v_pp_ca]
    exact hW.2.2.2.2.2.2 f i hf hi h8
theorem v_of_n : v_n (v_of P) = 0 := by
  rw [v_n, v_of_fu, if_neg (by omega)]
  simp only [p_vs]
  rw [v_of_pa, v_of_ct, if_pos (by omega), if_pos (by omega)]
theorem v_pp_n (hf : 0 < p_fu P) : v_n (v_pp P) = v_n P + 1 := by
  rw [v_n, v_n, v_pp_fu, if_neg (by omega), if_neg (by omega)]
  simp only [p_vs]
  rw [v_pp_pa, v_pp_ct, if_pos rfl]; omega
end VF
