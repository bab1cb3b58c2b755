/-! the first state -/
def s_0 : sT := ((fun _ => 0, 0, 0), (v_P0, fun _ => 0, q_emp, z_0), (0, fun _ => nI 0), [], fun _ => none)
theorem s_V_0 : s_V s_0 := by
  refine ⟨by show 0 ≤ 940; omega, fun i => by show 0 < 256; omega, by show 0 ≤ 4; omega, ⟨p_W_0, q_emp_Q, ⟨by show 0 ≤ 1; omega, fun h => ?_⟩⟩, by show 0 ≤ 1; omega, by show 0 ≤ 8; omega, fun M hM => (by cases hM), fun k W hW => (by cases hW)⟩
  have h : 0 = 1 := h
  omega
/-- what lies from x to h is as it was made, but for five cells -/
def i_I (x h : Nat) (S : m_M) : Prop := (∀ q, x ≤ q → q < h → m_rr S q = fun _ => none) ∧ ∀ q, x ≤ q → q < h → (q ≠ x + 25 ∧ q ≠ x + 37) → q ≠ x + 42 → q ≠ x + 76 → q ≠ x + 90 → m_ri S q = fun _ => 0
def i_1 (x : Nat) (S : m_M) : Prop := (∀ i, i < 22 → m_rj S (x + 26) i = t_kw i) ∧ m_ri S (x + 25) 0 = nI 900
def i_3 (x : Nat) (S : m_M) : Prop := (∀ i, i < 22 → m_rj S (x + 38) i = t_kw i) ∧ m_ri S (x + 37) 0 = nI 200
def i_2 (x : Nat) (S : m_M) : Prop := ∀ c, c < 200 → m_ri S (x + 76) c = m_no
section IN
variable {S : m_M} {x h q j : Nat} {v : Int32} {f : Nat → Int32}
theorem i_nr : m_ri (m_new S q) = va_up (m_ri S) q (fun _ => 0) := rfl
theorem i_nj : m_rj (m_new S q) = va_up (m_rj S) q (fun _ => 0) := rfl
theorem i_nn : m_rr (m_new S q) = va_up (m_rr S) q (fun _ => none) := rfl
theorem i_I.new (H : i_I x h S) : i_I x (h + 1) (m_new S h) := by
  refine ⟨fun q a b => ?_, fun q a b c d e f => ?_⟩
  · by_cases hq : q = h
    · rw [i_nn, hq, m_up_eq]
    · rw [i_nn, m_up_ne hq]; exact H.1 q a (by omega)
  · by_cases hq : q = h
    · rw [i_nr, hq, m_up_eq]
    · rw [i_nr, m_up_ne hq]; exact H.2 q a (by omega) c d e f
theorem i_up0 : va_up (fun _ : Nat => (0 : Int32)) j (0 : Int32) = fun _ => 0 := by funext t; simp [va_up]
theorem i_I.si0 (H : i_I x h S) : i_I x h (m_si S q j (0 : Int32)) := by
  refine ⟨H.1, fun p a b c d e f => ?_⟩
  by_cases hq : p = q
  · subst hq; rw [m_si_eq, H.2 p a b c d e f, i_up0]
  · rw [m_si_ne hq]; exact H.2 p a b c d e f
theorem i_I.sib (hq : q = x + 25 ∨ q = x + 37 ∨ q = x + 42) (H : i_I x h S) : i_I x h (m_si S q j v) :=
  ⟨H.1, fun p a b c d e f => by rw [m_si_ne (by omega)]; exact H.2 p a b c d e f⟩
theorem i_I.sj {v : Int64} (H : i_I x h S) : i_I x h (m_sj S q j v) := H
theorem i_I.ci (hq : q = x + 76 ∨ q = x + 90) (H : i_I x h S) : i_I x h (m_ci S q f) :=
  ⟨H.1, fun p a b c d e g => by rw [show m_ri (m_ci S q f) p = m_ri S p from m_up_ne (by omega)]; exact H.2 p a b c d e g⟩
theorem i_1.new (hq : q ≠ x + 26 ∧ q ≠ x + 25) (H : i_1 x S) : i_1 x (m_new S q) := ⟨fun i hi => by rw [i_nj, m_up_ne (Ne.symm hq.1)]; exact H.1 i hi, by rw [i_nr, m_up_ne (Ne.symm hq.2)]; exact H.2⟩
theorem i_1.si (hq : q ≠ x + 25) (H : i_1 x S) : i_1 x (m_si S q j v) := ⟨H.1, by rw [m_si_ne (Ne.symm hq)]; exact H.2⟩
theorem i_1.ci (hq : q ≠ x + 25) (H : i_1 x S) : i_1 x (m_ci S q f) := ⟨H.1, by rw [show m_ri (m_ci S q f) (x + 25) = m_ri S (x + 25) from m_up_ne (Ne.symm hq)]; exact H.2⟩
theorem i_3.new (hq : q ≠ x + 38 ∧ q ≠ x + 37) (H : i_3 x S) : i_3 x (m_new S q) := ⟨fun i hi => by rw [i_nj, m_up_ne (Ne.symm hq.1)]; exact H.1 i hi, by rw [i_nr, m_up_ne (Ne.symm hq.2)]; exact H.2⟩
theorem i_3.si (hq : q ≠ x + 37) (H : i_3 x S) : i_3 x (m_si S q j v) := ⟨H.1, by rw [m_si_ne (Ne.symm hq)]; exact H.2⟩
theorem i_3.ci (hq : q ≠ x + 37) (H : i_3 x S) : i_3 x (m_ci S q f) := ⟨H.1, by rw [show m_ri (m_ci S q f) (x + 37) = m_ri S (x + 37) from m_up_ne (Ne.symm hq)]; exact H.2⟩
theorem i_2.new (hq : q ≠ x + 76) (H : i_2 x S) : i_2 x (m_new S q) := fun i hi => by rw [i_nr, m_up_ne (Ne.symm hq)]; exact H i hi
theorem i_2.si (hq : q ≠ x + 76) (H : i_2 x S) : i_2 x (m_si S q j v) := fun i hi => by rw [m_si_ne (Ne.symm hq)]; exact H i hi
theorem i_2.ci (hq : q ≠ x + 76) (H : i_2 x S) : i_2 x (m_ci S q f) := fun i hi => by rw [show m_ri (m_ci S q f) (x + 76) = m_ri S (x + 76) from m_up_ne (Ne.symm hq)]; exact H i hi
theorem i_2.to : i_2 x (m_ci S (x + 76) (fun t => if t < 200 then (-1 : Int32) else f t)) := fun i hi => by
  rw [show m_ri (m_ci S (x + 76) (fun t => if t < 200 then (-1 : Int32) else f t)) (x + 76) = _ from m_up_eq]
  simp only [hi, if_true]; rfl
/-- the words of the language, one behind another -/
def i_kw : Nat → Int32 → Int64 → Int32 → Option (List Int64)
  | 0, _, _, _ => none
  | n + 1, l2, l3, l5 =>
    if (113 : Int32) ≤ l5 then some [] else
    if (22 : Int32) ≤ l2 then some [] else
    if l5 < 0 ∨ 113 ≤ l5.toNatClampNeg then none else
    if m_ch l5.toNatClampNeg = (32 : Int32) then (i_kw n (l2 + (1 : Int32)) (0 : Int64) (l5 + (1 : Int32))).map (fun L => l3 :: L) else
      i_kw n l2 ((l3 * (27 : Int64)) + (((m_ch l5.toNatClampNeg) - (97 : Int32)) + (1 : Int32)).toInt64) (l5 + (1 : Int32))
theorem i_kw0 : i_kw 120 (0 : Int32) (0 : Int64) (0 : Int32) = some ((List.range 22).map t_kw) := by decide +kernel
theorem i_lp : ∀ (n fu : Nat) (S : m_M) (k : Nat) (l3 : Int64) (l5 : Int32) (L : List Int64), n ≤ fu → i_kw n (nI k) l3 l5 = some L → k + L.length ≤ 22 → ∃ S', b_X9_init_126 x fu S (nI k) l3 l5 = some S' ∧ (∀ i, i < L.length → m_rj S' (x + 26) (k + i) = L.getD i 0) ∧ (∀ i, i < k → m_rj S' (x + 26) i = m_rj S (x + 26) i) ∧ (m_ri S' = m_ri S ∧ ∀ q, q ≠ x + 26 → m_rj S' q = m_rj S q) ∧ m_rr S' = m_rr S := by
  intro n
  induction n with
  | zero => intro fu S k l3 l5 L hf h; cases h
  | succ n ih =>
    intro fu S k l3 l5 L hf h hk
    obtain ⟨fu, rfl⟩ : ∃ z, fu = z + 1 := ⟨fu - 1, by omega⟩
    rw [i_kw] at h
    rw [b_X9_init_126]
    by_cases h1 : (113 : Int32) ≤ l5
    · rw [if_pos h1] at h ⊢
      cases h
      exact ⟨S, rfl, fun i hi => absurd hi (Nat.not_lt_zero i), fun _ _ => rfl, ⟨rfl, fun _ _ => rfl⟩, rfl⟩
    rw [if_neg h1] at h ⊢
    by_cases h2 : (22 : Int32) ≤ nI k
    · rw [if_pos h2] at h ⊢
      cases h
      exact ⟨S, rfl, fun i hi => absurd hi (Nat.not_lt_zero i), fun _ _ => rfl, ⟨rfl, fun _ _ => rfl⟩, rfl⟩
    rw [if_neg h2] at h ⊢
    by_cases h3 : l5 < 0 ∨ 113 ≤ l5.toNatClampNeg
    · rw [if_pos h3] at h; cases h
    rw [if_neg h3] at h ⊢
    by_cases h4 : m_ch l5.toNatClampNeg = (32 : Int32)
    · rw [if_pos h4] at h ⊢
      obtain ⟨L', e1, e2⟩ := Option.map_eq_some_iff.mp h
      subst e2
      have hk : k + (L'.length + 1) ≤ 22 := hk
      rw [show nI k + (1 : Int32) = nI (k + 1) from nI_add k 1] at e1
      obtain ⟨S', a1, a2, a3, a4, a5⟩ := ih fu (m_sj S (x + 26) k l3) (k + 1) 0 _ L' (by omega) e1 (by omega)
      refine ⟨S', ?_, fun i hi => ?_, fun i hi => ?_, ⟨a4.1, fun q hq => by rw [a4.2 q hq, m_sj_ne hq]⟩, a5⟩
      · rw [e_stj (by omega) (by omega), e_bind, e_let, e_let, show nI k + (1 : Int32) = nI (k + 1) from nI_add k 1]; exact a1
      · by_cases hi0 : i = 0
        · subst hi0
          rw [a3 (k + 0) (by omega)]
          rw [m_sj_eq]; exact m_up_eq
        · obtain ⟨i, rfl⟩ : ∃ z, i = z + 1 := ⟨i - 1, by omega⟩
          have := a2 i (by simp only [List.length_cons] at hi; omega)
          rw [show k + (i + 1) = k + 1 + i by omega, this]; rfl
      · rw [a3 i (by omega), m_sj_eq, m_up_ne (by omega)]
    · rw [if_neg h4] at h ⊢
      obtain ⟨S', a1, a2, a3, a4, a5⟩ := ih fu S k _ _ L (by omega) h hk
      exact ⟨S', a1, a2, a3, a4, a5⟩
theorem i_lps : ∀ (n fu : Nat) (S : m_M) (k : Nat) (l3 : Int64) (l5 : Int32) (L : List Int64), n ≤ fu → i_kw n (nI k) l3 l5 = some L → k + L.length ≤ 22 → ∃ S', b_X9s_init_126 x fu S (nI k) l3 l5 = some S' ∧ (∀ i, i < L.length → m_rj S' (x + 38) (k + i) = L.getD i 0) ∧ (∀ i, i < k → m_rj S' (x + 38) i = m_rj S (x + 38) i) ∧ (m_ri S' = m_ri S ∧ ∀ q, q ≠ x + 38 → m_rj S' q = m_rj S q) ∧ m_rr S' = m_rr S := by
  intro n
  induction n with
  | zero => intro fu S k l3 l5 L hf h; cases h
  | succ n ih =>
    intro fu S k l3 l5 L hf h hk
    obtain ⟨fu, rfl⟩ : ∃ z, fu = z + 1 := ⟨fu - 1, by omega⟩
    rw [i_kw] at h
    rw [b_X9s_init_126]
    by_cases h1 : (113 : Int32) ≤ l5
    · rw [if_pos h1] at h ⊢
      cases h
      exact ⟨S, rfl, fun i hi => absurd hi (Nat.not_lt_zero i), fun _ _ => rfl, ⟨rfl, fun _ _ => rfl⟩, rfl⟩
    rw [if_neg h1] at h ⊢
    by_cases h2 : (22 : Int32) ≤ nI k
    · rw [if_pos h2] at h ⊢
      cases h
      exact ⟨S, rfl, fun i hi => absurd hi (Nat.not_lt_zero i), fun _ _ => rfl, ⟨rfl, fun _ _ => rfl⟩, rfl⟩
    rw [if_neg h2] at h ⊢
    by_cases h3 : l5 < 0 ∨ 113 ≤ l5.toNatClampNeg
    · rw [if_pos h3] at h; cases h
    rw [if_neg h3] at h ⊢
    by_cases h4 : m_ch l5.toNatClampNeg = (32 : Int32)
    · rw [if_pos h4] at h ⊢
      obtain ⟨L', e1, e2⟩ := Option.map_eq_some_iff.mp h
      subst e2
      have hk : k + (L'.length + 1) ≤ 22 := hk
      rw [show nI k + (1 : Int32) = nI (k + 1) from nI_add k 1] at e1
      obtain ⟨S', a1, a2, a3, a4, a5⟩ := ih fu (m_sj S (x + 38) k l3) (k + 1) 0 _ L' (by omega) e1 (by omega)
      refine ⟨S', ?_, fun i hi => ?_, fun i hi => ?_, ⟨a4.1, fun q hq => by rw [a4.2 q hq, m_sj_ne hq]⟩, a5⟩
      · rw [e_stj (by omega) (by omega), e_bind, e_let, e_let, show nI k + (1 : Int32) = nI (k + 1) from nI_add k 1]; exact a1
      · by_cases hi0 : i = 0
        · subst hi0
          rw [a3 (k + 0) (by omega)]
          rw [m_sj_eq]; exact m_up_eq
        · obtain ⟨i, rfl⟩ : ∃ z, i = z + 1 := ⟨i - 1, by omega⟩
          have := a2 i (by simp only [List.length_cons] at hi; omega)
          rw [show k + (i + 1) = k + 1 + i by omega, this]; rfl
      · rw [a3 i (by omega), m_sj_eq, m_up_ne (by omega)]
    · rw [if_neg h4] at h ⊢
      obtain ⟨S', a1, a2, a3, a4, a5⟩ := ih fu S k _ _ L (by omega) h hk
      exact ⟨S', a1, a2, a3, a4, a5⟩
theorem i_X9 (H : i_I x (x + 26) S) : ∃ S', f_X9_init x S = some S' ∧ i_I x (x + 30) S' ∧ i_1 x S' ∧ ∀ q, q < x + 25 → m_ri S' q = m_ri S q ∧ m_rj S' q = m_rj S q := by
  have hfu := m_fu_ge
  obtain ⟨U, hU⟩ : ∃ U, U = m_new (m_new (m_new (m_si (m_si (m_si (m_sj (m_si (m_si (m_si (m_si (m_si (m_si (m_si (m_si (m_si (m_new S (x + 26)) (x + 25) 5 (0 : Int32)) (x + 25) 6 (0 : Int32)) (x + 25) 7 (0 : Int32)) (x + 25) 8 (-1 : Int32)) (x + 25) 9 (0 : Int32)) (x + 25) 10 (0 : Int32)) (x + 25) 11 (-1 : Int32)) (x + 25) 12 (-1 : Int32)) (x + 25) 13 (-1 : Int32)) (x + 25) 14 (-1 : Int64)) (x + 25) 15 (0 : Int32)) (x + 25) 16 (0 : Int32)) (x + 25) 0 (900 : Int32)) (x + 27)) (x + 28)) (x + 29) := ⟨_, rfl⟩
  have HU : i_I x (x + 30) U := by
    rw [hU]
    exact i_I.new (i_I.new (i_I.new (i_I.sib (by omega) (i_I.sib (by omega) (i_I.sib (by omega) (i_I.sj (i_I.sib (by omega) (i_I.sib (by omega) (i_I.sib (by omega) (i_I.sib (by omega) (i_I.sib (by omega) (i_I.sib (by omega) (i_I.sib (by omega) (i_I.sib (by omega) (i_I.sib (by omega) (i_I.new (H)))))))))))))))))
  have hU0 : m_ri U (x + 25) 0 = nI 900 := by rw [hU]; simp only [i_nr, m_up_ne (show x + 25 ≠ x + 29 by omega), m_up_ne (show x + 25 ≠ x + 28 by omega), m_up_ne (show x + 25 ≠ x + 27 by omega)]; rw [m_si_eq]; exact m_up_eq
  have hUq : ∀ q, q < x + 25 → m_ri U q = m_ri S q ∧ m_rj U q = m_rj S q := fun q hq => by
    rw [hU]
    constructor
    · simp (disch := omega) only [i_nr, m_up_ne, m_si_ne, e_ij]
    · simp (disch := omega) only [i_nj, m_up_ne, e_ji, m_sj_ne]
  obtain ⟨S', a1, a2, a3, a4, a5⟩ := i_lp (x := x) 120 m_fu U 0 0 0 _ (by omega) i_kw0 (by decide)
  refine ⟨S', ?_, ⟨fun q h1 h2 => by rw [a5]; exact HU.1 q h1 h2, fun q h1 h2 h3 h4 h5 h6 => by rw [a4.1]; exact HU.2 q h1 h2 h3 h4 h5 h6⟩, ⟨fun i hi => ?_, by rw [a4.1]; exact hU0⟩, fun q hq => ⟨by rw [a4.1]; exact (hUq q hq).1, by rw [a4.2 q (by omega)]; exact (hUq q hq).2⟩⟩
  · rw [f_X9_init]
    simp only [e_let]
    rw [← hU]; exact a1
  · have := a2 i (by rw [List.length_map, List.length_range]; exact hi)
    rw [Nat.zero_add] at this
    rw [this, List.getD_eq_getElem?_getD, List.getElem?_map, List.getElem?_range hi]; rfl
theorem i_X9s (H : i_I x (x + 38) S) : ∃ S', f_X9s_init x S = some S' ∧ i_I x (x + 42) S' ∧ i_3 x S' ∧ ∀ q, q < x + 37 → m_ri S' q = m_ri S q ∧ m_rj S' q = m_rj S q := by
  have hfu := m_fu_ge
  obtain ⟨U, hU⟩ : ∃ U, U = m_new (m_new (m_new (m_si (m_si (m_si (m_sj (m_si (m_si (m_si (m_si (m_si (m_si (m_si (m_si (m_si (m_new S (x + 38)) (x + 37) 5 (0 : Int32)) (x + 37) 6 (0 : Int32)) (x + 37) 7 (0 : Int32)) (x + 37) 8 (-1 : Int32)) (x + 37) 9 (0 : Int32)) (x + 37) 10 (0 : Int32)) (x + 37) 11 (-1 : Int32)) (x + 37) 12 (-1 : Int32)) (x + 37) 13 (-1 : Int32)) (x + 37) 14 (-1 : Int64)) (x + 37) 15 (0 : Int32)) (x + 37) 16 (0 : Int32)) (x + 37) 0 (200 : Int32)) (x + 39)) (x + 40)) (x + 41) := ⟨_, rfl⟩
  have HU : i_I x (x + 42) U := by
    rw [hU]
    exact i_I.new (i_I.new (i_I.new (i_I.sib (by omega) (i_I.sib (by omega) (i_I.sib (by omega) (i_I.sj (i_I.sib (by omega) (i_I.sib (by omega) (i_I.sib (by omega) (i_I.sib (by omega) (i_I.sib (by omega) (i_I.sib (by omega) (i_I.sib (by omega) (i_I.sib (by omega) (i_I.sib (by omega) (i_I.new (H)))))))))))))))))
  have hU0 : m_ri U (x + 37) 0 = nI 200 := by rw [hU]; simp only [i_nr, m_up_ne (show x + 37 ≠ x + 41 by omega), m_up_ne (show x + 37 ≠ x + 40 by omega), m_up_ne (show x + 37 ≠ x + 39 by omega)]; rw [m_si_eq]; exact m_up_eq
  have hUq : ∀ q, q < x + 37 → m_ri U q = m_ri S q ∧ m_rj U q = m_rj S q := fun q hq => by
    rw [hU]
    constructor
    · simp (disch := omega) only [i_nr, m_up_ne, m_si_ne, e_ij]
    · simp (disch := omega) only [i_nj, m_up_ne, e_ji, m_sj_ne]
  obtain ⟨S', a1, a2, a3, a4, a5⟩ := i_lps (x := x) 120 m_fu U 0 0 0 _ (by omega) i_kw0 (by decide)
  refine ⟨S', ?_, ⟨fun q h1 h2 => by rw [a5]; exact HU.1 q h1 h2, fun q h1 h2 h3 h4 h5 h6 => by rw [a4.1]; exact HU.2 q h1 h2 h3 h4 h5 h6⟩, ⟨fun i hi => ?_, by rw [a4.1]; exact hU0⟩, fun q hq => ⟨by rw [a4.1]; exact (hUq q hq).1, by rw [a4.2 q (by omega)]; exact (hUq q hq).2⟩⟩
  · rw [f_X9s_init]
    simp only [e_let]
    rw [← hU]; exact a1
  · have := a2 i (by rw [List.length_map, List.length_range]; exact hi)
    rw [Nat.zero_add] at this
    rw [this, List.getD_eq_getElem?_getD, List.getElem?_map, List.getElem?_range hi]; rfl
theorem i_X4 (H : i_I x (x + 3) S) : ∃ S', f_X4_init x S = some S' ∧ i_I x (x + 31) S' ∧ i_1 x S' := by
  obtain ⟨U, hU, HU⟩ : ∃ U, f_X3_init (x + 3) (m_new S (x + 3)) = some U ∧ i_I x (x + 25) U := by
    simp only [f_X3_init, f_X6_init, e_let, e_cal0]
    exact ⟨_, rfl, i_I.new (i_I.new (i_I.new (i_I.new (i_I.new (i_I.new (i_I.new (i_I.new (i_I.new (i_I.new (i_I.new (i_I.new (i_I.new (i_I.si0 (i_I.si0 (i_I.new (i_I.new (i_I.new (i_I.new (i_I.new (i_I.new (i_I.new (i_I.new (i_I.si0 (i_I.si0 (i_I.new H)))))))))))))))))))))))))⟩
  obtain ⟨S8, a1, a2, a3, _⟩ := i_X9 (i_I.new HU)
  exact ⟨m_si (m_new S8 (x + 30)) (x + 2) 3 (0 : Int32), by rw [f_X4_init, e_let, hU, e_cal0, e_let, a1, e_cal0, e_let, e_let], i_I.si0 (i_I.new a2), i_1.si (by omega) (i_1.new (by omega) a3)⟩
theorem i_X8 (H : i_I x (x + 32) S) (H1 : i_1 x S) : ∃ S', f_X8_init x S = some S' ∧ i_I x (x + 42) S' ∧ i_1 x S' ∧ i_3 x S' := by
  obtain ⟨U, hU, HU, HU1⟩ : ∃ U, f_X7_init (x + 32) (m_new S (x + 32)) = some U ∧ i_I x (x + 37) U ∧ i_1 x U := by
    simp only [f_X7_init, e_let, e_cal0]
    exact ⟨_, rfl, i_I.new (i_I.new (i_I.new (i_I.new (i_I.si0 (i_I.si0 (i_I.si0 (i_I.new H))))))), i_1.new (by omega) (i_1.new (by omega) (i_1.new (by omega) (i_1.new (by omega) (i_1.si (by omega) (i_1.si (by omega) (i_1.si (by omega) (i_1.new (by omega) H1)))))))⟩
  have HN : i_1 x (m_new U (x + 37)) := i_1.new (by omega) HU1
  obtain ⟨S8, a1, a2, a3, a4⟩ := i_X9s (i_I.new HU)
  exact ⟨S8, by rw [f_X8_init, e_let, hU, e_cal0, e_let, a1, e_cal0], a2, ⟨fun i hi => by rw [(a4 _ (by omega)).2]; exact HN.1 i hi, by rw [(a4 _ (by omega)).1]; exact HN.2⟩, a3⟩
set_option maxRecDepth 10000 in
theorem i_class (H : i_I x (x + 1) S) : ∃ S', f_X11_init x S = some S' ∧ i_I x (x + 100) S' ∧ i_1 x S' ∧ i_3 x S' ∧ i_2 x S' := by
  have H3 : i_I x (x + 3) (m_new (m_si (m_new S (x + 1)) x 1 (0 : Int32)) (x + 2)) := i_I.new (i_I.si0 H.new)
  obtain ⟨S7, a1, a2, a3⟩ := i_X4 H3
  obtain ⟨S12, b1, b2, b3, b4⟩ := i_X8 (i_I.new a2) (i_1.new (by omega) a3)
  have hex : ∃ S', f_X11_init x S = some S' := by
    simp only [f_X11_init, e_let, a1, b1, e_cal0, f_X3_init, f_X6_init, f_X7_init, f_X5_init, f_X10_init, f_X2_init, f_X1_init, f_X0_init, k_fills (show (200 : Nat) < 50000 by omega)]
    exact ⟨_, rfl⟩
  obtain ⟨S', hS'⟩ := hex
  refine ⟨S', hS', ?_⟩
  simp only [f_X11_init, e_let, a1, b1, e_cal0, f_X3_init, f_X6_init, f_X7_init, f_X5_init, f_X10_init, f_X2_init, f_X1_init, f_X0_init, k_fills (show (200 : Nat) < 50000 by omega)] at hS'
  cases Option.some.inj hS'
  exact ⟨i_I.si0 (i_I.new (i_I.new (i_I.si0 (i_I.si0 (i_I.new (i_I.new (i_I.si0 (i_I.new (i_I.new (i_I.new (i_I.ci (by omega) (i_I.new (i_I.new (i_I.new (i_I.new (i_I.new (i_I.new (i_I.new (i_I.new (i_I.si0 (i_I.si0 (i_I.si0 (i_I.si0 (i_I.si0 (i_I.si0 (i_I.si0 (i_I.si0 (i_I.si0 (i_I.si0 (i_I.si0 (i_I.si0 (i_I.new (i_I.new (i_I.new (i_I.new (i_I.new (i_I.si0 (i_I.si0 (i_I.si0 (i_I.new (i_I.ci (by omega) (i_I.new (i_I.new (i_I.new (i_I.new (i_I.new (i_I.new (i_I.new (i_I.new (i_I.si0 (i_I.si0 (i_I.si0 (i_I.si0 (i_I.si0 (i_I.si0 (i_I.si0 (i_I.si0 (i_I.si0 (i_I.si0 (i_I.si0 (i_I.si0 (i_I.new (i_I.new (i_I.new (i_I.new (i_I.new (i_I.new (i_I.new (i_I.new (i_I.new (i_I.new (i_I.new (i_I.new (i_I.new (i_I.new (i_I.si0 (i_I.si0 (i_I.new (i_I.new (i_I.new (i_I.new (i_I.new (i_I.new (i_I.new (i_I.new (i_I.si0 (i_I.si0 (i_I.new (i_I.new (i_I.si0 (i_I.sib (by omega) (i_I.new (i_I.new (i_I.new (i_I.new (i_I.new (b2))))))))))))))))))))))))))))))))))))))))))))))))))))))))))))))))))))))))))))))))))))))))))))))))), i_1.si (by omega) (i_1.new (by omega) (i_1.new (by omega) (i_1.si (by omega) (i_1.si (by omega) (i_1.new (by omega) (i_1.new (by omega) (i_1.si (by omega) (i_1.new (by omega) (i_1.new (by omega) (i_1.new (by omega) (i_1.ci (by omega) (i_1.new (by omega) (i_1.new (by omega) (i_1.new (by omega) (i_1.new (by omega) (i_1.new (by omega) (i_1.new (by omega) (i_1.new (by omega) (i_1.new (by omega) (i_1.si (by omega) (i_1.si (by omega) (i_1.si (by omega) (i_1.si (by omega) (i_1.si (by omega) (i_1.si (by omega) (i_1.si (by omega) (i_1.si (by omega) (i_1.si (by omega) (i_1.si (by omega) (i_1.si (by omega) (i_1.si (by omega) (i_1.new (by omega) (i_1.new (by omega) (i_1.new (by omega) (i_1.new (by omega) (i_1.new (by omega) (i_1.si (by omega) (i_1.si (by omega) (i_1.si (by omega) (i_1.new (by omega) (i_1.ci (by omega) (i_1.new (by omega) (i_1.new (by omega) (i_1.new (by omega) (i_1.new (by omega) (i_1.new (by omega) (i_1.new (by omega) (i_1.new (by omega) (i_1.new (by omega) (i_1.si (by omega) (i_1.si (by omega) (i_1.si (by omega) (i_1.si (by omega) (i_1.si (by omega) (i_1.si (by omega) (i_1.si (by omega) (i_1.si (by omega) (i_1.si (by omega) (i_1.si (by omega) (i_1.si (by omega) (i_1.si (by omega) (i_1.new (by omega) (i_1.new (by omega) (i_1.new (by omega) (i_1.new (by omega) (i_1.new (by omega) (i_1.new (by omega) (i_1.new (by omega) (i_1.new (by omega) (i_1.new (by omega) (i_1.new (by omega) (i_1.new (by omega) (i_1.new (by omega) (i_1.new (by omega) (i_1.new (by omega) (i_1.si (by omega) (i_1.si (by omega) (i_1.new (by omega) (i_1.new (by omega) (i_1.new (by omega) (i_1.new (by omega) (i_1.new (by omega) (i_1.new (by omega) (i_1.new (by omega) (i_1.new (by omega) (i_1.si (by omega) (i_1.si (by omega) (i_1.new (by omega) (i_1.new (by omega) (i_1.si (by omega) (i_1.si (by omega) (i_1.new (by omega) (i_1.new (by omega) (i_1.new (by omega) (i_1.new (by omega) (i_1.new (by omega) (b3))))))))))))))))))))))))))))))))))))))))))))))))))))))))))))))))))))))))))))))))))))))))))))))))), i_3.si (by omega) (i_3.new (by omega) (i_3.new (by omega) (i_3.si (by omega) (i_3.si (by omega) (i_3.new (by omega) (i_3.new (by omega) (i_3.si (by omega) (i_3.new (by omega) (i_3.new (by omega) (i_3.new (by omega) (i_3.ci (by omega) (i_3.new (by omega) (i_3.new (by omega) (i_3.new (by omega) (i_3.new (by omega) (i_3.new (by omega) (i_3.new (by omega) (i_3.new (by omega) (i_3.new (by omega) (i_3.si (by omega) (i_3.si (by omega) (i_3.si (by omega) (i_3.si (by omega) (i_3.si (by omega) (i_3.si (by omega) (i_3.si (by omega) (i_3.si (by omega) (i_3.si (by omega) (i_3.si (by omega) (i_3.si (by omega) (i_3.si (by omega) (i_3.new (by omega) (i_3.new (by omega) (i_3.new (by omega) (i_3.new (by omega) (i_3.new (by omega) (i_3.si (by omega) (i_3.si (by omega) (i_3.si (by omega) (i_3.new (by omega) (i_3.ci (by omega) (i_3.new (by omega) (i_3.new (by omega) (i_3.new (by omega) (i_3.new (by omega) (i_3.new (by omega) (i_3.new (by omega) (i_3.new (by omega) (i_3.new (by omega) (i_3.si (by omega) (i_3.si (by omega) (i_3.si (by omega) (i_3.si (by omega) (i_3.si (by omega) (i_3.si (by omega) (i_3.si (by omega) (i_3.si (by omega) (i_3.si (by omega) (i_3.si (by omega) (i_3.si (by omega) (i_3.si (by omega) (i_3.new (by omega) (i_3.new (by omega) (i_3.new (by omega) (i_3.new (by omega) (i_3.new (by omega) (i_3.new (by omega) (i_3.new (by omega) (i_3.new (by omega) (i_3.new (by omega) (i_3.new (by omega) (i_3.new (by omega) (i_3.new (by omega) (i_3.new (by omega) (i_3.new (by omega) (i_3.si (by omega) (i_3.si (by omega) (i_3.new (by omega) (i_3.new (by omega) (i_3.new (by omega) (i_3.new (by omega) (i_3.new (by omega) (i_3.new (by omega) (i_3.new (by omega) (i_3.new (by omega) (i_3.si (by omega) (i_3.si (by omega) (i_3.new (by omega) (i_3.new (by omega) (i_3.si (by omega) (i_3.si (by omega) (i_3.new (by omega) (i_3.new (by omega) (i_3.new (by omega) (i_3.new (by omega) (i_3.new (by omega) (b4))))))))))))))))))))))))))))))))))))))))))))))))))))))))))))))))))))))))))))))))))))))))))))))))), i_2.si (by omega) (i_2.new (by omega) (i_2.new (by omega) (i_2.si (by omega) (i_2.si (by omega) (i_2.new (by omega) (i_2.new (by omega) (i_2.si (by omega) (i_2.new (by omega) (i_2.new (by omega) (i_2.new (by omega) (i_2.ci (by omega) (i_2.new (by omega) (i_2.new (by omega) (i_2.new (by omega) (i_2.new (by omega) (i_2.new (by omega) (i_2.new (by omega) (i_2.new (by omega) (i_2.new (by omega) (i_2.si (by omega) (i_2.si (by omega) (i_2.si (by omega) (i_2.si (by omega) (i_2.si (by omega) (i_2.si (by omega) (i_2.si (by omega) (i_2.si (by omega) (i_2.si (by omega) (i_2.si (by omega) (i_2.si (by omega) (i_2.si (by omega) (i_2.new (by omega) (i_2.new (by omega) (i_2.new (by omega) (i_2.new (by omega) (i_2.new (by omega) (i_2.si (by omega) (i_2.si (by omega) (i_2.si (by omega) (i_2.new (by omega) (i_2.to)))))))))))))))))))))))))))))))))))))))))⟩
end IN
