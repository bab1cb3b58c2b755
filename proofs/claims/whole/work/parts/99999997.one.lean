/-! one memory: the class at x, the reference at x + 100, the law's row at x + 130 -/
section L7
variable {S S' T T' : m_M} {x m nx : Nat} {s : sT} {κ : Nat → Nat} {G : m_G} {H : Heap} {i1 i2 i3 i4 i5 : Int32}
theorem s_C.far (hV : s_V s) (h : s_C S x s) (w1 : ∀ q, q < x + 100 ∨ x + 131 ≤ q → m_ri S' q = m_ri S q ∧ m_rj S' q = m_rj S q ∧ m_rr S' q = m_rr S q) : s_C S' x s := by
  obtain ⟨⟨h1, h2, h3⟩, h4, h5, ⟨h6, h6'⟩, ⟨f, g1, g2, g3, g4⟩, h8, h9⟩ := h
  obtain ⟨_, _, _, v4, _, _, _, v8⟩ := hV
  refine ⟨⟨?_, fun i hi => ?_, h3.kept ⟨(w1 _ (by omega)).2.1, (w1 _ (by omega)).2.1, by rw [(w1 _ (by omega)).1], by rw [(w1 _ (by omega)).1]⟩⟩, ?_, ?_, ⟨?_, fun h i hi => ?_⟩, ⟨f, g1, ?_, ?_, fun i M hi => ?_⟩, fun k hk => ⟨fun e => ?_, fun W e => ?_⟩, ?_⟩
  · rw [(w1 x (by omega)).1]; exact h1
  · rw [(w1 (x + 1) (by omega)).1]; exact h2 i hi
  · rw [(w1 x (by omega)).1]; exact h4
  · exact ⟨h5.1.kept v4.1 (fun q a b => (w1 q (by omega)).1) (w1 _ (by omega)).2.1, h5.2.1.kept (fun q a b => (w1 q (by omega)).1), h5.2.2.kept (fun q a b => (w1 q (by omega)).1)⟩
  · rw [(w1 x (by omega)).1]; exact h6
  · rw [(w1 (x + 99) (by omega)).1]; exact h6' h i hi
  · rw [(w1 (x + 96) (by omega)).1]; exact g2
  · rw [(w1 (x + 96) (by omega)).1]; exact g3
  · obtain ⟨b, a1, a2⟩ := g4 i M hi
    have := h9.1 _ b (Nat.mod_lt _ (by omega)) a1
    exact ⟨b, by rw [(w1 (x + 97) (by omega)).2.2]; exact a1, a2.kept (fun q h _ => (w1 q (by omega)).1)⟩
  · rw [(w1 (x + 98) (by omega)).2.2]; exact (h8 k hk).1 e
  · obtain ⟨b, a1, a2⟩ := (h8 k hk).2 W e
    have := h9.2.1 _ b hk a1
    exact ⟨b, by rw [(w1 (x + 98) (by omega)).2.2]; exact a1, a2.kept (v8 k W e).1 (fun q h _ => (w1 q (by omega)).1) (w1 _ (by omega)).2.1⟩
  · simp only [c_A] at *
    rw [(w1 (x + 97) (by omega)).2.2, (w1 (x + 98) (by omega)).2.2]; exact h9
theorem s_R.far (h : s_R T m s) (w : ∀ q, m ≤ q → q < m + 30 → m_ri T' q = m_ri T q ∧ m_rj T' q = m_rj T q) : s_R T' m s :=
  h.kept ⟨fun j _ => by rw [(w m (by omega) (by omega)).1], fun q hq => (w q (by omega) (by omega)).1, fun q hq => (w q (by omega) (by omega)).2⟩
/-- what holds between the calls -/
def l_S (x : Nat) (S : m_M) : Prop := ∃ s, s_V s ∧ s_C S x s ∧ s_R S (x + 100) s
def l_K (x nx : Nat) (κ : Nat → Nat) : Prop := m_Str κ ∧ κ x = 12 ∧ κ (x + 100) = 13 ∧ κ (x + 130) = m_ac 2 1 ∧ x + 131 ≤ nx
theorem l_K.up {nx' : Nat} {κ' : Nat → Nat} (h : l_K x nx κ) (hT : m_Str κ') (hle : nx ≤ nx') (hq : ∀ q, q < nx → κ' q = κ q) : l_K x nx' κ' := by
  obtain ⟨h1, h2, h3, h4, h5⟩ := h
  exact ⟨hT, by rw [hq _ (by omega)]; exact h2, by rw [hq _ (by omega)]; exact h3, by rw [hq _ (by omega)]; exact h4, by omega⟩
theorem l_hB (hK : l_K x nx κ) (hH : m_H G nx κ S H) : h_B S x nx := by
  obtain ⟨hT, k0, -, -, hnx⟩ := hK
  have e92 : κ (x + 97) = m_ac 4 8 := m_lay_at hT k0 (by decide) (i := 97) rfl
  have e93 : κ (x + 98) = m_ac 5 2 := m_lay_at hT k0 (by decide) (i := 98) rfl
  refine ⟨hnx, fun i b hi hb => ?_, fun i b hi hb => ?_⟩
  · have kb : κ b = 3 := (hH.2.2.2.2.2.2 (x + 97) 4 8 e92 (Or.inl rfl)).2 i b hb
    have := (hH.2.1.2 (b + 8) (by rw [m_lay_at hT kb (by decide) (i := 8) rfl]; decide)).2
    omega
  · have kb : κ b = 11 := (hH.2.2.2.2.2.2 (x + 98) 5 2 e93 (Or.inr rfl)).2 i b hb
    have := (hH.2.1.2 (b + 36) (by rw [m_lay_at hT kb (by decide) (i := 36) rfl]; decide)).2
    omega
/-- a call on both sides, one behind the other -/
theorem l_two {cl : Option (Int32 × m_M)} {re : m_M → Option (Int32 × m_M)} (hR0 : s_R S (x + 100) s) (h : ∀ T, s_R T (x + 100) s → s_OK S T x (x + 100) cl (re T)) : ∃ a S' T', cl = some (a, S') ∧ re S' = some (a, T') ∧ l_S x T' := by
  obtain ⟨S1, T1, a1, s1, c1, r1, -, -, -, o1, -⟩ := h S hR0
  have hR1 : s_R S1 (x + 100) s := hR0.far (fun q h1 h2 => ⟨(o1 q (by omega) (by omega)).1, (o1 q (by omega) (by omega)).2.1⟩)
  obtain ⟨S2, T2, a2, s2, c2, r2, v, c, r, -, o2⟩ := h S1 hR1
  cases c1.symm.trans c2
  exact ⟨a1, S1, T2, c1, r2, s2, v, c.far v (fun q hq => ⟨(o2.1 q (by omega)).1, (o2.1 q (by omega)).2, by rw [o2.2]⟩), r⟩
/-- .. of a call that may throw -/
theorem l_twoX {cl : Option (Option Int32 × m_M)} {re : m_M → Option (Int32 × m_M)} (hV : s_V s) (hC0 : s_C S x s) (hR0 : s_R S (x + 100) s) (h : ∀ T, s_R T (x + 100) s → s_XK S T (x + 100) cl (re T)) :
    ∃ r k S' b T', cl = some r ∧ x_lm (x + 130) r = (k, S') ∧ re S' = some (b, T') ∧ m_ri T' (x + 100) 0 = k ∧ (k = 0 → m_rj T' (x + 130) 0 = b.toInt64) ∧ l_S x T' := by
  rcases h S hR0 with ⟨v, c1, r1⟩ | ⟨c1, b, r1⟩
  · have hC1 : s_C (m_sj S (x + 130) 0 v.toInt64) x s := hC0.far hV (fun q hq => ⟨rfl, m_sj_ne (by omega), rfl⟩)
    have hR1 : s_R (m_sj S (x + 130) 0 v.toInt64) (x + 100) s := hR0.far (fun q h1 h2 => ⟨rfl, m_sj_ne (by omega)⟩)
    rcases h _ hR1 with ⟨v', c2, r2⟩ | ⟨c2, b2, r2⟩
    · cases c1.symm.trans c2
      refine ⟨_, 0, _, v, _, c1, rfl, r2, ?_, fun _ => ?_, s, hV, ?_, s_th hR1⟩
      · rw [m_si_eq]; exact m_up_eq
      · show m_rj (m_sj S (x + 130) 0 v.toInt64) (x + 130) 0 = _
        rw [m_sj_eq]; exact m_up_eq
      · exact hC1.far hV (fun q hq => ⟨m_si_ne (by omega), rfl, rfl⟩)
    · cases c1.symm.trans c2
  · refine ⟨_, 1, S, b, _, c1, rfl, r1, ?_, fun h => ?_, s, hV, ?_, ?_⟩
    · rw [m_si_eq]; exact m_up_eq
    · cases h
    · exact hC0.far hV (fun q hq => ⟨by rw [m_si_ne (by omega), m_si_ne (by omega)], rfl, rfl⟩)
    · exact s_th (s_th hR0)
end L7
