/-! the first state on both sides -/
section I6
variable {S S' T T' : m_M} {x m h q : Nat}
theorem i_I.kept (H : i_I x h S) (w : ∀ q, q < h → m_ri S' q = m_ri S q ∧ m_rr S' q = m_rr S q) : i_I x h S' :=
  ⟨fun q a b => by rw [(w q b).2]; exact H.1 q a b, fun q a b c d e f => by rw [(w q b).1]; exact H.2 q a b c d e f⟩
theorem d_z_v0 : d_z v_P0 = 0 := d_z_0 rfl
theorem s_C_0 (H : i_I x (x + 100) S) (H1 : c_kq S x) (H2 : i_2 x S) : s_C S x s_0 := by
  have z : ∀ q j, x ≤ q → q < x + 100 → (q ≠ x + 25 ∧ q ≠ x + 37) → q ≠ x + 42 → q ≠ x + 76 → q ≠ x + 90 → m_ri S q j = nI 0 := fun q j a b c d e f => by rw [H.2 q a b c d e f]; rfl
  have n : ∀ q j b, x ≤ q → q < x + 100 → m_rr S q j = some b → False := fun q j b h1 h2 h3 => by rw [H.1 q h1 h2] at h3; cases h3
  refine ⟨⟨z _ _ (by omega) (by omega) (by omega) (by omega) (by omega) (by omega), fun i hi => absurd hi (Nat.not_lt_zero i), H1⟩, z _ _ (by omega) (by omega) (by omega) (by omega) (by omega) (by omega), ⟨⟨?_, ?_, fun f hf => absurd hf (Nat.not_lt_zero f)⟩, ?_, ?_⟩, ⟨z _ _ (by omega) (by omega) (by omega) (by omega) (by omega) (by omega), fun h => ?_⟩, ⟨0, by omega, z _ _ (by omega) (by omega) (by omega) (by omega) (by omega) (by omega), z _ _ (by omega) (by omega) (by omega) (by omega) (by omega) (by omega), fun i M h => ?_⟩, fun k hk => ⟨fun _ => ?_, fun W h => ?_⟩, ?_⟩
  · exact ⟨z _ _ (by omega) (by omega) (by omega) (by omega) (by omega) (by omega), z _ _ (by omega) (by omega) (by omega) (by omega) (by omega) (by omega), fun f hf => absurd hf (Nat.not_lt_zero f), fun f hf => absurd hf (Nat.not_lt_zero f), fun f hf => absurd hf (Nat.not_lt_zero f), fun f i hf => absurd hf (Nat.not_lt_zero f)⟩
  · refine ⟨⟨?_, fun r hr => ?_⟩, fun f v hf => absurd hf (Nat.not_lt_zero f), ⟨fun f w hf => absurd hf (Nat.not_lt_zero f), fun f hf => absurd hf (Nat.not_lt_zero f), fun r hr => ?_, fun f i hf => absurd hf (Nat.not_lt_zero f), fun f r hf => absurd hf (Nat.not_lt_zero f)⟩, fun r hr => ?_⟩
    · rw [show d_z (w_p (s_w s_0)) = 0 from d_z_v0]; exact z _ _ (by omega) (by omega) (by omega) (by omega) (by omega) (by omega)
    · rw [show d_z (w_p (s_w s_0)) = 0 from d_z_v0] at hr; omega
    · rw [show d_z (w_p (s_w s_0)) = 0 from d_z_v0] at hr; omega
    · rw [show d_z (w_p (s_w s_0)) = 0 from d_z_v0, z _ _ (by omega) (by omega) (by omega) (by omega) (by omega) (by omega), e_b0]
      constructor
      · intro h; cases h
      · intro h; omega
  · refine ⟨fun j _ _ _ => z _ _ (by omega) (by omega) (by omega) (by omega) (by omega) (by omega), z _ _ (by omega) (by omega) (by omega) (by omega) (by omega) (by omega), z _ _ (by omega) (by omega) (by omega) (by omega) (by omega) (by omega), fun k hk => absurd hk (Nat.not_lt_zero k), fun k hk => absurd hk (Nat.not_lt_zero k), fun k v hk => absurd hk (Nat.not_lt_zero k), fun k v hk => absurd hk (Nat.not_lt_zero k), fun i x hx => (by cases hx), fun c hc => ?_, fun c s hc hs hl => absurd rfl hl, fun c s hc hs hl => absurd rfl hl⟩
    exact H2 c hc
  · refine ⟨z _ _ (by omega) (by omega) (by omega) (by omega) (by omega) (by omega), fun h => ?_⟩
    have h : 0 = 1 := h
    omega
  · have h : 0 = 1 := h
    omega
  · cases h
  · rw [H.1 _ (by omega) (by omega)]
  · cases h
  · exact ⟨fun i b _ h => (n _ _ _ (by omega) (by omega) h).elim, fun i b _ h => (n _ _ _ (by omega) (by omega) h).elim, fun i j b c _ _ _ h _ => (n _ _ _ (by omega) (by omega) h).elim, fun i j b c _ _ _ h _ => (n _ _ _ (by omega) (by omega) h).elim, fun i j b c _ _ h _ => (n _ _ _ (by omega) (by omega) h).elim⟩
/-- the other side as it is made -/
def j_I (m h : Nat) (S T : m_M) : Prop := (∀ q, m ≤ q → q < h → m_ri T q = fun _ => 0) ∧ ∀ q, q < m → m_ri T q = m_ri S q ∧ m_rj T q = m_rj S q ∧ m_rr T q = m_rr S q
theorem j_I.new (H : j_I m h S T) (hm : m ≤ h) : j_I m (h + 1) S (m_new T h) := by
  refine ⟨fun q a b => ?_, fun q a => ?_⟩
  · by_cases hq : q = h
    · rw [i_nr, hq, m_up_eq]
    · rw [i_nr, m_up_ne hq]; exact H.1 q a (by omega)
  · rw [i_nr, i_nj, i_nn, m_up_ne (by omega), m_up_ne (by omega), m_up_ne (by omega)]; exact H.2 q a
theorem s_R_0 : ∃ T', f_X12_init m (m_new S m) = some T' ∧ s_R T' m s_0 ∧ ∀ q, q < m → m_ri T' q = m_ri S q ∧ m_rj T' q = m_rj S q ∧ m_rr T' q = m_rr S q := by
  have H0 : j_I m m S S := ⟨fun q a b => by omega, fun _ _ => ⟨rfl, rfl, rfl⟩⟩
  have H := (j_I.new (j_I.new (j_I.new (j_I.new (j_I.new (j_I.new (j_I.new (j_I.new (j_I.new (j_I.new (j_I.new (j_I.new (j_I.new (j_I.new (j_I.new (j_I.new (j_I.new (j_I.new (j_I.new (j_I.new (j_I.new (j_I.new (j_I.new (j_I.new (j_I.new (j_I.new (j_I.new (j_I.new (j_I.new (j_I.new H0 (by omega)) (by omega)) (by omega)) (by omega)) (by omega)) (by omega)) (by omega)) (by omega)) (by omega)) (by omega)) (by omega)) (by omega)) (by omega)) (by omega)) (by omega)) (by omega)) (by omega)) (by omega)) (by omega)) (by omega)) (by omega)) (by omega)) (by omega)) (by omega)) (by omega)) (by omega)) (by omega)) (by omega)) (by omega)) (by omega))
  generalize hU : m_new (m_new (m_new (m_new (m_new (m_new (m_new (m_new (m_new (m_new (m_new (m_new (m_new (m_new (m_new (m_new (m_new (m_new (m_new (m_new (m_new (m_new (m_new (m_new (m_new (m_new (m_new (m_new (m_new (m_new S m) (m + 1)) (m + 2)) (m + 3)) (m + 4)) (m + 5)) (m + 6)) (m + 7)) (m + 8)) (m + 9)) (m + 10)) (m + 11)) (m + 12)) (m + 13)) (m + 14)) (m + 15)) (m + 16)) (m + 17)) (m + 18)) (m + 19)) (m + 20)) (m + 21)) (m + 22)) (m + 23)) (m + 24)) (m + 25)) (m + 26)) (m + 27)) (m + 28)) (m + 29) = U at *
  have z : ∀ q j, m ≤ q → q < m + 30 → m_ri U q j = nI 0 := fun q j a b => by rw [H.1 q a b]; rfl
  obtain ⟨T', a1, a2, a3, a4, a5, a6⟩ := j_start (m := m) (T := U) p_W_0 ⟨z _ _ (by omega) (by omega), z _ _ (by omega) (by omega), fun f hf => absurd hf (Nat.not_lt_zero f), fun f i hf => absurd hf (Nat.not_lt_zero f)⟩
  refine ⟨T', ?_, ⟨⟨?_, fun i hi => absurd hi (Nat.not_lt_zero i)⟩, ?_, ⟨⟨a3, a4, ⟨a5 _ (by omega) (by omega), fun h => ?_⟩⟩, a2, fun f hf => absurd hf (Nat.not_lt_zero f)⟩, ⟨?_, fun h => ?_⟩, ⟨?_, fun i M h => ?_⟩, fun k hk => ⟨?_, fun W h => ?_⟩⟩, fun q hq => ?_⟩
  · rw [f_X12_init]
    simp only [e_let]
    rw [hU, a1]; rfl
  · rw [a6.2.1 2 (by omega)]; exact z _ _ (by omega) (by omega)
  · rw [a6.2.1 10 (by omega)]; exact z _ _ (by omega) (by omega)
  · have h : 0 = 1 := h
    omega
  · rw [a6.2.1 44 (by omega)]; exact z _ _ (by omega) (by omega)
  · have h : 0 = 1 := h
    omega
  · rw [a6.2.1 24 (by omega)]; exact z _ _ (by omega) (by omega)
  · cases h
  · rw [a6.1 (m + 11) (by omega) (by omega) (by omega)]; exact z _ _ (by omega) (by omega)
  · cases h
  · rw [a6.1 q (by omega) (by omega) (by omega), a6.2.2.1, a6.2.2.2]; exact H.2 q hq
end I6
