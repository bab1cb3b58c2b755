/-! copied blocks hold the same pictures -/
section CP
variable {S S' : m_M} {a o : Nat} {M : qM} {P : pP} {n : Nat → Int64}
theorem q_R.cp (h : q_R S o M) (h2 : q_sc M 2 ≤ 13) (hl : (q_F M).length ≤ 312) (w : ∀ j i, j < 9 → i < q_ln j → m_ri S' (a + j) i = m_ri S (o + j) i) : q_R S' a M := by
  have w0 : ∀ i, i < 12 → m_ri S' a i = m_ri S o i := fun i hi => w 0 i (by omega) hi
  have w1 : ∀ i, i < 13 → m_ri S' (a + 1) i = m_ri S (o + 1) i := fun i hi => w 1 i (by omega) hi
  have w2 : ∀ i, i < 13 → m_ri S' (a + 2) i = m_ri S (o + 2) i := fun i hi => w 2 i (by omega) hi
  have w3 : ∀ i, i < 351 → m_ri S' (a + 3) i = m_ri S (o + 3) i := fun i hi => w 3 i (by omega) hi
  have w4 : ∀ i, i < 351 → m_ri S' (a + 4) i = m_ri S (o + 4) i := fun i hi => w 4 i (by omega) hi
  have w5 : ∀ i, i < 312 → m_ri S' (a + 5) i = m_ri S (o + 5) i := fun i hi => w 5 i (by omega) hi
  have w6 : ∀ i, i < 200 → m_ri S' (a + 6) i = m_ri S (o + 6) i := fun i hi => w 6 i (by omega) hi
  have w7 : ∀ i, i < 400 → m_ri S' (a + 7) i = m_ri S (o + 7) i := fun i hi => w 7 i (by omega) hi
  have w8 : ∀ i, i < 400 → m_ri S' (a + 8) i = m_ri S (o + 8) i := fun i hi => w 8 i (by omega) hi
  obtain ⟨r1, r2, r3, r4, r5, r6, r7, r8, r9, r10, r11⟩ := h
  refine ⟨fun j hj h3 h10 => ?_, ?_, ?_, fun k hk => ?_, fun k hk => ?_, fun k v hk hv => ?_, fun k v hk hv => ?_, fun i x hx => ?_, fun c hc => ?_, fun c s hc hs hl => ?_, fun c s hc hs hl => ?_⟩
  · rw [w0 j hj]; exact r1 j hj h3 h10
  · rw [w0 3 (by omega)]; exact r2
  · rw [w0 10 (by omega)]; exact r3
  · rw [w1 k (by omega)]; exact r4 k hk
  · rw [w2 k (by omega)]; exact r5 k hk
  · rw [w3 _ (by omega)]; exact r6 k v hk hv
  · rw [w4 _ (by omega)]; exact r7 k v hk hv
  · rw [w5 i (by have := (List.getElem?_eq_some_iff.mp hx).1; omega)]; exact r8 i x hx
  · rw [w6 c hc]; exact r9 c hc
  · rw [w7 _ (by omega)]; exact r10 c s hc hs hl
  · rw [w8 _ (by omega)]; exact r11 c s hc hs hl
/-- program, regions and names -/
def c_P (S : m_M) (p : Nat) (P : pP) (n : Nat → Int64) : Prop := p_R S p P ∧ d_XX S (p + 8) P ∧ ∀ f, f < p_fu P → m_rj S (p + 1) f = n f
theorem c_P.cp (hW : p_W P) (h : c_P S o P n) (w : ∀ j i, j < 22 → i < p_len j → m_ri S' (a + j) i = m_ri S (o + j) i) (w' : ∀ i, i < 5 → m_rj S' (a + 1) i = m_rj S (o + 1) i) : c_P S' a P n := by
  have h5 := hW.1
  have hz := d_z_le hW
  have hln : ∀ f i, f < p_fu P → i < p_ct P f → p_fi P f + i < 24 := fun f i hf hi => (hW.line hf hi).2.1
  have hvs : ∀ f, f < p_fu P → p_vs P f ≤ 27 := fun f hf => by
    have := hW.2.2.1 f hf
    have := hW.2.1
    simp only [p_vs]; omega
  have w0 : ∀ i, i < 2 → m_ri S' a i = m_ri S o i := fun i hi => w 0 i (by omega) hi
  have w2 : ∀ i, i < 5 → m_ri S' (a + 2) i = m_ri S (o + 2) i := fun i hi => w 2 i (by omega) hi
  have w3 : ∀ i, i < 5 → m_ri S' (a + 3) i = m_ri S (o + 3) i := fun i hi => w 3 i (by omega) hi
  have w4 : ∀ i, i < 5 → m_ri S' (a + 4) i = m_ri S (o + 4) i := fun i hi => w 4 i (by omega) hi
  have w5 : ∀ i, i < 24 → m_ri S' (a + 5) i = m_ri S (o + 5) i := fun i hi => w 5 i (by omega) hi
  have w6 : ∀ i, i < 24 → m_ri S' (a + 6) i = m_ri S (o + 6) i := fun i hi => w 6 i (by omega) hi
  have w7 : ∀ i, i < 120 → m_ri S' (a + 7) i = m_ri S (o + 7) i := fun i hi => w 7 i (by omega) hi
  have u0 : ∀ i, i < 2 → m_ri S' (a + 8) i = m_ri S (o + 8) i := fun i hi => w 8 i (by omega) hi
  have u1 : ∀ i, i < 135 → m_ri S' (a + 8 + 1) i = m_ri S (o + 8 + 1) i := fun i hi => w 9 i (by omega) hi
  have u2 : ∀ i, i < 135 → m_ri S' (a + 8 + 2) i = m_ri S (o + 8 + 2) i := fun i hi => w 10 i (by omega) hi
  have u3 : ∀ i, i < 24 → m_ri S' (a + 8 + 3) i = m_ri S (o + 8 + 3) i := fun i hi => w 11 i (by omega) hi
  have u4 : ∀ i, i < 24 → m_ri S' (a + 8 + 4) i = m_ri S (o + 8 + 4) i := fun i hi => w 12 i (by omega) hi
  have u6 : ∀ i, i < 24 → m_ri S' (a + 8 + 6) i = m_ri S (o + 8 + 6) i := fun i hi => w 14 i (by omega) hi
  have u7 : ∀ i, i < 24 → m_ri S' (a + 8 + 7) i = m_ri S (o + 8 + 7) i := fun i hi => w 15 i (by omega) hi
  have u8 : ∀ i, i < 5 → m_ri S' (a + 8 + 8) i = m_ri S (o + 8 + 8) i := fun i hi => w 16 i (by omega) hi
  have u9 : ∀ i, i < 5 → m_ri S' (a + 8 + 9) i = m_ri S (o + 8 + 9) i := fun i hi => w 17 i (by omega) hi
  have u10 : ∀ i, i < 120 → m_ri S' (a + 8 + 10) i = m_ri S (o + 8 + 10) i := fun i hi => w 18 i (by omega) hi
  have u11 : ∀ i, i < 120 → m_ri S' (a + 8 + 11) i = m_ri S (o + 8 + 11) i := fun i hi => w 19 i (by omega) hi
  have u12 : ∀ i, i < 24 → m_ri S' (a + 8 + 12) i = m_ri S (o + 8 + 12) i := fun i hi => w 20 i (by omega) hi
  have u13 : ∀ i, i < 24 → m_ri S' (a + 8 + 13) i = m_ri S (o + 8 + 13) i := fun i hi => w 21 i (by omega) hi
  obtain ⟨⟨r1, r2, r3, r4, r5, r6⟩, ⟨⟨y1, y2⟩, y3, ⟨x1, x2, x3, x4, x5⟩, y4⟩, hn⟩ := h
  refine ⟨⟨?_, ?_, fun f hf => ?_, fun f hf => ?_, fun f hf => ?_, fun f i hf hi => ?_⟩, ⟨⟨?_, fun r hr => ?_⟩, fun f v hf hv => ?_, ⟨fun f v hf hv => ?_, fun f hf => ?_, fun r hr => ?_, fun f i hf hi => ?_, fun f r hf hr ho => ?_⟩, ?_⟩, fun f hf => ?_⟩
  · rw [w0 0 (by omega)]; exact r1
  · rw [w0 1 (by omega)]; exact r2
  · rw [w2 f (by omega)]; exact r3 f hf
  · rw [w3 f (by omega)]; exact r4 f hf
  · rw [w4 f (by omega)]; exact r5 f hf
  · have hl := hln f i hf hi
    obtain ⟨g1, g2, g3, g4⟩ := r6 f i hf hi
    rw [w5 _ hl, w6 _ hl, w7 _ (by omega)]
    exact ⟨g1, g2, g3, fun s hs hu => by rw [w7 _ (by omega)]; exact g4 s hs hu⟩
  · rw [u0 0 (by omega)]; exact y1
  · rw [u3 r (by omega), u4 r (by omega)]; exact y2 r hr
  · have := hvs f hf
    rw [u1 _ (by omega)]; exact y3 f v hf hv
  · have := hvs f hf
    rw [u2 _ (by omega)]; exact x1 f v hf hv
  · rw [u8 f (by omega), u9 f (by omega)]; exact x2 f hf
  · rw [u6 r (by omega), u7 r (by omega)]; exact x3 r hr
  · have hl := hln f i hf hi
    rw [u12 _ hl, u13 _ hl]; exact x4 f i hf hi
  · rw [u10 _ (by omega), u11 _ (by omega)]; exact x5 f r hf hr ho
  · rw [u0 1 (by omega)]; exact y4
  · rw [w' f (by omega)]; exact hn f hf
theorem c_P.kept {p : Nat} (hW : p_W P) (h : c_P S p P n) (w : ∀ q, p ≤ q → q < p + 22 → m_ri S' q = m_ri S q) (w' : m_rj S' (p + 1) = m_rj S (p + 1)) : c_P S' p P n :=
  h.cp hW (fun j i hj _ => by rw [w (p + j) (by omega) (by omega)]) (fun i _ => by rw [w'])
end CP
