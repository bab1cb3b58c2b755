/-! image, restore: both sides -/
section IR
variable {S S' T T' : m_M} {x m a o nx : Nat} {s s' : sT} {W : wT} {i : Int32} {I : Nat → Option wT} {U : List qM}
theorem j_isIn01_t {k : Nat} (hk : k < 2) : f_X12_isIn T (nI k) (0 : Int32) (1 : Int32) = some (nI 1, T) := j_isIn_t (n := 2) hk (by omega)
theorem j_isIn01_f (h : e_bad i 2) : f_X12_isIn T i (0 : Int32) (1 : Int32) = some (nI 0, T) := j_isIn_f (n := 2) h (by omega)
/-- an image is laid into a block that is there -/
theorem k_im33 {k b : Nat} (hk : k < 2) (hw : w_V W) (hW : c_W S (x + 47) W) (hH : c_H S x U) (hG : c_G S x I ∨ ∀ j, j < 2 → j ≠ k → (I j = none → m_rr S (x + 98) j = none) ∧ ∀ W, I j = some W → ∃ b, m_rr S (x + 98) j = some b ∧ c_W S b W) (hV : ∀ k W, I k = some W → w_V W) (hA : c_A S x) (hb : m_rr S (x + 98) k = some b) :
    ∃ S', b_X11_image_33 nx x S (nI k) = some (nI 1, S') ∧ c_H S' x U ∧ c_A S' x ∧ c_G S' x (fun j => if j = k then some W else I j) ∧ (∀ q, q < x + 131 → m_ri S' q = m_ri S q ∧ m_rj S' q = m_rj S q) ∧ m_rr S' = m_rr S := by
  have hb1 := hA.2.1 _ b hk hb
  obtain ⟨S1, a1, a2, a3, a4⟩ := k_copyW (a := b) (o := x + 47) hw hW (Or.inr (by omega))
  refine ⟨S1, ?_, ?_, hA.kept a4, fun j hj => ?_, fun q hq => a3 q (by omega), a4⟩
  · rw [b_X11_image_33, e_ldr hk (by omega), e_bind, hb]
    show m_cal0 (f_X10_copyFrom b (x + 47) S) _ = _
    rw [a1]; rfl
  · obtain ⟨f, h1, h2, h3, h4⟩ := hH
    refine ⟨f, h1, by rw [(a3 _ (by omega)).1]; exact h2, by rw [(a3 _ (by omega)).1]; exact h3, fun i M hi => ?_⟩
    obtain ⟨c, g1, g2⟩ := h4 i M hi
    have hc := hA.1 _ c (Nat.mod_lt _ (by omega)) g1
    have hap := hA.2.2.2.2 _ _ c b (Nat.mod_lt _ (by omega)) hk g1 hb
    exact ⟨c, by rw [a4]; exact g1, g2.kept (fun q _ _ => (a3 q (by omega)).1)⟩
  · have hG' : j ≠ k → (I j = none → m_rr S (x + 98) j = none) ∧ ∀ W, I j = some W → ∃ b, m_rr S (x + 98) j = some b ∧ c_W S b W := fun hjk => by
      rcases hG with h | h
      · exact h j hj
      · exact h j hj hjk
    dsimp only
    by_cases e : j = k
    · rw [if_pos e]
      refine ⟨fun h => (by cases h), fun W' h => ?_⟩
      obtain rfl : W = W' := Option.some.inj h
      exact ⟨b, by rw [a4, e]; exact hb, a2⟩
    · rw [if_neg e]
      obtain ⟨g0, g1⟩ := hG' e
      refine ⟨fun h => by rw [a4]; exact g0 h, fun W' h => ?_⟩
      obtain ⟨c, g2, g3⟩ := g1 W' h
      have hc := hA.2.1 _ c hj g2
      have hap := hA.2.2.2.1 _ _ c b hj hk e g2 hb
      exact ⟨c, by rw [a4]; exact g2, g3.kept (hV j W' h).1 (fun q _ _ => (a3 q (by omega)).1) (a3 _ (by omega)).2⟩
theorem k_image {k : Nat} (hk : k < 2) (hw : w_V W) (hW : c_W S (x + 47) W) (hH : c_H S x U) (hG : c_G S x I) (hV : ∀ k W, I k = some W → w_V W) (hA : c_A S x) (hb : h_B S x nx) :
    ∃ S', f_X11_image nx x S (nI k) = some (nI 1, S') ∧ c_H S' x U ∧ c_A S' x ∧ c_G S' x (fun j => if j = k then some W else I j) ∧ (∀ q, q < x + 131 → m_ri S' q = m_ri S q ∧ m_rj S' q = m_rj S q) ∧ (∀ q, q < x + 131 → q ≠ x + 98 → m_rr S' q = m_rr S q) := by
  have n0 : ¬ nI k < (0 : Int32) := nI_pos (n := k) (by omega)
  have n2 : nI k < (2 : Int32) := by rw [show (2 : Int32) = nI 2 from rfl, e_lt (by omega) (by omega)]; exact hk
  have e0 : f_X11_image nx x S (nI k) = (if m_rr S (x + 98) k = none then (m_let (m_new S nx) fun S5 => m_cal0 (f_X10_init nx S5) fun S6 => (m_str S6 (x + 98) 2 (nI k) (some nx)).bind fun S7 => b_X11_image_33 nx x S7 (nI k)) else (b_X11_image_33 nx x S (nI k))) := by
    rw [f_X11_image, if_neg n0, if_pos n2, e_ldr hk (by omega), e_bind]
  rw [e0]
  by_cases hn : m_rr S (x + 98) k = none
  · rw [if_pos hn, e_let]
    obtain ⟨S5, a1, a2⟩ := k_initW (S := m_new S nx) (a := nx)
    have a3 : n_O nx 37 S S5 := (n_O.rf.nw (by omega) (by omega)).tr a2
    rw [a1, e_cal0, e_str hk (by omega), e_bind]
    obtain ⟨hb0, hb1, hb2⟩ := hb
    obtain ⟨A1, A2, A3, A4, A5⟩ := hA
    have k5 : ∀ q, q < nx → m_ri S5 q = m_ri S q := fun q hq => (a3 q (by omega)).1
    have k5j : ∀ q, q < nx → m_rj S5 q = m_rj S q := fun q hq => (a3 q (by omega)).2.1
    have k5r : ∀ q, q < nx → m_rr S5 q = m_rr S q := fun q hq => (a3 q (by omega)).2.2
    generalize hS6 : m_sr S5 (x + 98) k (some nx) = S6
    have k6 : m_ri S6 = m_ri S5 := by rw [← hS6]; rfl
    have k6j : m_rj S6 = m_rj S5 := by rw [← hS6]; rfl
    have k6a : m_rr S6 (x + 98) k = some nx := by rw [← hS6, e_srs]
    have k6n : ∀ i, i ≠ k → m_rr S6 (x + 98) i = m_rr S (x + 98) i := fun i hi => by rw [← hS6, e_srn hi, k5r _ (by omega)]
    have k6q : ∀ q, q ≠ x + 98 → q < nx → m_rr S6 q = m_rr S q := fun q hq h => by rw [← hS6, e_srq hq, k5r q h]
    have old : ∀ i b, i < 2 → m_rr S6 (x + 98) i = some b → (i = k ∧ b = nx) ∨ (i ≠ k ∧ m_rr S (x + 98) i = some b) := fun i b hi h => by
      by_cases e : i = k
      · subst e; rw [k6a] at h; exact Or.inl ⟨rfl, (Option.some.inj h).symm⟩
      · rw [k6n i e] at h; exact Or.inr ⟨e, h⟩
    have hA6 : c_A S6 x := by
      refine ⟨fun i b hi h => ?_, fun i b hi h => ?_, fun i j b c hi hj hij h h' => ?_, fun i j b c hi hj hij h h' => ?_, fun i j b c hi hj h h' => ?_⟩
      · rw [k6q _ (by omega) (by omega)] at h; exact A1 i b hi h
      · rcases old i b hi h with ⟨_, e⟩ | ⟨_, e⟩
        · omega
        · exact A2 i b hi e
      · rw [k6q _ (by omega) (by omega)] at h h'; exact A3 i j b c hi hj hij h h'
      · rcases old i b hi h with ⟨e1, e⟩ | ⟨_, e⟩ <;> rcases old j c hj h' with ⟨e2, e'⟩ | ⟨_, e'⟩
        · omega
        · have := hb2 j c hj e'; omega
        · have := hb2 i b hi e; omega
        · exact A4 i j b c hi hj hij e e'
      · rw [k6q _ (by omega) (by omega)] at h
        rcases old j c hj h' with ⟨_, e⟩ | ⟨_, e⟩
        · have := hb1 i b hi h; omega
        · exact A5 i j b c hi hj h e
    have hW6 : c_W S6 (x + 47) W := hW.kept hw.1 (fun q h1 h2 => by rw [k6, k5 q (by omega)]) (by rw [k6j, k5j _ (by omega)])
    have hH6 : c_H S6 x U := by
      obtain ⟨f, h1, h2, h3, h4⟩ := hH
      refine ⟨f, h1, by rw [k6, k5 _ (by omega)]; exact h2, by rw [k6, k5 _ (by omega)]; exact h3, fun i M hi => ?_⟩
      obtain ⟨c, g1, g2⟩ := h4 i M hi
      have := hb1 _ c (Nat.mod_lt _ (by omega)) g1
      exact ⟨c, by rw [k6q _ (by omega) (by omega)]; exact g1, g2.kept (fun q h1 h2 => by rw [k6, k5 q (by omega)])⟩
    have hG6 : ∀ j, j < 2 → j ≠ k → (I j = none → m_rr S6 (x + 98) j = none) ∧ ∀ W, I j = some W → ∃ b, m_rr S6 (x + 98) j = some b ∧ c_W S6 b W := fun j hj hjk => by
      obtain ⟨g0, g1⟩ := hG j hj
      refine ⟨fun e => by rw [k6n j hjk]; exact g0 e, fun W e => ?_⟩
      obtain ⟨c, g2, g3⟩ := g1 W e
      have := hb2 _ c hj g2
      exact ⟨c, by rw [k6n j hjk]; exact g2, g3.kept (hV j W e).1 (fun q h1 h2 => by rw [k6, k5 q (by omega)]) (by rw [k6j, k5j _ (by omega)])⟩
    obtain ⟨S', b1, b2, b3, b4, b5, b6⟩ := k_im33 (nx := nx) hk hw hW6 hH6 (Or.inr hG6) hV hA6 k6a
    exact ⟨S', b1, b2, b3, b4, fun q h1 => ⟨by rw [(b5 q h1).1, k6, k5 q (by omega)], by rw [(b5 q h1).2, k6j, k5j q (by omega)]⟩, fun q h1 h2 => by rw [b6, k6q q h2 (by omega)]⟩
  · rw [if_neg hn]
    obtain ⟨b, hb⟩ : ∃ b, m_rr S (x + 98) k = some b := by
      cases h : m_rr S (x + 98) k with
      | none => exact absurd h hn
      | some b => exact ⟨b, rfl⟩
    obtain ⟨S', b1, b2, b3, b4, b5, b6⟩ := k_im33 (nx := nx) hk hw hW hH (Or.inl hG) hV hA hb
    exact ⟨S', b1, b2, b3, b4, b5, fun q _ _ => by rw [b6]⟩
theorem s_image (hV : s_V s) (hC : s_C S x s) (hR : s_R T m s) (hb : h_B S x nx) : s_OK S T x m (f_X11_image nx x S i) (f_X12_image m T i) := by
  have hfu := m_fu_ge
  have et : m_si T m 0 (0 : Int32) = m_si T m 0 (nI 0) := rfl
  rcases e_arg i 2 (by omega) with ⟨k, hk, rfl⟩ | h
  · have hR' := s_th (v := nI 0) hR
    obtain ⟨S1, a1, a2, a3, a4, a5, a6⟩ := k_image (nx := nx) hk hV.2.2.2.1 hC.2.2.1 hC.2.2.2.2.1 hC.2.2.2.2.2.1 hV.2.2.2.2.2.2.2 hC.2.2.2.2.2.2 hb
    obtain ⟨T1, b1, b2, b3, b4⟩ := j_im18 (m := m) hk 2647 0 m_fu (m_si T m 0 (nI 0)) rfl (by omega)
    obtain ⟨T2, c1, c2, c3, c4, c5, c6⟩ := j_im51 (m := m) hk 5 0 m_fu T1 rfl (by omega)
    have t1 : ∀ q, q ≠ m + 4 → m_ri T1 q = m_ri (m_si T m 0 (nI 0)) q := fun q hq => b4.1 q (by omega)
    have kT : ∀ q, q ≠ m + 4 → q ≠ m + 11 → m_ri (m_si T2 (m + 11) k (nI 1)) q = m_ri (m_si T m 0 (nI 0)) q := fun q h1 h2 => by rw [e_rq h2, c4, t1 q h1]
    obtain ⟨r1, r2, ⟨r3, r4, r5⟩, r6, r7, r8⟩ := hR'
    obtain ⟨v1, v2, v3, v4, v5, v6, v7, v8⟩ := hV
    obtain ⟨y1, y2, y3, y4, y5, y6, y7⟩ := hC
    refine ⟨S1, m_si T2 (m + 11) k (nI 1), nI 1, (s.1, s_w s, s.2.2.1, s_hi s, fun j => if j = k then some (s_w s) else s_g s j), a1, ?_, ?_, ?_, ?_, fun q h1 h2 => ?_, (y_O.th (v := nI 0)).tr ⟨fun q hq => ⟨?_, ?_⟩, ?_⟩⟩
    · rw [f_X12_image, e_let, et, j_isIn01_t hk, e_call, if_neg (by decide)]
      exact b1.trans c1
    · refine ⟨v1, v2, v3, v4, v5, v6, v7, fun j W' h => ?_⟩
      have h : (if j = k then some (s_w s) else s_g s j) = some W' := h
      by_cases e : j = k
      · rw [if_pos e] at h
        obtain rfl := Option.some.inj h
        exact v4
      · rw [if_neg e] at h; exact v8 j W' h
    · refine ⟨⟨?_, fun i hi => ?_, y1.2.2.kept ⟨(a5 _ (by omega)).2, (a5 _ (by omega)).2, by rw [(a5 _ (by omega)).1], by rw [(a5 _ (by omega)).1]⟩⟩, ?_, ?_, ⟨?_, fun h i hi => ?_⟩, a2, a4, a3⟩
      · rw [(a5 x (by omega)).1]; exact y1.1
      · rw [(a5 _ (by omega)).1]; exact y1.2.1 i hi
      · rw [(a5 x (by omega)).1]; exact y2
      · exact y3.kept v4.1 (fun q h1 h2 => (a5 q (by omega)).1) (a5 _ (by omega)).2
      · rw [(a5 x (by omega)).1]; exact y4.1
      · rw [(a5 _ (by omega)).1]; exact y4.2 h i hi
    · refine ⟨⟨?_, fun i hi => ?_⟩, ?_, ⟨?_, r4.kept (fun q hq => kT q (by omega) (by omega)), fun f hf => ?_⟩, ⟨?_, fun h i hi => ?_⟩, ⟨?_, fun i M hi => ?_⟩, fun j hj => ⟨?_, fun W' h => ⟨?_, fun f hf => ?_⟩⟩⟩
      · rw [kT m (by omega) (by omega)]; exact r1.1
      · rw [kT _ (by omega) (by omega)]; exact r1.2 i hi
      · rw [kT m (by omega) (by omega)]; exact r2
      · rw [kT _ (by omega) (by omega)]; exact r3
      · rw [e_ji, c6 _ (by omega), b4.2.1]; exact r5 f hf
      · rw [kT m (by omega) (by omega)]; exact r6.1
      · rw [kT _ (by omega) (by omega)]; exact r6.2 h i hi
      · rw [kT m (by omega) (by omega)]; exact r7.1
      · rw [kT _ (by omega) (by omega)]; exact r7.2 i M hi
      · show m_ri (m_si T2 (m + 11) k (nI 1)) (m + 11) j = nI (if (if j = k then some (s_w s) else s_g s j) = none then 0 else 1)
        by_cases e : j = k
        · rw [if_pos e, e, e_rs]; rfl
        · rw [if_neg e, e_rn e, c4, t1 _ (by omega)]; exact (r8 j hj).1
      · have h : (if j = k then some (s_w s) else s_g s j) = some W' := h
        by_cases e : j = k
        · rw [if_pos e] at h
          obtain rfl := Option.some.inj h
          exact r_W.cong v4 r3 (fun t ht _ => by rw [e_rq (by omega), c4, e, b2 t (by omega) ht])
        · rw [if_neg e] at h
          refine r_W.cong (v8 j W' h) ((r8 j hj).2 W' h).1 (fun t ht _ => ?_)
          rw [e_rq (by omega), c4]
          exact b3 _ (by
            rcases Nat.lt_or_ge j k with g | g
            · left
              have : j = 0 := by omega
              have : k = 1 := by omega
              subst this; omega
            · right
              have : j = 1 := by omega
              have : k = 0 := by omega
              omega)
      · have h : (if j = k then some (s_w s) else s_g s j) = some W' := h
        rw [e_ji]
        by_cases e : j = k
        · rw [if_pos e] at h
          obtain rfl := Option.some.inj h
          have h5 := v4.1.1
          rw [e, c2 f (by omega) (by omega), b4.2.1]; exact r5 f hf
        · rw [if_neg e] at h
          have h5 := (v8 j W' h).1.1
          rw [c3 _ (by omega), b4.2.1]
          exact ((r8 j hj).2 W' h).2 f hf
    · exact ⟨(a5 q (by omega)).1, (a5 q (by omega)).2, a6 q (by omega) (by omega)⟩
    · exact kT q (by omega) (by omega)
    · rw [e_ji, c6 q (by omega), b4.2.1]
    · rw [e_ki, c5, b4.2.2]
  · refine s_OK.ask0 (v := nI 0) hV hC hR ?_ ?_
    · rcases h with h | ⟨h1, h2⟩
      · rw [f_X11_image, if_pos (show i < (0 : Int32) from h)]; rfl
      · have : ¬ i < (2 : Int32) := fun q => by
          have q : i < nI 2 := q
          rw [Int32.le_iff_toInt_le] at h2
          rw [Int32.lt_iff_toInt_lt] at q
          omega
        rw [f_X11_image, if_neg (show ¬ i < (0 : Int32) from h1), if_neg this]; rfl
    · rw [f_X12_image, e_let, et, j_isIn01_f h]; rfl
theorem s_restore (hV : s_V s) (hC : s_C S x s) (hR : s_R T m s) : s_OK S T x m (f_X11_restore x S i) (f_X12_restore m T i) := by
  have hfu := m_fu_ge
  have et : m_si T m 0 (0 : Int32) = m_si T m 0 (nI 0) := rfl
  rcases e_arg i 2 (by omega) with ⟨k, hk, rfl⟩ | h
  · have n0 : ¬ nI k < (0 : Int32) := nI_pos (n := k) (by omega)
    have n2 : ¬ (2 : Int32) ≤ nI k := by rw [show (2 : Int32) = nI 2 from rfl, e_le (by omega) (by omega)]; omega
    have hR' := s_th (v := nI 0) hR
    obtain ⟨r1, r2, ⟨r3, r4, r5⟩, r6, r7, r8⟩ := hR'
    have hV0 := hV
    have hC0 := hC
    obtain ⟨v1, v2, v3, v4, v5, v6, v7, v8⟩ := hV
    obtain ⟨y1, y2, y3, y4, ⟨f, y5, y5', _⟩, y6, y7⟩ := hC
    cases hg : s_g s k with
    | none =>
      have c := (y6 k hk).1 hg
      have d := (r8 k hk).1
      rw [if_pos hg] at d
      refine s_OK.ask0 (v := nI 0) hV0 hC0 hR ?_ ?_
      · rw [f_X11_restore, if_neg n0, if_neg n2, e_ldr hk (by omega), e_bind, c, if_pos rfl]; rfl
      · rw [f_X12_restore, e_let, et, j_isIn01_t hk, e_call, if_neg (by decide), e_ldi hk (by omega), e_bind, d, if_pos (show nI 0 = (0 : Int32) from rfl)]; rfl
    | some W =>
      obtain ⟨b, c1, c2⟩ := (y6 k hk).2 W hg
      have d := (r8 k hk).1
      rw [if_neg (by rw [hg]; exact fun h => (by cases h))] at d
      obtain ⟨e1, e2⟩ := (r8 k hk).2 W hg
      have hw := v8 k W hg
      have hb := y7.2.1 _ b hk c1
      obtain ⟨S1, a1, a2, a3, a4⟩ := k_copyW (a := x + 47) (o := b) hw c2 (Or.inl (by omega))
      obtain ⟨T1, b1, b2, _, b4⟩ := j_re27 (m := m) hk 2647 0 m_fu (m_si T m 0 (nI 0)) rfl (by omega)
      obtain ⟨T2, g1, g2, _, g4, g5, g6⟩ := j_re60 (m := m) hk 5 0 m_fu T1 rfl (by omega)
      have hrow : r_W (m_ri T2 (m + 2)) W := r_W.cong hw e1 (fun t ht _ => by rw [g4, b2 t (by omega) ht])
      obtain ⟨T3, l1, l2, l3⟩ := j_layRegions hw.1 hrow.1
      have t2 : ∀ q, q ≠ m + 2 → m_ri T2 q = m_ri (m_si T m 0 (nI 0)) q := fun q hq => by rw [g4, b4.1 q (by omega)]
      have kT : ∀ q, q ≠ m → q ≠ m + 2 → (q < m + 12 ∨ m + 23 ≤ q) → m_ri (m_si T3 m 24 (nI 0)) q = m_ri (m_si T m 0 (nI 0)) q := fun q h0 h1 h2 => by rw [e_rq h0, l3.1 q h0 h1 h2, t2 q h1]
      have kTm : ∀ j, j ≠ 24 → j ≠ 36 → m_ri (m_si T3 m 24 (nI 0)) m j = m_ri (m_si T m 0 (nI 0)) m j := fun j h1 h2 => by rw [e_rn h1, l3.2.1 j h2, t2 m (by omega)]
      have kTj : ∀ q, q ≠ m + 7 → m_rj (m_si T3 m 24 (nI 0)) q = m_rj T q := fun q hq => by rw [e_ji, l3.2.2.2.1, g6 q hq, b4.2.1]; rfl
      have hrow3 : r_W (m_ri (m_si T3 m 24 (nI 0)) (m + 2)) W := r_W.cong hw hrow (fun t _ h2 => by rw [e_rq (by omega), l3.2.2.1 t h2])
      have h5 := hw.1.1
      refine ⟨m_si S1 (x + 96) 2 (nI 0), m_si T3 m 24 (nI 0), nI 1, (s.1, W, s.2.2.1, [], s_g s), ?_, ?_, ⟨v1, v2, v3, hw, v5, show 0 ≤ 8 by omega, fun M hM => (by cases hM), v8⟩, ?_, ?_, fun q h1 h2 => ⟨?_, ?_, ?_⟩, (y_O.th (v := nI 0)).tr ⟨fun q hq => ⟨?_, ?_⟩, ?_⟩⟩
      · rw [f_X11_restore, if_neg n0, if_neg n2, e_ldr hk (by omega), e_bind, c1, if_neg (fun h => (by cases h)), e_bind]
        show m_cal0 (f_X10_copyFrom (x + 47) b S) _ = _
        rw [a1]; rfl
      · rw [f_X12_restore, e_let, et, j_isIn01_t hk, e_call, if_neg (by decide), e_ldi hk (by omega), e_bind, d, if_neg (by decide), show (0 : Int32) = nI 0 from rfl, b1, g1, l1]; rfl
      · refine ⟨⟨?_, fun i hi => ?_, y1.2.2.kept ⟨by rw [e_ji, (a3 _ (by omega)).2], by rw [e_ji, (a3 _ (by omega)).2], by rw [e_rq (by omega), (a3 _ (by omega)).1], by rw [e_rq (by omega), (a3 _ (by omega)).1]⟩⟩, ?_, ?_, ⟨?_, fun h i hi => ?_⟩, ⟨f, y5, ?_, ?_, fun i M h => (by cases h)⟩, ?_, y7.kept a4⟩
        · rw [e_rq (by omega), (a3 x (by omega)).1]; exact y1.1
        · rw [e_rq (by omega), (a3 _ (by omega)).1]; exact y1.2.1 i hi
        · rw [e_rq (by omega), (a3 x (by omega)).1]; exact y2
        · exact a2.kept hw.1 (fun q h1 h2 => by rw [e_rq (by omega)]) rfl
        · rw [e_rq (by omega), (a3 x (by omega)).1]; exact y4.1
        · rw [e_rq (by omega), (a3 _ (by omega)).1]; exact y4.2 h i hi
        · rw [e_rn (by omega), (a3 _ (by omega)).1]; exact y5'
        · rw [e_rs]; rfl
        · exact y6.kep v8 y7 (fun q hq => by rw [e_rq (by omega), (a3 q (by omega)).1]) (fun q hq => by rw [e_ji, (a3 q (by omega)).2]) a4
      · refine ⟨⟨?_, fun i hi => ?_⟩, ?_, ⟨hrow3, l2.kept (fun q hq => e_rq (by omega)), fun f hf => ?_⟩, ⟨?_, fun h i hi => ?_⟩, ⟨by rw [e_rs]; rfl, fun i M hi => (by cases hi)⟩, ?_⟩
        · rw [kTm 2 (by omega) (by omega)]; exact r1.1
        · rw [kT _ (by omega) (by omega) (by omega)]; exact r1.2 i hi
        · rw [kTm 10 (by omega) (by omega)]; exact r2
        · rw [e_ji, l3.2.2.2.1, g2 f (by omega) (by have : f < p_fu (w_p W) := hf; omega), b4.2.1]; exact e2 f hf
        · rw [kTm 44 (by omega) (by omega)]; exact r6.1
        · rw [kT _ (by omega) (by omega) (by omega)]; exact r6.2 h i hi
        · simp only [r_G] at *
          rw [kT (m + 11) (by omega) (by omega) (by omega), kT (m + 4) (by omega) (by omega) (by omega), kTj (m + 9) (by omega)]
          exact r8
      · rw [e_rq (by omega), (a3 q (by omega)).1]
      · rw [e_ji, (a3 q (by omega)).2]
      · show m_rr S1 q = _; rw [a4]
      · exact kT q (by omega) (by omega) (by omega)
      · exact kTj q (by omega)
      · rw [e_ki, l3.2.2.2.2, g5, b4.2.2]
  · refine s_OK.ask0 (v := nI 0) hV hC hR ?_ ?_
    · rcases h with h | ⟨h1, h2⟩
      · rw [f_X11_restore, if_pos (show i < (0 : Int32) from h)]; rfl
      · rw [f_X11_restore, if_neg (show ¬ i < (0 : Int32) from h1), if_pos (show (2 : Int32) ≤ i from h2)]; rfl
    · rw [f_X12_restore, e_let, et, j_isIn01_f h]; rfl
end IR
