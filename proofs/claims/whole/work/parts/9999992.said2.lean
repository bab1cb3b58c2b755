/-! a sentence of a region: the one side; said -/
section SD
variable {S S' T T' : m_M} {x m r k n : Nat} {s : sT} {Z : zT} {P : pP} {M : qM} {at_ : Nat → Bool} {i : Int32}
theorem k_h116 {a p q w t : Nat} {K : m_M → Int32 → Int32 → Int32 → Option (Int32 × m_M)} {l1 l7 t0 : Int32} (hk : k < 40) (ht : t < 39) (hw : m_ri S (a + 1) k = nI w) : b_X7_holds_116 a p q K S l1 (nI (t + 1)) (nI k) l7 t0 = K (m_si S (a + 4) t (vp_nar .boolean (if nI w = (12 : Int32) then l7 else t0))) l1 (nI (t + 1)) (nI (k + 1)) := by
  rw [b_X7_holds_116, e_ldi (by omega) (by omega), e_bind, hw, show (1 : Int32) = nI 1 from rfl, e_sub (by omega), show t + 1 - 1 = t from rfl]
  by_cases e : nI w = (12 : Int32)
  · rw [if_pos e, if_pos e, b_X7_holds_145, e_sti (by omega) (by omega), e_bind, b_X7_holds_215, e_let, show (1 : Int32) = nI 1 from rfl, nI_add]
  · rw [if_neg e, if_neg e, b_X7_holds_145, e_sti (by omega) (by omega), e_bind, b_X7_holds_215, e_let, show (1 : Int32) = nI 1 from rfl, nI_add]
theorem k_h87 {a p q w t : Nat} {K : m_M → Int32 → Int32 → Int32 → Option (Int32 × m_M)} {l1 l7 : Int32} {b1 b2 : Bool} (hk : k < 40) (ht : t < 39) (hw : m_ri S (a + 1) k = nI w) (hb1 : m_ri S (a + 4) t = nI (z_o b1)) (hb2 : m_ri S (a + 4) (t + 1) = nI (z_o b2)) : b_X7_holds_87 a p q K S l1 (nI (t + 1)) (nI k) l7 = K (m_si S (a + 4) t (vp_nar .boolean (if nI w = (12 : Int32) then l7 else nI (z_o (b1 || b2))))) l1 (nI (t + 1)) (nI (k + 1)) := by
  rw [b_X7_holds_87, show (1 : Int32) = nI 1 from rfl, e_sub (by omega), show t + 1 - 1 = t from rfl, e_ldi (by omega) (by omega), e_bind, hb1, e_oif0, e_ldi (by omega) (by omega), e_bind, hb2, e_oif0, b_X7_holds_111, ← k_h116 (p := p) (q := q) (K := K) (l1 := l1) (l7 := l7) (t0 := nI (z_o (b1 || b2))) hk ht hw]
  cases b1 <;> cases b2 <;> rfl
theorem k_h44 {a p q w t : Nat} {K : m_M → Int32 → Int32 → Int32 → Option (Int32 × m_M)} {l1 : Int32} {b1 b2 : Bool} (hk : k < 40) (ht : t < 38) (hw : m_ri S (a + 1) k = nI w) (hb1 : m_ri S (a + 4) t = nI (z_o b1)) (hb2 : m_ri S (a + 4) (t + 1) = nI (z_o b2)) : b_X7_holds_39 a p q K S l1 (nI (t + 2)) (nI k) = K (m_si S (a + 4) t (vp_nar .boolean (if nI w = (12 : Int32) then nI (z_o (b1 && b2)) else nI (z_o (b1 || b2))))) l1 (nI (t + 1)) (nI (k + 1)) := by
  rw [b_X7_holds_39, b_X7_holds_44, if_neg (by decide), if_neg (by rw [show (2 : Int32) = nI 2 from rfl, e_lt (by omega) (by omega)]; omega), show (-1 : Int32) = m_no from rfl, e_dec (by omega), e_let, show t + 2 - 1 = t + 1 from rfl, show (1 : Int32) = nI 1 from rfl, e_sub (by omega), show t + 1 - 1 = t from rfl, e_ldi (by omega) (by omega), e_bind, hb1, e_oif0, e_ldi (by omega) (by omega), e_bind, hb2, e_oif0, b_X7_holds_86, ← k_h87 (p := p) (q := q) (K := K) (l1 := l1) (l7 := nI (z_o (b1 && b2))) hk (by omega) hw hb1 hb2]
  cases b1 <;> cases b2 <;> rfl
theorem k_w12 {a p q fu : Nat} {b1 b2 : Bool} (h2 : m_ri S a 2 = nI n) (hn : n ≤ 40) (hk : k < n) (hw : m_ri S (a + 1) k = nI 12) {t : Nat} (ht : t < 38) (hb1 : m_ri S (a + 4) t = nI (z_o b1)) (hb2 : m_ri S (a + 4) (t + 1) = nI (z_o b2)) : b_X7_holds_6 a p q (fu + 1) S (nI r) (nI (t + 2)) (nI k) = b_X7_holds_6 a p q fu (m_si S (a + 4) t (nI (z_o (b1 && b2)))) (nI r) (nI (t + 1)) (nI (k + 1)) := by
  rw [b_X7_holds_6, h2, if_neg (by rw [e_le (by omega) (by omega)]; omega), e_ldi (by omega) (by omega), e_bind, hw, if_pos (show nI 12 = (12 : Int32) from rfl), k_h44 (by omega) ht hw hb1 hb2, if_pos (show nI 12 = (12 : Int32) from rfl), e_nzo]
theorem k_w11 {a p q fu : Nat} {b1 b2 : Bool} (h2 : m_ri S a 2 = nI n) (hn : n ≤ 40) (hk : k < n) (hw : m_ri S (a + 1) k = nI 11) {t : Nat} (ht : t < 38) (hb1 : m_ri S (a + 4) t = nI (z_o b1)) (hb2 : m_ri S (a + 4) (t + 1) = nI (z_o b2)) : b_X7_holds_6 a p q (fu + 1) S (nI r) (nI (t + 2)) (nI k) = b_X7_holds_6 a p q fu (m_si S (a + 4) t (nI (z_o (b1 || b2)))) (nI r) (nI (t + 1)) (nI (k + 1)) := by
  rw [b_X7_holds_6, h2, if_neg (by rw [e_le (by omega) (by omega)]; omega), e_ldi (by omega) (by omega), e_bind, hw, if_neg (by decide), e_bind, if_pos (show nI 11 = (11 : Int32) from rfl), k_h44 (by omega) ht hw hb1 hb2, if_neg (by decide), e_nzo]
theorem k_wat {a p q fu w h : Nat} {v : Bool} (h2 : m_ri S a 2 = nI n) (hn : n ≤ 40) (hk : k < n) (hw : m_ri S (a + 1) k = nI w) (hw1 : 14 ≤ w) (hw2 : w ≤ 21) (hh : h < 40) (hT : f_X7_isTrue a p q S (nI k) (nI r) = some (nI (z_o v), S)) : b_X7_holds_6 a p q (fu + 1) S (nI r) (nI h) (nI k) = b_X7_holds_6 a p q fu (m_si S (a + 4) h (nI (z_o v))) (nI r) (nI (h + 1)) (nI (k + 1)) := by
  have hv := e_nzo v
  simp (disch := omega) only [e_let, e_call, e_cal0, e_bind, e_lit, e_ofN, e_neg, nI_add, pk_mul, e_sub, e_ldi, e_sti, e_ldj, e_stj, e_le_t, e_le_f, e_lt_t, e_lt_f, e_eq_t, e_eq_f, e_no_eq, e_no_eq', e_no_rfl, e_no_lt, e_no_le, e_le_no, e_lt_no, if_true, if_false, ↓reduceIte, e_rs, e_rq, e_rn, e_ji, e_ki, e_ij, e_kj, e_js, e_jq, e_jn, e_cs, e_cq, e_jc, e_kc, e_js', e_jcq, e_icj, e_kcj, or_true, true_or, or_false, false_or, and_true, true_and, not_true_eq_false, not_false_eq_true, b_X7_holds_6, b_X7_holds_44, b_X7_holds_149, b_X7_holds_196, b_X7_holds_215, h2, hw, hT, hv]
theorem x_K.an {j : Nat} {v : Int32} : x_K x S (m_si S (x + 83) j v) := ⟨fun q hq => by rw [e_rq (by omega)], fun _ _ => rfl, rfl, rfl⟩
theorem k_seg (hV : s_V s) (ht : z_t (w_z (s_w s)) = 1) (hr : r < d_z (w_p (s_w s))) : ∀ n k, k < n → k < z_n (w_z (s_w s)) → ∀ (S : m_M) (h fu : Nat), s_C S x s → h ≤ z_b (w_z (s_w s)) k →
    ∃ S', b_X7_holds_6 (x + 79) (x + 48) (x + 70) (fu + (k + 1 - z_b (w_z (s_w s)) k)) S (nI r) (nI h) (nI (z_b (w_z (s_w s)) k)) = b_X7_holds_6 (x + 79) (x + 48) (x + 70) fu S' (nI r) (nI (h + 1)) (nI (k + 1)) ∧ m_ri S' (x + 83) h = nI (z_o (z_v (w_z (s_w s)) (z_a (w_p (s_w s)) (w_m (s_w s)) (w_z (s_w s)) r) 64 k)) ∧ (∀ j, j < h → m_ri S' (x + 83) j = m_ri S (x + 83) j) ∧ s_C S' x s ∧ e_O (x + 83) (x + 84) S S' := by
  obtain ⟨hn1, hn40, hzx, _⟩ := hV.2.2.2.1.2.2.2 ht
  intro n
  induction n with
  | zero => intro k hk; omega
  | succ n ih =>
    intro k hk hc S h fu hC hh
    obtain ⟨h2, hzc⟩ := hC.2.2.1.2.2.2 ht
    have h2 : m_ri S (x + 79) 2 = nI (z_n (w_z (s_w s))) := h2
    obtain ⟨c1, c2, c3⟩ := hzc k hc
    have c1 : m_ri S (x + 79 + 1) k = nI (z_w (w_z (s_w s)) k) := c1
    obtain ⟨x1, x2, x3, x4, x5, x6, x7, x8⟩ := hzx k hc
    obtain ⟨q1, q2⟩ := hzx.lt hc
    have hv := z_v_64 (at_ := z_a (w_p (s_w s)) (w_m (s_w s)) (w_z (s_w s)) r) hzx hn40 hc
    by_cases e13 : z_w (w_z (s_w s)) k = 13
    · obtain ⟨g1, g2⟩ := x4 e13
      have hb' := (hzx (k - 1) (by omega)).2.2.1
      obtain ⟨S1, a1, a2, a3, a4, a5⟩ := ih (k - 1) (by omega) (by omega) S h (fu + 1) hC (by omega)
      obtain ⟨h2', hzc'⟩ := a4.2.2.1.2.2.2 ht
      have h2' : m_ri S1 (x + 79) 2 = nI (z_n (w_z (s_w s))) := h2'
      have w1 : m_ri S1 (x + 79 + 1) k = nI (z_w (w_z (s_w s)) k) := (hzc' k hc).1
      rw [e13] at w1
      have st := k_w13 (p := x + 48) (q := x + 70) (fu := fu) (r := r) h2' hn40 hc w1 (t := h) (by omega) a2
      rw [show x + 79 + 4 = x + 83 from rfl] at st
      have hS : b_X7_holds_6 (x + 79) (x + 48) (x + 70) (fu + (k + 1 - z_b (w_z (s_w s)) k)) S (nI r) (nI h) (nI (z_b (w_z (s_w s)) k)) = b_X7_holds_6 (x + 79) (x + 48) (x + 70) (fu + 1) S1 (nI r) (nI (h + 1)) (nI k) := by
        rw [show k - 1 + 1 = k by omega] at a1
        rw [g2, show fu + (k + 1 - z_b (w_z (s_w s)) (k - 1)) = fu + 1 + (k - z_b (w_z (s_w s)) (k - 1)) by omega, a1]
      refine ⟨_, hS.trans st, ?_, fun j hj => ?_, a4.kept hV x_K.an, a5.si (by omega) (by omega)⟩
      · rw [e_rs, hv, if_pos e13]
      · rw [e_rn (by omega)]; exact a3 j hj
    · by_cases e12 : z_w (w_z (s_w s)) k = 11 ∨ z_w (w_z (s_w s)) k = 12
      · obtain ⟨g1, g2, g3⟩ := x5 e12
        obtain ⟨p1, p2, p3, p4⟩ := q2 e12
        have hbl := (hzx (z_l (w_z (s_w s)) k) p4).2.2.1
        have hb' := (hzx (k - 1) (by omega)).2.2.1
        obtain ⟨S1, a1, a2, a3, a4, a5⟩ := ih (z_l (w_z (s_w s)) k) (by omega) p4 S h (fu + 1 + (k - z_b (w_z (s_w s)) (k - 1))) hC (by omega)
        obtain ⟨S2, b1, b2, b3, b4, b5⟩ := ih (k - 1) (by omega) (by omega) S1 (h + 1) (fu + 1) a4 (by omega)
        obtain ⟨h2', hzc'⟩ := b4.2.2.1.2.2.2 ht
        have h2' : m_ri S2 (x + 79) 2 = nI (z_n (w_z (s_w s))) := h2'
        have w1 : m_ri S2 (x + 79 + 1) k = nI (z_w (w_z (s_w s)) k) := (hzc' k hc).1
        have a2' := (b3 h (by omega)).trans a2
        have hS : b_X7_holds_6 (x + 79) (x + 48) (x + 70) (fu + (k + 1 - z_b (w_z (s_w s)) k)) S (nI r) (nI h) (nI (z_b (w_z (s_w s)) k)) = b_X7_holds_6 (x + 79) (x + 48) (x + 70) (fu + 1) S2 (nI r) (nI (h + 2)) (nI k) := by
          rw [show k - 1 + 1 = k by omega] at b1
          rw [g3, show fu + (k + 1 - z_b (w_z (s_w s)) (z_l (w_z (s_w s)) k)) = fu + 1 + (k - z_b (w_z (s_w s)) (k - 1)) + (z_l (w_z (s_w s)) k + 1 - z_b (w_z (s_w s)) (z_l (w_z (s_w s)) k)) by omega, a1, g2, b1]
        rw [hS]
        rcases e12 with e | e
        · rw [e] at w1
          have st := k_w11 (p := x + 48) (q := x + 70) (fu := fu) (r := r) h2' hn40 hc w1 (t := h) (by omega) a2' b2
          rw [show x + 79 + 4 = x + 83 from rfl] at st
          refine ⟨_, st, ?_, fun j hj => ?_, b4.kept hV x_K.an, (a5.tr b5).si (by omega) (by omega)⟩
          · rw [e_rs, hv, if_neg e13, if_neg (by omega), if_pos e]
          · rw [e_rn (by omega), b3 j (by omega)]; exact a3 j hj
        · rw [e] at w1
          have st := k_w12 (p := x + 48) (q := x + 70) (fu := fu) (r := r) h2' hn40 hc w1 (t := h) (by omega) a2' b2
          rw [show x + 79 + 4 = x + 83 from rfl] at st
          refine ⟨_, st, ?_, fun j hj => ?_, b4.kept hV x_K.an, (a5.tr b5).si (by omega) (by omega)⟩
          · rw [e_rs, hv, if_neg e13, if_pos e]
          · rw [e_rn (by omega), b3 j (by omega)]; exact a3 j hj
      · have h14 : 14 ≤ z_w (w_z (s_w s)) k := by omega
        have hT := k_isTrue hV hC ht hc h14 hr
        have st := k_wat (fu := fu) (h := h) h2 hn40 hc c1 h14 x2 (by omega) hT
        rw [show x + 79 + 4 = x + 83 from rfl] at st
        have hS : b_X7_holds_6 (x + 79) (x + 48) (x + 70) (fu + (k + 1 - z_b (w_z (s_w s)) k)) S (nI r) (nI h) (nI (z_b (w_z (s_w s)) k)) = b_X7_holds_6 (x + 79) (x + 48) (x + 70) (fu + 1) S (nI r) (nI h) (nI k) := by
          rw [x6 h14, show fu + (k + 1 - k) = fu + 1 by omega]
        refine ⟨_, hS.trans st, ?_, fun j hj => ?_, hC.kept hV x_K.an, e_O.rf.si (by omega) (by omega)⟩
        · rw [e_rs, hv, if_neg e13, if_neg (fun q => e12 (Or.inr q)), if_neg (fun q => e12 (Or.inl q))]
        · rw [e_rn (by omega)]
theorem k_holds (hV : s_V s) (hC : s_C S x s) (ht : z_t (w_z (s_w s)) = 1) (hr : r < d_z (w_p (s_w s))) : ∃ S', f_X7_holds (x + 79) (x + 48) (x + 70) S (nI r) = some (nI (z_o (z_v (w_z (s_w s)) (z_a (w_p (s_w s)) (w_m (s_w s)) (w_z (s_w s)) r) 64 (z_n (w_z (s_w s)) - 1))), S') ∧ s_C S' x s ∧ e_O (x + 83) (x + 84) S S' := by
  have hfu := m_fu_ge
  obtain ⟨hn1, hn40, hzx, hb0⟩ := hV.2.2.2.1.2.2.2 ht
  obtain ⟨S1, a1, a2, _, a4, a5⟩ := k_seg hV ht hr (z_n (w_z (s_w s))) (z_n (w_z (s_w s)) - 1) (by omega) (by omega) S 0 (m_fu - z_n (w_z (s_w s)) - 1 + 1) hC (by omega)
  rw [hb0, show m_fu - z_n (w_z (s_w s)) - 1 + 1 + (z_n (w_z (s_w s)) - 1 + 1 - 0) = m_fu by omega, show z_n (w_z (s_w s)) - 1 + 1 = z_n (w_z (s_w s)) by omega] at a1
  have h2 : m_ri S1 (x + 79) 2 = nI (z_n (w_z (s_w s))) := (a4.2.2.1.2.2.2 ht).1
  refine ⟨S1, ?_, a4, a5⟩
  rw [f_X7_holds]
  refine (show _ = _ from a1).trans ?_
  rw [b_X7_holds_6, h2, if_pos (nI_le (Nat.le_refl _) (by omega)), if_neg (by decide), show (0 : Int32) = nI 0 from rfl, e_ldi (by omega) (by omega), e_bind, show x + 79 + 4 = x + 83 from rfl, a2, show nI 0 = (0 : Int32) from rfl, e_oif0]
  cases z_v (w_z (s_w s)) (z_a (w_p (s_w s)) (w_m (s_w s)) (w_z (s_w s)) r) 64 (z_n (w_z (s_w s)) - 1) <;> rfl
def z_sd (V : Nat → Bool) (i : Int32) : Nat → Nat → Nat → Int32
  | 0, _, c => if i = m_no then nI c else m_no
  | d + 1, r, c => if V r = true then (if nI c = i then nI r else z_sd V i d (r + 1) (c + 1)) else z_sd V i d (r + 1) c
theorem z_sd_no {V : Nat → Bool} (hi : ¬ (-1 : Int32) ≤ i) : ∀ d r c, c + d < 1000 → z_sd V i d r c = m_no := by
  have hi : i.toInt < -1 := by
    have h : ¬ m_no ≤ i := hi
    rw [Int32.le_iff_toInt_le, m_no_toInt] at h; omega
  intro d
  induction d with
  | zero =>
    intro r c hc
    rw [z_sd, if_neg (fun e => by rw [e, m_no_toInt] at hi; omega)]
  | succ d ih =>
    intro r c hc
    rw [z_sd]
    by_cases e : V r = true
    · rw [if_pos e, if_neg (fun e => by rw [← e, nI_toInt (by omega)] at hi; omega), ih _ _ (by omega)]
    · rw [if_neg e, ih _ _ (by omega)]
noncomputable def s_vl (s : sT) (r : Nat) : Bool := z_v (w_z (s_w s)) (z_a (w_p (s_w s)) (w_m (s_w s)) (w_z (s_w s)) r) 64 (z_n (w_z (s_w s)) - 1)
theorem k_said (hV : s_V s) (ht : z_t (w_z (s_w s)) = 1) : ∀ (d r c fu : Nat) (S : m_M), r + d = d_z (w_p (s_w s)) → d < fu → c + d < 1000 → s_C S x s → ∃ S', b_X11_said_24 x fu S i (nI c) (nI r) = some (z_sd (s_vl s) i d r c, S') ∧ s_C S' x s ∧ e_O (x + 83) (x + 84) S S' := by
  have hz := d_z_le hV.2.2.2.1.1
  intro d
  induction d with
  | zero =>
    intro r c fu S h1 h2 h3 hC
    obtain ⟨fu, rfl⟩ : ∃ f, fu = f + 1 := ⟨fu - 1, by omega⟩
    have hs : m_ri S (x + 56) 0 = nI (d_z (w_p (s_w s))) := hC.2.2.1.1.2.1.1.1
    refine ⟨S, ?_, hC, e_O.rf⟩
    rw [b_X11_said_24, hs, if_pos (nI_le (by omega) (by omega)), z_sd]
    by_cases e : i = m_no
    · rw [if_pos (show i = (-1 : Int32) from e), if_pos e]; rfl
    · rw [if_neg (show ¬ i = (-1 : Int32) from e), if_neg e]; rfl
  | succ d ih =>
    intro r c fu S h1 h2 h3 hC
    obtain ⟨fu, rfl⟩ : ∃ f, fu = f + 1 := ⟨fu - 1, by omega⟩
    have hs : m_ri S (x + 56) 0 = nI (d_z (w_p (s_w s))) := hC.2.2.1.1.2.1.1.1
    obtain ⟨S1, a1, a2, a3⟩ := k_holds (r := r) hV hC ht (by omega)
    have a1 : f_X7_holds (x + 79) (x + 48) (x + 70) S (nI r) = some (nI (z_o (s_vl s r)), S1) := a1
    rw [b_X11_said_24, hs, if_neg (by rw [e_le (by omega) (by omega)]; omega), a1, e_call, e_oif0, z_sd]
    by_cases e : s_vl s r = true
    · rw [if_pos e, if_pos e]
      by_cases e2 : nI c = i
      · rw [if_pos e2, if_pos e2]
        exact ⟨S1, rfl, a2, a3⟩
      · rw [if_neg e2, if_neg e2, e_let, b_X11_said_79, e_let, show (1 : Int32) = nI 1 from rfl, nI_add, nI_add]
        obtain ⟨S2, b1, b2, b3⟩ := ih (r + 1) (c + 1) fu S1 (by omega) (by omega) (by omega) a2
        exact ⟨S2, b1, b2, a3.tr b3⟩
    · rw [if_neg e, if_neg e, b_X11_said_79, e_let, show (1 : Int32) = nI 1 from rfl, nI_add]
      obtain ⟨S2, b1, b2, b3⟩ := ih (r + 1) c fu S1 (by omega) (by omega) (by omega) a2
      exact ⟨S2, b1, b2, a3.tr b3⟩
theorem j_said (hV : s_V s) (hR : s_R T m s) (ht : z_t (w_z (s_w s)) = 1) : ∀ (d r c fu : Nat), r + d = d_z (w_p (s_w s)) → d < fu → b_X12_said_22 m fu T i (nI c) (nI r) = some (z_sd (s_vl s) i d r c, T) := by
  have hz := d_z_le hV.2.2.2.1.1
  have hs : m_ri T (m + 2) 2 = nI (d_z (w_p (s_w s))) := hR.2.2.1.2.1.1.1
  have h6 : m_ri T (m + 2) 2406 = nI (z_n (w_z (s_w s)) - 1) := (hR.2.2.1.1.2.2.2 ht).1
  obtain ⟨hn1, hn40, hzx, hb0⟩ := hV.2.2.2.1.2.2.2 ht
  intro d
  induction d with
  | zero =>
    intro r c fu h1 h2
    obtain ⟨fu, rfl⟩ : ∃ f, fu = f + 1 := ⟨fu - 1, by omega⟩
    rw [b_X12_said_22, show (2 : Int32) = nI 2 from rfl, e_ldi (by omega) (by omega), e_bind, hs, if_pos (nI_le (by omega) (by omega)), z_sd]
    by_cases e : i = m_no
    · rw [if_pos (show i = (-1 : Int32) from e), if_pos e]; rfl
    · rw [if_neg (show ¬ i = (-1 : Int32) from e), if_neg e]; rfl
  | succ d ih =>
    intro r c fu h1 h2
    obtain ⟨fu, rfl⟩ : ∃ f, fu = f + 1 := ⟨fu - 1, by omega⟩
    have a1 := j_holds (r := r) hV hR ht (by omega) 64 (z_n (w_z (s_w s)) - 1) (by omega) (by omega)
    have a1 : f_X12_holds 64 m T (nI (z_n (w_z (s_w s)) - 1)) (nI r) = some (nI (z_o (s_vl s r)), T) := a1
    rw [b_X12_said_22, show (2 : Int32) = nI 2 from rfl, e_ldi (by omega) (by omega), e_bind, hs, if_neg (by rw [e_le (by omega) (by omega)]; omega), show (2406 : Int32) = nI 2406 from rfl, e_ldi (by omega) (by omega), e_bind, h6, a1, e_call, e_oif0, z_sd]
    by_cases e : s_vl s r = true
    · rw [if_pos e, if_pos e]
      by_cases e2 : nI c = i
      · rw [if_pos e2, if_pos e2]
      · rw [if_neg e2, if_neg e2, e_let, b_X12_said_61, e_let, show (1 : Int32) = nI 1 from rfl, nI_add, nI_add]
        exact ih (r + 1) (c + 1) fu (by omega) (by omega)
    · rw [if_neg e, if_neg e, b_X12_said_61, e_let, show (1 : Int32) = nI 1 from rfl, nI_add]
      exact ih (r + 1) c fu (by omega) (by omega)
theorem s_said (hV : s_V s) (hC : s_C S x s) (hR : s_R T m s) : s_OK S T x m (f_X11_said x S i) (f_X12_said m T i) := by
  have hfu := m_fu_ge
  have hz := d_z_le hV.2.2.2.1.1
  have hR' := s_th (v := nI 0) hR
  have et : m_si T m 0 (0 : Int32) = m_si T m 0 (nI 0) := rfl
  have hc : m_ri S (x + 79) 0 = nI (z_t (w_z (s_w s))) := hC.2.2.1.2.2.1
  have hr : m_ri (m_si T m 0 (nI 0)) (m + 2) 2405 = nI (z_t (w_z (s_w s))) := hR'.2.2.1.1.2.2.1
  have ht1 := hV.2.2.2.1.2.2.1
  by_cases ht : z_t (w_z (s_w s)) = 1
  · rw [ht] at hc hr
    have jr := j_said (i := i) hV hR' ht (d_z (w_p (s_w s))) 0 0 m_fu (by omega) (by omega)
    have er : f_X12_said m T i = some (z_sd (s_vl s) i (d_z (w_p (s_w s))) 0 0, m_si T m 0 (nI 0)) := by
      rw [f_X12_said, e_let, et, show (2405 : Int32) = nI 2405 from rfl, e_ldi (by omega) (by omega), e_bind, hr, if_neg (by decide)]
      exact jr
    by_cases hi : (-1 : Int32) ≤ i
    · obtain ⟨S1, a1, a2, a3⟩ := k_said (i := i) hV ht (d_z (w_p (s_w s))) 0 0 m_fu S (by omega) (by omega) (by omega) hC
      refine s_OK.ask hV hC hR (v := z_sd (s_vl s) i (d_z (w_p (s_w s))) 0 0) (S' := S1) (T' := m_si T m 0 (nI 0)) ?_ er ⟨fun q hq => a3.1 q (by omega), fun q _ => by rw [a3.2.1], by rw [a3.2.1], a3.2.2⟩ y_K.th (x_O.of a3 (by omega)) y_O.th
      rw [f_X11_said, hc, if_neg (by decide), if_pos hi]
      exact a1
    · refine s_OK.ask0 (v := m_no) hV hC hR ?_ ?_
      · rw [f_X11_said, hc, if_neg (by decide), if_neg hi]; rfl
      · rw [er, z_sd_no hi _ _ _ (by omega)]
  · rw [show z_t (w_z (s_w s)) = 0 by omega] at hc hr
    refine s_OK.ask0 (v := m_no) hV hC hR ?_ ?_
    · rw [f_X11_said, hc, if_pos (show nI 0 = (0 : Int32) from rfl)]; rfl
    · rw [f_X12_said, e_let, et, show (2405 : Int32) = nI 2405 from rfl, e_ldi (by omega) (by omega), e_bind, hr, if_pos (show nI 0 = (0 : Int32) from rfl)]; rfl
end SD
