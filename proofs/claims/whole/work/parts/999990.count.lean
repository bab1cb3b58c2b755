/-! how many bits a number has -/
theorem e_btn {n i : Nat} (hi : i < 32) : bt (nI n) i = n.testBit i := by
  show (BitVec.ofNat 32 n).getLsbD i = _
  rw [BitVec.getLsbD_ofNat, decide_eq_true hi, Bool.true_and]
theorem e_andn (a b : Nat) : nI a &&& nI b = nI (a &&& b) := b_ext fun i hi => by rw [b_and, e_btn hi, e_btn hi, e_btn hi, Nat.testBit_and]
theorem e_ushn {n k : Nat} (hn : n < 4294967296) (hk : k < 32) : ((nI n).toUInt32 >>> ((nI k).toUInt32 &&& Int32.toUInt32 31)).toInt32 = nI (n / 2 ^ k) := b_ext fun i hi => by
  rw [b_ushr k hk, e_btn hi, Nat.testBit_div_two_pow]
  rcases Nat.lt_or_ge (k + i) 32 with h | h
  · rw [e_btn h, Nat.add_comm]
  · rw [b_big h, Nat.add_comm]
    exact (Nat.testBit_lt_two_pow (Nat.lt_of_lt_of_le hn (show 2 ^ 32 ≤ 2 ^ (k + i) from Nat.pow_le_pow_right (by omega) h))).symm
theorem e_sp8 (X Y : Nat) : X &&& Y = (X % 256 &&& Y % 256) + 256 * (X / 256 &&& Y / 256) := by
  have h1 : (X &&& Y) % 2 ^ 8 = (X % 2 ^ 8 &&& Y % 2 ^ 8) := Nat.and_mod_two_pow
  have h2 : (X &&& Y) / 2 ^ 8 = (X / 2 ^ 8 &&& Y / 2 ^ 8) := Nat.and_div_two_pow
  rw [show (2 ^ 8 : Nat) = 256 from rfl] at h1 h2
  rw [← h1, ← h2]; omega
theorem e_sp24 {x0 x1 x2 y : Nat} (h0 : x0 < 256) (h1 : x1 < 256) (h2 : x2 < 256) (hy : y < 256) : (x0 + 256 * x1 + 65536 * x2) &&& (y + 256 * y + 65536 * y + 16777216 * y) = (x0 &&& y) + 256 * (x1 &&& y) + 65536 * (x2 &&& y) := by
  rw [e_sp8, show (x0 + 256 * x1 + 65536 * x2) % 256 = x0 by omega, show (y + 256 * y + 65536 * y + 16777216 * y) % 256 = y by omega, show (x0 + 256 * x1 + 65536 * x2) / 256 = x1 + 256 * x2 by omega, show (y + 256 * y + 65536 * y + 16777216 * y) / 256 = y + 256 * y + 65536 * y by omega]
  rw [e_sp8 (x1 + 256 * x2), show (x1 + 256 * x2) % 256 = x1 by omega, show (y + 256 * y + 65536 * y) % 256 = y by omega, show (x1 + 256 * x2) / 256 = x2 by omega, show (y + 256 * y + 65536 * y) / 256 = y + 256 * y by omega]
  rw [e_sp8 x2, show x2 % 256 = x2 by omega, show (y + 256 * y) % 256 = y by omega, show x2 / 256 = 0 by omega, Nat.zero_and]
  omega
def e_g1 (a : Nat) : Nat := a - (a / 2 &&& 85)
def e_g2 (a : Nat) : Nat := (a &&& 51) + (a / 4 &&& 51)
def e_g3 (a : Nat) : Nat := (a + a / 16) &&& 15
theorem e_bc24 {S : m_M} {x : Int32} (h : ∀ i, 24 ≤ i → i < 32 → bt x i = false) : f_J6_bitCount_0f7a4 S x = some (nI (fb_ct (bt x) 24), S) := by
  have K1 : ∀ a, a < 256 → ∀ t, t < 2 → (a / 2 + 128 * t &&& 85) = (a / 2 &&& 85) ∧ (a / 2 &&& 85) ≤ a := by decide +kernel
  have K2 : ∀ a, a < 256 → ∀ t, t < 4 → (a / 4 + 64 * t &&& 51) = (a / 4 &&& 51) := by decide +kernel
  have K3 : ∀ a, a < 69 → ∀ t, t < 16 → (a + a / 16 + 16 * t &&& 15) = e_g3 a := by decide +kernel
  have K4 : ∀ a, a < 256 → e_g1 a < 256 ∧ e_g2 (e_g1 a) < 69 ∧ e_g2 (e_g1 a) % 16 < 5 ∧ e_g3 (e_g2 (e_g1 a)) ≤ 8 ∧ e_g3 (e_g2 (e_g1 a)) = fb_ct (fun i => a.testBit i) 8 := by decide +kernel
  obtain ⟨N, hN, rfl⟩ : ∃ N, N < 16777216 ∧ x = nI N := by
    refine ⟨x.toBitVec.toNat, ?_, ?_⟩
    · apply Nat.lt_pow_two_of_testBit (n := 24)
      intro i hi
      rcases Nat.lt_or_ge i 32 with h' | h'
      · exact h i hi h'
      · exact BitVec.getLsbD_of_ge x.toBitVec i h'
    · exact b_ext fun i hi => by rw [e_btn hi]; rfl
  have hbits : fb_ct (bt (nI N)) 24 = fb_ct (fun i => N.testBit i) 24 := fb_ct_cong fun i hi => e_btn (by omega)
  obtain ⟨a, b, c, ha, hb, hc, e⟩ : ∃ a b c, a < 256 ∧ b < 256 ∧ c < 256 ∧ N = a + 256 * b + 65536 * c := ⟨N % 256, N / 256 % 256, N / 65536, by omega, by omega, by omega, by omega⟩
  have hcnt : fb_ct (fun i => N.testBit i) 24 = fb_ct (fun i => a.testBit i) 8 + fb_ct (fun i => b.testBit i) 8 + fb_ct (fun i => c.testBit i) 8 := by
    have t0 : ∀ i, i < 8 → N.testBit i = a.testBit i := fun i hi => by
      rw [show a = N % 2 ^ 8 by omega, Nat.testBit_mod_two_pow, decide_eq_true hi, Bool.true_and]
    have t1 : ∀ i, i < 8 → N.testBit (8 + i) = b.testBit i := fun i hi => by
      rw [show b = N / 2 ^ 8 % 2 ^ 8 by omega, Nat.testBit_mod_two_pow, decide_eq_true hi, Bool.true_and, Nat.testBit_div_two_pow, Nat.add_comm]
    have t2 : ∀ i, i < 8 → N.testBit (16 + i) = c.testBit i := fun i hi => by
      rw [show c = N / 2 ^ 16 by omega, Nat.testBit_div_two_pow, Nat.add_comm]
    have f0 : fb_ct (fun i => N.testBit i) 8 = fb_ct (fun i => a.testBit i) 8 := fb_ct_cong t0
    have f1 : fb_ct (fun k => N.testBit (8 + k)) 8 = fb_ct (fun i => b.testBit i) 8 := fb_ct_cong t1
    have f2 : fb_ct (fun k => N.testBit (8 + (8 + k))) 8 = fb_ct (fun i => c.testBit i) 8 := fb_ct_cong (fun i hi => by rw [← t2 i hi]; congr 1; omega)
    have g1 : fb_ct (fun i => N.testBit i) 24 = fb_ct (fun i => N.testBit i) 8 + fb_ct (fun k => N.testBit (8 + k)) 16 := fb_ct_split (fun i => N.testBit i) 8 16
    have g2 : fb_ct (fun k => N.testBit (8 + k)) 16 = fb_ct (fun k => N.testBit (8 + k)) 8 + fb_ct (fun k => N.testBit (8 + (8 + k))) 8 := fb_ct_split (fun k => N.testBit (8 + k)) 8 8
    omega
  obtain ⟨a1, a2, a3, a4, a5⟩ := K4 a ha
  obtain ⟨b1, b2, b3, b4, b5⟩ := K4 b hb
  obtain ⟨c1, c2, c3, c4, c5⟩ := K4 c hc
  have s1 : nI N - (((nI N).toUInt32 >>> ((1 : Int32).toUInt32 &&& Int32.toUInt32 31)).toInt32 &&& (1431655765 : Int32)) = nI (e_g1 a + 256 * e_g1 b + 65536 * e_g1 c) := by
    rw [show (1 : Int32) = nI 1 from rfl, e_ushn (by omega) (by omega), show (1431655765 : Int32) = nI (85 + 256 * 85 + 65536 * 85 + 16777216 * 85) from rfl, e_andn]
    rw [show N / 2 ^ 1 = (a / 2 + 128 * (b % 2)) + 256 * (b / 2 + 128 * (c % 2)) + 65536 * (c / 2 + 128 * 0) by omega, e_sp24 (by omega) (by omega) (by omega) (by omega)]
    obtain ⟨p1, q1⟩ := K1 a ha (b % 2) (by omega)
    obtain ⟨p2, q2⟩ := K1 b hb (c % 2) (by omega)
    obtain ⟨p3, q3⟩ := K1 c hc 0 (by omega)
    rw [p1, p2, p3, e, e_sub (by omega)]
    congr 1
    simp only [e_g1]
    omega
  have s2 : (nI (e_g1 a + 256 * e_g1 b + 65536 * e_g1 c) &&& (858993459 : Int32)) + (((nI (e_g1 a + 256 * e_g1 b + 65536 * e_g1 c)).toUInt32 >>> ((2 : Int32).toUInt32 &&& Int32.toUInt32 31)).toInt32 &&& (858993459 : Int32)) = nI (e_g2 (e_g1 a) + 256 * e_g2 (e_g1 b) + 65536 * e_g2 (e_g1 c)) := by
    generalize e_g1 a = u at *
    generalize e_g1 b = v at *
    generalize e_g1 c = w at *
    rw [show (2 : Int32) = nI 2 from rfl, e_ushn (by omega) (by omega), show (858993459 : Int32) = nI (51 + 256 * 51 + 65536 * 51 + 16777216 * 51) from rfl, e_andn, e_andn]
    rw [show (u + 256 * v + 65536 * w) / 2 ^ 2 = (u / 4 + 64 * (v % 4)) + 256 * (v / 4 + 64 * (w % 4)) + 65536 * (w / 4 + 64 * 0) by omega, e_sp24 (by omega) (by omega) (by omega) (by omega), e_sp24 (by omega) (by omega) (by omega) (by omega), K2 u a1 (v % 4) (by omega), K2 v b1 (w % 4) (by omega), K2 w c1 0 (by omega), nI_add]
    congr 1
    simp only [e_g2]
    omega
  generalize e_g2 (e_g1 a) = u at *
  generalize e_g2 (e_g1 b) = v at *
  generalize e_g2 (e_g1 c) = w at *
  have s3 : (nI (u + 256 * v + 65536 * w) + ((nI (u + 256 * v + 65536 * w)).toUInt32 >>> ((4 : Int32).toUInt32 &&& Int32.toUInt32 31)).toInt32) &&& (252645135 : Int32) = nI (e_g3 u + 256 * e_g3 v + 65536 * e_g3 w) := by
    rw [show (4 : Int32) = nI 4 from rfl, e_ushn (by omega) (by omega), nI_add, show (252645135 : Int32) = nI (15 + 256 * 15 + 65536 * 15 + 16777216 * 15) from rfl, e_andn]
    rw [show u + 256 * v + 65536 * w + (u + 256 * v + 65536 * w) / 2 ^ 4 = (u + u / 16 + 16 * (v % 16)) + 256 * (v + v / 16 + 16 * (w % 16)) + 65536 * (w + w / 16 + 16 * 0) by omega, e_sp24 (by omega) (by omega) (by omega) (by omega), K3 u a2 (v % 16) (by omega), K3 v b2 (w % 16) (by omega), K3 w c2 0 (by omega)]
  rw [hbits, hcnt, ← a5, ← b5, ← c5]
  generalize e_g3 u = p at *
  generalize e_g3 v = q at *
  generalize e_g3 w = r at *
  have s4 : nI (p + 256 * q + 65536 * r) + ((nI (p + 256 * q + 65536 * r)).toUInt32 >>> ((8 : Int32).toUInt32 &&& Int32.toUInt32 31)).toInt32 = nI (p + q + 256 * (q + r) + 65536 * r) := by
    rw [show (8 : Int32) = nI 8 from rfl, e_ushn (by omega) (by omega), nI_add]
    congr 1; omega
  have s5 : nI (p + q + 256 * (q + r) + 65536 * r) + ((nI (p + q + 256 * (q + r) + 65536 * r)).toUInt32 >>> ((16 : Int32).toUInt32 &&& Int32.toUInt32 31)).toInt32 = nI (p + q + r + 256 * (q + r) + 65536 * r) := by
    rw [show (16 : Int32) = nI 16 from rfl, e_ushn (by omega) (by omega), nI_add]
    congr 1; omega
  have s6 : nI (p + q + r + 256 * (q + r) + 65536 * r) &&& (63 : Int32) = nI (p + q + r) := by
    rw [pk_andN (by omega) 6 (by decide)]
    congr 1; omega
  rw [f_J6_bitCount_0f7a4, e_let, s1, e_let, s2, e_let, s3, e_let, s4, e_let, s5, s6]
section AC
variable {S T : m_M} {x m : Nat} {s : sT} {i : Int32} {P : pP}
theorem j_finMany (hW : p_W P) (hP : r_P (m_ri T (m + 2)) P) (hD : d_TX T m P) : f_X12_finiteMany m T = some (nI (fb_ct (fun r => d_dec (d_fin P r)) (d_z P)), T) := by
  have hfu := m_fu_ge
  have hz := d_z_le hW
  have h2 := hD.1.1
  have : ∀ (d k fu : Nat), k + d = d_z P → d < fu → b_X12_finiteMany_4 m fu T (nI (fb_ct (fun r => d_dec (d_fin P r)) k)) (nI k) = some (nI (fb_ct (fun r => d_dec (d_fin P r)) (d_z P)), T) := by
    intro d
    induction d with
    | zero =>
      intro k fu hk hf
      obtain ⟨fu, rfl⟩ : ∃ f, fu = f + 1 := ⟨fu - 1, by omega⟩
      obtain rfl : k = d_z P := by omega
      simp (disch := omega) only [e_let, e_call, e_cal0, e_bind, e_lit, e_ofN, e_neg, nI_add, pk_mul, e_sub, e_ldi, e_sti, e_ldj, e_stj, e_le_t, e_le_f, e_lt_t, e_lt_f, e_eq_t, e_eq_f, e_no_eq, e_no_eq', e_no_rfl, e_no_lt, e_no_le, e_le_no, e_lt_no, if_true, if_false, ↓reduceIte, e_rs, e_rq, e_rn, e_ji, e_ki, e_ij, e_kj, e_js, e_jq, e_jn, e_cs, e_cq, e_jc, e_kc, e_js', e_jcq, e_icj, e_kcj, or_true, true_or, or_false, false_or, and_true, true_and, not_true_eq_false, not_false_eq_true, b_X12_finiteMany_4, h2]
    | succ d ih =>
      intro k fu hk hf
      obtain ⟨fu, rfl⟩ : ∃ f, fu = f + 1 := ⟨fu - 1, by omega⟩
      have ih := ih (k + 1) fu (by omega) (by omega)
      have g := j_isFinite hW hP hD (show k < d_z P by omega)
      by_cases e : d_dec (d_fin P k) = true
      · rw [if_pos e] at g
        rw [e_ct e] at ih
        simp (disch := omega) only [e_let, e_call, e_cal0, e_bind, e_lit, e_ofN, e_neg, nI_add, pk_mul, e_sub, e_ldi, e_sti, e_ldj, e_stj, e_le_t, e_le_f, e_lt_t, e_lt_f, e_eq_t, e_eq_f, e_no_eq, e_no_eq', e_no_rfl, e_no_lt, e_no_le, e_le_no, e_lt_no, if_true, if_false, ↓reduceIte, e_rs, e_rq, e_rn, e_ji, e_ki, e_ij, e_kj, e_js, e_jq, e_jn, e_cs, e_cq, e_jc, e_kc, e_js', e_jcq, e_icj, e_kcj, or_true, true_or, or_false, false_or, and_true, true_and, not_true_eq_false, not_false_eq_true, b_X12_finiteMany_4, b_X12_finiteMany_25, h2, g, ih]
      · rw [if_neg e] at g
        rw [e_cf (Bool.eq_false_iff.mpr e)] at ih
        simp (disch := omega) only [e_let, e_call, e_cal0, e_bind, e_lit, e_ofN, e_neg, nI_add, pk_mul, e_sub, e_ldi, e_sti, e_ldj, e_stj, e_le_t, e_le_f, e_lt_t, e_lt_f, e_eq_t, e_eq_f, e_no_eq, e_no_eq', e_no_rfl, e_no_lt, e_no_le, e_le_no, e_lt_no, if_true, if_false, ↓reduceIte, e_rs, e_rq, e_rn, e_ji, e_ki, e_ij, e_kj, e_js, e_jq, e_jn, e_cs, e_cq, e_jc, e_kc, e_js', e_jcq, e_icj, e_kcj, or_true, true_or, or_false, false_or, and_true, true_and, not_true_eq_false, not_false_eq_true, b_X12_finiteMany_4, b_X12_finiteMany_25, h2, g, ih]
  exact this (d_z P) 0 m_fu (by omega) (by omega)
theorem s_count (hV : s_V s) (hC : s_C S x s) (hR : s_R T m s) : s_OK S T x m (f_X11_count x S i) (f_X12_count m T i) := by
  have hW := hV.2.2.2.1.1
  have hX : d_XX S (x + 56) (w_p (s_w s)) := hC.2.2.1.1.2.1
  have hP : p_R S (x + 48) (w_p (s_w s)) := hC.2.2.1.1.1
  have hQ : r_P (m_ri (m_si T m 0 (nI 0)) (m + 2)) (w_p (s_w s)) := (s_th hR).2.2.1.1.1
  have hD : d_TX (m_si T m 0 (nI 0)) m (w_p (s_w s)) := (s_th hR).2.2.1.2.1
  have c4 := hC.1.1
  have d4 := (s_th (v := nI 0) hR).1.1
  generalize w_p (s_w s) = P at *
  have hz := d_z_le hW
  have et : m_si T m 0 (0 : Int32) = m_si T m 0 (nI 0) := rfl
  rcases e_sw i 5 with ⟨k, hk, rfl⟩ | h
  · have ek : k = 0 ∨ k = 1 ∨ k = 2 ∨ k = 3 ∨ k = 4 := by omega
    rcases ek with rfl | rfl | rfl | rfl | rfl
    · refine s_OK.ask0 (v := nI (p_fu P)) hV hC hR ?_ ?_
      · rw [f_X11_count, if_pos (show nI 0 = (0 : Int32) from rfl), hP.1]
      · rw [f_X12_count, e_let, et, if_pos (show nI 0 = (0 : Int32) from rfl), show (0 : Int32) = nI 0 from rfl, e_ldi (by omega) (by omega), e_bind, hQ.1]
    · refine s_OK.ask0 (v := nI (p_ln P)) hV hC hR ?_ ?_
      · rw [f_X11_count, if_neg (by decide), if_pos (show nI 1 = (1 : Int32) from rfl), hP.2.1]
      · rw [f_X12_count, e_let, et, if_neg (by decide), if_pos (show nI 1 = (1 : Int32) from rfl), show (1 : Int32) = nI 1 from rfl, e_ldi (by omega) (by omega), e_bind, hQ.2.1]
    · refine s_OK.ask0 (v := nI (d_z P)) hV hC hR ?_ ?_
      · rw [f_X11_count, if_neg (by decide), if_neg (by decide), if_pos (show nI 2 = (2 : Int32) from rfl), hX.1.1]
      · rw [f_X12_count, e_let, et, if_neg (by decide), if_neg (by decide), if_pos (show nI 2 = (2 : Int32) from rfl), show (2 : Int32) = nI 2 from rfl, e_ldi (by omega) (by omega), e_bind, hD.1.1]
    · have g := j_finMany hW hQ hD
      have hb : ∀ r, r < 32 → bt (m_ri S (x + 56) 1) r = d_dec (r < d_z P ∧ d_fin P r) := fun r hr => Bool.eq_iff_iff.mpr (by rw [d_dec_t]; exact hX.2.2.2 r hr)
      have g2 := e_bc24 (S := S) (x := m_ri S (x + 56) 1) (fun r h1 h2 => by
        rw [hb r h2]
        apply Bool.eq_false_iff.mpr
        rw [ne_eq, d_dec_t]; rintro ⟨h, _⟩; omega)
      have ect : fb_ct (bt (m_ri S (x + 56) 1)) 24 = fb_ct (fun r => d_dec (d_fin P r)) (d_z P) := by
        obtain ⟨k, hk⟩ : ∃ k, 24 = d_z P + k := ⟨24 - d_z P, by omega⟩
        have f0 : fb_ct (bt (m_ri S (x + 56) 1)) (d_z P) = fb_ct (fun r => d_dec (d_fin P r)) (d_z P) := fb_ct_cong (fun r hr => by
          rw [hb r (by omega)]
          apply Bool.eq_iff_iff.mpr
          rw [d_dec_t, d_dec_t]
          exact ⟨fun h => h.2, fun h => ⟨hr, h⟩⟩)
        have f1 : fb_ct (fun j => bt (m_ri S (x + 56) 1) (d_z P + j)) k = 0 := fb_ct_zero.mpr (fun r hr => by
          rw [hb _ (by omega)]
          apply Bool.eq_false_iff.mpr
          rw [ne_eq, d_dec_t]; rintro ⟨h, _⟩; omega)
        rw [hk, fb_ct_split, f0, f1]
        exact Nat.add_zero _
      rw [ect] at g2
      refine s_OK.ask0 (v := nI (fb_ct (fun r => d_dec (d_fin P r)) (d_z P))) hV hC hR ?_ ?_
      · rw [f_X11_count, if_neg (by decide), if_neg (by decide), if_neg (by decide), if_pos (show nI 3 = (3 : Int32) from rfl), g2]; rfl
      · rw [f_X12_count, e_let, et, if_neg (by decide), if_neg (by decide), if_neg (by decide), if_pos (show nI 3 = (3 : Int32) from rfl), g]; rfl
    · refine s_OK.ask0 (v := nI (s_N s)) hV hC hR ?_ ?_
      · rw [f_X11_count, if_neg (by decide), if_neg (by decide), if_neg (by decide), if_neg (by decide), if_pos (show nI 4 = (4 : Int32) from rfl), c4]
      · rw [f_X12_count, e_let, et, if_neg (by decide), if_neg (by decide), if_neg (by decide), if_neg (by decide), if_pos (show nI 4 = (4 : Int32) from rfl), d4]
  · have h0 : ¬ i = (0 : Int32) := h 0 (by omega)
    have h1 : ¬ i = (1 : Int32) := h 1 (by omega)
    have h2 : ¬ i = (2 : Int32) := h 2 (by omega)
    have h3 : ¬ i = (3 : Int32) := h 3 (by omega)
    have h4 : ¬ i = (4 : Int32) := h 4 (by omega)
    refine s_OK.ask0 (v := m_no) hV hC hR ?_ ?_
    · rw [f_X11_count, if_neg h0, if_neg h1, if_neg h2, if_neg h3, if_neg h4]; rfl
    · rw [f_X12_count, e_let, et, if_neg h0, if_neg h1, if_neg h2, if_neg h3, if_neg h4]; rfl
end AC
