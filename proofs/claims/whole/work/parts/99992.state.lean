/-! THE STATE of both sides -/
/-- a sentence: whether it is told, how many words, each one's word, sign, number, what is left of it, where it begins -/
abbrev zT : Type := Nat × Nat × (Nat → Nat) × (Nat → Nat) × (Nat → Nat) × (Nat → Nat) × (Nat → Nat)
def z_t (Z : zT) : Nat := Z.1
def z_n (Z : zT) : Nat := Z.2.1
def z_w (Z : zT) (k : Nat) : Nat := Z.2.2.1 k
def z_s (Z : zT) (k : Nat) : Nat := Z.2.2.2.1 k
def z_m (Z : zT) (k : Nat) : Nat := Z.2.2.2.2.1 k
def z_l (Z : zT) (k : Nat) : Nat := Z.2.2.2.2.2.1 k
def z_b (Z : zT) (k : Nat) : Nat := Z.2.2.2.2.2.2 k
def z_0 : zT := (0, 0, fun _ => 0, fun _ => 0, fun _ => 0, fun _ => 0, fun _ => 0)
/-- the one side's words from a on, up to c -/
def z_C (S : m_M) (a : Nat) (Z : zT) (c : Nat) : Prop := ∀ k, k < c → m_ri S (a + 1) k = nI (z_w Z k) ∧ (19 ≤ z_w Z k → m_ri S (a + 2) k = nI (z_s Z k)) ∧ (17 ≤ z_w Z k → m_ri S (a + 3) k = nI (z_m Z k))
def z_R (S : m_M) (a : Nat) (Z : zT) : Prop := m_ri S a 0 = nI (z_t Z) ∧ (z_t Z = 1 → m_ri S a 2 = nI (z_n Z) ∧ z_C S a Z (z_n Z))
/-- the other side's words in a row N, up to c -/
def z_N (N : Nat → Int32) (Z : zT) (c : Nat) : Prop := ∀ k, k < c →
  (z_w Z k = 13 → N (4 * k) = nI 1 ∧ N (4 * k + 1) = nI (k - 1)) ∧ (z_w Z k = 12 → N (4 * k) = nI 2 ∧ N (4 * k + 1) = nI (z_l Z k) ∧ N (4 * k + 2) = nI (k - 1)) ∧ (z_w Z k = 11 → N (4 * k) = nI 3 ∧ N (4 * k + 1) = nI (z_l Z k) ∧ N (4 * k + 2) = nI (k - 1)) ∧
  (14 ≤ z_w Z k → N (4 * k) = nI (50 + z_w Z k)) ∧ (z_w Z k = 17 ∨ z_w Z k = 18 → N (4 * k + 1) = nI (z_m Z k)) ∧ (19 ≤ z_w Z k → N (4 * k + 2) = nI (z_m Z k) ∧ N (4 * k + 3) = nI (z_s Z k))
def z_Y (N : Nat → Int32) (Z : zT) : Prop := N 2405 = nI (z_t Z) ∧ (z_t Z = 1 → N 2406 = nI (z_n Z - 1) ∧ z_N (fun i => N (2407 + i)) Z (z_n Z))
/-- the words up to c stand as they must -/
def z_X (fu : Nat) (Z : zT) (c : Nat) : Prop := ∀ k, k < c → 11 ≤ z_w Z k ∧ z_w Z k ≤ 21 ∧ z_b Z k ≤ k ∧
  (z_w Z k = 13 → 1 ≤ k ∧ z_b Z k = z_b Z (k - 1)) ∧ (z_w Z k = 11 ∨ z_w Z k = 12 → 1 ≤ k ∧ z_l Z k + 1 = z_b Z (k - 1) ∧ z_b Z k = z_b Z (z_l Z k)) ∧ (14 ≤ z_w Z k → z_b Z k = k) ∧
  (z_w Z k = 17 ∨ z_w Z k = 18 → z_m Z k < fu) ∧ (19 ≤ z_w Z k → z_m Z k ≤ 999 ∧ 60 ≤ z_s Z k ∧ z_s Z k ≤ 62)
def z_V (fu : Nat) (Z : zT) : Prop := z_t Z ≤ 1 ∧ (z_t Z = 1 → 1 ≤ z_n Z ∧ z_n Z ≤ 40 ∧ z_X fu Z (z_n Z) ∧ z_b Z (z_n Z - 1) = 0)
/-- program, names, machine, sentence -/
abbrev wT : Type := pP × (Nat → Int64) × qM × zT
def w_p (W : wT) : pP := W.1
def w_n (W : wT) : Nat → Int64 := W.2.1
def w_m (W : wT) : qM := W.2.2.1
def w_z (W : wT) : zT := W.2.2.2
def w_V (W : wT) : Prop := p_W (w_p W) ∧ q_Q (w_p W) (d_of (w_p W)) (w_m W) ∧ z_V (p_fu (w_p W)) (w_z W)
def c_W (S : m_M) (a : Nat) (W : wT) : Prop := c_P S (a + 1) (w_p W) (w_n W) ∧ q_R S (a + 23) (w_m W) ∧ z_R S (a + 32) (w_z W)
def r_W (N : Nat → Int32) (W : wT) : Prop := r_P N (w_p W) ∧ r_R N (w_m W) ∧ z_Y N (w_z W)
/-- tape and its length, fault; what is there; what ran; what can be undone; images -/
abbrev sT : Type := ((Nat → Nat) × Nat × Nat) × wT × (Nat × (Nat → Int32)) × List qM × (Nat → Option wT)
def s_t (s : sT) : Nat → Nat := s.1.1
def s_N (s : sT) : Nat := s.1.2.1
def s_f (s : sT) : Nat := s.1.2.2
def s_w (s : sT) : wT := s.2.1
def s_h (s : sT) : Nat := s.2.2.1.1
def s_r (s : sT) : Nat → Int32 := s.2.2.1.2
def s_hi (s : sT) : List qM := s.2.2.2.1
def s_g (s : sT) : Nat → Option wT := s.2.2.2.2
def s_V (s : sT) : Prop := s_N s ≤ 940 ∧ (∀ i, s_t s i < 256) ∧ s_f s ≤ 4 ∧ w_V (s_w s) ∧ s_h s ≤ 1 ∧ (s_hi s).length ≤ 8 ∧ (∀ M, M ∈ s_hi s → q_Q (w_p (s_w s)) (d_of (w_p (s_w s))) M) ∧ ∀ k W, s_g s k = some W → w_V W
/-- the words that are told and the greatest lengths, of both Tokens -/
def c_kq (S : m_M) (x : Nat) : Prop := (∀ i, i < 22 → m_rj S (x + 26) i = t_kw i) ∧ (∀ i, i < 22 → m_rj S (x + 38) i = t_kw i) ∧ m_ri S (x + 25) 0 = nI 900 ∧ m_ri S (x + 37) 0 = nI 200
def k_kq (x : Nat) (S S' : m_M) : Prop := m_rj S' (x + 26) = m_rj S (x + 26) ∧ m_rj S' (x + 38) = m_rj S (x + 38) ∧ m_ri S' (x + 25) 0 = m_ri S (x + 25) 0 ∧ m_ri S' (x + 37) 0 = m_ri S (x + 37) 0
theorem c_kq.kept {S S' : m_M} {x : Nat} (h : c_kq S x) (w : k_kq x S S') : c_kq S' x := ⟨fun i hi => by rw [w.1]; exact h.1 i hi, fun i hi => by rw [w.2.1]; exact h.2.1 i hi, by rw [w.2.2.1]; exact h.2.2.1, by rw [w.2.2.2]; exact h.2.2.2⟩
/-- the one side -/
def c_tp (S : m_M) (x : Nat) (t : Nat → Nat) (N : Nat) : Prop := m_ri S x 1 = nI N ∧ (∀ i, i < N → m_ri S (x + 1) i = t_b (t i)) ∧ c_kq S x
def c_rn (S : m_M) (x h : Nat) (R : Nat → Int32) : Prop := m_ri S x 12 = nI h ∧ (h = 1 → ∀ i, i < 8 → m_ri S (x + 99) i = R i)
def c_H (S : m_M) (x : Nat) (U : List qM) : Prop := ∃ f, f < 8 ∧ m_ri S (x + 96) 1 = nI f ∧ m_ri S (x + 96) 2 = nI U.length ∧ ∀ i M, U[i]? = some M → ∃ b, m_rr S (x + 97) ((f + i) % 8) = some b ∧ q_R S b M
def c_G (S : m_M) (x : Nat) (I : Nat → Option wT) : Prop := ∀ k, k < 2 → (I k = none → m_rr S (x + 98) k = none) ∧ ∀ W, I k = some W → ∃ b, m_rr S (x + 98) k = some b ∧ c_W S b W
/-- what was made later lies behind, one apart from the other -/
def c_A (S : m_M) (x : Nat) : Prop := (∀ i b, i < 8 → m_rr S (x + 97) i = some b → x + 131 ≤ b) ∧ (∀ i b, i < 2 → m_rr S (x + 98) i = some b → x + 131 ≤ b) ∧
  (∀ i j b c, i < 8 → j < 8 → i ≠ j → m_rr S (x + 97) i = some b → m_rr S (x + 97) j = some c → b + 9 ≤ c ∨ c + 9 ≤ b) ∧ (∀ i j b c, i < 2 → j < 2 → i ≠ j → m_rr S (x + 98) i = some b → m_rr S (x + 98) j = some c → b + 37 ≤ c ∨ c + 37 ≤ b) ∧
  (∀ i j b c, i < 8 → j < 2 → m_rr S (x + 97) i = some b → m_rr S (x + 98) j = some c → b + 9 ≤ c ∨ c + 37 ≤ b)
def s_C (S : m_M) (x : Nat) (s : sT) : Prop := c_tp S x (s_t s) (s_N s) ∧ m_ri S x 5 = nI (s_f s) ∧ c_W S (x + 47) (s_w s) ∧ c_rn S x (s_h s) (s_r s) ∧ c_H S x (s_hi s) ∧ c_G S x (s_g s) ∧ c_A S x
/-- the other side -/
def r_tp (T : m_M) (m : Nat) (t : Nat → Nat) (N : Nat) : Prop := m_ri T m 2 = nI N ∧ ∀ i, i < N → m_ri T (m + 1) i = nI (t i)
def r_ow (T : m_M) (m : Nat) (W : wT) : Prop := r_W (m_ri T (m + 2)) W ∧ d_TX T m (w_p W) ∧ ∀ f, f < p_fu (w_p W) → m_rj T (m + 7) f = w_n W f
def r_rn (T : m_M) (m h : Nat) (R : Nat → Int32) : Prop := m_ri T m 44 = nI h ∧ (h = 1 → ∀ i, i < 8 → m_ri T (m + 27) i = R i)
def r_H (T : m_M) (m : Nat) (U : List qM) : Prop := m_ri T m 24 = nI U.length ∧ ∀ i M, U[i]? = some M → r_R (fun t => m_ri T (m + 5) (2195 * i + (t - 210))) M
def r_G (T : m_M) (m : Nat) (I : Nat → Option wT) : Prop := ∀ k, k < 2 → m_ri T (m + 11) k = nI (if I k = none then 0 else 1) ∧ ∀ W, I k = some W → r_W (fun t => m_ri T (m + 4) (2647 * k + t)) W ∧ ∀ f, f < p_fu (w_p W) → m_rj T (m + 9) (5 * k + f) = w_n W f
def s_R (T : m_M) (m : Nat) (s : sT) : Prop := r_tp T m (s_t s) (s_N s) ∧ m_ri T m 10 = nI (s_f s) ∧ r_ow T m (s_w s) ∧ r_rn T m (s_h s) (s_r s) ∧ r_H T m (s_hi s) ∧ r_G T m (s_g s)
section SK
variable {S S' T T' : m_M} {x m a : Nat} {Z : zT} {W : wT} {s : sT} {U : List qM} {I : Nat → Option wT}
theorem z_R.cp {o : Nat} (h : z_R S o Z) (hn : z_t Z = 1 → z_n Z ≤ 40) (w : ∀ j i, j < 4 → i < z_ln j → m_ri S' (a + j) i = m_ri S (o + j) i) : z_R S' a Z := by
  refine ⟨by rw [show m_ri S' a 0 = m_ri S o 0 from w 0 0 (by omega) (by decide)]; exact h.1, fun ht => ?_⟩
  obtain ⟨h2, h3⟩ := h.2 ht
  have hn := hn ht
  refine ⟨by rw [show m_ri S' a 2 = m_ri S o 2 from w 0 2 (by omega) (by decide)]; exact h2, fun k hk => ?_⟩
  rw [w 1 k (by omega) (show k < 40 by omega), w 2 k (by omega) (show k < 40 by omega), w 3 k (by omega) (show k < 40 by omega)]
  exact h3 k hk
theorem z_R.kept (h : z_R S a Z) (w : ∀ q, a ≤ q → q < a + 4 → m_ri S' q = m_ri S q) : z_R S' a Z := by
  simp only [z_R, z_C] at *
  rw [w a (by omega) (by omega), w (a + 1) (by omega) (by omega), w (a + 2) (by omega) (by omega), w (a + 3) (by omega) (by omega)]
  exact h
theorem c_W.kept (hV : p_W (w_p W)) (h : c_W S a W) (w : ∀ q, a ≤ q → q < a + 37 → m_ri S' q = m_ri S q) (w' : m_rj S' (a + 2) = m_rj S (a + 2)) : c_W S' a W :=
  ⟨h.1.kept hV (fun q h1 h2 => w q (by omega) (by omega)) w', h.2.1.kept (fun q h1 h2 => w q (by omega) (by omega)), h.2.2.kept (fun q h1 h2 => w q (by omega) (by omega))⟩
/-- only what is used at once was written: the one side -/
def x_K (x : Nat) (S S' : m_M) : Prop := (∀ q, q = x ∨ q = x + 1 ∨ q = x + 25 ∨ q = x + 37 ∨ (x + 47 ≤ q ∧ q < x + 83) ∨ x + 96 ≤ q → m_ri S' q = m_ri S q) ∧ (∀ q, (x + 47 ≤ q ∨ q = x + 38) → m_rj S' q = m_rj S q) ∧ m_rj S' (x + 26) = m_rj S (x + 26) ∧ m_rr S' = m_rr S
theorem c_H.kept (h : c_H S x U) (hA : c_A S x) (w : ∀ q, x + 96 ≤ q → m_ri S' q = m_ri S q) (w' : m_rr S' = m_rr S) : c_H S' x U := by
  obtain ⟨f, h1, h2, h3, h4⟩ := h
  refine ⟨f, h1, by rw [w _ (by omega)]; exact h2, by rw [w _ (by omega)]; exact h3, fun i M hi => ?_⟩
  obtain ⟨b, g1, g2⟩ := h4 i M hi
  have := hA.1 _ b (Nat.mod_lt _ (by omega)) g1
  exact ⟨b, by rw [w']; exact g1, g2.kept (fun q h _ => w q (by omega))⟩
theorem c_G.kept (h : c_G S x I) (hV : ∀ k W, I k = some W → w_V W) (hA : c_A S x) (w : ∀ q, x + 96 ≤ q → m_ri S' q = m_ri S q) (wj : ∀ q, x + 47 ≤ q → m_rj S' q = m_rj S q) (w' : m_rr S' = m_rr S) : c_G S' x I := by
  intro k hk
  obtain ⟨h1, h2⟩ := h k hk
  refine ⟨fun e => by rw [w']; exact h1 e, fun W e => ?_⟩
  obtain ⟨b, g1, g2⟩ := h2 W e
  have := hA.2.1 _ b hk g1
  exact ⟨b, by rw [w']; exact g1, g2.kept (hV k W e).1 (fun q h _ => w q (by omega)) (wj _ (by omega))⟩
theorem c_A.kept (h : c_A S x) (w' : m_rr S' = m_rr S) : c_A S' x := by simp only [c_A] at *; rw [w']; exact h
theorem s_C.kept (hV : s_V s) (h : s_C S x s) (w : x_K x S S') : s_C S' x s := by
  obtain ⟨⟨h1, h2, h3⟩, h4, h5, ⟨h6, h6'⟩, h7, h8, h9⟩ := h
  obtain ⟨_, _, _, v4, _, _, _, v8⟩ := hV
  obtain ⟨w1, w2, w3, w4⟩ := w
  refine ⟨⟨?_, fun i hi => ?_, h3.kept ⟨w3, w2 _ (by omega), by rw [w1 _ (by omega)], by rw [w1 _ (by omega)]⟩⟩, ?_, ?_, ⟨?_, fun h i hi => ?_⟩, ?_, ?_, ?_⟩
  · rw [w1 x (by omega)]; exact h1
  · rw [w1 (x + 1) (by omega)]; exact h2 i hi
  · rw [w1 x (by omega)]; exact h4
  · exact ⟨h5.1.kept v4.1 (fun q a b => w1 q (by omega)) (w2 _ (by omega)), h5.2.1.kept (fun q a b => w1 q (by omega)), h5.2.2.kept (fun q a b => w1 q (by omega))⟩
  · rw [w1 x (by omega)]; exact h6
  · rw [w1 (x + 99) (by omega)]; exact h6' h i hi
  · exact h7.kept h9 (fun q h => w1 q (by omega)) w4
  · exact h8.kept v8 h9 (fun q h => w1 q (by omega)) (fun q h => w2 q (Or.inl h)) w4
  · exact h9.kept w4
/-- only what is used at once was written: the other side -/
def y_K (m : Nat) (T T' : m_M) : Prop := (∀ j, j = 2 ∨ j = 10 ∨ j = 24 ∨ j = 44 → m_ri T' m j = m_ri T m j) ∧ (∀ q, q = m + 1 ∨ q = m + 2 ∨ q = m + 4 ∨ q = m + 5 ∨ q = m + 11 ∨ (m + 15 ≤ q ∧ q < m + 23) ∨ q = m + 27 → m_ri T' q = m_ri T q) ∧ (∀ q, q = m + 7 ∨ q = m + 9 → m_rj T' q = m_rj T q)
theorem d_TX.kept {P : pP} (h : d_TX T m P) (w : ∀ q, q = m + 2 ∨ (m + 15 ≤ q ∧ q < m + 23) → m_ri T' q = m_ri T q) : d_TX T' m P := by
  simp only [d_TX, d_T0, d_T1, d_TF, d_Sp] at *
  rw [w (m + 2) (by omega), w (m + 15) (by omega), w (m + 16) (by omega), w (m + 17) (by omega), w (m + 18) (by omega), w (m + 19) (by omega), w (m + 20) (by omega), w (m + 21) (by omega), w (m + 22) (by omega)]
  exact h
theorem s_R.kept (h : s_R T m s) (w : y_K m T T') : s_R T' m s := by
  obtain ⟨w1, w2, w3⟩ := w
  obtain ⟨h1, h2, ⟨h3, h4, h5⟩, h6, h7, h8⟩ := h
  have hd := h4.kept (T' := T') (fun q hq => w2 q (by omega))
  simp only [s_R, r_tp, r_ow, r_rn, r_H, r_G] at *
  rw [w1 2 (by omega), w1 10 (by omega), w1 24 (by omega), w1 44 (by omega), w2 (m + 1) (by omega), w2 (m + 2) (by omega), w2 (m + 4) (by omega), w2 (m + 5) (by omega), w2 (m + 11) (by omega), w2 (m + 27) (by omega), w3 (m + 7) (by omega), w3 (m + 9) (by omega)]
  exact ⟨h1, h2, ⟨h3, hd, h5⟩, h6, h7, h8⟩
/-- what each side may write at all -/
def x_O (x : Nat) (S S' : m_M) : Prop := ∀ q, x + 100 ≤ q → q < x + 131 → m_ri S' q = m_ri S q ∧ m_rj S' q = m_rj S q ∧ m_rr S' q = m_rr S q
def y_O (m : Nat) (T T' : m_M) : Prop := (∀ q, q < m ∨ m + 30 ≤ q → m_ri T' q = m_ri T q ∧ m_rj T' q = m_rj T q) ∧ m_rr T' = m_rr T
/-- a call's answers are one, and what is there is there on both sides -/
def s_OK (S T : m_M) (x m : Nat) (cl re : Option (Int32 × m_M)) : Prop := ∃ S' T' a s', cl = some (a, S') ∧ re = some (a, T') ∧ s_V s' ∧ s_C S' x s' ∧ s_R T' m s' ∧ x_O x S S' ∧ y_O m T T'
theorem y_O.si {j : Nat} {v : Int32} {q : Nat} (h : y_O m T T') (h1 : m ≤ q) (h2 : q < m + 30) : y_O m T (m_si T' q j v) := ⟨fun p hp => ⟨by rw [e_rq (by omega)]; exact (h.1 p hp).1, (h.1 p hp).2⟩, h.2⟩
theorem y_O.rf : y_O m T T := ⟨fun _ _ => ⟨rfl, rfl⟩, rfl⟩
theorem x_O.rf : x_O x S S := fun _ _ _ => ⟨rfl, rfl, rfl⟩
theorem y_K.th {v : Int32} : y_K m T (m_si T m 0 v) := ⟨fun j hj => by rw [e_rn (by omega)], fun q hq => by rw [e_rq (by omega)], fun _ _ => rfl⟩
/-- a call that only asks -/
theorem s_OK.ask {S' T' : m_M} {v : Int32} (hV : s_V s) (hC : s_C S x s) (hR : s_R T m s) {cl re : Option (Int32 × m_M)} (h1 : cl = some (v, S')) (h2 : re = some (v, T')) (k1 : x_K x S S') (k2 : y_K m T T') (o1 : x_O x S S') (o2 : y_O m T T') : s_OK S T x m cl re :=
  ⟨S', T', v, s, h1, h2, hV, hC.kept hV k1, hR.kept k2, o1, o2⟩
end SK
