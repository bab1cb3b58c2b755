/-! machines as they were: the one side -/
theorem e_m8 : ∀ a, a < 32 → nI a - nI a / (8 : Int32) * (8 : Int32) = nI (a % 8) := by decide +kernel
def q_kp (U : List qM) (M : qM) : List qM := (if U.length = 8 then U.tail else U) ++ [M]
/-- what was made later lies below nx -/
def h_B (S : m_M) (x nx : Nat) : Prop := x + 131 ≤ nx ∧ (∀ i b, i < 8 → m_rr S (x + 97) i = some b → b + 9 ≤ nx) ∧ ∀ i b, i < 2 → m_rr S (x + 98) i = some b → b + 37 ≤ nx
section HI
variable {S S' T T' : m_M} {x m a nx : Nat} {s s' : sT} {M : qM} {P : pP} {U : List qM} {I : Nat → Option wT}
theorem e_new {q p : Nat} (h : q ≠ p) : m_ri (m_new S p) q = m_ri S q ∧ m_rj (m_new S p) q = m_rj S q ∧ m_rr (m_new S p) q = m_rr S q := ⟨m_new_ri_ne h, m_new_rj_ne h, m_new_rr_ne h⟩
/-- cells from a on, so many, are new -/
def n_O (a n : Nat) (S S' : m_M) : Prop := ∀ q, q < a ∨ a + n ≤ q → m_ri S' q = m_ri S q ∧ m_rj S' q = m_rj S q ∧ m_rr S' q = m_rr S q
theorem n_O.tr {n : Nat} {S'' : m_M} (h : n_O a n S S') (h' : n_O a n S' S'') : n_O a n S S'' := fun q hq => ⟨(h' q hq).1.trans (h q hq).1, (h' q hq).2.1.trans (h q hq).2.1, (h' q hq).2.2.trans (h q hq).2.2⟩
theorem n_O.si {n q i : Nat} {v : Int32} (h : n_O a n S S') (h1 : a ≤ q) (h2 : q < a + n) : n_O a n S (m_si S' q i v) := fun p hp => ⟨by rw [e_rq (by omega)]; exact (h p hp).1, (h p hp).2⟩
theorem n_O.ci {n q : Nat} {f : Nat → Int32} (h : n_O a n S S') (h1 : a ≤ q) (h2 : q < a + n) : n_O a n S (m_ci S' q f) := fun p hp => ⟨by rw [e_cq (by omega)]; exact (h p hp).1, (h p hp).2⟩
theorem n_O.nw {n q : Nat} (h : n_O a n S S') (h1 : a ≤ q) (h2 : q < a + n) : n_O a n S (m_new S' q) := fun p hp => by
  have e := e_new (S := S') (q := p) (p := q) (by omega)
  have h := h p hp
  exact ⟨e.1.trans h.1, e.2.1.trans h.2.1, e.2.2.trans h.2.2⟩
theorem n_O.rf {n : Nat} : n_O a n S S := fun _ _ => ⟨rfl, rfl, rfl⟩
theorem k_initM : ∃ S', f_X2_init a S = some S' ∧ n_O a 9 S S' := by
  rw [f_X2_init]
  simp only [e_let]
  rw [k_fills (by omega), e_cal0]
  refine ⟨_, rfl, ?_⟩
  refine n_O.ci ?_ (by omega) (by omega)
  refine n_O.nw ?_ (by omega) (by omega)
  refine n_O.nw ?_ (by omega) (by omega)
  refine n_O.nw ?_ (by omega) (by omega)
  refine n_O.nw ?_ (by omega) (by omega)
  refine n_O.nw ?_ (by omega) (by omega)
  refine n_O.nw ?_ (by omega) (by omega)
  refine n_O.nw ?_ (by omega) (by omega)
  refine n_O.nw ?_ (by omega) (by omega)
  refine n_O.si ?_ (by omega) (by omega)
  refine n_O.si ?_ (by omega) (by omega)
  refine n_O.si ?_ (by omega) (by omega)
  refine n_O.si ?_ (by omega) (by omega)
  refine n_O.si ?_ (by omega) (by omega)
  refine n_O.si ?_ (by omega) (by omega)
  refine n_O.si ?_ (by omega) (by omega)
  refine n_O.si ?_ (by omega) (by omega)
  refine n_O.si ?_ (by omega) (by omega)
  refine n_O.si ?_ (by omega) (by omega)
  refine n_O.si ?_ (by omega) (by omega)
  refine n_O.si ?_ (by omega) (by omega)
  exact n_O.rf
theorem e_srs {q i : Nat} {v : Option Nat} : m_rr (m_sr S q i v) q i = v := by simp [m_rr, m_sr, va_up]
theorem e_srn {q i j : Nat} {v : Option Nat} (h : j ≠ i) : m_rr (m_sr S q i v) q j = m_rr S q j := by simp [m_rr, m_sr, va_up, h]
theorem e_srq {q p i : Nat} {v : Option Nat} (h : p ≠ q) : m_rr (m_sr S q i v) p = m_rr S p := by simp [m_rr, m_sr, va_up, h]
/-- entries of the ring: from f on -/
def h_E (S : m_M) (x f : Nat) (U : List qM) : Prop := ∀ i M, U[i]? = some M → ∃ b, m_rr S (x + 97) ((f + i) % 8) = some b ∧ q_R S b M
/-- a machine is laid into a block that is there -/
theorem k_kp67 {f b : Nat} (hf : f < 8) (hU : U.length < 8) (h1 : m_ri S (x + 96) 1 = nI f) (h2 : m_ri S (x + 96) 2 = nI U.length) (hE : h_E S x f U) (hM : q_R S (x + 70) M) (hB : q_B P M) (hG : c_G S x I) (hV : ∀ k W, I k = some W → w_V W) (hA : c_A S x) (hb : m_rr S (x + 97) ((f + U.length) % 8) = some b) :
    ∃ S', b_X0_keep_67 nx (x + 96) (x + 70) S (nI ((f + U.length) % 8)) = some S' ∧ c_H S' x (U ++ [M]) ∧ c_A S' x ∧ c_G S' x I ∧ (∀ q, q < x + 131 → q ≠ x + 96 → m_ri S' q = m_ri S q) ∧ m_rj S' = m_rj S ∧ m_rr S' = m_rr S := by
  have hat : (f + U.length) % 8 < 8 := Nat.mod_lt _ (by omega)
  have hb1 := hA.1 _ b hat hb
  obtain ⟨S1, a1, a2⟩ := k_copyM (a := b) (o := x + 70) (S := S) (Or.inr (by omega)) (by
    have := hM.1 11 (by omega) (by omega) (by omega)
    have h11 := hB.2.2.2.2.2.2.2.2.2.2.2.2.2.2.1
    rcases Nat.lt_or_ge (q_sc M 11) 1 with h | h
    · rw [show q_sc M 11 = 0 by omega] at this; exact Or.inl this
    · rw [show q_sc M 11 = 1 by omega] at this; exact Or.inr this)
  have rj := a2.2.2.2.1 rfl
  have rr := a2.2.2.2.2.2
  have ro := a2.2.1
  refine ⟨m_si S1 (x + 96) 2 (nI (U.length + 1)), ?_, ⟨f, hf, ?_, ?_, fun i M' hi => ?_⟩, ?_, fun k hk => ⟨fun e => ?_, fun W e => ?_⟩, fun q h1 h2 => ?_, rj, rr⟩
  · rw [b_X0_keep_67, e_ldr hat (by omega), e_bind, hb]
    show (m_cal0 (f_X2_copyFrom b (x + 70) S) _) = _
    rw [a1, e_cal0, e_let, ro _ (by omega), h2, show (1 : Int32) = nI 1 from rfl, nI_add]
  · rw [e_rn (by omega), ro _ (by omega)]; exact h1
  · rw [e_rs, List.length_append]; rfl
  · by_cases hl : i < U.length
    · rw [List.getElem?_append_left hl] at hi
      obtain ⟨c, g1, g2⟩ := hE i M' hi
      have hc1 := hA.1 _ c (Nat.mod_lt _ (by omega)) g1
      have hap := hA.2.2.1 _ _ c b (Nat.mod_lt _ (by omega)) hat (show (f + i) % 8 ≠ (f + U.length) % 8 by omega) g1 hb
      refine ⟨c, by rw [show m_rr (m_si S1 (x + 96) 2 (nI (U.length + 1))) = m_rr S1 from rfl, rr]; exact g1, g2.kept (fun q h1 h2 => ?_)⟩
      rw [e_rq (by omega), ro q (by omega)]
    · rw [List.getElem?_append_right (by omega)] at hi
      have hi0 : i = U.length := by
        rcases Nat.lt_or_ge (i - U.length) 1 with h | h
        · omega
        · rw [List.getElem?_eq_none (by simpa using h)] at hi; cases hi
      subst hi0
      rw [Nat.sub_self] at hi
      obtain rfl : M = M' := by simpa using hi
      refine ⟨b, by rw [show m_rr (m_si S1 (x + 96) 2 (nI (U.length + 1))) = m_rr S1 from rfl, rr]; exact hb, ?_⟩
      have := hM.cp (S' := S1) (a := b) (by have := hB.1; omega) hB.2.1 a2.1
      exact this.kept (fun q h1 h2 => by rw [e_rq (by omega)])
  · exact hA.kept rr
  · show m_rr S1 (x + 98) k = none
    rw [rr]; exact (hG k hk).1 e
  · obtain ⟨c, g1, g2⟩ := (hG k hk).2 W e
    have hc1 := hA.2.1 _ c hk g1
    have hap := hA.2.2.2.2 _ _ b c hat hk hb g1
    refine ⟨c, by rw [show m_rr (m_si S1 (x + 96) 2 (nI (U.length + 1))) = m_rr S1 from rfl, rr]; exact g1, g2.kept (hV k W e).1 (fun q h1 h2 => ?_) (by rw [e_ji, rj])⟩
    rw [e_rq (by omega), ro q (by omega)]
  · rw [e_rq h2, ro q (by omega)]
/-- the block may have to be made first -/
theorem k_kp32 {f : Nat} (hf : f < 8) (hU : U.length < 8) (h1 : m_ri S (x + 96) 1 = nI f) (h2 : m_ri S (x + 96) 2 = nI U.length) (hE : h_E S x f U) (hM : q_R S (x + 70) M) (hB : q_B P M) (hG : c_G S x I) (hV : ∀ k W, I k = some W → w_V W) (hA : c_A S x) (hb : h_B S x nx) :
    ∃ S', b_X0_keep_32 nx (x + 96) (x + 70) S = some S' ∧ c_H S' x (U ++ [M]) ∧ c_A S' x ∧ c_G S' x I ∧ (∀ q, q < x + 131 → q ≠ x + 96 → m_ri S' q = m_ri S q) ∧ (∀ q, q < x + 131 → m_rj S' q = m_rj S q) ∧ (∀ q, q < x + 131 → q ≠ x + 97 → m_rr S' q = m_rr S q) := by
  have hat : (f + U.length) % 8 < 8 := Nat.mod_lt _ (by omega)
  have e0 : b_X0_keep_32 nx (x + 96) (x + 70) S = (if m_rr S (x + 97) ((f + U.length) % 8) = none then (m_let (m_new S nx) fun S4 => m_cal0 (f_X2_init nx S4) fun S5 => (m_str S5 (x + 97) 8 (nI ((f + U.length) % 8)) (some nx)).bind fun S6 => b_X0_keep_67 nx (x + 96) (x + 70) S6 (nI ((f + U.length) % 8))) else (b_X0_keep_67 nx (x + 96) (x + 70) S (nI ((f + U.length) % 8)))) := by
    rw [b_X0_keep_32, h1, h2, nI_add, e_m8 _ (by omega), e_let, e_ldr hat (by omega), e_bind]
  rw [e0]
  by_cases hn : m_rr S (x + 97) ((f + U.length) % 8) = none
  · rw [if_pos hn, e_let]
    obtain ⟨S5, a1, a2⟩ := k_initM (S := m_new S nx) (a := nx)
    have a3 : n_O nx 9 S S5 := (n_O.rf.nw (by omega) (by omega)).tr a2
    rw [a1, e_cal0, e_str hat (by omega), e_bind]
    obtain ⟨hb0, hb1, hb2⟩ := hb
    obtain ⟨A1, A2, A3, A4, A5⟩ := hA
    have k5 : ∀ q, q < nx → m_ri S5 q = m_ri S q := fun q hq => (a3 q (by omega)).1
    have k5j : ∀ q, q < nx → m_rj S5 q = m_rj S q := fun q hq => (a3 q (by omega)).2.1
    have k5r : ∀ q, q < nx → m_rr S5 q = m_rr S q := fun q hq => (a3 q (by omega)).2.2
    generalize hS6 : m_sr S5 (x + 97) ((f + U.length) % 8) (some nx) = S6
    have k6 : m_ri S6 = m_ri S5 := by rw [← hS6]; rfl
    have k6j : m_rj S6 = m_rj S5 := by rw [← hS6]; rfl
    have k6a : m_rr S6 (x + 97) ((f + U.length) % 8) = some nx := by rw [← hS6, e_srs]
    have k6n : ∀ i, i ≠ (f + U.length) % 8 → m_rr S6 (x + 97) i = m_rr S (x + 97) i := fun i hi => by rw [← hS6, e_srn hi, k5r _ (by omega)]
    have k6q : ∀ q, q ≠ x + 97 → q < nx → m_rr S6 q = m_rr S q := fun q hq h => by rw [← hS6, e_srq hq, k5r q h]
    have old : ∀ i b, i < 8 → m_rr S6 (x + 97) i = some b → (i = (f + U.length) % 8 ∧ b = nx) ∨ (i ≠ (f + U.length) % 8 ∧ m_rr S (x + 97) i = some b) := fun i b hi h => by
      by_cases e : i = (f + U.length) % 8
      · subst e; rw [k6a] at h; exact Or.inl ⟨rfl, (Option.some.inj h).symm⟩
      · rw [k6n i e] at h; exact Or.inr ⟨e, h⟩
    have hA6 : c_A S6 x := by
      refine ⟨fun i b hi h => ?_, fun i b hi h => ?_, fun i j b c hi hj hij h h' => ?_, fun i j b c hi hj hij h h' => ?_, fun i j b c hi hj h h' => ?_⟩
      · rcases old i b hi h with ⟨_, e⟩ | ⟨_, e⟩
        · omega
        · exact A1 i b hi e
      · rw [k6q _ (by omega) (by omega)] at h; exact A2 i b hi h
      · rcases old i b hi h with ⟨e1, e⟩ | ⟨_, e⟩ <;> rcases old j c hj h' with ⟨e2, e'⟩ | ⟨_, e'⟩
        · omega
        · have := hb1 j c hj e'; omega
        · have := hb1 i b hi e; omega
        · exact A3 i j b c hi hj hij e e'
      · rw [k6q _ (by omega) (by omega)] at h h'; exact A4 i j b c hi hj hij h h'
      · rw [k6q _ (by omega) (by omega)] at h'
        rcases old i b hi h with ⟨_, e⟩ | ⟨_, e⟩
        · have := hb2 j c hj h'; omega
        · exact A5 i j b c hi hj e h'
    have hM6 : q_R S6 (x + 70) M := hM.kept (fun q h1 h2 => by rw [k6, k5 q (by omega)])
    have hE6 : h_E S6 x f U := fun i M' hi => by
      obtain ⟨c, g1, g2⟩ := hE i M' hi
      have hl : i < U.length := (List.getElem?_eq_some_iff.mp hi).1
      have := hb1 _ c (Nat.mod_lt _ (by omega)) g1
      exact ⟨c, by rw [k6n _ (by omega)]; exact g1, g2.kept (fun q h1 h2 => by rw [k6, k5 q (by omega)])⟩
    have hG6 : c_G S6 x I := fun k hk => by
      obtain ⟨g0, g1⟩ := hG k hk
      refine ⟨fun e => by rw [k6q _ (by omega) (by omega)]; exact g0 e, fun W e => ?_⟩
      obtain ⟨c, g2, g3⟩ := g1 W e
      have := hb2 _ c hk g2
      exact ⟨c, by rw [k6q _ (by omega) (by omega)]; exact g2, g3.kept (hV k W e).1 (fun q h1 h2 => by rw [k6, k5 q (by omega)]) (by rw [k6j, k5j _ (by omega)])⟩
    obtain ⟨S', b1, b2, b3, b4, b5, b6, b7⟩ := k_kp67 (nx := nx) hf hU (by rw [k6, k5 _ (by omega)]; exact h1) (by rw [k6, k5 _ (by omega)]; exact h2) hE6 hM6 hB hG6 hV hA6 k6a
    exact ⟨S', b1, b2, b3, b4, fun q h1 h2 => by rw [b5 q h1 h2, k6, k5 q (by omega)], fun q h1 => by rw [b6, k6j, k5j q (by omega)], fun q h1 h2 => by rw [b7, k6q q h2 (by omega)]⟩
  · rw [if_neg hn]
    obtain ⟨b, hb⟩ : ∃ b, m_rr S (x + 97) ((f + U.length) % 8) = some b := by
      cases h : m_rr S (x + 97) ((f + U.length) % 8) with
      | none => exact absurd h hn
      | some b => exact ⟨b, rfl⟩
    obtain ⟨S', b1, b2, b3, b4, b5, b6, b7⟩ := k_kp67 (nx := nx) hf hU h1 h2 hE hM hB hG hV hA hb
    exact ⟨S', b1, b2, b3, b4, b5, fun q _ => by rw [b6], fun q _ _ => by rw [b7]⟩
theorem k_keep (hU : U.length ≤ 8) (hH : c_H S x U) (hM : q_R S (x + 70) M) (hB : q_B P M) (hG : c_G S x I) (hV : ∀ k W, I k = some W → w_V W) (hA : c_A S x) (hb : h_B S x nx) :
    ∃ S', f_X0_keep nx (x + 96) (x + 70) S = some S' ∧ c_H S' x (q_kp U M) ∧ c_A S' x ∧ c_G S' x I ∧ (∀ q, q < x + 131 → q ≠ x + 96 → m_ri S' q = m_ri S q) ∧ (∀ q, q < x + 131 → m_rj S' q = m_rj S q) ∧ (∀ q, q < x + 131 → q ≠ x + 97 → m_rr S' q = m_rr S q) := by
  obtain ⟨f, hf, h1, h2, hE⟩ := hH
  rw [q_kp]
  by_cases e : U.length = 8
  · rw [if_pos e]
    rw [e] at h2
    have hlen : U.tail.length = 7 := by rw [List.length_tail, e]
    generalize hS3 : m_si (m_si S (x + 96) 1 (nI ((f + 1) % 8))) (x + 96) 2 (nI 7) = S3
    have k3 : ∀ q, q ≠ x + 96 → m_ri S3 q = m_ri S q := fun q hq => by rw [← hS3]; simp (disch := omega) only [e_let, e_call, e_cal0, e_bind, e_lit, e_ofN, e_neg, nI_add, pk_mul, e_sub, e_ldi, e_sti, e_ldj, e_stj, e_le_t, e_le_f, e_lt_t, e_lt_f, e_eq_t, e_eq_f, e_no_eq, e_no_eq', e_no_rfl, e_no_lt, e_no_le, e_le_no, e_lt_no, if_true, if_false, ↓reduceIte, e_rs, e_rq, e_rn, e_ji, e_ki, e_ij, e_kj, e_js, e_jq, e_jn, e_cs, e_cq, e_jc, e_kc, e_js', e_jcq, e_icj, e_kcj, or_true, true_or, or_false, false_or, and_true, true_and, not_true_eq_false, not_false_eq_true]
    have k3j : m_rj S3 = m_rj S := by rw [← hS3]; rfl
    have k3r : m_rr S3 = m_rr S := by rw [← hS3]; rfl
    have hE3 : h_E S3 x ((f + 1) % 8) U.tail := fun i M' hi => by
      rw [List.getElem?_tail] at hi
      obtain ⟨c, g1, g2⟩ := hE (i + 1) M' hi
      have := hA.1 _ c (Nat.mod_lt _ (by omega)) g1
      exact ⟨c, by rw [k3r, show ((f + 1) % 8 + i) % 8 = (f + (i + 1)) % 8 by omega]; exact g1, g2.kept (fun q h1 h2 => k3 q (by omega))⟩
    obtain ⟨S', b1, b2, b3, b4, b5, b6, b7⟩ := k_kp32 (S := S3) (U := U.tail) (f := (f + 1) % 8) (nx := nx) (Nat.mod_lt _ (by omega)) (by omega) (by rw [← hS3]; simp (disch := omega) only [e_let, e_call, e_cal0, e_bind, e_lit, e_ofN, e_neg, nI_add, pk_mul, e_sub, e_ldi, e_sti, e_ldj, e_stj, e_le_t, e_le_f, e_lt_t, e_lt_f, e_eq_t, e_eq_f, e_no_eq, e_no_eq', e_no_rfl, e_no_lt, e_no_le, e_le_no, e_lt_no, if_true, if_false, ↓reduceIte, e_rs, e_rq, e_rn, e_ji, e_ki, e_ij, e_kj, e_js, e_jq, e_jn, e_cs, e_cq, e_jc, e_kc, e_js', e_jcq, e_icj, e_kcj, or_true, true_or, or_false, false_or, and_true, true_and, not_true_eq_false, not_false_eq_true]) (by rw [hlen, ← hS3]; simp (disch := omega) only [e_let, e_call, e_cal0, e_bind, e_lit, e_ofN, e_neg, nI_add, pk_mul, e_sub, e_ldi, e_sti, e_ldj, e_stj, e_le_t, e_le_f, e_lt_t, e_lt_f, e_eq_t, e_eq_f, e_no_eq, e_no_eq', e_no_rfl, e_no_lt, e_no_le, e_le_no, e_lt_no, if_true, if_false, ↓reduceIte, e_rs, e_rq, e_rn, e_ji, e_ki, e_ij, e_kj, e_js, e_jq, e_jn, e_cs, e_cq, e_jc, e_kc, e_js', e_jcq, e_icj, e_kcj, or_true, true_or, or_false, false_or, and_true, true_and, not_true_eq_false, not_false_eq_true]) hE3 (hM.kept (fun q h1 h2 => k3 q (by omega))) hB (hG.kep hV hA (fun q hq => k3 q (by omega)) (fun q _ => by rw [k3j]) k3r) hV (hA.kept k3r) (by simp only [h_B] at *; rw [k3r]; exact hb)
    refine ⟨S', ?_, b2, b3, b4, fun q h1 h2 => by rw [b5 q h1 h2, k3 q h2], fun q hq => by rw [b6 q hq, k3j], fun q h1 h2 => by rw [b7 q h1 h2, k3r]⟩
    rw [f_X0_keep, h2, if_pos (show nI 8 = (8 : Int32) from rfl), h1, show (1 : Int32) = nI 1 from rfl, nI_add, e_m8 _ (by omega), e_let, e_rn (by omega), h2, e_sub (by omega), e_let, hS3, b1]
  · rw [if_neg e]
    obtain ⟨S', b1, b2⟩ := k_kp32 (nx := nx) hf (by omega) h1 h2 hE hM hB hG hV hA hb
    refine ⟨S', ?_, b2⟩
    rw [f_X0_keep, h2, if_neg (show ¬ nI U.length = (8 : Int32) from fun q => (e_eq_f (a := U.length) (b := 8) e (by omega) (by omega)).mp q), b1]
end HI
