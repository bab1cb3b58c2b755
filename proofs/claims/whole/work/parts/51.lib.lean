/-! small numbers -/
theorem e_lit (n : Nat) : (OfNat.ofNat n : Int32) = nI (OfNat.ofNat n) := (rfl)
theorem e_ofN (n : Nat) : Int32.ofNat n = nI n := (rfl)
def m_no : Int32 := -1
theorem e_neg : -(nI 1) = m_no := (rfl)
theorem e_sub {a b : Nat} (h : b ≤ a) : nI a - nI b = nI (a - b) := pk_sub h
theorem e_dec {a : Nat} (h : 1 ≤ a) : nI a + m_no = nI (a - 1) := by
  obtain ⟨b, rfl⟩ : ∃ b, a = b + 1 := ⟨a - 1, by omega⟩
  exact pk_m1 b
theorem e_dec0 : nI 0 - nI 1 = m_no := by decide +kernel
theorem e_inc0 : m_no + nI 1 = nI 0 := by decide +kernel
theorem e_le_t {a b : Nat} (h : a ≤ b) (hb : b < 2147483648) : (nI a ≤ nI b) = True := eq_true (nI_le h (by omega))
theorem e_le_f {a b : Nat} (h : b < a) (ha : a < 2147483648) : (nI a ≤ nI b) = False := eq_false (nI_ge h (by omega))
theorem e_lt_t {a b : Nat} (h : a < b) (hb : b < 2147483648) : (nI a < nI b) = True := eq_true (nI_lt h (by omega))
theorem e_lt_f {a b : Nat} (h : b ≤ a) (ha : a < 2147483648) : (nI a < nI b) = False := eq_false (nI_nlt h (by omega))
theorem e_eq_t {a b : Nat} (h : a = b) : (nI a = nI b) = True := eq_true (congrArg nI h)
theorem e_eq_f {a b : Nat} (h : a ≠ b) (ha : a < 2147483648) (hb : b < 2147483648) : (nI a = nI b) = False := eq_false (fun q => h ((nI_eq (by omega) (by omega)).mp q))
theorem e_le {a b : Nat} (ha : a < 2147483648) (hb : b < 2147483648) : (nI a ≤ nI b) = (a ≤ b) := propext (nI_leI (by omega) (by omega))
theorem e_lt {a b : Nat} (ha : a < 2147483648) (hb : b < 2147483648) : (nI a < nI b) = (a < b) := propext (nI_ltI (by omega) (by omega))
theorem e_eq {a b : Nat} (ha : a < 2147483648) (hb : b < 2147483648) : (nI a = nI b) = (a = b) := propext (nI_eq (by omega) (by omega))
theorem m_no_toInt : m_no.toInt = -1 := by decide +kernel
theorem e_no_eq {a : Nat} (ha : a < 2147483648) : (nI a = m_no) = False := eq_false (fun q => by
  have := congrArg Int32.toInt q
  rw [nI_toInt (by omega), m_no_toInt] at this; omega)
theorem e_no_eq' {a : Nat} (ha : a < 2147483648) : (m_no = nI a) = False := eq_false (fun q => (e_no_eq ha).mp q.symm)
theorem e_no_rfl : (m_no = m_no) = True := eq_true rfl
theorem e_no_lt {a : Nat} (ha : a < 2147483648) : (m_no < nI a) = True := eq_true (by rw [Int32.lt_iff_toInt_lt, nI_toInt (by omega), m_no_toInt]; omega)
theorem e_no_le {a : Nat} (ha : a < 2147483648) : (m_no ≤ nI a) = True := eq_true (by rw [Int32.le_iff_toInt_le, nI_toInt (by omega), m_no_toInt]; omega)
theorem e_le_no {a : Nat} (ha : a < 2147483648) : (nI a ≤ m_no) = False := eq_false (by rw [Int32.le_iff_toInt_le, nI_toInt (by omega), m_no_toInt]; omega)
theorem e_lt_no {a : Nat} (ha : a < 2147483648) : (nI a < m_no) = False := eq_false (by rw [Int32.lt_iff_toInt_lt, nI_toInt (by omega), m_no_toInt]; omega)
/-- 0: none; k + 1: the number k -/
def nO (n : Nat) : Int32 := if n = 0 then m_no else nI (n - 1)
theorem nO_0 : nO 0 = m_no := rfl
theorem nO_s (n : Nat) : nO (n + 1) = nI n := rfl
theorem nO_pos {n : Nat} (h : 0 < n) : nO n = nI (n - 1) := by simp only [nO]; rw [if_neg (by omega)]
theorem nO_no {n : Nat} (hn : n < 2147483648) : (nO n = m_no) = (n = 0) := by
  rcases Nat.eq_zero_or_pos n with h | h
  · subst h; simp [nO_0]
  · rw [nO_pos h, e_no_eq (by omega)]; exact (eq_false (by omega)).symm
theorem nO_inj {a b : Nat} (ha : a < 2147483648) (hb : b < 2147483648) (h : nO a = nO b) : a = b := by
  rcases Nat.eq_zero_or_pos a with h1 | h1 <;> rcases Nat.eq_zero_or_pos b with h2 | h2
  · omega
  · subst h1; rw [nO_0, nO_pos h2] at h; exact ((e_no_eq' (by omega)).mp h).elim
  · subst h2; rw [nO_0, nO_pos h1] at h; exact ((e_no_eq (by omega)).mp h).elim
  · rw [nO_pos h1, nO_pos h2] at h; have := (nI_eq (by omega) (by omega)).mp h; omega
/-! loads and stores -/
theorem e_ldi {S : m_M} {q n k : Nat} (h : k < n) (hk : k < 2147483648) : m_ldi S q n (nI k) = some (m_ri S q k) := by
  have h1 := nI_clamp (n := k) (by omega)
  simp only [m_ldi, h1]
  rw [if_neg (by rintro (h2 | h2); exact nI_pos (n := k) (by omega) h2; omega)]
theorem e_ldj {S : m_M} {q n k : Nat} (h : k < n) (hk : k < 2147483648) : m_ldj S q n (nI k) = some (m_rj S q k) := by
  have h1 := nI_clamp (n := k) (by omega)
  simp only [m_ldj, h1]
  rw [if_neg (by rintro (h2 | h2); exact nI_pos (n := k) (by omega) h2; omega)]
theorem e_ldr {S : m_M} {q n k : Nat} (h : k < n) (hk : k < 2147483648) : m_ldr S q n (nI k) = some (m_rr S q k) := by
  have h1 := nI_clamp (n := k) (by omega)
  simp only [m_ldr, h1]
  rw [if_neg (by rintro (h2 | h2); exact nI_pos (n := k) (by omega) h2; omega)]
theorem e_sti {S : m_M} {q n k : Nat} {x : Int32} (h : k < n) (hk : k < 2147483648) : m_sti S q n (nI k) x = some (m_si S q k x) := by
  have h1 := nI_clamp (n := k) (by omega)
  simp only [m_sti, h1]
  rw [if_neg (by rintro (h2 | h2); exact nI_pos (n := k) (by omega) h2; omega)]
theorem e_stj {S : m_M} {q n k : Nat} {x : Int64} (h : k < n) (hk : k < 2147483648) : m_stj S q n (nI k) x = some (m_sj S q k x) := by
  have h1 := nI_clamp (n := k) (by omega)
  simp only [m_stj, h1]
  rw [if_neg (by rintro (h2 | h2); exact nI_pos (n := k) (by omega) h2; omega)]
theorem e_str {S : m_M} {q n k : Nat} {x : Option Nat} (h : k < n) (hk : k < 2147483648) : m_str S q n (nI k) x = some (m_sr S q k x) := by
  have h1 := nI_clamp (n := k) (by omega)
  simp only [m_str, h1]
  rw [if_neg (by rintro (h2 | h2); exact nI_pos (n := k) (by omega) h2; omega)]
theorem e_rs {S : m_M} {q i : Nat} {v : Int32} : m_ri (m_si S q i v) q i = v := by simp [m_ri, m_si, va_up]
theorem e_rq {S : m_M} {q q' i : Nat} {v : Int32} (h : q' ≠ q) : m_ri (m_si S q i v) q' = m_ri S q' := by simp [m_ri, m_si, va_up, h]
theorem e_rn {S : m_M} {q i i' : Nat} {v : Int32} (h : i' ≠ i) : m_ri (m_si S q i v) q i' = m_ri S q i' := by simp [m_ri, m_si, va_up, h]
theorem e_rif {S : m_M} {q i i' : Nat} {v : Int32} : m_ri (m_si S q i v) q i' = if i' = i then v else m_ri S q i' := by
  by_cases h : i' = i
  · subst h; rw [e_rs, if_pos rfl]
  · rw [e_rn h, if_neg h]
theorem e_ji {S : m_M} {q i : Nat} {v : Int32} : m_rj (m_si S q i v) = m_rj S := (rfl)
theorem e_ki {S : m_M} {q i : Nat} {v : Int32} : m_rr (m_si S q i v) = m_rr S := (rfl)
theorem e_ij {S : m_M} {q i : Nat} {v : Int64} : m_ri (m_sj S q i v) = m_ri S := (rfl)
theorem e_kj {S : m_M} {q i : Nat} {v : Int64} : m_rr (m_sj S q i v) = m_rr S := (rfl)
theorem e_js {S : m_M} {q i : Nat} {v : Int64} : m_rj (m_sj S q i v) q i = v := by simp [m_rj, m_sj, va_up]
theorem e_jq {S : m_M} {q q' i : Nat} {v : Int64} (h : q' ≠ q) : m_rj (m_sj S q i v) q' = m_rj S q' := by simp [m_rj, m_sj, va_up, h]
theorem e_jn {S : m_M} {q i i' : Nat} {v : Int64} (h : i' ≠ i) : m_rj (m_sj S q i v) q i' = m_rj S q i' := by simp [m_rj, m_sj, va_up, h]
theorem e_cs {S : m_M} {q : Nat} {f : Nat → Int32} : m_ri (m_ci S q f) q = f := by simp [m_ri, m_ci, va_up]
theorem e_cq {S : m_M} {q q' : Nat} {f : Nat → Int32} (h : q' ≠ q) : m_ri (m_ci S q f) q' = m_ri S q' := by simp [m_ri, m_ci, va_up, h]
theorem e_jc {S : m_M} {q : Nat} {f : Nat → Int32} : m_rj (m_ci S q f) = m_rj S := (rfl)
theorem e_kc {S : m_M} {q : Nat} {f : Nat → Int32} : m_rr (m_ci S q f) = m_rr S := (rfl)
theorem e_js' {S : m_M} {q : Nat} {f : Nat → Int64} : m_rj (m_cj S q f) q = f := by simp [m_rj, m_cj, va_up]
theorem e_jcq {S : m_M} {q q' : Nat} {f : Nat → Int64} (h : q' ≠ q) : m_rj (m_cj S q f) q' = m_rj S q' := by simp [m_rj, m_cj, va_up, h]
theorem e_icj {S : m_M} {q : Nat} {f : Nat → Int64} : m_ri (m_cj S q f) = m_ri S := (rfl)
theorem e_kcj {S : m_M} {q : Nat} {f : Nat → Int64} : m_rr (m_cj S q f) = m_rr S := (rfl)
/-! copies -/
theorem e_cpi {S : m_M} {a0 n0 a n1 sp dp n : Nat} (h0 : sp + n ≤ n0) (h1 : dp + n ≤ n1) (h2 : n0 < 2147483648) (h3 : n1 < 2147483648) : m_cpi S a0 n0 a n1 (nI sp) (nI dp) (nI n) = some (m_ci S a (va_cpy (m_ri S a0) (m_ri S a) sp dp n)) := by
  simp only [m_cpi, nI_clamp (n := sp) (by omega), nI_clamp (n := dp) (by omega), nI_clamp (n := n) (by omega)]
  rw [if_neg]
  rintro (h | h | h | h | h)
  · exact nI_pos (n := sp) (by omega) h
  · exact nI_pos (n := dp) (by omega) h
  · exact nI_pos (n := n) (by omega) h
  · omega
  · omega
theorem e_cpj {S : m_M} {a0 n0 a n1 sp dp n : Nat} (h0 : sp + n ≤ n0) (h1 : dp + n ≤ n1) (h2 : n0 < 2147483648) (h3 : n1 < 2147483648) : m_cpj S a0 n0 a n1 (nI sp) (nI dp) (nI n) = some (m_cj S a (va_cpy (m_rj S a0) (m_rj S a) sp dp n)) := by
  simp only [m_cpj, nI_clamp (n := sp) (by omega), nI_clamp (n := dp) (by omega), nI_clamp (n := n) (by omega)]
  rw [if_neg]
  rintro (h | h | h | h | h)
  · exact nI_pos (n := sp) (by omega) h
  · exact nI_pos (n := dp) (by omega) h
  · exact nI_pos (n := n) (by omega) h
  · omega
  · omega
/-! bits -/
theorem e_bt {x : Int32} {r : Nat} (h : r < 32) : ((x >>> (nI r &&& nI 31)) &&& nI 1 = nI 0) = (bt x r = false) := by
  have h1 := b_sshr r h x (i := 0) (by omega)
  rw [Nat.add_zero, if_pos h] at h1
  have hb1 : ∀ i, i < 32 → bt (nI 1) i = decide (i = 0) := by decide +kernel
  apply propext
  constructor
  · intro h2
    have h3 := congrArg (fun y => bt y 0) h2
    simp only [b_and] at h3
    rw [show (nI 31 : Int32) = 31 from rfl, h1, hb1 0 (by omega), show bt (nI 0) 0 = false from b_0 0] at h3
    simpa using h3
  · intro h2
    apply b_ext
    intro i hi
    rw [b_and, hb1 i hi]
    by_cases h0 : i = 0
    · subst h0
      rw [show (nI 31 : Int32) = 31 from rfl, h1, h2]; rfl
    · simp only [h0, decide_false, Bool.and_false]
      exact (b_0 i).symm
theorem e_b0 (i : Nat) : bt (nI 0) i = false := b_0 i
theorem e_b1 {k i : Nat} (hk : k < 32) (hi : i < 32) : bt (nI 1 <<< (nI k &&& nI 31)) i = decide (k = i) := by
  have h1 := b_shl k hk (nI 1) hi
  have hb1 : ∀ i, i < 32 → bt (nI 1) i = decide (i = 0) := by decide +kernel
  rw [show (nI 31 : Int32) = 31 from rfl, h1]
  by_cases h : k ≤ i
  · rw [hb1 _ (by omega)]; simp only [h, decide_true, Bool.true_and]
    by_cases h2 : k = i
    · subst h2; simp
    · rw [decide_eq_false (by omega), decide_eq_false h2]
  · rw [decide_eq_false h, decide_eq_false (by omega)]; rfl
theorem e_bz {x : Int32} (h : ∀ i, i < 32 → bt x i = false) : x = nI 0 := b_ext (fun i hi => by rw [h i hi, e_b0])
theorem e_bnz {x : Int32} {i : Nat} (h : bt x i = true) : ¬ x = nI 0 := fun q => by rw [q, e_b0] at h; cases h
theorem e_let {α β : Type} (a : α) (k : α → Option β) : m_let a k = k a := (rfl)
theorem e_call {α β : Type} (a : α) (S : m_M) (k : α → m_M → Option β) : m_call (some (a, S)) k = k a S := (rfl)
theorem e_cal0 {β : Type} (S : m_M) (k : m_M → Option β) : m_cal0 (some S) k = k S := (rfl)
theorem e_bind {α β : Type} (a : α) (k : α → Option β) : (some a).bind k = k a := (rfl)
