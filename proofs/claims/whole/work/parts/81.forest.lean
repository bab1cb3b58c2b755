/-! trees of nodes in a row: who is on top -/
def u_it (par : Nat → Nat) : Nat → Nat → Nat
  | 0, n => n
  | k + 1, n => u_it par k (par n)
def u_F (N : Nat → Int32) (t : Nat → Nat) : Prop := ∃ par rk : Nat → Nat, (∀ n, n < 183 → par n < 183 ∧ (par n = n ∨ rk n < rk (par n))) ∧ ∀ n, n < 183 → N n = nI (par n) ∧ u_it par 183 n = t n
section UA
variable {par rk : Nat → Nat} {N : Nat → Int32} {t : Nat → Nat}
theorem u_it_add : ∀ (j k n : Nat), u_it par (j + k) n = u_it par k (u_it par j n) := by
  intro j
  induction j with
  | zero => intro k n; rw [Nat.zero_add]; rfl
  | succ j ih => intro k n; rw [show j + 1 + k = (j + k) + 1 by omega]; exact ih k (par n)
theorem u_it_s (k n : Nat) : u_it par (k + 1) n = par (u_it par k n) := u_it_add k 1 n
theorem u_it_rt {r : Nat} (h : par r = r) : ∀ k, u_it par k r = r := by
  intro k
  induction k with
  | zero => rfl
  | succ k ih => show u_it par k (par r) = r; rw [h]; exact ih
theorem u_it_lt (h : ∀ n, n < 183 → par n < 183) : ∀ (k n : Nat), n < 183 → u_it par k n < 183 := by
  intro k
  induction k with
  | zero => intro n hn; exact hn
  | succ k ih => intro n hn; exact ih _ (h n hn)
theorem u_rt (H : ∀ n, n < 183 → par n < 183 ∧ (par n = n ∨ rk n < rk (par n))) {n : Nat} (hn : n < 183) : par (u_it par 183 n) = u_it par 183 n := by
  refine Classical.byContradiction fun hx => ?_
  have hlt := u_it_lt (fun n hn => (H n hn).1)
  have hno : ∀ j, j ≤ 183 → par (u_it par j n) ≠ u_it par j n := fun j hj q => hx (by
    have e : u_it par 183 n = u_it par j n := by
      rw [show 183 = j + (183 - j) by omega, u_it_add, u_it_rt q]
    rw [e]; exact q)
  have hs : ∀ j, j ≤ 183 → rk (u_it par j n) < rk (u_it par (j + 1) n) := fun j hj => by
    rw [u_it_s]
    rcases (H _ (hlt j n hn)).2 with q | q
    · exact absurd q (hno j hj)
    · exact q
  have hm : ∀ i d, i + d + 1 ≤ 183 → rk (u_it par i n) < rk (u_it par (i + d + 1) n) := by
    intro i d
    induction d with
    | zero => intro h; exact hs i (by omega)
    | succ d ih =>
      intro h
      have h1 := ih (by omega)
      have h2 := hs (i + d + 1) (by omega)
      rw [show i + (d + 1) + 1 = i + d + 1 + 1 by omega]; omega
  have := fb_holes 183 184 (fun j => u_it par j n) (fun j _ => hlt j n hn) (fun i j hij hj q => by
    have := hm i (j - i - 1) (by omega)
    rw [show i + (j - i - 1) + 1 = j by omega] at this
    have q : u_it par i n = u_it par j n := q
    rw [q] at this; omega)
  omega
theorem u_tpar (H : ∀ n, n < 183 → par n < 183 ∧ (par n = n ∨ rk n < rk (par n))) {n : Nat} (hn : n < 183) : u_it par 183 (par n) = u_it par 183 n := by
  show u_it par 184 n = _
  rw [u_it_s, u_rt H hn]
theorem u_F.top (h : u_F N t) {n : Nat} (hn : n < 183) : t n < 183 ∧ t (t n) = t n := by
  obtain ⟨par, rk, H, h⟩ := h
  have hl := u_it_lt (fun n hn => (H n hn).1) 183 n hn
  rw [← (h n hn).2]
  refine ⟨hl, ?_⟩
  rw [← (h _ hl).2, u_it_rt (u_rt H hn)]
theorem u_F.join {x y : Nat} (h : u_F N t) (hx : x < 183) (hy : y < 183) (tx : t x = x) (ty : t y = y) (hxy : x ≠ y) : u_F (va_up N y (nI x)) (fun n => if t n = y then x else t n) := by
  obtain ⟨par, rk, H, h⟩ := h
  have px : par x = x := by
    have := u_rt H hx
    rw [(h x hx).2, tx] at this; exact this
  have py : par y = y := by
    have := u_rt H hy
    rw [(h y hy).2, ty] at this; exact this
  have e1 : ∀ n, n ≠ y → va_up par y x n = par n := fun n hn => va_up_ne _ _ hn
  have e2 : va_up par y x y = x := va_up_self _ _ _
  have H' : ∀ n, n < 183 → va_up par y x n < 183 ∧ (va_up par y x n = n ∨ (fun n => if u_it par 183 n = x then rk n + rk y + 1 else rk n) n < (fun n => if u_it par 183 n = x then rk n + rk y + 1 else rk n) (va_up par y x n)) := by
    intro n hn
    by_cases hny : n = y
    · rw [hny, e2]
      refine ⟨hx, Or.inr ?_⟩
      show (if u_it par 183 y = x then _ else rk y) < (if u_it par 183 x = x then rk x + rk y + 1 else _)
      rw [(h y hy).2, ty, if_neg (fun q => hxy q.symm), (h x hx).2, tx, if_pos rfl]; omega
    · rw [e1 n hny]
      refine ⟨(H n hn).1, ?_⟩
      rcases (H n hn).2 with q | q
      · exact Or.inl q
      · refine Or.inr ?_
        show (if u_it par 183 n = x then _ else rk n) < (if u_it par 183 (par n) = x then _ else rk (par n))
        rw [u_tpar H hn]
        split <;> omega
  have key : ∀ k n, n < 183 → par (u_it par k n) = u_it par k n → u_it (va_up par y x) 183 n = if u_it par k n = y then x else u_it par k n := by
    intro k
    induction k with
    | zero =>
      intro n hn hr
      have hr : par n = n := hr
      show _ = if n = y then x else n
      by_cases hny : n = y
      · rw [if_pos hny, hny, ← u_tpar H' hy, e2]
        exact u_it_rt (by rw [e1 x hxy]; exact px) 183
      · rw [if_neg hny]
        exact u_it_rt (by rw [e1 n hny]; exact hr) 183
    | succ k ih =>
      intro n hn hr
      have ih := ih (par n) (H n hn).1 hr
      show _ = if u_it par k (par n) = y then x else u_it par k (par n)
      rw [← ih]
      by_cases hny : n = y
      · rw [hny, py]
      · rw [← u_tpar H' hn, e1 n hny]
  refine ⟨va_up par y x, _, H', fun n hn => ⟨?_, ?_⟩⟩
  · by_cases hny : n = y
    · rw [hny, e2, va_up_self]
    · rw [e1 n hny, va_up_ne _ _ hny]; exact (h n hn).1
  · rw [key 183 n hn (u_rt H hn), (h n hn).2]
theorem u_F.id (h : ∀ n, n < 183 → N n = nI n) : u_F N (fun n => n) := ⟨fun n => n, fun _ => 0, fun n hn => ⟨hn, Or.inl rfl⟩, fun n hn => ⟨h n hn, u_it_rt rfl 183⟩⟩
end UA
section UB
variable {S : m_M} {a : Nat} {t : Nat → Nat}
theorem k_rootOf {n : Nat} (h : u_F (m_ri S (a + 1)) t) (hn : n < 183) : f_X5_rootOf a S (nI n) = some (nI (t n), S) := by
  have hfu := m_fu_ge
  obtain ⟨par, rk, H, h⟩ := h
  have hl := u_it_lt (fun n hn => (H n hn).1)
  have key : ∀ (d j fu : Nat), j + d = 183 → d < fu → b_X5_rootOf_4 a fu S (nI (u_it par j n)) (nI j) = some (nI (u_it par 183 n), S) := by
    intro d
    induction d with
    | zero =>
      intro j fu hj hf
      obtain ⟨fu, rfl⟩ : ∃ f, fu = f + 1 := ⟨fu - 1, by omega⟩
      have hj : j = 183 := hj
      subst hj
      simp (disch := omega) only [e_let, e_call, e_cal0, e_bind, e_lit, e_ofN, e_neg, nI_add, pk_mul, e_sub, e_ldi, e_sti, e_ldj, e_stj, e_le_t, e_le_f, e_lt_t, e_lt_f, e_eq_t, e_eq_f, e_no_eq, e_no_eq', e_no_rfl, e_no_lt, e_no_le, e_le_no, e_lt_no, if_true, if_false, ↓reduceIte, e_rs, e_rq, e_rn, e_ji, e_ki, e_ij, e_kj, e_js, e_jq, e_jn, e_cs, e_cq, e_jc, e_kc, e_js', e_jcq, e_icj, e_kcj, or_true, true_or, or_false, false_or, and_true, true_and, not_true_eq_false, not_false_eq_true, b_X5_rootOf_4, b_X5_rootOf_34]
    | succ d ih =>
      intro j fu hj hf
      obtain ⟨fu, rfl⟩ : ∃ f, fu = f + 1 := ⟨fu - 1, by omega⟩
      have hlj := hl j n hn
      have hp := (h _ hlj).1
      have hpl := (H _ hlj).1
      by_cases hq : par (u_it par j n) = u_it par j n
      · have e : u_it par 183 n = u_it par j n := by rw [show 183 = j + (183 - j) by omega, u_it_add, u_it_rt hq]
        rw [e]
        rw [hq] at hp
        simp (disch := omega) only [e_let, e_call, e_cal0, e_bind, e_lit, e_ofN, e_neg, nI_add, pk_mul, e_sub, e_ldi, e_sti, e_ldj, e_stj, e_le_t, e_le_f, e_lt_t, e_lt_f, e_eq_t, e_eq_f, e_no_eq, e_no_eq', e_no_rfl, e_no_lt, e_no_le, e_le_no, e_lt_no, if_true, if_false, ↓reduceIte, e_rs, e_rq, e_rn, e_ji, e_ki, e_ij, e_kj, e_js, e_jq, e_jn, e_cs, e_cq, e_jc, e_kc, e_js', e_jcq, e_icj, e_kcj, or_true, true_or, or_false, false_or, and_true, true_and, not_true_eq_false, not_false_eq_true, b_X5_rootOf_4, b_X5_rootOf_34, hp]
      · rw [← ih (j + 1) fu (by omega) (by omega), u_it_s]
        simp (disch := omega) only [e_let, e_call, e_cal0, e_bind, e_lit, e_ofN, e_neg, nI_add, pk_mul, e_sub, e_ldi, e_sti, e_ldj, e_stj, e_le_t, e_le_f, e_lt_t, e_lt_f, e_eq_t, e_eq_f, e_no_eq, e_no_eq', e_no_rfl, e_no_lt, e_no_le, e_le_no, e_lt_no, if_true, if_false, ↓reduceIte, e_rs, e_rq, e_rn, e_ji, e_ki, e_ij, e_kj, e_js, e_jq, e_jn, e_cs, e_cq, e_jc, e_kc, e_js', e_jcq, e_icj, e_kcj, or_true, true_or, or_false, false_or, and_true, true_and, not_true_eq_false, not_false_eq_true, b_X5_rootOf_4, b_X5_rootOf_34, hp]
  rw [← (h n hn).2, f_X5_rootOf]
  exact key 183 0 m_fu (by omega) (by omega)
theorem j_topOf {n : Nat} (h : u_F (m_ri S (a + 12)) t) (hn : n < 183) : f_X12_topOf a S (nI n) = some (nI (t n), S) := by
  have hfu := m_fu_ge
  obtain ⟨par, rk, H, h⟩ := h
  have hl := u_it_lt (fun n hn => (H n hn).1)
  have key : ∀ (d j fu : Nat), j + d = 183 → d < fu → b_X12_topOf_2 a fu S (nI (u_it par j n)) = some (nI (u_it par 183 n), S) := by
    intro d
    induction d with
    | zero =>
      intro j fu hj hf
      obtain ⟨fu, rfl⟩ : ∃ f, fu = f + 1 := ⟨fu - 1, by omega⟩
      have hj : j = 183 := hj
      subst hj
      have hlj := hl 183 n hn
      have hp := (h _ hlj).1
      rw [u_rt H hn] at hp
      generalize u_it par 183 n = r at *
      simp (disch := omega) only [e_let, e_call, e_cal0, e_bind, e_lit, e_ofN, e_neg, nI_add, pk_mul, e_sub, e_ldi, e_sti, e_ldj, e_stj, e_le_t, e_le_f, e_lt_t, e_lt_f, e_eq_t, e_eq_f, e_no_eq, e_no_eq', e_no_rfl, e_no_lt, e_no_le, e_le_no, e_lt_no, if_true, if_false, ↓reduceIte, e_rs, e_rq, e_rn, e_ji, e_ki, e_ij, e_kj, e_js, e_jq, e_jn, e_cs, e_cq, e_jc, e_kc, e_js', e_jcq, e_icj, e_kcj, or_true, true_or, or_false, false_or, and_true, true_and, not_true_eq_false, not_false_eq_true, b_X12_topOf_2, hp]
    | succ d ih =>
      intro j fu hj hf
      obtain ⟨fu, rfl⟩ : ∃ f, fu = f + 1 := ⟨fu - 1, by omega⟩
      have hlj := hl j n hn
      have hp := (h _ hlj).1
      have hpl := (H _ hlj).1
      by_cases hq : par (u_it par j n) = u_it par j n
      · have e : u_it par 183 n = u_it par j n := by rw [show 183 = j + (183 - j) by omega, u_it_add, u_it_rt hq]
        rw [e]
        rw [hq] at hp
        simp (disch := omega) only [e_let, e_call, e_cal0, e_bind, e_lit, e_ofN, e_neg, nI_add, pk_mul, e_sub, e_ldi, e_sti, e_ldj, e_stj, e_le_t, e_le_f, e_lt_t, e_lt_f, e_eq_t, e_eq_f, e_no_eq, e_no_eq', e_no_rfl, e_no_lt, e_no_le, e_le_no, e_lt_no, if_true, if_false, ↓reduceIte, e_rs, e_rq, e_rn, e_ji, e_ki, e_ij, e_kj, e_js, e_jq, e_jn, e_cs, e_cq, e_jc, e_kc, e_js', e_jcq, e_icj, e_kcj, or_true, true_or, or_false, false_or, and_true, true_and, not_true_eq_false, not_false_eq_true, b_X12_topOf_2, hp]
      · rw [← ih (j + 1) fu (by omega) (by omega), u_it_s]
        simp (disch := omega) only [e_let, e_call, e_cal0, e_bind, e_lit, e_ofN, e_neg, nI_add, pk_mul, e_sub, e_ldi, e_sti, e_ldj, e_stj, e_le_t, e_le_f, e_lt_t, e_lt_f, e_eq_t, e_eq_f, e_no_eq, e_no_eq', e_no_rfl, e_no_lt, e_no_le, e_le_no, e_lt_no, if_true, if_false, ↓reduceIte, e_rs, e_rq, e_rn, e_ji, e_ki, e_ij, e_kj, e_js, e_jq, e_jn, e_cs, e_cq, e_jc, e_kc, e_js', e_jcq, e_icj, e_kcj, or_true, true_or, or_false, false_or, and_true, true_and, not_true_eq_false, not_false_eq_true, b_X12_topOf_2, hp]
  rw [← (h n hn).2, f_X12_topOf]
  exact key 183 0 m_fu (by omega) (by omega)
end UB
