/-! rooms: the one side -/
section QF
variable {S : m_M} {a p : Nat} {P : pP} {D : pD} {M : qM}
def q_rs (b : Nat → Bool) (lev k d : Nat) : List (Nat × Nat) := ((List.range' k d).filter b).map (fun r => (lev, r))
theorem q_rs_t {b : Nat → Bool} {lev k d : Nat} (h : b k = true) : q_rs b lev k (d + 1) = (lev, k) :: q_rs b lev (k + 1) d := by
  simp only [q_rs, List.range'_succ]; rw [List.filter_cons_of_pos h]; rfl
theorem q_rs_f {b : Nat → Bool} {lev k d : Nat} (h : b k = false) : q_rs b lev k (d + 1) = q_rs b lev (k + 1) d := by
  simp only [q_rs, List.range'_succ]; rw [List.filter_cons_of_neg (by rw [h]; decide)]
theorem q_rs_0 {b : Nat → Bool} {lev k d : Nat} (h : ∀ r, k ≤ r → r < k + d → b r = false) : q_rs b lev k d = [] := by
  have : (List.range' k d).filter b = [] := by
    rw [List.filter_eq_nil_iff]
    intro r hr
    rw [List.mem_range'_1] at hr
    rw [h r hr.1 hr.2]; decide
  simp only [q_rs, this, List.map_nil]
theorem q_rs_mem {b : Nat → Bool} {lev k d : Nat} {x : Nat × Nat} : x ∈ q_rs b lev k d ↔ x.1 = lev ∧ k ≤ x.2 ∧ x.2 < k + d ∧ b x.2 = true := by
  simp only [q_rs, List.mem_map, List.mem_filter, List.mem_range'_1]
  constructor
  · rintro ⟨r, ⟨⟨h1, h2⟩, h3⟩, rfl⟩; exact ⟨rfl, h1, h2, h3⟩
  · rintro ⟨rfl, h1, h2, h3⟩; exact ⟨x.2, ⟨⟨h1, h2⟩, h3⟩, rfl⟩
theorem q_rs_len {b : Nat → Bool} {lev : Nat} : ∀ {d k : Nat}, (q_rs b lev k d).length ≤ d := by
  intro d k
  simp only [q_rs, List.length_map]
  exact Nat.le_trans (List.length_filter_le _ _) (by simp)
/-- rooms are made -/
def q_mk (M : qM) (b : Nat → Bool) (lev : Nat) : qM := q_setF M (q_F M ++ q_rs b lev 0 24)
theorem k_mkl {x : Int32} {b : Nat → Bool} {lev : Nat} (hb : ∀ r, r < 32 → bt x r = b r) : ∀ (d k fu : Nat) (S : m_M) (M : qM), k + d = 24 → d < fu → q_R S a M → (∀ c x, c < 200 → q_ce M c = some x → x ∈ q_F M) → (q_F M ++ q_rs b lev k d).length ≤ 312 →
    ∃ S', b_X2_makeRooms_7 a fu S x (nI k) = some S' ∧ q_R S' a (q_setF M (q_F M ++ q_rs b lev k d)) ∧ e_O a (a + 9) S S' := by
  intro d
  induction d with
  | zero =>
    intro k fu S M hk hf hM hm hl
    obtain ⟨fu, rfl⟩ : ∃ f, fu = f + 1 := ⟨fu - 1, by omega⟩
    refine ⟨S, ?_, ?_, e_O.rf⟩
    · simp (disch := omega) only [e_let, e_call, e_cal0, e_bind, e_lit, e_ofN, e_neg, nI_add, pk_mul, e_sub, e_ldi, e_sti, e_ldj, e_stj, e_le_t, e_le_f, e_lt_t, e_lt_f, e_eq_t, e_eq_f, e_no_eq, e_no_eq', e_no_rfl, e_no_lt, e_no_le, e_le_no, e_lt_no, if_true, if_false, ↓reduceIte, e_rs, e_rq, e_rn, e_ji, e_ki, e_ij, e_kj, e_js, e_jq, e_jn, e_cs, e_cq, e_jc, e_kc, e_js', e_jcq, e_icj, e_kcj, or_true, true_or, or_false, false_or, and_true, true_and, not_true_eq_false, not_false_eq_true, b_X2_makeRooms_7]
    · rw [show q_rs b lev k 0 = [] from rfl, List.append_nil]; exact hM
  | succ d ih =>
    intro k fu S M hk hf hM hm hl
    obtain ⟨fu, rfl⟩ : ∃ f, fu = f + 1 := ⟨fu - 1, by omega⟩
    have hbk := hb k (by omega)
    by_cases hc : b k = true
    · rw [q_rs_t hc] at hl ⊢
      have hl2 : (q_F M).length + 1 ≤ 312 := by rw [List.length_append, List.length_cons] at hl; omega
      have r3 := hM.2.1
      have hR := hM.room (lev := lev) (r := k) hm
      obtain ⟨S', g1, g2, g3⟩ := ih (k + 1) fu _ _ (by omega) (by omega) hR (fun c x hc' hx => List.mem_append_left _ (hm c x hc' hx)) (by
        show ((q_F M ++ [(lev, k)]) ++ _).length ≤ 312
        rw [List.append_assoc]; exact hl)
      refine ⟨S', ?_, ?_, ((e_O.rf.si (by omega) (by omega)).si (by omega) (by omega)).tr g3⟩
      · rw [hc] at hbk
        simp (disch := omega) only [e_let, e_call, e_cal0, e_bind, e_lit, e_ofN, e_neg, nI_add, pk_mul, e_sub, e_ldi, e_sti, e_ldj, e_stj, e_le_t, e_le_f, e_lt_t, e_lt_f, e_eq_t, e_eq_f, e_no_eq, e_no_eq', e_no_rfl, e_no_lt, e_no_le, e_le_no, e_lt_no, if_true, if_false, ↓reduceIte, e_rs, e_rq, e_rn, e_ji, e_ki, e_ij, e_kj, e_js, e_jq, e_jn, e_cs, e_cq, e_jc, e_kc, e_js', e_jcq, e_icj, e_kcj, or_true, true_or, or_false, false_or, and_true, true_and, not_true_eq_false, not_false_eq_true, b_X2_makeRooms_7, e_bt, hbk, r3, b_X2_makeRooms_51, Bool.true_eq_false]
        exact g1
      · rw [show q_F M ++ (lev, k) :: q_rs b lev (k + 1) d = (q_F M ++ [(lev, k)]) ++ q_rs b lev (k + 1) d by rw [List.append_assoc]; rfl]
        exact g2
    · have hc : b k = false := Bool.eq_false_iff.mpr hc
      rw [q_rs_f hc] at hl ⊢
      obtain ⟨S', g1, g2, g3⟩ := ih (k + 1) fu _ _ (by omega) (by omega) hM hm hl
      refine ⟨S', ?_, g2, g3⟩
      rw [hc] at hbk
      simp (disch := omega) only [e_let, e_call, e_cal0, e_bind, e_lit, e_ofN, e_neg, nI_add, pk_mul, e_sub, e_ldi, e_sti, e_ldj, e_stj, e_le_t, e_le_f, e_lt_t, e_lt_f, e_eq_t, e_eq_f, e_no_eq, e_no_eq', e_no_rfl, e_no_lt, e_no_le, e_le_no, e_lt_no, if_true, if_false, ↓reduceIte, e_rs, e_rq, e_rn, e_ji, e_ki, e_ij, e_kj, e_js, e_jq, e_jn, e_cs, e_cq, e_jc, e_kc, e_js', e_jcq, e_icj, e_kcj, or_true, true_or, or_false, false_or, and_true, true_and, not_true_eq_false, not_false_eq_true, b_X2_makeRooms_7, e_bt, hbk, b_X2_makeRooms_51]
      exact g1
theorem k_mk {x : Int32} {b : Nat → Bool} {lev : Nat} (hb : ∀ r, r < 32 → bt x r = b r) (hM : q_R S a M) (hm : ∀ c x, c < 200 → q_ce M c = some x → x ∈ q_F M) (hl : (q_F M ++ q_rs b lev 0 24).length ≤ 312) :
    ∃ S', f_X2_makeRooms a S x = some S' ∧ q_R S' a (q_mk M b lev) ∧ e_O a (a + 9) S S' := by
  by_cases h0 : x = nI 0
  · refine ⟨S, ?_, ?_, e_O.rf⟩
    · simp (disch := omega) only [e_let, e_call, e_cal0, e_bind, e_lit, e_ofN, e_neg, nI_add, pk_mul, e_sub, e_ldi, e_sti, e_ldj, e_stj, e_le_t, e_le_f, e_lt_t, e_lt_f, e_eq_t, e_eq_f, e_no_eq, e_no_eq', e_no_rfl, e_no_lt, e_no_le, e_le_no, e_lt_no, if_true, if_false, ↓reduceIte, e_rs, e_rq, e_rn, e_ji, e_ki, e_ij, e_kj, e_js, e_jq, e_jn, e_cs, e_cq, e_jc, e_kc, e_js', e_jcq, e_icj, e_kcj, or_true, true_or, or_false, false_or, and_true, true_and, not_true_eq_false, not_false_eq_true, f_X2_makeRooms, h0]
    · rw [q_mk, q_rs_0 (fun r _ h2 => by rw [← hb r (by omega), h0, e_b0]), List.append_nil]; exact hM
  · have hf := m_fu_ge
    obtain ⟨S', g1, g2, g3⟩ := k_mkl hb 24 0 m_fu S M (by omega) (by omega) hM hm hl
    refine ⟨S', ?_, g2, g3⟩
    simp (disch := omega) only [e_let, e_call, e_cal0, e_bind, e_lit, e_ofN, e_neg, nI_add, pk_mul, e_sub, e_ldi, e_sti, e_ldj, e_stj, e_le_t, e_le_f, e_lt_t, e_lt_f, e_eq_t, e_eq_f, e_no_eq, e_no_eq', e_no_rfl, e_no_lt, e_no_le, e_le_no, e_lt_no, if_true, if_false, ↓reduceIte, e_rs, e_rq, e_rn, e_ji, e_ki, e_ij, e_kj, e_js, e_jq, e_jn, e_cs, e_cq, e_jc, e_kc, e_js', e_jcq, e_icj, e_kcj, or_true, true_or, or_false, false_or, and_true, true_and, not_true_eq_false, not_false_eq_true, f_X2_makeRooms, h0]
    exact g1
/-- the last room of a region -/
theorem q_last {F : List (Nat × Nat)} {x : Nat × Nat} (hs : F.Pairwise (fun x y => x.1 ≤ y.1)) (hn : F.Nodup) (hx : x ∈ F) (hm : ∀ y, y ∈ F → y.2 = x.2 → y.1 ≤ x.1) : F[F.idxOf x]? = some x ∧ ∀ j z, F.idxOf x < j → F[j]? = some z → z.2 ≠ x.2 := by
  have h1 : F.idxOf x < F.length := List.idxOf_lt_length_of_mem hx
  have h2 : F[F.idxOf x]? = some x := by rw [List.getElem?_eq_getElem h1, List.getElem_idxOf h1]
  refine ⟨h2, fun j z hj hz he => ?_⟩
  obtain ⟨hjl, hz'⟩ := List.getElem?_eq_some_iff.mp hz
  have h3 := List.pairwise_iff_getElem.mp hs _ _ h1 hjl hj
  rw [List.getElem_idxOf h1, hz'] at h3
  have h4 := hm z (hz' ▸ List.getElem_mem hjl) he
  have h5 : z = x := Prod.ext (by omega) he
  have h6 := List.pairwise_iff_getElem.mp (List.nodup_iff_pairwise_ne.mp hn) _ _ h1 hjl hj
  rw [List.getElem_idxOf h1, hz', h5] at h6
  exact h6 rfl
theorem k_latl {r t : Nat} {y : Nat × Nat} (hM : q_R S a M) (hl : (q_F M).length ≤ 312) (hr : ∀ x, x ∈ q_F M → x.2 < 24) (hr2 : r < 24) (ht : (q_F M)[t]? = some y) (hy : y.2 = r) (ha : ∀ j z, t < j → (q_F M)[j]? = some z → z.2 ≠ r) : ∀ (d k fu : Nat), t + d = k → k < (q_F M).length → d < fu → b_X2_latestRoom_7 a fu S (nI r) (nI k) = some (nI t, S) := by
  intro d
  induction d with
  | zero =>
    intro k fu hk hkl hf
    obtain ⟨fu, rfl⟩ : ∃ f, fu = f + 1 := ⟨fu - 1, by omega⟩
    have hk : t = k := hk
    subst hk
    have h8 := hM.2.2.2.2.2.2.2.1 t y ht
    simp (disch := omega) only [e_let, e_call, e_cal0, e_bind, e_lit, e_ofN, e_neg, nI_add, pk_mul, e_sub, e_ldi, e_sti, e_ldj, e_stj, e_le_t, e_le_f, e_lt_t, e_lt_f, e_eq_t, e_eq_f, e_no_eq, e_no_eq', e_no_rfl, e_no_lt, e_no_le, e_le_no, e_lt_no, if_true, if_false, ↓reduceIte, e_rs, e_rq, e_rn, e_ji, e_ki, e_ij, e_kj, e_js, e_jq, e_jn, e_cs, e_cq, e_jc, e_kc, e_js', e_jcq, e_icj, e_kcj, or_true, true_or, or_false, false_or, and_true, true_and, not_true_eq_false, not_false_eq_true, b_X2_latestRoom_7, h8, hy]
  | succ d ih =>
    intro k fu hk hkl hf
    obtain ⟨fu, rfl⟩ : ∃ f, fu = f + 1 := ⟨fu - 1, by omega⟩
    have hz : (q_F M)[k]? = some (q_F M)[k] := List.getElem?_eq_getElem hkl
    have h8 := hM.2.2.2.2.2.2.2.1 k _ hz
    have h9 := ha k _ (by omega) hz
    have h10 := hr _ (List.getElem_mem hkl)
    simp (disch := omega) only [e_let, e_call, e_cal0, e_bind, e_lit, e_ofN, e_neg, nI_add, pk_mul, e_sub, e_ldi, e_sti, e_ldj, e_stj, e_le_t, e_le_f, e_lt_t, e_lt_f, e_eq_t, e_eq_f, e_no_eq, e_no_eq', e_no_rfl, e_no_lt, e_no_le, e_le_no, e_lt_no, if_true, if_false, ↓reduceIte, e_rs, e_rq, e_rn, e_ji, e_ki, e_ij, e_kj, e_js, e_jq, e_jn, e_cs, e_cq, e_jc, e_kc, e_js', e_jcq, e_icj, e_kcj, or_true, true_or, or_false, false_or, and_true, true_and, not_true_eq_false, not_false_eq_true, b_X2_latestRoom_7, h8, e_dec]
    exact ih (k - 1) fu (by omega) (by omega) (by omega)
theorem k_latest {x : Nat × Nat} (hM : q_R S a M) (hB : q_B P M) (hx : x ∈ q_F M) (hm : ∀ y, y ∈ q_F M → y.2 = x.2 → y.1 ≤ x.1) : f_X2_latestRoom a S (nI x.2) = some (nI ((q_F M).idxOf x), S) := by
  have hf := m_fu_ge
  have hs := hB.2.2.2.2.2.2.2.2.2.2.2.2.2.2.2.2
  obtain ⟨q1, q2⟩ := q_last hs hB.2.2.1 hx hm
  have h1 : (q_F M).idxOf x < (q_F M).length := List.idxOf_lt_length_of_mem hx
  have hl := hB.2.1
  have r3 := hM.2.1
  simp (disch := omega) only [e_let, e_call, e_cal0, e_bind, e_lit, e_ofN, e_neg, nI_add, pk_mul, e_sub, e_ldi, e_sti, e_ldj, e_stj, e_le_t, e_le_f, e_lt_t, e_lt_f, e_eq_t, e_eq_f, e_no_eq, e_no_eq', e_no_rfl, e_no_lt, e_no_le, e_le_no, e_lt_no, if_true, if_false, ↓reduceIte, e_rs, e_rq, e_rn, e_ji, e_ki, e_ij, e_kj, e_js, e_jq, e_jn, e_cs, e_cq, e_jc, e_kc, e_js', e_jcq, e_icj, e_kcj, or_true, true_or, or_false, false_or, and_true, true_and, not_true_eq_false, not_false_eq_true, f_X2_latestRoom, r3]
  exact k_latl hM hl hB.2.2.2.1 (hB.2.2.2.1 x hx) q1 rfl q2 _ _ m_fu (show (q_F M).idxOf x + ((q_F M).length - 1 - (q_F M).idxOf x) = (q_F M).length - 1 by omega) (by omega) (by omega)
/-- one room goes away with its cells -/
def q_fr1 (M : qM) (x : Nat × Nat) : qM := (va_up (q_sc M) 4 (fb_ct (fun c => (if q_ce M c = some x then none else q_ce M c).isSome) 200), q_ff M, q_fl M, q_kd M, q_vl M, (q_F M).filter (fun y => decide (y ≠ x)), (fun c => if q_ce M c = some x then none else q_ce M c), q_sk M, q_sv M, q_gv M)
theorem q_split {F : List (Nat × Nat)} {x : Nat × Nat} (hn : F.Nodup) (hx : x ∈ F) : ∃ A B, F = A ++ x :: B ∧ A.length = F.idxOf x ∧ F.filter (fun y => decide (y ≠ x)) = A ++ B ∧ ∀ y, y ∈ F → y ≠ x → (F.idxOf y < F.idxOf x ∧ (A ++ B).idxOf y = F.idxOf y) ∨ (F.idxOf x < F.idxOf y ∧ (A ++ B).idxOf y = F.idxOf y - 1) := by
  obtain ⟨A, B, rfl⟩ := List.append_of_mem hx
  have hd := List.nodup_append.mp hn
  have hxA : x ∉ A := fun h => hd.2.2 x h x (List.mem_cons_self) rfl
  have hxB : x ∉ B := (List.nodup_cons.mp hd.2.1).1
  have hix : (A ++ x :: B).idxOf x = A.length := by rw [List.idxOf_append, if_neg hxA, List.idxOf_cons_self]; omega
  refine ⟨A, B, rfl, hix.symm, ?_, fun y hy hne => ?_⟩
  · rw [List.filter_append, List.filter_cons_of_neg (by simp), List.filter_eq_self.mpr, List.filter_eq_self.mpr]
    · intro b hb; exact decide_eq_true (fun q => hxB (q ▸ hb))
    · intro b hb; exact decide_eq_true (fun q => hxA (q ▸ hb))
  · rw [hix]
    by_cases hA : y ∈ A
    · left
      have := List.idxOf_lt_length_of_mem hA
      rw [List.idxOf_append, if_pos hA, List.idxOf_append, if_pos hA]; exact ⟨this, rfl⟩
    · right
      rw [List.idxOf_append, if_neg hA, List.idxOf_append, if_neg hA, List.idxOf_cons]
      have : (x == y) = false := by rw [beq_eq_false_iff_ne]; exact fun q => hne q.symm
      rw [this]; simp only [cond_false]; omega
end QF
