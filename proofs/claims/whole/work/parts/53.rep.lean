/-! the picture under single writes -/
section QR
variable {S S' : m_M} {a : Nat} {M : qM}
theorem q_sc_s {j v i : Nat} : q_sc (q_s M j v) i = if i = j then v else q_sc M i := rfl
theorem q_sc_eq {j v : Nat} : q_sc (q_s M j v) j = v := by rw [q_sc_s, if_pos rfl]
theorem q_sc_ne {j v i : Nat} (h : i ≠ j) : q_sc (q_s M j v) i = q_sc M i := by rw [q_sc_s, if_neg h]
theorem q_sc_gi {x i : Nat} {y : Int32} : q_sc (q_gi M x y) i = if i = 9 then x else q_sc M i := rfl
theorem q_R.s {j v : Nat} (h : q_R S a M) (h2 : j ≠ 2) (h3 : j ≠ 3) (h10 : j ≠ 10) : q_R (m_si S a j (nI v)) a (q_s M j v) := by
  obtain ⟨r1, r2, r3, r4, r5, r6, r7, r8, r9, r10, r11⟩ := h
  have e2 : q_sc (q_s M j v) 2 = q_sc M 2 := q_sc_ne (fun q => h2 q.symm)
  refine ⟨fun i hi h3' h10' => ?_, ?_, ?_, fun k hk => ?_, fun k hk => ?_, fun k w hk hw => ?_, fun k w hk hw => ?_, fun i x hx => ?_, fun c hc => ?_, fun c s hc hs hl => ?_, fun c s hc hs hl => ?_⟩
  · by_cases hij : i = j
    · subst hij; rw [e_rs]; exact congrArg nI q_sc_eq.symm
    · rw [e_rn hij, r1 i hi h3' h10']; exact congrArg nI (q_sc_ne hij).symm
  · rw [e_rn (Ne.symm h3)]; exact r2
  · rw [e_rn (Ne.symm h10)]; exact r3
  · rw [e_rq (by omega)]; exact r4 k (by omega)
  · rw [e_rq (by omega)]; exact r5 k (by omega)
  · rw [e_rq (by omega)]; exact r6 k w (by omega) hw
  · rw [e_rq (by omega)]; exact r7 k w (by omega) hw
  · rw [e_rq (by omega)]; exact r8 i x hx
  · rw [e_rq (by omega)]; exact r9 c hc
  · rw [e_rq (by omega)]; exact r10 c s hc hs hl
  · rw [e_rq (by omega)]; exact r11 c s hc hs hl
theorem q_R.pop {v : Nat} (h : q_R S a M) (hv : v ≤ q_sc M 2) : q_R (m_si S a 2 (nI v)) a (q_s M 2 v) := by
  obtain ⟨r1, r2, r3, r4, r5, r6, r7, r8, r9, r10, r11⟩ := h
  have e2 : q_sc (q_s M 2 v) 2 = v := q_sc_eq
  refine ⟨fun i hi h3' h10' => ?_, ?_, ?_, fun k hk => ?_, fun k hk => ?_, fun k w hk hw => ?_, fun k w hk hw => ?_, fun i x hx => ?_, fun c hc => ?_, fun c s hc hs hl => ?_, fun c s hc hs hl => ?_⟩
  · by_cases hij : i = 2
    · subst hij; rw [e_rs]; exact congrArg nI q_sc_eq.symm
    · rw [e_rn hij, r1 i hi h3' h10']; exact congrArg nI (q_sc_ne hij).symm
  · rw [e_rn (by omega)]; exact r2
  · rw [e_rn (by omega)]; exact r3
  · rw [e_rq (by omega)]; exact r4 k (by omega)
  · rw [e_rq (by omega)]; exact r5 k (by omega)
  · rw [e_rq (by omega)]; exact r6 k w (by omega) hw
  · rw [e_rq (by omega)]; exact r7 k w (by omega) hw
  · rw [e_rq (by omega)]; exact r8 i x hx
  · rw [e_rq (by omega)]; exact r9 c hc
  · rw [e_rq (by omega)]; exact r10 c s hc hs hl
  · rw [e_rq (by omega)]; exact r11 c s hc hs hl
theorem q_R.gi {x : Nat} {y : Int32} (h : q_R S a M) : q_R (m_si (m_si S a 9 (nI x)) a 10 y) a (q_gi M x y) := by
  obtain ⟨r1, r2, r3, r4, r5, r6, r7, r8, r9, r10, r11⟩ := h
  have e2 : q_sc (q_gi M x y) 2 = q_sc M 2 := rfl
  refine ⟨fun i hi h3' h10' => ?_, ?_, ?_, fun k hk => ?_, fun k hk => ?_, fun k w hk hw => ?_, fun k w hk hw => ?_, fun i x hx => ?_, fun c hc => ?_, fun c s hc hs hl => ?_, fun c s hc hs hl => ?_⟩
  · rw [e_rn h10']
    by_cases hij : i = 9
    · subst hij; rw [e_rs]; rw [q_sc_gi, if_pos rfl]
    · rw [e_rn hij, r1 i hi h3' h10']; rw [q_sc_gi, if_neg hij]
  · rw [e_rn (by omega), e_rn (by omega)]; exact r2
  · rw [e_rs]; rfl
  · rw [e_rq (by omega), e_rq (by omega)]; exact r4 k (by omega)
  · rw [e_rq (by omega), e_rq (by omega)]; exact r5 k (by omega)
  · rw [e_rq (by omega), e_rq (by omega)]; exact r6 k w (by omega) hw
  · rw [e_rq (by omega), e_rq (by omega)]; exact r7 k w (by omega) hw
  · rw [e_rq (by omega), e_rq (by omega)]; exact r8 i x hx
  · rw [e_rq (by omega), e_rq (by omega)]; exact r9 c hc
  · rw [e_rq (by omega), e_rq (by omega)]; exact r10 c s hc hs hl
  · rw [e_rq (by omega), e_rq (by omega)]; exact r11 c s hc hs hl
theorem q_kvar {g : Nat → Nat → Nat} {k v k' v' x : Nat} : va_up g k (va_up (g k) v x) k' v' = if k' = k ∧ v' = v then x else g k' v' := by
  simp only [va_up]
  by_cases h : k' = k
  · subst h; by_cases h2 : v' = v <;> simp [va_up, h2]
  · simp [h]
theorem q_vvar {g : Nat → Nat → Int32} {k v k' v' : Nat} {x : Int32} : va_up g k (va_up (g k) v x) k' v' = if k' = k ∧ v' = v then x else g k' v' := by
  simp only [va_up]
  by_cases h : k' = k
  · subst h; by_cases h2 : v' = v <;> simp [va_up, h2]
  · simp [h]
theorem q_R.var {k v x : Nat} {y : Int32} (h : q_R S a M) (hv : v < 27) : q_R (m_si (m_si S (a + 3) (k * 27 + v) (nI x)) (a + 4) (k * 27 + v) y) a (q_var M k v x y) := by
  obtain ⟨r1, r2, r3, r4, r5, r6, r7, r8, r9, r10, r11⟩ := h
  refine ⟨fun i hi h3' h10' => ?_, ?_, ?_, fun k hk => ?_, fun k hk => ?_, fun k' w hk hw => ?_, fun k' w hk hw => ?_, fun i x hx => ?_, fun c hc => ?_, fun c s hc hs hl => ?_, fun c s hc hs hl => ?_⟩
  · rw [e_rq (by omega), e_rq (by omega)]; exact r1 i hi h3' h10'
  · rw [e_rq (by omega), e_rq (by omega)]; exact r2
  · rw [e_rq (by omega), e_rq (by omega)]; exact r3
  · rw [e_rq (by omega), e_rq (by omega)]; exact r4 k hk
  · rw [e_rq (by omega), e_rq (by omega)]; exact r5 k hk
  · rw [e_rq (by omega), e_rif]
    have := r6 k' w hk hw
    show _ = nI (va_up (q_kd M) k (va_up (q_kd M k) v x) k' w)
    rw [q_kvar]
    by_cases hh : k' = k ∧ w = v
    · rw [if_pos (by omega), if_pos hh]
    · rw [if_neg (by omega), if_neg hh]; exact this
  · rw [e_rif]
    have := r7 k' w hk hw
    show _ = va_up (q_vl M) k (va_up (q_vl M k) v y) k' w
    rw [q_vvar]
    by_cases hh : k' = k ∧ w = v
    · rw [if_pos (by omega), if_pos hh]
    · rw [if_neg (by omega), if_neg hh, e_rq (by omega)]; exact this
  · rw [e_rq (by omega), e_rq (by omega)]; exact r8 i x hx
  · rw [e_rq (by omega), e_rq (by omega)]; exact r9 c hc
  · rw [e_rq (by omega), e_rq (by omega)]; exact r10 c s hc hs hl
  · rw [e_rq (by omega), e_rq (by omega)]; exact r11 c s hc hs hl
theorem q_R.lin {k i : Nat} (h : q_R S a M) : q_R (m_si S (a + 2) k (nI i)) a (q_lin M k i) := by
  obtain ⟨r1, r2, r3, r4, r5, r6, r7, r8, r9, r10, r11⟩ := h
  refine ⟨fun i hi h3' h10' => ?_, ?_, ?_, fun k hk => ?_, fun k' hk => ?_, fun k' w hk hw => ?_, fun k' w hk hw => ?_, fun i x hx => ?_, fun c hc => ?_, fun c s hc hs hl => ?_, fun c s hc hs hl => ?_⟩
  · rw [e_rq (by omega)]; exact r1 i hi h3' h10'
  · rw [e_rq (by omega)]; exact r2
  · rw [e_rq (by omega)]; exact r3
  · rw [e_rq (by omega)]; exact r4 k hk
  · rw [e_rif]
    show _ = nI (va_up (q_fl M) k i k')
    simp only [va_up]
    by_cases hh : k' = k
    · rw [if_pos hh, if_pos hh]
    · rw [if_neg hh, if_neg hh]; exact r5 k' hk
  · rw [e_rq (by omega)]; exact r6 k' w hk hw
  · rw [e_rq (by omega)]; exact r7 k' w hk hw
  · rw [e_rq (by omega)]; exact r8 i x hx
  · rw [e_rq (by omega)]; exact r9 c hc
  · rw [e_rq (by omega)]; exact r10 c s hc hs hl
  · rw [e_rq (by omega)]; exact r11 c s hc hs hl
/-- a frame is written over, or put on top: rows k -/
theorem q_R.push {k g n : Nat} {kk : Nat → Nat} {vv : Nat → Int32} (h : q_R S a M) (hn : n ≤ q_sc M 2 ∨ (k = q_sc M 2 ∧ n = k + 1))
    (w1 : ∀ q, q < a + 1 ∨ a + 4 < q → m_ri S' q = m_ri S q)
    (w2 : ∀ i, i ≠ k → i < n → m_ri S' (a + 1) i = m_ri S (a + 1) i) (w3 : ∀ i, i ≠ k → i < n → m_ri S' (a + 2) i = m_ri S (a + 2) i)
    (w4 : ∀ i v, i ≠ k → i < n → v < 27 → m_ri S' (a + 3) (i * 27 + v) = m_ri S (a + 3) (i * 27 + v)) (w5 : ∀ i v, i ≠ k → i < n → v < 27 → m_ri S' (a + 4) (i * 27 + v) = m_ri S (a + 4) (i * 27 + v))
    (g1 : m_ri S' (a + 1) k = nI g) (g2 : m_ri S' (a + 2) k = nI 0) (g3 : ∀ v, v < 27 → m_ri S' (a + 3) (k * 27 + v) = nI (kk v)) (g4 : ∀ v, v < 27 → m_ri S' (a + 4) (k * 27 + v) = vv v) (h13 : n ≤ 13) :
    q_R (m_si S' a 2 (nI n)) a (q_s (q_push M k g kk vv) 2 n) := by
  obtain ⟨r1, r2, r3, r4, r5, r6, r7, r8, r9, r10, r11⟩ := h
  have e2 : q_sc (q_s (q_push M k g kk vv) 2 n) 2 = n := q_sc_eq
  refine ⟨fun i hi h3' h10' => ?_, ?_, ?_, fun k' hk => ?_, fun k' hk => ?_, fun k' w hk hw => ?_, fun k' w hk hw => ?_, fun i x hx => ?_, fun c hc => ?_, fun c s hc hs hl => ?_, fun c s hc hs hl => ?_⟩
  · by_cases hij : i = 2
    · subst hij; rw [e_rs]; exact congrArg nI q_sc_eq.symm
    · rw [e_rn hij, w1 a (by omega), r1 i hi h3' h10']; exact congrArg nI (q_sc_ne (M := q_push M k g kk vv) hij).symm
  · rw [e_rn (by omega), w1 a (by omega)]; exact r2
  · rw [e_rn (by omega), w1 a (by omega)]; exact r3
  · rw [e_rq (by omega)]
    show _ = nI (va_up (q_ff M) k g k')
    by_cases hh : k' = k
    · subst hh; rw [va_up_self]; exact g1
    · rw [va_up_ne _ _ hh, w2 k' hh (by omega)]; exact r4 k' (by omega)
  · rw [e_rq (by omega)]
    show _ = nI (va_up (q_fl M) k 0 k')
    by_cases hh : k' = k
    · subst hh; rw [va_up_self]; exact g2
    · rw [va_up_ne _ _ hh, w3 k' hh (by omega)]; exact r5 k' (by omega)
  · rw [e_rq (by omega)]
    show _ = nI (va_up (q_kd M) k kk k' w)
    by_cases hh : k' = k
    · subst hh; rw [va_up_self]; exact g3 w hw
    · rw [va_up_ne _ _ hh, w4 k' w hh (by omega) hw]; exact r6 k' w (by omega) hw
  · rw [e_rq (by omega)]
    show _ = va_up (q_vl M) k vv k' w
    by_cases hh : k' = k
    · subst hh; rw [va_up_self]; exact g4 w hw
    · rw [va_up_ne _ _ hh, w5 k' w hh (by omega) hw]; exact r7 k' w (by omega) hw
  · rw [e_rq (by omega), w1 _ (by omega)]; exact r8 i x hx
  · rw [e_rq (by omega), w1 _ (by omega)]; exact r9 c hc
  · rw [e_rq (by omega), w1 _ (by omega)]; exact r10 c s hc hs hl
  · rw [e_rq (by omega), w1 _ (by omega)]; exact r11 c s hc hs hl
theorem q_ix_app {F : List (Nat × Nat)} {y : Nat × Nat} {o : Option (Nat × Nat)} (h : ∀ x, o = some x → x ∈ F) : q_ix (F ++ [y]) o = q_ix F o := by
  cases o with
  | none => rfl
  | some x => simp only [q_ix]; rw [List.idxOf_append, if_pos (h x rfl)]
theorem q_R.room {lev r : Nat} (h : q_R S a M) (hm : ∀ c x, c < 200 → q_ce M c = some x → x ∈ q_F M) : q_R (m_si (m_si S (a + 5) (q_F M).length (nI r)) a 3 (nI ((q_F M).length + 1))) a (q_setF M (q_F M ++ [(lev, r)])) := by
  obtain ⟨r1, r2, r3, r4, r5, r6, r7, r8, r9, r10, r11⟩ := h
  refine ⟨fun i hi h3' h10' => ?_, ?_, ?_, fun k' hk => ?_, fun k' hk => ?_, fun k' w hk hw => ?_, fun k' w hk hw => ?_, fun i x hx => ?_, fun c hc => ?_, fun c s hc hs hl => ?_, fun c s hc hs hl => ?_⟩
  · rw [e_rn (by omega), e_rq (by omega)]; exact r1 i hi h3' h10'
  · rw [e_rs]
    show _ = nI (q_F M ++ [(lev, r)]).length
    rw [List.length_append]; rfl
  · rw [e_rn (by omega), e_rq (by omega)]; exact r3
  · rw [e_rq (by omega), e_rq (by omega)]; exact r4 k' hk
  · rw [e_rq (by omega), e_rq (by omega)]; exact r5 k' hk
  · rw [e_rq (by omega), e_rq (by omega)]; exact r6 k' w hk hw
  · rw [e_rq (by omega), e_rq (by omega)]; exact r7 k' w hk hw
  · rw [e_rq (by omega)]
    have hx : (q_F M ++ [(lev, r)])[i]? = some x := hx
    by_cases hh : i < (q_F M).length
    · rw [e_rn (by omega)]; exact r8 i x (by rw [List.getElem?_append_left hh] at hx; exact hx)
    · have hl : i < (q_F M ++ [(lev, r)]).length := (List.getElem?_eq_some_iff.mp hx).1
      rw [List.length_append] at hl
      have : i = (q_F M).length := by simp at hl; omega
      subst this
      rw [e_rs]
      rw [List.getElem?_append_right (Nat.le_refl _)] at hx
      simp at hx
      rw [← hx]
  · rw [e_rq (by omega), e_rq (by omega), r9 c hc]
    exact (q_ix_app (fun x hx => hm c x hc hx)).symm
  · rw [e_rq (by omega), e_rq (by omega)]; exact r10 c s hc hs hl
  · rw [e_rq (by omega), e_rq (by omega)]; exact r11 c s hc hs hl
/-- nothing of the block was written -/
theorem q_R.kept (h : q_R S a M) (w : ∀ q, a ≤ q → q < a + 9 → m_ri S' q = m_ri S q) : q_R S' a M := by
  obtain ⟨r1, r2, r3, r4, r5, r6, r7, r8, r9, r10, r11⟩ := h
  refine ⟨?_, ?_, ?_, ?_, ?_, ?_, ?_, ?_, ?_, ?_, ?_⟩
  · rw [w a (by omega) (by omega)]; exact r1
  · rw [w a (by omega) (by omega)]; exact r2
  · rw [w a (by omega) (by omega)]; exact r3
  · rw [w (a + 1) (by omega) (by omega)]; exact r4
  · rw [w (a + 2) (by omega) (by omega)]; exact r5
  · rw [w (a + 3) (by omega) (by omega)]; exact r6
  · rw [w (a + 4) (by omega) (by omega)]; exact r7
  · rw [w (a + 5) (by omega) (by omega)]; exact r8
  · rw [w (a + 6) (by omega) (by omega)]; exact r9
  · rw [w (a + 7) (by omega) (by omega)]; exact r10
  · rw [w (a + 8) (by omega) (by omega)]; exact r11
end QR
