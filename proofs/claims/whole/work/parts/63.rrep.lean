/-! the other side's machine: a row of numbers -/
def q_rg (o : Option (Nat × Nat)) : Int32 := match o with | none => m_no | some x => nI x.2
def r_R (N : Nat → Int32) (M : qM) : Prop :=
  N 210 = nI (q_sc M 0) ∧ N 211 = nI (q_sc M 1) ∧ N 212 = nI (q_sc M 2) ∧ N 213 = nI (q_sc M 4) ∧ N 214 = nI (q_F M).length ∧ N 215 = nI (q_sc M 5) ∧ N 216 = nI (q_sc M 6) ∧ N 217 = nI (q_sc M 7) ∧ N 218 = nI (q_sc M 8) ∧
  N 219 = nI (if q_sc M 0 = 2 then q_sc M 9 else 0) ∧ (q_sc M 0 = 2 → N 220 = q_gv M) ∧
  (∀ k, k < q_sc M 2 → k < 12 → N (221 + k) = nI (q_ff M k)) ∧ (∀ k, k < q_sc M 2 → k < 12 → N (233 + k) = nI (q_fl M k)) ∧
  (∀ k v, k < q_sc M 2 → k < 12 → v < 27 → N (245 + (27 * k + v)) = nI (q_kd M k v)) ∧ (∀ k v, k < q_sc M 2 → k < 12 → v < 27 → N (569 + (27 * k + v)) = q_vl M k v) ∧
  (∀ i x, i < 312 → (q_F M)[i]? = some x → N (2093 + i) = nI x.2) ∧ (∀ c, c < 200 → N (893 + c) = q_rg (q_ce M c)) ∧ (∀ c x, c < 200 → q_ce M c = some x → N (1093 + c) = nI ((q_F M).idxOf x)) ∧
  (∀ c s, c < 200 → s < 2 → q_ce M c ≠ none → N (1293 + (2 * c + s)) = nI (q_sk M c s)) ∧ (∀ c s, c < 200 → s < 2 → q_ce M c ≠ none → N (1693 + (2 * c + s)) = q_sv M c s)
theorem e_row {T : m_M} {q j : Nat} {v : Int32} : m_ri (m_si T q j v) q = va_up (m_ri T q) j v := by funext t; rw [e_rif]; rfl
theorem e_up {N : Nat → Int32} {j : Nat} {v : Int32} : va_up N j v j = v := va_up_self _ _ _
theorem e_un {N : Nat → Int32} {j t : Nat} {v : Int32} (h : t ≠ j) : va_up N j v t = N t := va_up_ne _ _ h
section RR
variable {N : Nat → Int32} {M : qM}
theorem r_R.lost {v : Nat} (h : r_R N M) : r_R N (q_s M 11 v) := by
  obtain ⟨r_s0, r_s1, r_s2, r_s4, r_sF, r_s5, r_s6, r_s7, r_s8, r_g, r_gv, r_ff, r_fl, r_kd, r_vl, r_rm, r_cr, r_cx, r_sk, r_sv⟩ := h
  refine ⟨?_, ?_, ?_, ?_, ?_, ?_, ?_, ?_, ?_, ?_, fun h0 => ?_, fun k hk h12 => ?_, fun k hk h12 => ?_, fun k v hk h12 hv => ?_, fun k v hk h12 hv => ?_, fun i x hi hx => ?_, fun c hc => ?_, fun c x hc hx => ?_, fun c s hc hs hl => ?_, fun c s hc hs hl => ?_⟩
  · exact r_s0
  · exact r_s1
  · exact r_s2
  · exact r_s4
  · exact r_sF
  · exact r_s5
  · exact r_s6
  · exact r_s7
  · exact r_s8
  · exact r_g
  · exact r_gv h0
  · exact r_ff k hk h12
  · exact r_fl k hk h12
  · exact r_kd k v hk h12 hv
  · exact r_vl k v hk h12 hv
  · exact r_rm i x hi hx
  · exact r_cr c hc
  · exact r_cx c x hc hx
  · exact r_sk c s hc hs hl
  · exact r_sv c s hc hs hl
theorem r_R.gi {x : Nat} {y : Int32} (h : r_R N M) (h0' : q_sc M 0 ≠ 2) : r_R N (q_gi M x y) := by
  obtain ⟨r_s0, r_s1, r_s2, r_s4, r_sF, r_s5, r_s6, r_s7, r_s8, r_g, r_gv, r_ff, r_fl, r_kd, r_vl, r_rm, r_cr, r_cx, r_sk, r_sv⟩ := h
  refine ⟨?_, ?_, ?_, ?_, ?_, ?_, ?_, ?_, ?_, ?_, fun h0 => ?_, fun k hk h12 => ?_, fun k hk h12 => ?_, fun k v hk h12 hv => ?_, fun k v hk h12 hv => ?_, fun i x hi hx => ?_, fun c hc => ?_, fun c x hc hx => ?_, fun c s hc hs hl => ?_, fun c s hc hs hl => ?_⟩
  · exact r_s0
  · exact r_s1
  · exact r_s2
  · exact r_s4
  · exact r_sF
  · exact r_s5
  · exact r_s6
  · exact r_s7
  · exact r_s8
  · have e : q_sc (q_gi M x y) 0 = q_sc M 0 := rfl
    rw [e, if_neg h0']; rw [if_neg h0'] at r_g; exact r_g
  · exact absurd h0 h0'
  · exact r_ff k hk h12
  · exact r_fl k hk h12
  · exact r_kd k v hk h12 hv
  · exact r_vl k v hk h12 hv
  · exact r_rm i x hi hx
  · exact r_cr c hc
  · exact r_cx c x hc hx
  · exact r_sk c s hc hs hl
  · exact r_sv c s hc hs hl
theorem r_R.stp {v : Nat} (h : r_R N M) : r_R (va_up N 216 (nI v)) (q_s M 6 v) := by
  obtain ⟨r_s0, r_s1, r_s2, r_s4, r_sF, r_s5, r_s6, r_s7, r_s8, r_g, r_gv, r_ff, r_fl, r_kd, r_vl, r_rm, r_cr, r_cx, r_sk, r_sv⟩ := h
  refine ⟨?_, ?_, ?_, ?_, ?_, ?_, ?_, ?_, ?_, ?_, fun h0 => ?_, fun k hk h12 => ?_, fun k hk h12 => ?_, fun k v hk h12 hv => ?_, fun k v hk h12 hv => ?_, fun i x hi hx => ?_, fun c hc => ?_, fun c x hc hx => ?_, fun c s hc hs hl => ?_, fun c s hc hs hl => ?_⟩
  · rw [e_un (by omega)]; exact r_s0
  · rw [e_un (by omega)]; exact r_s1
  · rw [e_un (by omega)]; exact r_s2
  · rw [e_un (by omega)]; exact r_s4
  · rw [e_un (by omega)]; exact r_sF
  · rw [e_un (by omega)]; exact r_s5
  · rw [e_up, q_sc_eq]
  · rw [e_un (by omega)]; exact r_s7
  · rw [e_un (by omega)]; exact r_s8
  · rw [e_un (by omega)]; exact r_g
  · rw [e_un (by omega)]; exact r_gv h0
  · rw [e_un (by omega)]; exact r_ff k hk h12
  · rw [e_un (by omega)]; exact r_fl k hk h12
  · rw [e_un (by omega)]; exact r_kd k v hk h12 hv
  · rw [e_un (by omega)]; exact r_vl k v hk h12 hv
  · rw [e_un (by omega)]; exact r_rm i x hi hx
  · rw [e_un (by omega)]; exact r_cr c hc
  · rw [e_un (by omega)]; exact r_cx c x hc hx
  · rw [e_un (by omega)]; exact r_sk c s hc hs hl
  · rw [e_un (by omega)]; exact r_sv c s hc hs hl
theorem r_R.var {kk w x : Nat} {y : Int32} (h : r_R N M) (hk' : kk < 12) (hw : w < 27) : r_R (va_up (va_up N (245 + (27 * kk + w)) (nI x)) (569 + (27 * kk + w)) y) (q_var M kk w x y) := by
  obtain ⟨r_s0, r_s1, r_s2, r_s4, r_sF, r_s5, r_s6, r_s7, r_s8, r_g, r_gv, r_ff, r_fl, r_kd, r_vl, r_rm, r_cr, r_cx, r_sk, r_sv⟩ := h
  refine ⟨?_, ?_, ?_, ?_, ?_, ?_, ?_, ?_, ?_, ?_, fun h0 => ?_, fun k hk h12 => ?_, fun k hk h12 => ?_, fun k v hk h12 hv => ?_, fun k v hk h12 hv => ?_, fun i x hi hx => ?_, fun c hc => ?_, fun c x hc hx => ?_, fun c s hc hs hl => ?_, fun c s hc hs hl => ?_⟩
  · rw [e_un (by omega), e_un (by omega)]; exact r_s0
  · rw [e_un (by omega), e_un (by omega)]; exact r_s1
  · rw [e_un (by omega), e_un (by omega)]; exact r_s2
  · rw [e_un (by omega), e_un (by omega)]; exact r_s4
  · rw [e_un (by omega), e_un (by omega)]; exact r_sF
  · rw [e_un (by omega), e_un (by omega)]; exact r_s5
  · rw [e_un (by omega), e_un (by omega)]; exact r_s6
  · rw [e_un (by omega), e_un (by omega)]; exact r_s7
  · rw [e_un (by omega), e_un (by omega)]; exact r_s8
  · rw [e_un (by omega), e_un (by omega)]; exact r_g
  · rw [e_un (by omega), e_un (by omega)]; exact r_gv h0
  · rw [e_un (by omega), e_un (by omega)]; exact r_ff k hk h12
  · rw [e_un (by omega), e_un (by omega)]; exact r_fl k hk h12
  · rw [e_un (by omega)]
    show _ = nI (va_up (q_kd M) kk (va_up (q_kd M kk) w x) k v)
    rw [q_kvar]
    by_cases hh : k = kk ∧ v = w
    · rw [if_pos hh, hh.1, hh.2, e_up]
    · rw [if_neg hh, e_un (by omega)]; exact r_kd k v hk h12 hv
  · show _ = va_up (q_vl M) kk (va_up (q_vl M kk) w y) k v
    rw [q_vvar]
    by_cases hh : k = kk ∧ v = w
    · rw [if_pos hh, hh.1, hh.2, e_up]
    · rw [if_neg hh, e_un (by omega), e_un (by omega)]; exact r_vl k v hk h12 hv
  · rw [e_un (by omega), e_un (by omega)]; exact r_rm i x hi hx
  · rw [e_un (by omega), e_un (by omega)]; exact r_cr c hc
  · rw [e_un (by omega), e_un (by omega)]; exact r_cx c x hc hx
  · rw [e_un (by omega), e_un (by omega)]; exact r_sk c s hc hs hl
  · rw [e_un (by omega), e_un (by omega)]; exact r_sv c s hc hs hl
theorem r_R.lin {kk w : Nat} (h : r_R N M) (hk' : kk < 12) : r_R (va_up N (233 + kk) (nI w)) (q_lin M kk w) := by
  obtain ⟨r_s0, r_s1, r_s2, r_s4, r_sF, r_s5, r_s6, r_s7, r_s8, r_g, r_gv, r_ff, r_fl, r_kd, r_vl, r_rm, r_cr, r_cx, r_sk, r_sv⟩ := h
  refine ⟨?_, ?_, ?_, ?_, ?_, ?_, ?_, ?_, ?_, ?_, fun h0 => ?_, fun k hk h12 => ?_, fun k hk h12 => ?_, fun k v hk h12 hv => ?_, fun k v hk h12 hv => ?_, fun i x hi hx => ?_, fun c hc => ?_, fun c x hc hx => ?_, fun c s hc hs hl => ?_, fun c s hc hs hl => ?_⟩
  · rw [e_un (by omega)]; exact r_s0
  · rw [e_un (by omega)]; exact r_s1
  · rw [e_un (by omega)]; exact r_s2
  · rw [e_un (by omega)]; exact r_s4
  · rw [e_un (by omega)]; exact r_sF
  · rw [e_un (by omega)]; exact r_s5
  · rw [e_un (by omega)]; exact r_s6
  · rw [e_un (by omega)]; exact r_s7
  · rw [e_un (by omega)]; exact r_s8
  · rw [e_un (by omega)]; exact r_g
  · rw [e_un (by omega)]; exact r_gv h0
  · rw [e_un (by omega)]; exact r_ff k hk h12
  · show _ = nI (va_up (q_fl M) kk w k)
    by_cases hh : k = kk
    · rw [hh, e_up, va_up_self]
    · rw [va_up_ne _ _ hh, e_un (by omega)]; exact r_fl k hk h12
  · rw [e_un (by omega)]; exact r_kd k v hk h12 hv
  · rw [e_un (by omega)]; exact r_vl k v hk h12 hv
  · rw [e_un (by omega)]; exact r_rm i x hi hx
  · rw [e_un (by omega)]; exact r_cr c hc
  · rw [e_un (by omega)]; exact r_cx c x hc hx
  · rw [e_un (by omega)]; exact r_sk c s hc hs hl
  · rw [e_un (by omega)]; exact r_sv c s hc hs hl
theorem r_R.pop {v : Nat} (h : r_R N M) (hv' : v ≤ q_sc M 2) : r_R (va_up N 212 (nI v)) (q_s M 2 v) := by
  obtain ⟨r_s0, r_s1, r_s2, r_s4, r_sF, r_s5, r_s6, r_s7, r_s8, r_g, r_gv, r_ff, r_fl, r_kd, r_vl, r_rm, r_cr, r_cx, r_sk, r_sv⟩ := h
  refine ⟨?_, ?_, ?_, ?_, ?_, ?_, ?_, ?_, ?_, ?_, fun h0 => ?_, fun k hk h12 => ?_, fun k hk h12 => ?_, fun k v hk h12 hv => ?_, fun k v hk h12 hv => ?_, fun i x hi hx => ?_, fun c hc => ?_, fun c x hc hx => ?_, fun c s hc hs hl => ?_, fun c s hc hs hl => ?_⟩
  · rw [e_un (by omega)]; exact r_s0
  · rw [e_un (by omega)]; exact r_s1
  · rw [e_up, q_sc_eq]
  · rw [e_un (by omega)]; exact r_s4
  · rw [e_un (by omega)]; exact r_sF
  · rw [e_un (by omega)]; exact r_s5
  · rw [e_un (by omega)]; exact r_s6
  · rw [e_un (by omega)]; exact r_s7
  · rw [e_un (by omega)]; exact r_s8
  · rw [e_un (by omega)]; exact r_g
  · rw [e_un (by omega)]; exact r_gv h0
  · rw [q_sc_eq] at hk; rw [e_un (by omega)]; exact r_ff k (by omega) h12
  · rw [q_sc_eq] at hk; rw [e_un (by omega)]; exact r_fl k (by omega) h12
  · rw [q_sc_eq] at hk; rw [e_un (by omega)]; exact r_kd k v (by omega) h12 hv
  · rw [q_sc_eq] at hk; rw [e_un (by omega)]; exact r_vl k v (by omega) h12 hv
  · rw [e_un (by omega)]; exact r_rm i x hi hx
  · rw [e_un (by omega)]; exact r_cr c hc
  · rw [e_un (by omega)]; exact r_cx c x hc hx
  · rw [e_un (by omega)]; exact r_sk c s hc hs hl
  · rw [e_un (by omega)]; exact r_sv c s hc hs hl
theorem r_R.stop {w : Nat} (h : r_R N M) (h1 : q_sc M 0 ≠ 2) : r_R (va_up (va_up N 210 (nI 3)) 211 (nI w)) (q_s (q_s M 0 3) 1 w) := by
  obtain ⟨r_s0, r_s1, r_s2, r_s4, r_sF, r_s5, r_s6, r_s7, r_s8, r_g, r_gv, r_ff, r_fl, r_kd, r_vl, r_rm, r_cr, r_cx, r_sk, r_sv⟩ := h
  refine ⟨?_, ?_, ?_, ?_, ?_, ?_, ?_, ?_, ?_, ?_, fun h0 => ?_, fun k hk h12 => ?_, fun k hk h12 => ?_, fun k v hk h12 hv => ?_, fun k v hk h12 hv => ?_, fun i x hi hx => ?_, fun c hc => ?_, fun c x hc hx => ?_, fun c s hc hs hl => ?_, fun c s hc hs hl => ?_⟩
  · rw [e_un (by omega), e_up]; rfl
  · rw [e_up]; rfl
  · rw [e_un (by omega), e_un (by omega)]; exact r_s2
  · rw [e_un (by omega), e_un (by omega)]; exact r_s4
  · rw [e_un (by omega), e_un (by omega)]; exact r_sF
  · rw [e_un (by omega), e_un (by omega)]; exact r_s5
  · rw [e_un (by omega), e_un (by omega)]; exact r_s6
  · rw [e_un (by omega), e_un (by omega)]; exact r_s7
  · rw [e_un (by omega), e_un (by omega)]; exact r_s8
  · rw [e_un (by omega), e_un (by omega)]; rw [if_neg h1] at r_g; exact r_g
  · have h0 : 3 = 2 := h0
    omega
  · rw [e_un (by omega), e_un (by omega)]; exact r_ff k hk h12
  · rw [e_un (by omega), e_un (by omega)]; exact r_fl k hk h12
  · rw [e_un (by omega), e_un (by omega)]; exact r_kd k v hk h12 hv
  · rw [e_un (by omega), e_un (by omega)]; exact r_vl k v hk h12 hv
  · rw [e_un (by omega), e_un (by omega)]; exact r_rm i x hi hx
  · rw [e_un (by omega), e_un (by omega)]; exact r_cr c hc
  · rw [e_un (by omega), e_un (by omega)]; exact r_cx c x hc hx
  · rw [e_un (by omega), e_un (by omega)]; exact r_sk c s hc hs hl
  · rw [e_un (by omega), e_un (by omega)]; exact r_sv c s hc hs hl
theorem r_R.ended (h : r_R N M) : r_R (va_up (va_up (va_up N 210 (nI 2)) 219 (nI (q_sc M 9))) 220 (q_gv M)) (q_s M 0 2) := by
  obtain ⟨r_s0, r_s1, r_s2, r_s4, r_sF, r_s5, r_s6, r_s7, r_s8, r_g, r_gv, r_ff, r_fl, r_kd, r_vl, r_rm, r_cr, r_cx, r_sk, r_sv⟩ := h
  refine ⟨?_, ?_, ?_, ?_, ?_, ?_, ?_, ?_, ?_, ?_, fun h0 => ?_, fun k hk h12 => ?_, fun k hk h12 => ?_, fun k v hk h12 hv => ?_, fun k v hk h12 hv => ?_, fun i x hi hx => ?_, fun c hc => ?_, fun c x hc hx => ?_, fun c s hc hs hl => ?_, fun c s hc hs hl => ?_⟩
  · rw [e_un (by omega), e_un (by omega), e_up]; rfl
  · rw [e_un (by omega), e_un (by omega), e_un (by omega)]; exact r_s1
  · rw [e_un (by omega), e_un (by omega), e_un (by omega)]; exact r_s2
  · rw [e_un (by omega), e_un (by omega), e_un (by omega)]; exact r_s4
  · rw [e_un (by omega), e_un (by omega), e_un (by omega)]; exact r_sF
  · rw [e_un (by omega), e_un (by omega), e_un (by omega)]; exact r_s5
  · rw [e_un (by omega), e_un (by omega), e_un (by omega)]; exact r_s6
  · rw [e_un (by omega), e_un (by omega), e_un (by omega)]; exact r_s7
  · rw [e_un (by omega), e_un (by omega), e_un (by omega)]; exact r_s8
  · rw [e_un (by omega), e_up]; rfl
  · rw [e_up]; rfl
  · rw [e_un (by omega), e_un (by omega), e_un (by omega)]; exact r_ff k hk h12
  · rw [e_un (by omega), e_un (by omega), e_un (by omega)]; exact r_fl k hk h12
  · rw [e_un (by omega), e_un (by omega), e_un (by omega)]; exact r_kd k v hk h12 hv
  · rw [e_un (by omega), e_un (by omega), e_un (by omega)]; exact r_vl k v hk h12 hv
  · rw [e_un (by omega), e_un (by omega), e_un (by omega)]; exact r_rm i x hi hx
  · rw [e_un (by omega), e_un (by omega), e_un (by omega)]; exact r_cr c hc
  · rw [e_un (by omega), e_un (by omega), e_un (by omega)]; exact r_cx c x hc hx
  · rw [e_un (by omega), e_un (by omega), e_un (by omega)]; exact r_sk c s hc hs hl
  · rw [e_un (by omega), e_un (by omega), e_un (by omega)]; exact r_sv c s hc hs hl
theorem r_R.room {lev r : Nat} (h : r_R N M) (hlen : (q_F M).length < 312) (hm : ∀ c x, c < 200 → q_ce M c = some x → x ∈ q_F M) : r_R (va_up (va_up N (2093 + (q_F M).length) (nI r)) 214 (nI ((q_F M).length + 1))) (q_setF M (q_F M ++ [(lev, r)])) := by
  obtain ⟨r_s0, r_s1, r_s2, r_s4, r_sF, r_s5, r_s6, r_s7, r_s8, r_g, r_gv, r_ff, r_fl, r_kd, r_vl, r_rm, r_cr, r_cx, r_sk, r_sv⟩ := h
  refine ⟨?_, ?_, ?_, ?_, ?_, ?_, ?_, ?_, ?_, ?_, fun h0 => ?_, fun k hk h12 => ?_, fun k hk h12 => ?_, fun k v hk h12 hv => ?_, fun k v hk h12 hv => ?_, fun i x hi hx => ?_, fun c hc => ?_, fun c x hc hx => ?_, fun c s hc hs hl => ?_, fun c s hc hs hl => ?_⟩
  · rw [e_un (by omega), e_un (by omega)]; exact r_s0
  · rw [e_un (by omega), e_un (by omega)]; exact r_s1
  · rw [e_un (by omega), e_un (by omega)]; exact r_s2
  · rw [e_un (by omega), e_un (by omega)]; exact r_s4
  · rw [e_up]
    show _ = nI (q_F M ++ [(lev, r)]).length
    rw [List.length_append]; rfl
  · rw [e_un (by omega), e_un (by omega)]; exact r_s5
  · rw [e_un (by omega), e_un (by omega)]; exact r_s6
  · rw [e_un (by omega), e_un (by omega)]; exact r_s7
  · rw [e_un (by omega), e_un (by omega)]; exact r_s8
  · rw [e_un (by omega), e_un (by omega)]; exact r_g
  · rw [e_un (by omega), e_un (by omega)]; exact r_gv h0
  · rw [e_un (by omega), e_un (by omega)]; exact r_ff k hk h12
  · rw [e_un (by omega), e_un (by omega)]; exact r_fl k hk h12
  · rw [e_un (by omega), e_un (by omega)]; exact r_kd k v hk h12 hv
  · rw [e_un (by omega), e_un (by omega)]; exact r_vl k v hk h12 hv
  · rw [e_un (by omega)]
    have hx : (q_F M ++ [(lev, r)])[i]? = some x := hx
    by_cases hh : i < (q_F M).length
    · rw [e_un (by omega)]; exact r_rm i x hi (by rw [List.getElem?_append_left hh] at hx; exact hx)
    · have hl : i < (q_F M ++ [(lev, r)]).length := (List.getElem?_eq_some_iff.mp hx).1
      rw [List.length_append] at hl
      have : i = (q_F M).length := by simp at hl; omega
      subst this
      rw [e_up]
      rw [List.getElem?_append_right (Nat.le_refl _)] at hx
      simp at hx
      rw [← hx]
  · rw [e_un (by omega), e_un (by omega)]; exact r_cr c hc
  · rw [e_un (by omega), e_un (by omega), r_cx c x hc hx]
    exact congrArg nI (by show _ = (q_F M ++ [(lev, r)]).idxOf x; rw [List.idxOf_append, if_pos (hm c x hc hx)])
  · rw [e_un (by omega), e_un (by omega)]; exact r_sk c s hc hs hl
  · rw [e_un (by omega), e_un (by omega)]; exact r_sv c s hc hs hl
theorem r_R.push {kk g n : Nat} {ck : Nat → Nat} {cv : Nat → Int32} {N' : Nat → Int32} (h : r_R N M) (hn : n ≤ q_sc M 2 ∨ (kk = q_sc M 2 ∧ n = kk + 1)) (hkk : kk < 12)
    (w : ∀ t, t ≠ 221 + kk → t ≠ 233 + kk → (t < 245 + 27 * kk ∨ 245 + 27 * kk + 27 ≤ t) → (t < 569 + 27 * kk ∨ 569 + 27 * kk + 27 ≤ t) → t ≠ 212 → N' t = N t)
    (g0 : N' 212 = nI n) (g1 : N' (221 + kk) = nI g) (g2 : N' (233 + kk) = nI 0) (g3 : ∀ v, v < 27 → N' (245 + (27 * kk + v)) = nI (ck v)) (g4 : ∀ v, v < 27 → N' (569 + (27 * kk + v)) = cv v) :
    r_R N' (q_s (q_push M kk g ck cv) 2 n) := by
  obtain ⟨r_s0, r_s1, r_s2, r_s4, r_sF, r_s5, r_s6, r_s7, r_s8, r_g, r_gv, r_ff, r_fl, r_kd, r_vl, r_rm, r_cr, r_cx, r_sk, r_sv⟩ := h
  refine ⟨?_, ?_, ?_, ?_, ?_, ?_, ?_, ?_, ?_, ?_, fun h0 => ?_, fun k hk h12 => ?_, fun k hk h12 => ?_, fun k v hk h12 hv => ?_, fun k v hk h12 hv => ?_, fun i x hi hx => ?_, fun c hc => ?_, fun c x hc hx => ?_, fun c s hc hs hl => ?_, fun c s hc hs hl => ?_⟩
  · rw [w _ (by omega) (by omega) (by omega) (by omega) (by omega)]; exact r_s0
  · rw [w _ (by omega) (by omega) (by omega) (by omega) (by omega)]; exact r_s1
  · rw [g0, q_sc_eq]
  · rw [w _ (by omega) (by omega) (by omega) (by omega) (by omega)]; exact r_s4
  · rw [w _ (by omega) (by omega) (by omega) (by omega) (by omega)]; exact r_sF
  · rw [w _ (by omega) (by omega) (by omega) (by omega) (by omega)]; exact r_s5
  · rw [w _ (by omega) (by omega) (by omega) (by omega) (by omega)]; exact r_s6
  · rw [w _ (by omega) (by omega) (by omega) (by omega) (by omega)]; exact r_s7
  · rw [w _ (by omega) (by omega) (by omega) (by omega) (by omega)]; exact r_s8
  · rw [w _ (by omega) (by omega) (by omega) (by omega) (by omega)]; exact r_g
  · rw [w _ (by omega) (by omega) (by omega) (by omega) (by omega)]; exact r_gv h0
  · rw [q_sc_eq] at hk
    show _ = nI (va_up (q_ff M) kk g k)
    by_cases hh : k = kk
    · rw [hh, va_up_self]; exact g1
    · rw [va_up_ne _ _ hh, w _ (by omega) (by omega) (by omega) (by omega) (by omega)]; exact r_ff k (by omega) h12
  · rw [q_sc_eq] at hk
    show _ = nI (va_up (q_fl M) kk 0 k)
    by_cases hh : k = kk
    · rw [hh, va_up_self]; exact g2
    · rw [va_up_ne _ _ hh, w _ (by omega) (by omega) (by omega) (by omega) (by omega)]; exact r_fl k (by omega) h12
  · rw [q_sc_eq] at hk
    show _ = nI (va_up (q_kd M) kk ck k v)
    by_cases hh : k = kk
    · rw [hh, va_up_self]; exact g3 v hv
    · rw [va_up_ne _ _ hh, w _ (by omega) (by omega) (by omega) (by omega) (by omega)]; exact r_kd k v (by omega) h12 hv
  · rw [q_sc_eq] at hk
    show _ = va_up (q_vl M) kk cv k v
    by_cases hh : k = kk
    · rw [hh, va_up_self]; exact g4 v hv
    · rw [va_up_ne _ _ hh, w _ (by omega) (by omega) (by omega) (by omega) (by omega)]; exact r_vl k v (by omega) h12 hv
  · rw [w _ (by omega) (by omega) (by omega) (by omega) (by omega)]; exact r_rm i x hi hx
  · rw [w _ (by omega) (by omega) (by omega) (by omega) (by omega)]; exact r_cr c hc
  · rw [w _ (by omega) (by omega) (by omega) (by omega) (by omega)]; exact r_cx c x hc hx
  · rw [w _ (by omega) (by omega) (by omega) (by omega) (by omega)]; exact r_sk c s hc hs hl
  · rw [w _ (by omega) (by omega) (by omega) (by omega) (by omega)]; exact r_sv c s hc hs hl
theorem r_R.cong {N' : Nat → Int32} (h : r_R N M) (w : ∀ t, 210 ≤ t → t < 2405 → N' t = N t) : r_R N' M := by
  obtain ⟨r_s0, r_s1, r_s2, r_s4, r_sF, r_s5, r_s6, r_s7, r_s8, r_g, r_gv, r_ff, r_fl, r_kd, r_vl, r_rm, r_cr, r_cx, r_sk, r_sv⟩ := h
  refine ⟨?_, ?_, ?_, ?_, ?_, ?_, ?_, ?_, ?_, ?_, fun h0 => ?_, fun k hk h12 => ?_, fun k hk h12 => ?_, fun k v hk h12 hv => ?_, fun k v hk h12 hv => ?_, fun i x hi hx => ?_, fun c hc => ?_, fun c x hc hx => ?_, fun c s hc hs hl => ?_, fun c s hc hs hl => ?_⟩
  · rw [w _ (by omega) (by omega)]; exact r_s0
  · rw [w _ (by omega) (by omega)]; exact r_s1
  · rw [w _ (by omega) (by omega)]; exact r_s2
  · rw [w _ (by omega) (by omega)]; exact r_s4
  · rw [w _ (by omega) (by omega)]; exact r_sF
  · rw [w _ (by omega) (by omega)]; exact r_s5
  · rw [w _ (by omega) (by omega)]; exact r_s6
  · rw [w _ (by omega) (by omega)]; exact r_s7
  · rw [w _ (by omega) (by omega)]; exact r_s8
  · rw [w _ (by omega) (by omega)]; exact r_g
  · rw [w _ (by omega) (by omega)]; exact r_gv h0
  · rw [w _ (by omega) (by omega)]; exact r_ff k hk h12
  · rw [w _ (by omega) (by omega)]; exact r_fl k hk h12
  · rw [w _ (by omega) (by omega)]; exact r_kd k v hk h12 hv
  · rw [w _ (by omega) (by omega)]; exact r_vl k v hk h12 hv
  · rw [w _ (by omega) (by omega)]; exact r_rm i x hi hx
  · rw [w _ (by omega) (by omega)]; exact r_cr c hc
  · rw [w _ (by omega) (by omega)]; exact r_cx c x hc hx
  · rw [w _ (by omega) (by omega)]; exact r_sk c s hc hs hl
  · rw [w _ (by omega) (by omega)]; exact r_sv c s hc hs hl
end RR
