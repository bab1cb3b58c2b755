/-! a fun is opened, both sides -/
def v_of (P : pP) : pP := fun a b => if a = 1 ∧ b = p_fu P then 0 else if a = 2 ∧ b = p_fu P then p_ln P else if a = 3 ∧ b = p_fu P then 0 else if a = 0 ∧ b = 0 then p_fu P + 1 else P a b
def v_pp (P : pP) : pP := fun a b => if a = 1 ∧ b = p_fu P - 1 then P 1 b + 1 else P a b
section VF
variable {S T : m_M} {x m : Nat} {P : pP} {n w : Nat → Int64} {f i j k s : Nat}
theorem v_of_fu : p_fu (v_of P) = p_fu P + 1 := by simp [p_fu, v_of]
theorem v_of_ln : p_ln (v_of P) = p_ln P := by simp [p_ln, v_of]
theorem v_of_pa : p_pa (v_of P) f = if f = p_fu P then 0 else p_pa P f := by
  by_cases h : f = p_fu P <;> simp [p_pa, v_of, h]
theorem v_of_fi : p_fi (v_of P) f = if f = p_fu P then p_ln P else p_fi P f := by
  by_cases h : f = p_fu P <;> simp [p_fi, v_of, h]
theorem v_of_ct : p_ct (v_of P) f = if f = p_fu P then 0 else p_ct P f := by
  by_cases h : f = p_fu P <;> simp [p_ct, v_of, h]
theorem v_of_op : p_op (v_of P) j = p_op P j := by simp [p_op, v_of]
theorem v_of_ca : p_ca (v_of P) j = p_ca P j := by simp [p_ca, v_of]
theorem v_of_nu : p_nu (v_of P) j = p_nu P j := by simp [p_nu, v_of]
theorem v_of_va : p_va (v_of P) j k = p_va P j k := by simp [p_va, v_of]
theorem v_pp_fu : p_fu (v_pp P) = p_fu P := by simp [p_fu, v_pp]
theorem v_pp_ln : p_ln (v_pp P) = p_ln P := by simp [p_ln, v_pp]
theorem v_pp_pa : p_pa (v_pp P) f = if f = p_fu P - 1 then p_pa P f + 1 else p_pa P f := by
  by_cases h : f = p_fu P - 1 <;> simp [p_pa, v_pp, h]
theorem v_pp_fi : p_fi (v_pp P) f = p_fi P f := by simp [p_fi, v_pp]
theorem v_pp_ct : p_ct (v_pp P) f = p_ct P f := by simp [p_ct, v_pp]
theorem v_pp_op : p_op (v_pp P) j = p_op P j := by simp [p_op, v_pp]
theorem v_pp_ca : p_ca (v_pp P) j = p_ca P j := by simp [p_ca, v_pp]
theorem v_pp_nu : p_nu (v_pp P) j = p_nu P j := by simp [p_nu, v_pp]
theorem v_pp_va : p_va (v_pp P) j k = p_va P j k := by simp [p_va, v_pp]
/-- what a line without a call, or with a call whose count of parameters stays, tells -/
theorem v_us_e {P' : pP} (h1 : p_op P' j = p_op P j) (h2 : p_ca P' j = p_ca P j) (h3 : 8 ≤ p_op P j → p_pa P' (p_ca P j) = p_pa P (p_ca P j)) (h9 : p_op P j ≤ 9) : (∀ k, p_us P' j k = p_us P j k) ∧ ∀ s, p_sl P' j s = p_sl P j s := by
  by_cases h : 8 ≤ p_op P j
  · have h3 := h3 h
    exact ⟨fun k => by simp only [p_us, h1, h2, h3], fun s => by simp only [p_sl, h1, h2, h3]⟩
  · refine ⟨fun k => ?_, fun s => by rw [p_sl_ne (by omega), p_sl_ne (by omega)]⟩
    have e : p_op P j = 0 ∨ p_op P j = 1 ∨ p_op P j = 2 ∨ p_op P j = 3 ∨ p_op P j = 4 ∨ p_op P j = 5 ∨ p_op P j = 6 ∨ p_op P j = 7 := by omega
    rcases e with e | e | e | e | e | e | e | e <;> rw [e] at h1 <;> simp only [p_us, h1, e]
end VF
