/-! an expression, both sides -/
def v_ed (P : pP) (l o c u : Nat) (va : Nat → Nat) : pP := fun a b => if a = 4 ∧ b = l then o else if a = 5 ∧ b = l then c else if a = 6 ∧ 5 * l ≤ b ∧ b < 5 * l + 5 then va (b - 5 * l) else if a = 7 ∧ b = l then u else P a b
/-- a line on both sides -/
def v_LL (S T : m_M) (x m : Nat) (P : pP) (l : Nat) : Prop :=
  (m_ri S (x + 8) l = nI (p_ex (p_op P l)) ∧ (8 ≤ p_op P l → m_ri S (x + 9) l = nI (p_ca P l)) ∧ (p_op P l = 0 → m_ri S (x + 10) (l * 5 + 0) = nI (p_nu P l)) ∧ ∀ s, s < 5 → p_us P l (p_sl P l s) → m_ri S (x + 10) (l * 5 + s) = nI (p_va P l (p_sl P l s))) ∧
  (m_ri T (m + 3) (18 + l) = nI (p_op P l) ∧ (8 ≤ p_op P l → m_ri T (m + 3) (42 + l) = nI (p_ca P l)) ∧ (p_op P l = 0 → m_ri T (m + 3) (186 + l) = nI (p_nu P l)) ∧ ∀ k, k < 5 → (p_us P l k → m_ri T (m + 3) (66 + 5 * l + k) = nI (p_va P l k)) ∧ (¬ p_us P l k → m_ri T (m + 3) (66 + 5 * l + k) = m_no)) ∧
  (p_op P l ≤ 9 ∧ p_nu P l ≤ 999 ∧ (8 ≤ p_op P l → p_ca P l < p_fu P) ∧ ∀ k, p_us P l k → k < 5 ∧ p_va P l k < v_n P)
section VE
variable {S S' S'' T T' T'' : m_M} {x m l : Nat} {t : Nat → Nat} {N L p : Nat} {P : pP} {n w : Nat → Int64} {o c u : Nat} {va : Nat → Nat}
theorem v_ed_h {a b : Nat} (h : a < 4) : v_ed P l o c u va a b = P a b := by simp only [v_ed]; rw [if_neg (by omega), if_neg (by omega), if_neg (by omega), if_neg (by omega)]
theorem v_ed_l {a b : Nat} (h : b ≠ l) (h' : b < 5 * l ∨ 5 * l + 5 ≤ b ∨ a ≠ 6) : v_ed P l o c u va a b = P a b := by simp only [v_ed]; rw [if_neg (by omega), if_neg (by omega), if_neg (by omega), if_neg (by omega)]
theorem v_ed_op : p_op (v_ed P l o c u va) l = o := by simp [p_op, v_ed]
theorem v_ed_ca : p_ca (v_ed P l o c u va) l = c := by simp [p_ca, v_ed]
theorem v_ed_va {k : Nat} (hk : k < 5) : p_va (v_ed P l o c u va) l k = va k := by simp [p_va, v_ed, hk]
theorem v_ed_nu : p_nu (v_ed P l o c u va) l = u := by simp [p_nu, v_ed]
theorem v_ed_fu : p_fu (v_ed P l o c u va) = p_fu P := v_ed_h (by omega)
theorem v_ed_pa {f : Nat} : p_pa (v_ed P l o c u va) f = p_pa P f := v_ed_h (by omega)
theorem v_ed_n : v_n (v_ed P l o c u va) = v_n P := by
  simp only [v_n, p_vs, v_ed_fu, v_ed_pa, p_ct]; rw [v_ed_h (by omega)]
/-- how many vars a line without a call tells -/
def v_ar (o : Nat) : Nat := if o = 7 then 3 else if o = 1 ∨ o = 3 ∨ o = 4 then 1 else 2
theorem v_us_v {k : Nat} (h1 : 1 ≤ p_op P l) (h7 : p_op P l ≤ 7) : p_us P l k ↔ k < v_ar (p_op P l) := by
  have h : p_op P l = 1 ∨ p_op P l = 2 ∨ p_op P l = 3 ∨ p_op P l = 4 ∨ p_op P l = 5 ∨ p_op P l = 6 ∨ p_op P l = 7 := by omega
  rcases h with h | h | h | h | h | h | h <;> simp only [p_us, h, v_ar] <;> (first | exact ⟨fun e => by omega, fun e => by omega⟩ | (simp only [reduceCtorEq, ↓reduceIte, or_true, true_or, or_false, false_or, Nat.reduceEqDiff, if_true, if_false] <;> exact ⟨fun e => by omega, fun e => by omega⟩) | decide)
theorem v_mkv (hlP : l < 24) (h1 : 1 ≤ o) (h7 : o ≤ 7) (h13 : m_ri S (x + 8) l = nI (p_ex o)) (h18 : m_ri T (m + 3) (18 + l) = nI o) (hno : ∀ k, k < 5 → m_ri T (m + 3) (66 + 5 * l + k) = m_no) (hR : v_R S T S' T' x m t N L P l 0 0 0 (v_ar o) 1) : ∃ p' va, v_J S' T' x m t N L p' ∧ v_LL S' T' x m (v_ed P l o 0 0 va) l := by
  obtain ⟨r1, r2, r3, r4, r5, r6, r7⟩ := hR
  have har : v_ar o ≤ 3 := by simp only [v_ar]; repeat (first | omega | split)
  rcases r7 with ⟨e, _⟩ | ⟨_, p', vv, hJ, hv⟩
  · omega
  · have hus : ∀ k, p_us (v_ed P l o 0 0 vv) l k ↔ k < v_ar o := fun k => by
      have := v_us_v (P := v_ed P l o 0 0 vv) (l := l) (k := k) (by rw [v_ed_op]; exact h1) (by rw [v_ed_op]; exact h7)
      rw [v_ed_op] at this; exact this
    have hsl : ∀ s, p_sl (v_ed P l o 0 0 vv) l s = s := fun s => p_sl_ne (by rw [v_ed_op]; omega)
    refine ⟨p', vv, hJ, ⟨?_, fun h => ?_, fun h => ?_, fun s hs hu => ?_⟩, ⟨?_, fun h => ?_, fun h => ?_, fun k hk => ⟨fun hu => ?_, fun hu => ?_⟩⟩, ?_, ?_, fun h => ?_, fun k hu => ?_⟩
    · rw [v_ed_op, r3]; exact h13
    · rw [v_ed_op] at h; omega
    · rw [v_ed_op] at h; omega
    · rw [hsl] at hu ⊢
      rw [hus] at hu
      rw [v_ed_va hs]
      have := (hv s (by omega) hu).2.1
      rw [Nat.zero_add] at this; exact this
    · rw [v_ed_op, r6 _ (by omega)]; exact h18
    · rw [v_ed_op] at h; omega
    · rw [v_ed_op] at h; omega
    · rw [hus] at hu
      rw [v_ed_va hk]
      have := (hv k (by omega) hu).2.2
      rw [Nat.zero_add] at this; exact this
    · rw [hus] at hu
      rw [r6 _ (by omega)]; exact hno k hk
    · rw [v_ed_op]; omega
    · rw [v_ed_nu]; omega
    · rw [v_ed_op] at h; omega
    · rw [hus] at hu
      rw [v_ed_va (by omega), v_ed_n]
      exact ⟨by omega, (hv k (by omega) hu).1⟩
theorem v_mk8 {g : Nat} (hlP : l < 24) (hg : g < p_fu P) (hpa : p_pa P g ≤ 3) (h13 : m_ri S (x + 8) l = nI 8) (h14 : m_ri S (x + 9) l = nI g) (h18 : m_ri T (m + 3) (18 + l) = nI 8) (h42 : m_ri T (m + 3) (42 + l) = nI g) (hno : ∀ k, k < 5 → m_ri T (m + 3) (66 + 5 * l + k) = m_no) (hR : v_R S T S' T' x m t N L P l 0 0 0 (p_pa P g) 1) : ∃ p' va, v_J S' T' x m t N L p' ∧ v_LL S' T' x m (v_ed P l 8 g 0 va) l := by
  obtain ⟨r1, r2, r3, r4, r5, r6, r7⟩ := hR
  rcases r7 with ⟨e, _⟩ | ⟨_, p', vv, hJ, hv⟩
  · omega
  · have hus : ∀ k, p_us (v_ed P l 8 g 0 vv) l k ↔ k < p_pa P g := fun k => by
      simp only [p_us, v_ed_op, v_ed_ca, v_ed_pa]
    have hsl : ∀ s, p_sl (v_ed P l 8 g 0 vv) l s = s := fun s => p_sl_ne (by rw [v_ed_op]; omega)
    refine ⟨p', vv, hJ, ⟨?_, fun h => ?_, fun h => ?_, fun s hs hu => ?_⟩, ⟨?_, fun h => ?_, fun h => ?_, fun k hk => ⟨fun hu => ?_, fun hu => ?_⟩⟩, ?_, ?_, fun h => ?_, fun k hu => ?_⟩
    · rw [v_ed_op, r3]; exact h13
    · rw [v_ed_ca, r4]; exact h14
    · rw [v_ed_op] at h; omega
    · rw [hsl] at hu ⊢
      rw [hus] at hu
      rw [v_ed_va hs]
      have := (hv s (by omega) hu).2.1
      rw [Nat.zero_add] at this; exact this
    · rw [v_ed_op, r6 _ (by omega)]; exact h18
    · rw [v_ed_ca, r6 _ (by omega)]; exact h42
    · rw [v_ed_op] at h; omega
    · rw [hus] at hu
      rw [v_ed_va hk]
      have := (hv k (by omega) hu).2.2
      rw [Nat.zero_add] at this; exact this
    · rw [hus] at hu
      rw [r6 _ (by omega)]; exact hno k hk
    · rw [v_ed_op]; omega
    · rw [v_ed_nu]; omega
    · rw [v_ed_ca, v_ed_fu]; exact hg
    · rw [hus] at hu
      rw [v_ed_va (by omega), v_ed_n]
      exact ⟨by omega, (hv k (by omega) hu).1⟩
theorem v_mk0 (hlP : l < 24) (hu : u ≤ 999) (h13 : m_ri S (x + 8) l = nI 22) (h15 : m_ri S (x + 10) (l * 5) = nI u) (h18 : m_ri T (m + 3) (18 + l) = nI 0) (h186 : m_ri T (m + 3) (186 + l) = nI u) (hno : ∀ k, k < 5 → m_ri T (m + 3) (66 + 5 * l + k) = m_no) : v_LL S T x m (v_ed P l 0 0 u (fun _ => 0)) l := by
  have hus : ∀ k, ¬ p_us (v_ed P l 0 0 u (fun _ => 0)) l k := fun k => by
    simp only [p_us, v_ed_op]; exact fun h => h
  refine ⟨⟨?_, fun h => ?_, fun h => ?_, fun s hs hu => absurd hu (hus _)⟩, ⟨?_, fun h => ?_, fun h => ?_, fun k hk => ⟨fun hu => absurd hu (hus _), fun hu => hno k hk⟩⟩, ?_, ?_, fun h => ?_, fun k hu => absurd hu (hus _)⟩
  · rw [v_ed_op]; exact h13
  · rw [v_ed_op] at h; omega
  · rw [v_ed_nu]; exact h15
  · rw [v_ed_op]; exact h18
  · rw [v_ed_op] at h; omega
  · rw [v_ed_nu]; exact h186
  · rw [v_ed_op]; omega
  · rw [v_ed_nu]; exact hu
  · rw [v_ed_op] at h; omega
end VE
