/-! a value is given further, to the end: what holds stays -/
/-- what a cell's value names is there -/
def i_live (M : qM) (y : Int32) : Prop := ∃ c, c < 200 ∧ y = nI c ∧ q_ce M c ≠ none
def q_L (P : pP) (M : qM) : Prop :=
  (∀ k v, k < q_sc M 2 → v < p_vs P (q_ff M k) → q_kd M k v = 2 → i_live M (q_vl M k v)) ∧
  (∀ c, c < 200 → q_ce M c ≠ none → ∀ s, s < 2 → (q_sk M c s = 1 ∨ q_sk M c s = 2) ∧ (q_sk M c s = 2 → i_live M (q_sv M c s))) ∧
  (q_sc M 0 = 2 → q_sc M 2 = 0 ∧ (q_sc M 9 = 1 ∨ q_sc M 9 = 2) ∧ (q_sc M 9 = 2 → i_live M (q_gv M)))
section IX
variable {P : pP} {D : pD} {M : qM}
theorem i_val.live {n o : Nat} {y : Int32} (h : i_val D M n o y) : i_live M y := by
  obtain ⟨r, c, -, h2, h3, h4⟩ := h
  exact ⟨c, h2, h3, by rw [h4]; intro h; cases h⟩
theorem q_I.live {w : Prop} (h : q_I P D w M) (h0 : q_sc M 0 ≠ 2) : q_L P M := by
  obtain ⟨hB, hF, hC, hL, hV, hA, hU, hS, hp⟩ := h
  refine ⟨fun k v hk hv hd => (hV k v hk hv hd).live, fun c hc hce s hs => ?_, fun h => absurd h h0⟩
  cases hx : q_ce M c with
  | none => exact absurd hx hce
  | some x => exact ⟨(hS c x hc hx s hs).1, fun h2 => ((hS c x hc hx s hs).2 h2).live⟩
theorem q_B.lin {k j : Nat} (h : q_B P M) (hj : j < p_ct P (q_ff M k)) : q_B P (q_lin M k j) := by
  obtain ⟨a1, a2, a3, a4, a5, a6, a7, a8, a9, a10, a11, a12, a13, a14, a15, a16, a17⟩ := h
  refine ⟨a1, a2, a3, a4, fun k' hk => ⟨(a5 k' hk).1, ?_, (a5 k' hk).2.2⟩, a6, a7, a8, a9, a10, a11, a12, a13, a14, a15, a16, a17⟩
  show va_up (q_fl M) k j k' < p_ct P (q_ff M k')
  by_cases hkk : k' = k
  · subst hkk; rw [va_up_self]; exact hj
  · rw [va_up_ne _ _ hkk]; exact (a5 k' hk).2.1
theorem q_B.pop {k j : Nat} (h : q_B P M) (hk : k ≤ q_sc M 2) : q_B P (q_s (q_s (q_lin M k j) 2 k) 11 1) := by
  obtain ⟨a1, a2, a3, a4, a5, a6, a7, a8, a9, a10, a11, a12, a13, a14, a15, a16, a17⟩ := h
  have e : ∀ t, t ≠ 2 → t ≠ 11 → q_sc (q_s (q_s (q_lin M k j) 2 k) 11 1) t = q_sc M t := fun t h2 h11 => (q_sc_ne h11).trans (q_sc_ne h2)
  have e2 : q_sc (q_s (q_s (q_lin M k j) 2 k) 11 1) 2 = k := (q_sc_ne (by omega)).trans q_sc_eq
  have e11 : q_sc (q_s (q_s (q_lin M k j) 2 k) 11 1) 11 = 1 := q_sc_eq
  refine ⟨by omega, a2, a3, a4, fun k' hk' => ⟨(a5 k' (by omega)).1, ?_, (a5 k' (by omega)).2.2⟩, a6, by rw [e 4 (by omega) (by omega)]; exact a7, by rw [e 5 (by omega) (by omega)]; exact a8, by rw [e 6 (by omega) (by omega)]; exact a9, by rw [e 7 (by omega) (by omega)]; exact a10, by rw [e 8 (by omega) (by omega)]; exact a11, by rw [e 9 (by omega) (by omega)]; exact a12, by rw [e 0 (by omega) (by omega)]; exact a13, by rw [e 1 (by omega) (by omega)]; exact a14, by omega, a16, a17⟩
  show va_up (q_fl M) k j k' < p_ct P (q_ff M k')
  rw [va_up_ne _ _ (by omega)]; exact (a5 k' (by omega)).2.1
theorem q_fin_ff : q_ff (q_fin P D M) = q_ff M := q_free_ff.1
theorem q_fin_fl {k : Nat} : q_fl (q_fin P D M) k = if k = q_sc M 2 - 1 then q_fl M (q_sc M 2 - 1) + 1 else q_fl M k := by
  show va_up (q_fl (q_free P D _ _ _ _)) _ _ k = _
  rw [q_free_ff.2.1]; rfl
/-- the line isn't the last one: the machine goes on there -/
theorem i_fin_go (hW : p_W P) (hSd : d_S D) (hG : d_G P D) (h : q_J P D M) (hlt : q_fl M (q_sc M 2 - 1) + 1 < p_ct P (q_ff M (q_sc M 2 - 1))) : q_I P D False (q_fin P D M) := by
  obtain ⟨f1, f2, f3, f4, f5, f6, f7⟩ := i_fin hW hSd hG h
  obtain ⟨⟨hB, hF, hC, hL, hV, hA, hU, hS, hp⟩, hn, h9, hgv⟩ := h
  have e2 := q_fin_2 (P := P) (D := D) (M := M)
  have ef := q_fin_ff (P := P) (D := D) (M := M)
  refine ⟨f1.lin (by rw [q_free_ff.1]; exact hlt), fun x => ?_, fun k hk r hr => ?_, fun k hk => ?_, fun k v hk hv hd => ?_, fun k v hk hv hd => ?_, fun k v hk hv => ?_, f6, hp⟩
  · rw [f2 x]
    constructor
    · rintro (h1 | ⟨k, hk, h3, g1, ⟨j, hj, hlj⟩, g3⟩ | ⟨h3, g1, ⟨j, hj, hlj⟩, ⟨j', hj', hj2, hlj'⟩⟩)
      · exact Or.inl h1
      · refine Or.inr ⟨k, by omega, h3, ?_⟩
        simp only [i_act, ef, q_fin_fl, e2]
        rw [if_neg (by omega)]
        refine ⟨g1, ⟨j, ?_, hlj⟩, g3⟩
        rcases hj with hj | ⟨hj, -⟩
        · exact Or.inl hj
        · exact Or.inr ⟨hj, Or.inl hk⟩
      · refine Or.inr ⟨q_sc M 2 - 1, by omega, by omega, ?_⟩
        simp only [i_act, ef, q_fin_fl, e2]
        simp only [if_true]
        exact ⟨g1, ⟨j, Or.inl hj, hlj⟩, ⟨j', hj', hj2, hlj'⟩⟩
    · rintro (h1 | ⟨k, hk, h3, ha⟩)
      · exact Or.inl h1
      · simp only [i_act, ef, q_fin_fl, e2] at ha
        rw [e2] at hk
        by_cases hkn : k = q_sc M 2 - 1
        · subst hkn
          simp only [if_true] at ha
          obtain ⟨g1, ⟨j, hj, hlj⟩, g3⟩ := ha
          refine Or.inr (Or.inr ⟨by omega, g1, ⟨j, ?_, hlj⟩, g3⟩)
          rcases hj with hj | ⟨-, hj | hj⟩
          · exact hj
          · omega
          · exact hj.elim
        · rw [if_neg hkn] at ha
          obtain ⟨g1, ⟨j, hj, hlj⟩, g3⟩ := ha
          refine Or.inr (Or.inl ⟨k, by omega, h3, g1, ⟨j, ?_, hlj⟩, g3⟩)
          rcases hj with hj | ⟨hj, -⟩
          · exact Or.inl hj
          · exact Or.inr ⟨hj, Or.inr trivial⟩
  · rw [e2] at hk
    rw [ef] at hr
    have := hC k hk r hr
    cases k with
    | zero => exact this
    | succ k =>
      show d_lr P D (q_ff (q_fin P D M) k) (q_fl (q_fin P D M) k) r
      rw [ef, q_fin_fl, if_neg (by omega)]; exact this
  · rw [e2] at hk
    rw [ef, q_fin_fl, if_neg (by omega)]; exact hL k hk
  · rw [e2] at hk; rw [ef] at hv ⊢; exact f3 k v hk hv hd
  · rw [e2] at hk; rw [ef] at hv ⊢; exact f4 k v hk hv hd
  · rw [e2] at hk; rw [ef] at hv; exact f5 k v hk hv
theorem q_nxt_ff : q_ff (q_nxt P D M) = q_ff M := q_fin_ff
/-- it was the last line: the frame is away -/
theorem i_fin_pop (hW : p_W P) (hSd : d_S D) (hG : d_G P D) (h : q_J P D M) (hlt : q_fl M (q_sc M 2 - 1) + 1 = p_ct P (q_ff M (q_sc M 2 - 1))) :
    (q_sc M 2 = 1 → q_B P (q_nxt P D M) ∧ i_S D (q_nxt P D M) ∧ (q_sc M 9 = 2 → i_live (q_nxt P D M) (q_gv M))) ∧ (1 < q_sc M 2 → q_J P D (q_nxt P D M)) := by
  have h0 := h
  obtain ⟨f1, f2, f3, f4, f5, f6, f7⟩ := i_fin hW hSd hG h
  obtain ⟨⟨hB, hF, hC, hL, hV, hA, hU, hS, hp⟩, hn, h9, hgv⟩ := h
  obtain ⟨b1, b2, b3⟩ := hB.2.2.2.2.1 (q_sc M 2 - 1) (by omega)
  have e2 := q_nxt_2 (P := P) (D := D) (M := M)
  have ef := q_nxt_ff (P := P) (D := D) (M := M)
  have hs2 : q_sc (q_free P D (q_var M (q_sc M 2 - 1) (p_pa P (q_ff M (q_sc M 2 - 1)) + q_fl M (q_sc M 2 - 1)) (q_sc M 9) (q_gv M)) (q_sc M 2 - 1) (q_ff M (q_sc M 2 - 1)) (d_en D (q_ff M (q_sc M 2 - 1)) (q_fl M (q_sc M 2 - 1)))) 2 = q_sc M 2 := q_free_ff.2.2.2 2 (by omega) (by omega)
  have hBn : q_B P (q_nxt P D M) := f1.pop (by rw [hs2]; omega)
  have efl : ∀ k, k < q_sc M 2 - 1 → q_fl (q_nxt P D M) k = q_fl M k := fun k hk => by
    show q_fl (q_fin P D M) k = _
    rw [q_fin_fl, if_neg (by omega)]
  have hv2 : ∀ lev r, (q_at D M lev r).2 = r := fun lev r => q_vis_2 lev
  have hatc : ∀ lev r, q_at D (q_nxt P D M) lev r = q_at D M lev r := fun lev r => q_at_cong (fun k _ => by rw [ef])
  -- the value that was given is seen from below too
  have hgv' : q_sc M 9 = 2 → i_val D (q_nxt P D M) (q_sc M 2 - 1) (d_pt D (q_ff M (q_sc M 2 - 1)) (p_pa P (q_ff M (q_sc M 2 - 1)) + q_fl M (q_sc M 2 - 1))) (q_gv M) := by
    intro h2
    obtain ⟨r, c, g1, g2, g3, g4⟩ := hgv h2
    refine ⟨r, c, g1, g2, g3, ?_⟩
    have hrc := hG.2.1 _ _ _ b1 (show p_pa P (q_ff M (q_sc M 2 - 1)) + q_fl M (q_sc M 2 - 1) < p_vs P (q_ff M (q_sc M 2 - 1)) by simp only [p_vs]; omega) g1
    have hou : d_ou D (q_ff M (q_sc M 2 - 1)) r = true := (hG.2.2.2.1 _ r b1).mpr ⟨_, by simp only [p_vs]; omega, Or.inr (by simp only [p_vs]; omega), hrc⟩
    have hat : q_at D M (q_sc M 2) r = q_at D M (q_sc M 2 - 1) r := by
      rw [show q_sc M 2 = (q_sc M 2 - 1) + 1 by omega, q_at_s, if_neg (fun q => d_ex hG b1 q hou)]; rfl
    rw [hatc, ← hat]
    refine f7 c _ g4 ?_
    rw [hat]
    have := q_vis_le (u := fun k => d_ow D (q_ff M k) r) (r := r) (q_sc M 2 - 1)
    show (q_vis _ _ _).1 < _
    omega
  refine ⟨fun _ => ⟨hBn, f6, fun h2 => (hgv' h2).live⟩, fun h1 => ?_⟩
  have en2 : q_sc (q_nxt P D M) 2 - 1 = q_sc M 2 - 1 - 1 := by omega
  refine ⟨⟨hBn, fun x => ?_, fun k hk r hr => ?_, fun k hk => ?_, fun k v hk hv hd => ?_, fun k v hk hv hd => ?_, fun k v hk hv => ?_, f6, hp⟩, by omega, by rw [q_nxt_sc (by omega) (by omega) (by omega)]; exact h9, fun h2 => ?_⟩
  · show x ∈ q_F (q_fin P D M) ↔ _
    rw [f2 x]
    constructor
    · rintro (h1 | ⟨k, hk, h3, g1, ⟨j, hj, hlj⟩, g3⟩ | ⟨h3, g1, ⟨j, hj, hlj⟩, ⟨j', hj', hj2, hlj'⟩⟩)
      · exact Or.inl h1
      · refine Or.inr ⟨k, by omega, h3, ?_⟩
        simp only [i_act, ef]
        rw [efl k (by omega)]
        refine ⟨g1, ⟨j, ?_, hlj⟩, g3⟩
        rcases hj with hj | ⟨hj, -⟩
        · exact Or.inl hj
        · exact Or.inr ⟨hj, Or.inr trivial⟩
      · omega
    · rintro (h1 | ⟨k, hk, h3, ha⟩)
      · exact Or.inl h1
      · simp only [i_act, ef] at ha
        rw [efl k (by omega)] at ha
        obtain ⟨g1, ⟨j, hj, hlj⟩, g3⟩ := ha
        refine Or.inr (Or.inl ⟨k, by omega, h3, g1, ⟨j, ?_, hlj⟩, g3⟩)
        rcases hj with hj | ⟨hj, -⟩
        · exact Or.inl hj
        · exact Or.inr ⟨hj, Or.inr trivial⟩
  · rw [ef] at hr
    have := hC k (by omega) r hr
    cases k with
    | zero => exact this
    | succ k =>
      show d_lr P D (q_ff (q_nxt P D M) k) (q_fl (q_nxt P D M) k) r
      rw [ef, efl k (by omega)]; exact this
  · rw [ef, efl k (by omega)]; exact hL k (by omega)
  · rw [ef] at hv ⊢; exact f3 k v (by omega) hv hd
  · rw [ef] at hv ⊢; exact f4 k v (by omega) hv hd
  · rw [ef] at hv; exact f5 k v (by omega) hv
  · rw [q_nxt_sc (by omega) (by omega) (by omega)] at h2
    rw [e2, ef, q_nxt_gv]
    rw [efl _ (by omega)]
    have hl := hL (q_sc M 2 - 1 - 1) (by omega)
    rw [show q_sc M 2 - 1 - 1 + 1 = q_sc M 2 - 1 by omega] at hl
    rw [← hl, show p_vs P (q_ff M (q_sc M 2 - 1)) - 1 = p_pa P (q_ff M (q_sc M 2 - 1)) + q_fl M (q_sc M 2 - 1) by simp only [p_vs]; omega]
    exact hgv' h2
theorem q_set_sc {t : Nat} (h0 : t ≠ 0) (h2 : t ≠ 2) (h4 : t ≠ 4) (h11 : t ≠ 11) : ∀ (j : Nat) (M : qM), q_sc (q_set P D j M) t = q_sc M t := by
  intro j
  induction j with
  | zero => intro M; exact q_sc_ne h0
  | succ j ih =>
    intro M
    rw [q_set]
    split
    · exact q_sc_ne h0
    · split
      · exact q_fin_sc h4 h11
      · rw [ih]; exact q_nxt_sc h2 h4 h11
theorem i_set (hW : p_W P) (hSd : d_S D) (hG : d_G P D) : ∀ (j : Nat) (M : qM), q_J P D M → q_sc M 2 ≤ j → q_sc M 0 = 1 →
    q_oks P D j M ∧ ((q_sc (q_set P D j M) 0 = 1 ∧ q_I P D False (q_set P D j M) ∧ 1 ≤ q_sc (q_set P D j M) 2) ∨ (q_sc (q_set P D j M) 0 = 2 ∧ q_B P (q_set P D j M) ∧ q_L P (q_set P D j M))) := by
  intro j
  induction j with
  | zero => intro M h hj _; have := h.2.1; omega
  | succ j ih =>
    intro M h hj h0
    have hn := h.2.1
    have hpre := h.pre hW hG
    rw [q_set, if_neg (by omega)]
    by_cases hlt : q_fl M (q_sc M 2 - 1) + 1 < p_ct P (q_ff M (q_sc M 2 - 1))
    · rw [if_pos hlt]
      exact ⟨Or.inr ⟨hpre, Or.inl hlt⟩, Or.inl ⟨by rw [q_fin_sc (by omega) (by omega)]; exact h0, i_fin_go hW hSd hG h hlt, by rw [q_fin_2]; exact hn⟩⟩
    · rw [if_neg hlt]
      obtain ⟨b1, b2, b3⟩ := hpre.1.2.2.2.2.1 (q_sc M 2 - 1) (by omega)
      obtain ⟨p1, p2⟩ := i_fin_pop hW hSd hG h (by omega)
      by_cases h1 : q_sc M 2 = 1
      · obtain ⟨hBn, hSn, hgn⟩ := p1 h1
        have e : q_set P D j (q_nxt P D M) = q_s (q_nxt P D M) 0 2 := by
          cases j with
          | zero => rfl
          | succ j => rw [q_set, if_pos (by rw [q_nxt_2]; omega)]
        have hok : q_oks P D j (q_nxt P D M) := by
          cases j with
          | zero => trivial
          | succ j => exact Or.inl (by rw [q_nxt_2]; omega)
        rw [e]
        have e2 : q_sc (q_s (q_nxt P D M) 0 2) 2 = 0 := by rw [q_sc_ne (by omega), q_nxt_2]; omega
        refine ⟨Or.inr ⟨hpre, Or.inr hok⟩, Or.inr ⟨q_sc_eq, hBn.s (by omega) (by omega) (by omega) (by omega) (by omega) (by omega) (by omega) (by omega), fun k v hk => by omega, fun c hc hce s hs => ?_, fun _ => ⟨e2, ?_, fun h2 => ?_⟩⟩⟩
        · cases hx : q_ce (q_nxt P D M) c with
          | none => exact absurd hx hce
          | some x => exact ⟨(hSn c x hc hx s hs).1, fun h2 => ((hSn c x hc hx s hs).2 h2).live⟩
        · rw [q_sc_ne (by omega), q_nxt_sc (by omega) (by omega) (by omega)]; exact h.2.2.1
        · rw [q_sc_ne (by omega), q_nxt_sc (by omega) (by omega) (by omega)] at h2
          show i_live (q_nxt P D M) (q_gv (q_nxt P D M))
          rw [q_nxt_gv]; exact hgn h2
      · obtain ⟨i1, i2⟩ := ih (q_nxt P D M) (p2 (by omega)) (by rw [q_nxt_2]; omega) (by rw [q_nxt_sc (by omega) (by omega) (by omega)]; exact h0)
        exact ⟨Or.inr ⟨hpre, Or.inr i1⟩, i2⟩
end IX
