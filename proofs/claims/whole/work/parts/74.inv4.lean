/-! a line is worked, a fun is called: what holds stays -/
section IY
variable {P : pP} {D : pD} {M : qM} {f i : Nat}
/-- what a seen region's side points to is seen in the same way from its room -/
theorem i_sync (hW : p_W P) (hG : d_G P D) (hB : q_B P M) (hC : i_C P D M) {r s r' : Nat} (hs : s < 2) (hsd : d_sd D r s = r' + 1) : ∀ k, k ≤ q_sc M 2 → i_ctx P D M k r → q_at D M (q_at D M k r).1 r' = q_at D M k r' := by
  intro k
  induction k with
  | zero => intro _ _; rfl
  | succ k ih =>
    intro hk h
    have h : d_lr P D (q_ff M k) (q_fl M k) r := h
    obtain ⟨b1, b2, -⟩ := hB.2.2.2.2.1 k (by omega)
    rw [q_at_s]
    by_cases ho : d_ow D (q_ff M k) r = true
    · rw [if_pos ho]
    · rw [if_neg ho]
      rcases d_cases hW hG b1 b2 h with h1 | h1
      · exact absurd h1 ho
      · obtain ⟨v, v1, v2, v3⟩ := (hG.2.2.2.1 _ r b1).mp h1
        have h2 : d_ou D (q_ff M k) r' = true := (hG.2.2.2.1 _ r' b1).mpr ⟨v, v1, v2, hG.1 _ _ _ _ _ b1 v1 v3 hs hsd⟩
        rw [q_at_s (r := r'), if_neg (fun q => d_ex hG b1 q h2)]
        exact ih (by omega) (hC k (by omega) r h1)
theorem i_opd {k : Nat} (hW : p_W P) (hI : q_I P D True M) (T : q_top P M f i) (hk : k < 5) (hu : p_us P (p_fi P f + i) k) : (q_K P M (p_fi P f + i) k = 1 ∨ q_K P M (p_fi P f + i) k = 2) ∧ (q_K P M (p_fi P f + i) k = 2 → i_val D M (q_sc M 2) (d_pt D f (p_va P (p_fi P f + i) k)) (q_V P M (p_fi P f + i) k)) := by
  obtain ⟨t1, t2, t3, t4, t5, t6, t7⟩ := T
  have hv := (hW.2.2.2.2 f i t5 t6).2.2.2 k hu
  obtain ⟨hB, hF, hC, hL, hV, hA, hU, hS, hp⟩ := hI
  have hle : q_K P M (p_fi P f + i) k ≤ 2 := t7 _
  have hn0 : q_K P M (p_fi P f + i) k ≠ 0 := by
    intro h0
    obtain ⟨r, -, g2, g3⟩ := hA (q_sc M 2 - 1) (p_va P (p_fi P f + i) k) (by omega) (by rw [t3, t4]; exact hv) h0
    rw [t3] at g2
    rw [t3, t4] at g3
    exact g3 i (Nat.le_refl _) t6 (Or.inr ⟨k, hk, hu, g2⟩)
  refine ⟨by omega, fun h2 => ?_⟩
  have := hV (q_sc M 2 - 1) (p_va P (p_fi P f + i) k) (by omega) (by rw [t3]; simp only [p_vs]; omega) h2
  rw [t3, show q_sc M 2 - 1 + 1 = q_sc M 2 by omega] at this
  exact this
theorem i_gi {x : Nat} {y : Int32} (hI : q_I P D True M) (T : q_top P M f i) (h9 : x = 1 ∨ x = 2) (hv : x = 2 → i_val D M (q_sc M 2) (d_pt D f (p_pa P f + i)) y) : q_J P D (q_gi M x y) := by
  obtain ⟨t1, t2, t3, t4, t5, t6, t7⟩ := T
  obtain ⟨hB, hF, hC, hL, hV, hA, hU, hS, hp⟩ := hI
  have hBg : q_B P (q_gi M x y) := by
    obtain ⟨a1, a2, a3, a4, a5, a6, a7, a8, a9, a10, a11, a12, a13, a14, a15, a16, a17⟩ := hB
    exact ⟨a1, a2, a3, a4, a5, a6, a7, a8, a9, a10, a11, by rw [q_sc_gi, if_pos rfl]; omega, a13, a14, a15, a16, a17⟩
  refine ⟨⟨hBg, hF, hC, hL, hV, hA, hU, hS, hp⟩, t1, by rw [q_sc_gi, if_pos rfl]; exact h9, fun h2 => ?_⟩
  rw [q_sc_gi, if_pos rfl] at h2
  have := hv h2
  show i_val D M (q_sc M 2) (d_pt D (q_ff M (q_sc M 2 - 1)) (p_pa P (q_ff M (q_sc M 2 - 1)) + q_fl M (q_sc M 2 - 1))) y
  rw [t3, t4]; exact this
/-- a cell is laid -/
theorem i_lay (hW : p_W P) (hG : d_G P D) (hI : q_I P D True M) (T : q_top P M f i) (ho : p_op P (p_fi P f + i) = 2) {r : Nat} (hr : d_pt D f (p_pa P f + i) = r + 1) (h200 : q_sc M 4 < 200) (h7 : q_sc M 7 ≤ 5000) :
    q_I P D True (q_lay P M (p_fi P f + i) (q_fc (q_ce M) 200 0) (q_at D M (q_sc M 2) r)) ∧ i_val D (q_lay P M (p_fi P f + i) (q_fc (q_ce M) 200 0) (q_at D M (q_sc M 2) r)) (q_sc M 2) (r + 1) (nI (q_fc (q_ce M) 200 0)) := by
  have T' := T
  have hI' := hI
  obtain ⟨t1, t2, t3, t4, t5, t6, t7⟩ := T
  obtain ⟨hB, hF, hC, hL, hV, hA, hU, hS, hp⟩ := hI
  have hex : ∃ j, 0 ≤ j ∧ j < 0 + 200 ∧ q_ce M j = none := by
    have h200 := h200
    rw [hB.2.2.2.2.2.2.1] at h200
    have := fb_ct_not (fun c => (q_ce M c).isSome) 200
    obtain ⟨k, hk, hk2⟩ := fb_ct_pos.mp (show 0 < fb_ct (fun k => !(q_ce M k).isSome) 200 by omega)
    refine ⟨k, by omega, by omega, ?_⟩
    cases h : q_ce M k with
    | none => rfl
    | some y => rw [h] at hk2; cases hk2
  obtain ⟨-, c2, c3, c4⟩ := q_fc_ok 200 0 hex
  generalize hc : q_fc (q_ce M) 200 0 = c at *
  have hrc : d_rc D f (p_pa P f + i) r = true := hG.2.1 _ _ _ t5 (by simp only [p_vs]; omega) hr
  have hlr : d_lr P D f i r := Or.inl hrc
  have hctx : i_ctx P D M (q_sc M 2) r := by
    rw [show q_sc M 2 = (q_sc M 2 - 1) + 1 by omega]
    show d_lr P D (q_ff M (q_sc M 2 - 1)) (q_fl M (q_sc M 2 - 1)) r
    rw [t3, t4]; exact hlr
  have hx : q_at D M (q_sc M 2) r ∈ q_F M := i_avail hW hG hB hF hC _ r (Or.inr ⟨rfl, trivial⟩) hctx
  have hx2 : (q_at D M (q_sc M 2) r).2 = r := q_vis_2 _
  have hce : ∀ c', q_ce (q_lay P M (p_fi P f + i) c (q_at D M (q_sc M 2) r)) c' = if c' = c then some (q_at D M (q_sc M 2) r) else q_ce M c' := fun c' => rfl
  have hold : ∀ d y, q_ce M d = some y → q_ce (q_lay P M (p_fi P f + i) c (q_at D M (q_sc M 2) r)) d = some y := fun d y hd => by
    rw [hce, if_neg (fun q => by rw [q, c3] at hd; cases hd)]; exact hd
  have hval : ∀ n o y, i_val D M n o y → i_val D (q_lay P M (p_fi P f + i) c (q_at D M (q_sc M 2) r)) n o y := fun n o y ⟨r', d, g1, g2, g3, g4⟩ => ⟨r', d, g1, g2, g3, hold d _ g4⟩
  obtain ⟨r0, hr0, hsd0, hsd1⟩ := ((hG.2.2.2.2.2.2.2 f i t5 t6).2.1 ho)
  have hr00 : r0 = r := by omega
  subst hr00
  have hu0 := p_us_0 (P := P) (l := p_fi P f + i) (by omega)
  have hu1 := p_us_1 (P := P) (l := p_fi P f + i) (by omega)
  refine ⟨⟨?_, hF, hC, hL, fun k v hk hv hd => hval _ _ _ (hV k v hk hv hd), hA, hU, fun c' x hc' hx' s hs => ?_, hp⟩, ⟨r0, c, rfl, by omega, rfl, ?_⟩⟩
  · obtain ⟨a1, a2, a3, a4, a5, a6, a7, a8, a9, a10, a11, a12, a13, a14, a15, a16, a17⟩ := hB
    refine ⟨a1, a2, a3, a4, a5, fun c' y hc' hy => ?_, ?_, ?_, a9, ?_, a11, a12, a13, a14, a15, fun c' s hc' hs hl => ?_, a17⟩
    · rw [hce] at hy
      by_cases h : c' = c
      · rw [if_pos h] at hy; cases hy; exact hx
      · rw [if_neg h] at hy; exact a6 c' y hc' hy
    · show q_sc M 4 + 1 = _
      have h := fb_ct_upd (fun c' => (q_ce M c').isSome) true (i := c) (n := 200) (by omega)
      have e1 : (fun k => if k = c then true else (q_ce M k).isSome) = fun c' => (q_ce (q_lay P M (p_fi P f + i) c (q_at D M (q_sc M 2) r0)) c').isSome := by
        funext k
        rw [hce]
        by_cases h : k = c
        · rw [if_pos h, if_pos h]; rfl
        · rw [if_neg h, if_neg h]
      rw [e1] at h
      simp only [c3, Option.isSome_none, Bool.false_eq_true, if_false, if_true] at h
      omega
    · show (if q_sc M 5 < q_sc M 4 + 1 then q_sc M 4 + 1 else q_sc M 5) ≤ 200
      split <;> omega
    · show q_sc M 7 + 1 ≤ 5001
      omega
    · show va_up (q_sk M) c (fun s => q_K P M (p_fi P f + i) s) c' s ≤ 2
      by_cases h : c' = c
      · subst h; rw [va_up_self]; exact t7 _
      · rw [va_up_ne _ _ h]
        rw [hce, if_neg h] at hl
        exact a16 c' s hc' hs hl
  · show (va_up (q_sk M) c (fun s => q_K P M (p_fi P f + i) s) c' s = 1 ∨ va_up (q_sk M) c (fun s => q_K P M (p_fi P f + i) s) c' s = 2) ∧ (va_up (q_sk M) c (fun s => q_K P M (p_fi P f + i) s) c' s = 2 → i_val D (q_lay P M (p_fi P f + i) c (q_at D M (q_sc M 2) r0)) x.1 (d_sd D x.2 s) (va_up (q_sv M) c (fun s => q_V P M (p_fi P f + i) s) c' s))
    rw [hce] at hx'
    by_cases h : c' = c
    · rw [if_pos h] at hx'
      cases hx'
      subst h
      rw [va_up_self, va_up_self, hx2]
      have key : ∀ s, s < 2 → p_us P (p_fi P f + i) s → d_sd D r0 s = d_pt D f (p_va P (p_fi P f + i) s) → (q_K P M (p_fi P f + i) s = 1 ∨ q_K P M (p_fi P f + i) s = 2) ∧ (q_K P M (p_fi P f + i) s = 2 → i_val D (q_lay P M (p_fi P f + i) c' (q_at D M (q_sc M 2) r0)) (q_at D M (q_sc M 2) r0).1 (d_sd D r0 s) (q_V P M (p_fi P f + i) s)) := by
        intro s hs hu hsd
        obtain ⟨o1, o2⟩ := i_opd hW hI' T' (show s < 5 by omega) hu
        refine ⟨o1, fun h2 => hval _ _ _ ?_⟩
        obtain ⟨r', d, g1, g2, g3, g4⟩ := o2 h2
        refine ⟨r', d, by rw [hsd]; exact g1, g2, g3, ?_⟩
        rw [g4, i_sync hW hG hB hC hs (by rw [hsd]; exact g1) _ (Nat.le_refl _) hctx]
      rcases (by omega : s = 0 ∨ s = 1) with h | h
      · subst h; exact key 0 (by omega) hu0 hsd0
      · subst h; exact key 1 (by omega) hu1 hsd1
    · rw [if_neg h] at hx'
      rw [va_up_ne _ _ h, va_up_ne _ _ h]
      exact ⟨(hS c' x hc' hx' s hs).1, fun h2 => hval _ _ _ ((hS c' x hc' hx' s hs).2 h2)⟩
  · rw [hce, if_pos rfl]; rfl
theorem q_stop_0 (h : q_stop P D M f i = 0) : ((p_op P (p_fi P f + i) = 3 ∨ p_op P (p_fi P f + i) = 4) → q_K P M (p_fi P f + i) 0 = 2) ∧ (p_op P (p_fi P f + i) = 2 → q_sc M 4 < 200) := by
  simp only [q_stop] at h
  split at h
  · omega
  rename_i h1
  split at h
  · omega
  split at h
  · omega
  split at h
  · omega
  rename_i h4
  exact ⟨fun h34 => by
    rcases Nat.decEq (q_K P M (p_fi P f + i) 0) 2 with g | g
    · exact absurd ⟨h34, g⟩ h1
    · exact g, fun h2 => by omega⟩
/-- a line that doesn't call has its value -/
theorem i_work (hW : p_W P) (hG : d_G P D) (hI : q_I P D True M) (T : q_top P M f i) (hst3 : (p_op P (p_fi P f + i) = 3 ∨ p_op P (p_fi P f + i) = 4) → q_K P M (p_fi P f + i) 0 = 2) (hst2 : p_op P (p_fi P f + i) = 2 → q_sc M 4 < 200) (hc : q_cl P M (p_fi P f + i) = false) (h7 : q_sc M 7 ≤ 5000) :
    q_wk P D M f i ∧ q_J P D (q_work P D M f i) := by
  have T' := T
  obtain ⟨t1, t2, t3, t4, t5, t6, t7⟩ := T
  have h8 := q_cl_no hc
  have h9 := (hW.2.2.2.2 f i t5 t6).1
  have hop : p_op P (p_fi P f + i) = 0 ∨ p_op P (p_fi P f + i) = 1 ∨ p_op P (p_fi P f + i) = 2 ∨ p_op P (p_fi P f + i) = 3 ∨ p_op P (p_fi P f + i) = 4 ∨ p_op P (p_fi P f + i) = 5 ∨ p_op P (p_fi P f + i) = 6 ∨ p_op P (p_fi P f + i) = 7 ∨ p_op P (p_fi P f + i) = 9 := by omega
  have hI' := hI
  obtain ⟨hB, hF, hC, hL, hV, hA, hU, hS, hp⟩ := hI
  have g5 := hG.2.2.2.2.2.2.2 f i t5 t6
  have hctx : ∀ r, d_rc D f (p_pa P f + i) r = true → i_ctx P D M (q_sc M 2) r := fun r hrc => by
    rw [show q_sc M 2 = (q_sc M 2 - 1) + 1 by omega]
    show d_lr P D (q_ff M (q_sc M 2 - 1)) (q_fl M (q_sc M 2 - 1)) r
    rw [t3, t4]; exact Or.inl hrc
  have hwk : q_wk P D M f i := by
    refine ⟨fun o => ?_, fun o => ?_⟩
    · obtain ⟨r, hr, -⟩ := g5.2.1 o
      have hrc : d_rc D f (p_pa P f + i) r = true := hG.2.1 _ _ _ t5 (by simp only [p_vs]; omega) hr
      exact ⟨r, hr, i_avail hW hG hB hF hC _ r (Or.inr ⟨rfl, trivial⟩) (hctx r hrc), i_max hF, hst2 o⟩
    · obtain ⟨-, o2⟩ := i_opd hW hI' T' (show 0 < 5 by omega) (p_us_0 (by omega))
      obtain ⟨r, c, -, h2, h3, h4⟩ := o2 (hst3 o)
      exact ⟨c, h2, h3, by rw [h4]; intro h; cases h⟩
  refine ⟨hwk, ?_⟩
  have hcopy : ∀ k, k < 5 → p_us P (p_fi P f + i) k → d_pt D f (p_pa P f + i) = d_pt D f (p_va P (p_fi P f + i) k) → q_J P D (q_gi M (q_K P M (p_fi P f + i) k) (q_V P M (p_fi P f + i) k)) := fun k hk hu he => by
    obtain ⟨o1, o2⟩ := i_opd hW hI' T' hk hu
    exact i_gi hI' T' o1 (fun h => by rw [he]; exact o2 h)
  have hside : ∀ s, s < 2 → p_op P (p_fi P f + i) = 3 ∨ p_op P (p_fi P f + i) = 4 → (∃ r, d_pt D f (p_va P (p_fi P f + i) 0) = r + 1 ∧ d_sd D r s = d_pt D f (p_pa P f + i)) → q_J P D (q_gi M (q_sk M (q_V P M (p_fi P f + i) 0).toNatClampNeg s) (q_sv M (q_V P M (p_fi P f + i) 0).toNatClampNeg s)) := fun s hs o hsd => by
    obtain ⟨-, o2⟩ := i_opd hW hI' T' (show 0 < 5 by omega) (p_us_0 (by omega))
    obtain ⟨r, c, h1, h2, h3, h4⟩ := o2 (hst3 o)
    obtain ⟨r0, hr0, hsd⟩ := hsd
    have : r0 = r := by omega
    subst this
    rw [h3, nI_clamp (by omega)]
    have hx2 : (q_at D M (q_sc M 2) r0).2 = r0 := q_vis_2 _
    obtain ⟨s1, s2⟩ := hS c _ h2 h4 s hs
    refine i_gi hI' T' s1 (fun h => ?_)
    obtain ⟨r', d, g1, g2, g3, g4⟩ := s2 h
    rw [hx2] at g1
    refine ⟨r', d, by rw [← hsd]; exact g1, g2, g3, ?_⟩
    have hu0 := p_us_0 (P := P) (l := p_fi P f + i) (by omega)
    have hrc0 := hG.2.1 _ _ _ t5 (by have := (hW.2.2.2.2 f i t5 t6).2.2.2 0 hu0; simp only [p_vs]; omega) hr0
    have hctx0 : i_ctx P D M (q_sc M 2) r0 := by
      rw [show q_sc M 2 = (q_sc M 2 - 1) + 1 by omega]
      show d_lr P D (q_ff M (q_sc M 2 - 1)) (q_fl M (q_sc M 2 - 1)) r0
      rw [t3, t4]; exact Or.inr ⟨0, by omega, hu0, hrc0⟩
    rw [g4, i_sync hW hG hB hC hs g1 _ (Nat.le_refl _) hctx0]
  rcases hop with o | o | o | o | o | o | o | o | o
  · simp only [q_work, o]; exact i_gi hI' T' (Or.inl rfl) (fun h => by omega)
  · simp only [q_work, o]; exact hcopy 0 (by omega) (p_us_0 (by omega)) (g5.1 o)
  · obtain ⟨r, hr, -⟩ := g5.2.1 o
    simp only [q_work, o, hr, Nat.add_sub_cancel]
    obtain ⟨l1, l2⟩ := i_lay hW hG hI' T' o hr (hst2 o) h7
    have TL : q_top P (q_lay P M (p_fi P f + i) (q_fc (q_ce M) 200 0) (q_at D M (q_sc M 2) r)) f i := ⟨t1, t2, t3, t4, t5, t6, t7⟩
    exact i_gi l1 TL (Or.inr rfl) (fun _ => by rw [hr]; exact l2)
  · simp only [q_work, o]; exact hside 0 (by omega) (Or.inl o) (g5.2.2.1 o)
  · simp only [q_work, o]; exact hside 1 (by omega) (Or.inr o) (g5.2.2.2.1 o)
  · simp only [q_work, o]; exact i_gi hI' T' (Or.inl rfl) (fun h => by omega)
  · simp only [q_work, o]; exact i_gi hI' T' (Or.inl rfl) (fun h => by omega)
  · simp only [q_work, o]
    have e := g5.2.2.2.2.1 o
    by_cases hz : q_V P M (p_fi P f + i) 0 = nI 0
    · rw [if_pos hz]; exact hcopy 2 (by omega) (p_us_2 o) e.2
    · rw [if_neg hz]; exact hcopy 1 (by omega) (p_us_1 (by omega)) e.1
  · simp only [q_work, o]; exact hcopy 4 (by omega) (p_us_e o) (g5.2.2.2.2.2.2 o)
/-- what a called fun takes from outside is reached by the line that calls -/
theorem i_outer (hW : p_W P) (hG : d_G P D) (hf : f < p_fu P) (hi : i < p_ct P f) (ho : p_op P (p_fi P f + i) = 8 ∨ p_op P (p_fi P f + i) = 9) {r : Nat} (h : d_ou D (p_ca P (p_fi P f + i)) r = true) : d_lr P D f i r := by
  have hca := (hW.2.2.2.2 f i hf hi).2.2.1 (by omega)
  have hp3 := hW.2.2.1 _ hca
  obtain ⟨e1, e2⟩ := (hG.2.2.2.2.2.2.2 f i hf hi).2.2.2.2.2.1 (by omega)
  obtain ⟨v, v1, v2, v3⟩ := (hG.2.2.2.1 _ r hca).mp h
  by_cases hv : v < p_pa P (p_ca P (p_fi P f + i))
  · have us := (p_sl_ar (P := P) (l := p_fi P f + i) (v := v) ho hv).2
    have har : q_ar P (p_fi P f + i) v < 5 := by simp only [q_ar]; split <;> omega
    have hvs := (hW.2.2.2.2 f i hf hi).2.2.2 _ us
    refine Or.inr ⟨_, har, us, ?_⟩
    rw [← hG.2.2.1 _ _ _ _ hca hf v1 (by simp only [p_vs]; omega) (e1 v hv) r]; exact v3
  · have hv2 : v = p_vs P (p_ca P (p_fi P f + i)) - 1 := by omega
    refine Or.inl ?_
    rw [hG.2.2.1 _ _ _ _ hf hca (by simp only [p_vs]; omega) (by omega) e2 r, ← hv2]; exact v3
end IY
