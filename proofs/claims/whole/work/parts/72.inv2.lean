/-! a value is given further: what holds stays -/
section IW
variable {P : pP} {D : pD} {M : qM}
theorem q_frs_F {e : Nat → Bool} {n : Nat} : ∀ (d r : Nat) (M : qM) (y : Nat × Nat), y ∈ q_F (q_frs e n d r M) ↔ y ∈ q_F M ∧ ¬ (y.1 = n ∧ r ≤ y.2 ∧ y.2 < r + d ∧ e y.2 = true) := by
  intro d
  induction d with
  | zero => intro r M y; exact ⟨fun h => ⟨h, by omega⟩, fun h => h.1⟩
  | succ d ih =>
    intro r M y
    simp only [q_frs]
    rw [ih]
    by_cases hc : e r = true
    · rw [if_pos hc]
      have hm : y ∈ q_F (q_fr1 M (n, r)) ↔ y ∈ q_F M ∧ y ≠ (n, r) := by
        show y ∈ (q_F M).filter _ ↔ _
        rw [List.mem_filter, decide_eq_true_eq]
      rw [hm]
      constructor
      · rintro ⟨⟨h1, h2⟩, h3⟩
        refine ⟨h1, ?_⟩
        rintro ⟨g1, g2, g3, g4⟩
        by_cases hy : y.2 = r
        · exact h2 (Prod.ext g1 hy)
        · exact h3 ⟨g1, by omega, by omega, g4⟩
      · rintro ⟨h1, h2⟩
        refine ⟨⟨h1, ?_⟩, ?_⟩
        · intro q; exact h2 (by rw [q]; exact ⟨rfl, by omega, by omega, hc⟩)
        · rintro ⟨g1, g2, g3, g4⟩; exact h2 ⟨g1, by omega, by omega, g4⟩
    · rw [if_neg hc]
      constructor
      · rintro ⟨h1, h2⟩
        refine ⟨h1, ?_⟩
        rintro ⟨g1, g2, g3, g4⟩
        by_cases hy : y.2 = r
        · rw [hy] at g4; exact hc g4
        · exact h2 ⟨g1, by omega, by omega, g4⟩
      · rintro ⟨h1, h2⟩
        exact ⟨h1, fun ⟨g1, g2, g3, g4⟩ => h2 ⟨g1, by omega, by omega, g4⟩⟩
theorem q_frs_ce {e : Nat → Bool} {n : Nat} : ∀ (d r : Nat) (M : qM) (c : Nat) (x : Nat × Nat), q_ce (q_frs e n d r M) c = some x ↔ q_ce M c = some x ∧ ¬ (x.1 = n ∧ r ≤ x.2 ∧ x.2 < r + d ∧ e x.2 = true) := by
  intro d
  induction d with
  | zero => intro r M c x; exact ⟨fun h => ⟨h, by omega⟩, fun h => h.1⟩
  | succ d ih =>
    intro r M c y
    simp only [q_frs]
    rw [ih]
    by_cases hc : e r = true
    · rw [if_pos hc]
      have hm : q_ce (q_fr1 M (n, r)) c = some y ↔ q_ce M c = some y ∧ y ≠ (n, r) := by
        show (if q_ce M c = some (n, r) then none else q_ce M c) = some y ↔ _
        by_cases h : q_ce M c = some (n, r)
        · rw [if_pos h]
          constructor
          · intro h'; cases h'
          · rintro ⟨h1, h2⟩; rw [h] at h1; exact absurd (Option.some.inj h1).symm h2
        · rw [if_neg h]
          exact ⟨fun h' => ⟨h', fun q => h (by rw [h', q])⟩, fun h' => h'.1⟩
      rw [hm]
      constructor
      · rintro ⟨⟨h1, h2⟩, h3⟩
        refine ⟨h1, ?_⟩
        rintro ⟨g1, g2, g3, g4⟩
        by_cases hy : y.2 = r
        · exact h2 (Prod.ext g1 hy)
        · exact h3 ⟨g1, by omega, by omega, g4⟩
      · rintro ⟨h1, h2⟩
        refine ⟨⟨h1, ?_⟩, ?_⟩
        · intro q; exact h2 (by rw [q]; exact ⟨rfl, by omega, by omega, hc⟩)
        · rintro ⟨g1, g2, g3, g4⟩; exact h2 ⟨g1, by omega, by omega, g4⟩
    · rw [if_neg hc]
      constructor
      · rintro ⟨h1, h2⟩
        refine ⟨h1, ?_⟩
        rintro ⟨g1, g2, g3, g4⟩
        by_cases hy : y.2 = r
        · rw [hy] at g4; exact hc g4
        · exact h2 ⟨g1, by omega, by omega, g4⟩
      · rintro ⟨h1, h2⟩
        exact ⟨h1, fun ⟨g1, g2, g3, g4⟩ => h2 ⟨g1, by omega, by omega, g4⟩⟩
theorem q_B.frs {e : Nat → Bool} {n : Nat} : ∀ (d r : Nat) (M : qM), q_B P M → q_B P (q_frs e n d r M) := by
  intro d
  induction d with
  | zero => intro r M h; exact h
  | succ d ih =>
    intro r M h
    simp only [q_frs]
    by_cases hc : e r = true
    · rw [if_pos hc]; exact ih _ _ h.fr1
    · rw [if_neg hc]; exact ih _ _ h
/-- what freeing does -/
theorem q_free_all {k f : Nat} {e : Nat → Bool} (he : ∀ r, 24 ≤ r → e r = false) : (∀ y, y ∈ q_F (q_free P D M k f e) ↔ y ∈ q_F M ∧ ¬ (y.1 = k + 1 ∧ e y.2 = true)) ∧ (∀ c x, q_ce (q_free P D M k f e) c = some x ↔ q_ce M c = some x ∧ ¬ (x.1 = k + 1 ∧ e x.2 = true)) ∧
    (∀ k' v, q_kd (q_free P D M k f e) k' v = if k' = k ∧ v < p_vs P f ∧ q_hit D e f v = true then 0 else q_kd M k' v) ∧ (∀ k' v, q_vl (q_free P D M k f e) k' v = if k' = k ∧ v < p_vs P f ∧ q_hit D e f v = true then nI 0 else q_vl M k' v) ∧ q_sk (q_free P D M k f e) = q_sk M ∧ q_sv (q_free P D M k f e) = q_sv M ∧ (q_B P M → q_B P (q_free P D M k f e)) := by
  rw [q_free]
  by_cases h0 : (List.range 24).all (fun r => !e r) = true
  · have he' : ∀ r, e r = false := fun r => by
      rcases Nat.lt_or_ge r 24 with h | h
      · have := List.all_eq_true.mp h0 r (List.mem_range.mpr h); simpa using this
      · exact he r h
    rw [if_pos h0]
    refine ⟨fun y => ⟨fun h => ⟨h, by rintro ⟨-, h2⟩; rw [he'] at h2; cases h2⟩, fun h => h.1⟩, fun c x => ⟨fun h => ⟨h, by rintro ⟨-, h2⟩; rw [he'] at h2; cases h2⟩, fun h => h.1⟩, fun k' v => ?_, fun k' v => ?_, rfl, rfl, fun h => h⟩
    · rw [q_hit_false he', if_neg (by rintro ⟨-, -, h⟩; cases h)]
    · rw [q_hit_false he', if_neg (by rintro ⟨-, -, h⟩; cases h)]
  · rw [if_neg h0]
    have hfr := q_frs_ff (e := e) (n := k + 1) 24 0 (q_s M 11 1)
    refine ⟨fun y => ?_, fun c x => ?_, fun k' v => ?_, fun k' v => ?_, hfr.2.2.2.2.2.1, hfr.2.2.2.2.2.2.1, fun h => ?_⟩
    · show y ∈ q_F (q_frs e (k + 1) 24 0 (q_s M 11 1)) ↔ _
      rw [q_frs_F]
      refine and_congr_right (fun _ => not_congr ⟨fun ⟨a1, _, _, a4⟩ => ⟨a1, a4⟩, fun ⟨a1, a4⟩ => ⟨a1, by omega, ?_, a4⟩⟩)
      rcases Nat.lt_or_ge y.2 24 with h | h
      · omega
      · rw [he _ h] at a4; cases a4
    · show q_ce (q_frs e (k + 1) 24 0 (q_s M 11 1)) c = some x ↔ _
      rw [q_frs_ce]
      refine and_congr_right (fun _ => not_congr ⟨fun ⟨a1, _, _, a4⟩ => ⟨a1, a4⟩, fun ⟨a1, a4⟩ => ⟨a1, by omega, ?_, a4⟩⟩)
      rcases Nat.lt_or_ge x.2 24 with h | h
      · omega
      · rw [he _ h] at a4; cases a4
    · show va_up (q_kd _) k _ k' v = _
      rw [show q_kd (q_frs e (k + 1) 24 0 (q_s M 11 1)) = q_kd M from hfr.2.2.1]
      by_cases hk : k' = k
      · subst hk; rw [va_up_self]; simp only [true_and]
      · rw [va_up_ne _ _ hk, if_neg (by rintro ⟨h, -⟩; exact hk h)]
    · show va_up (q_vl _) k _ k' v = _
      rw [show q_vl (q_frs e (k + 1) 24 0 (q_s M 11 1)) = q_vl M from hfr.2.2.2.1]
      by_cases hk : k' = k
      · subst hk; rw [va_up_self]; simp only [true_and]
      · rw [va_up_ne _ _ hk, if_neg (by rintro ⟨h, -⟩; exact hk h)]
    · exact (q_B.frs 24 0 _ (h.s (by omega) (by omega) (by omega) (by omega) (by omega) (by omega) (by omega) (by omega))).clr
/-- a value waits to be given to the line of the frame on top -/
def q_J (P : pP) (D : pD) (M : qM) : Prop := q_I P D True M ∧ 1 ≤ q_sc M 2 ∧ (q_sc M 9 = 1 ∨ q_sc M 9 = 2) ∧ (q_sc M 9 = 2 → i_val D M (q_sc M 2) (d_pt D (q_ff M (q_sc M 2 - 1)) (p_pa P (q_ff M (q_sc M 2 - 1)) + q_fl M (q_sc M 2 - 1))) (q_gv M))
theorem q_J.pre (hW : p_W P) (hG : d_G P D) (h : q_J P D M) : q_pre P D M := by
  obtain ⟨⟨hB, hF, hC, hL, hV, hA, hU, hS, hp⟩, hn, h9, hgv⟩ := h
  obtain ⟨b1, b2, b3⟩ := hB.2.2.2.2.1 (q_sc M 2 - 1) (by omega)
  refine ⟨hB, i_lev hF, fun r hr he => ?_, fun hl => ?_⟩
  · obtain ⟨e1, e2, -⟩ := (hG.2.2.2.2.2.2.1 _ _ r b1 b2).mp he
    exact (hF _).mpr (Or.inr ⟨q_sc M 2 - 1, by omega, by show q_sc M 2 = _; omega, e1, ⟨_, Or.inr ⟨rfl, Or.inr trivial⟩, e2⟩, ⟨_, Nat.le_refl _, b2, e2⟩⟩)
  · rw [Bool.eq_false_iff]
    intro hh
    simp only [q_hit, List.any_eq_true, Bool.and_eq_true] at hh
    obtain ⟨r, -, h1, h2⟩ := hh
    obtain ⟨e1, -, -⟩ := (hG.2.2.2.2.2.2.1 _ _ r b1 b2).mp h2
    have hou : d_ou D (q_ff M (q_sc M 2 - 1)) r = true := (hG.2.2.2.1 _ r b1).mpr ⟨_, by simp only [p_vs]; omega, Or.inr (by simp only [p_vs]; omega), h1⟩
    exact d_ex hG b1 e1 hou
theorem d_lr_sd {f i q s r : Nat} (hW : p_W P) (hG : d_G P D) (hf : f < p_fu P) (hi : i < p_ct P f) (h : d_lr P D f i q) (hs : s < 2) (hq : d_sd D q s = r + 1) : d_lr P D f i r := by
  rcases h with h | ⟨k, hk, hu, h⟩
  · exact Or.inl (hG.1 _ _ _ _ _ hf (by simp only [p_vs]; omega) h hs hq)
  · exact Or.inr ⟨k, hk, hu, hG.1 _ _ _ _ _ hf (by have := (hW.2.2.2.2 f i hf hi).2.2.2 k hu; simp only [p_vs]; omega) h hs hq⟩
theorem q_hit_of {e : Nat → Bool} {f v r : Nat} (hr : r < 24) (h1 : d_rc D f v r = true) (h2 : e r = true) : q_hit D e f v = true := by
  simp only [q_hit, List.any_eq_true]
  exact ⟨r, List.mem_range.mpr hr, by rw [h1, h2]; rfl⟩
/-- what the assignment with its freeing keeps, in all frames; of the frame on top as far as its line is one further -/
theorem i_fin (hW : p_W P) (hSd : d_S D) (hG : d_G P D) (h : q_J P D M) :
    q_B P (q_free P D (q_var M (q_sc M 2 - 1) (p_pa P (q_ff M (q_sc M 2 - 1)) + q_fl M (q_sc M 2 - 1)) (q_sc M 9) (q_gv M)) (q_sc M 2 - 1) (q_ff M (q_sc M 2 - 1)) (d_en D (q_ff M (q_sc M 2 - 1)) (q_fl M (q_sc M 2 - 1)))) ∧
    (∀ x, x ∈ q_F (q_fin P D M) ↔ (x.1 = 0 ∧ d_ou D (p_fu P - 1) x.2 = true) ∨ (∃ k, k + 1 < q_sc M 2 ∧ x.1 = k + 1 ∧ i_act P D True M k x.2) ∨ (x.1 = q_sc M 2 ∧ d_ow D (q_ff M (q_sc M 2 - 1)) x.2 = true ∧ (∃ j, j < q_fl M (q_sc M 2 - 1) + 1 ∧ d_lr P D (q_ff M (q_sc M 2 - 1)) j x.2) ∧ ∃ j, q_fl M (q_sc M 2 - 1) + 1 ≤ j ∧ j < p_ct P (q_ff M (q_sc M 2 - 1)) ∧ d_lr P D (q_ff M (q_sc M 2 - 1)) j x.2)) ∧
    (∀ k v, k < q_sc M 2 → v < p_vs P (q_ff M k) → q_kd (q_fin P D M) k v = 2 → i_val D (q_fin P D M) (k + 1) (d_pt D (q_ff M k) v) (q_vl (q_fin P D M) k v)) ∧
    (∀ k v, k < q_sc M 2 → v < p_pa P (q_ff M k) + q_fl (q_fin P D M) k → q_kd (q_fin P D M) k v = 0 → ∃ r, d_ow D (q_ff M k) r = true ∧ d_rc D (q_ff M k) v r = true ∧ ∀ j, q_fl (q_fin P D M) k ≤ j → j < p_ct P (q_ff M k) → ¬ d_lr P D (q_ff M k) j r) ∧
    (∀ k v, k < q_sc M 2 → p_pa P (q_ff M k) + q_fl (q_fin P D M) k ≤ v → q_kd (q_fin P D M) k v = 0) ∧ i_S D (q_fin P D M) ∧
    (∀ c x, q_ce M c = some x → x.1 < q_sc M 2 → q_ce (q_fin P D M) c = some x) := by
  have hpre := h.pre hW hG
  obtain ⟨⟨hB, hF, hC, hL, hV, hA, hU, hS, hp⟩, hn, h9, hgv⟩ := h
  obtain ⟨b1, b2, b3⟩ := hB.2.2.2.2.1 (q_sc M 2 - 1) (by omega)
  have hl := hW.line b1 b2
  have hBv := hB.var (k := q_sc M 2 - 1) (v := p_pa P (q_ff M (q_sc M 2 - 1)) + q_fl M (q_sc M 2 - 1)) (x := q_sc M 9) (y := q_gv M) hB.2.2.2.2.2.2.2.2.2.2.2.1
  obtain ⟨a1, a2, a3, a4, a5, a6, a7⟩ := q_free_all (P := P) (D := D) (M := q_var M (q_sc M 2 - 1) (p_pa P (q_ff M (q_sc M 2 - 1)) + q_fl M (q_sc M 2 - 1)) (q_sc M 9) (q_gv M)) (k := q_sc M 2 - 1) (f := q_ff M (q_sc M 2 - 1)) (e := d_en D (q_ff M (q_sc M 2 - 1)) (q_fl M (q_sc M 2 - 1))) (fun r hr => hSd.1 2 _ _ r hr)
  rw [show q_sc M 2 - 1 + 1 = q_sc M 2 by omega] at a1 a2
  have hen := fun r => hG.2.2.2.2.2.2.1 (q_ff M (q_sc M 2 - 1)) (q_fl M (q_sc M 2 - 1)) r b1 b2
  have hvis : ∀ lev r, (q_at D M lev r).1 ≤ lev := fun lev r => q_vis_le lev
  have hv2 : ∀ lev r, (q_at D M lev r).2 = r := fun lev r => q_vis_2 lev
  have hatc : ∀ lev r, q_at D (q_fin P D M) lev r = q_at D M lev r := fun lev r => q_at_cong (fun k _ => by
    show q_ff (q_free P D _ _ _ _) k = _
    rw [q_free_ff.1]; rfl)
  have a1 : ∀ y, y ∈ q_F (q_fin P D M) ↔ y ∈ q_F M ∧ ¬ (y.1 = q_sc M 2 ∧ d_en D (q_ff M (q_sc M 2 - 1)) (q_fl M (q_sc M 2 - 1)) y.2 = true) := a1
  have a2 : ∀ c x, q_ce (q_fin P D M) c = some x ↔ q_ce M c = some x ∧ ¬ (x.1 = q_sc M 2 ∧ d_en D (q_ff M (q_sc M 2 - 1)) (q_fl M (q_sc M 2 - 1)) x.2 = true) := a2
  have a3 : ∀ k' v, q_kd (q_fin P D M) k' v = if k' = q_sc M 2 - 1 ∧ v < p_vs P (q_ff M (q_sc M 2 - 1)) ∧ q_hit D (d_en D (q_ff M (q_sc M 2 - 1)) (q_fl M (q_sc M 2 - 1))) (q_ff M (q_sc M 2 - 1)) v = true then 0 else if k' = q_sc M 2 - 1 ∧ v = p_pa P (q_ff M (q_sc M 2 - 1)) + q_fl M (q_sc M 2 - 1) then q_sc M 9 else q_kd M k' v := fun k' v => (a3 k' v).trans (by
    congr 1; exact q_kvar)
  have a4 : ∀ k' v, q_vl (q_fin P D M) k' v = if k' = q_sc M 2 - 1 ∧ v < p_vs P (q_ff M (q_sc M 2 - 1)) ∧ q_hit D (d_en D (q_ff M (q_sc M 2 - 1)) (q_fl M (q_sc M 2 - 1))) (q_ff M (q_sc M 2 - 1)) v = true then nI 0 else if k' = q_sc M 2 - 1 ∧ v = p_pa P (q_ff M (q_sc M 2 - 1)) + q_fl M (q_sc M 2 - 1) then q_gv M else q_vl M k' v := fun k' v => (a4 k' v).trans (by
    congr 1; exact q_vvar)
  have a5 : q_sk (q_fin P D M) = q_sk M := a5
  have a6 : q_sv (q_fin P D M) = q_sv M := a6
  have hfl : ∀ k, q_fl (q_fin P D M) k = if k = q_sc M 2 - 1 then q_fl M (q_sc M 2 - 1) + 1 else q_fl M k := by
    intro k
    show va_up (q_fl (q_free P D _ _ _ _)) _ _ k = _
    rw [q_free_ff.2.1]; rfl
  have hkeep : ∀ c x, q_ce M c = some x → x.1 < q_sc M 2 → q_ce (q_fin P D M) c = some x := fun c x hx hlt => (a2 c x).mpr ⟨hx, fun q => by omega⟩
  -- a value that a var of the frame on top holds, and that isn't lost
  have hkeepv : ∀ v y, v < p_vs P (q_ff M (q_sc M 2 - 1)) → i_val D M (q_sc M 2) (d_pt D (q_ff M (q_sc M 2 - 1)) v) y → ¬ q_hit D (d_en D (q_ff M (q_sc M 2 - 1)) (q_fl M (q_sc M 2 - 1))) (q_ff M (q_sc M 2 - 1)) v = true → i_val D (q_fin P D M) (q_sc M 2) (d_pt D (q_ff M (q_sc M 2 - 1)) v) y := by
    rintro v y hv ⟨r, c, h1, h2, h3, h4⟩ hh
    refine ⟨r, c, h1, h2, h3, ?_⟩
    rw [hatc]
    refine (a2 c _).mpr ⟨h4, ?_⟩
    rintro ⟨-, g2⟩
    rw [hv2] at g2
    have hrc := hG.2.1 _ _ _ b1 hv h1
    have hr24 : r < 24 := by
      rcases Nat.lt_or_ge r 24 with h | h
      · exact h
      · rw [show d_en D (q_ff M (q_sc M 2 - 1)) (q_fl M (q_sc M 2 - 1)) r = false from hSd.1 2 _ _ r h] at g2; cases g2
    exact hh (q_hit_of hr24 hrc g2)
  refine ⟨a7 hBv, fun x => ?_, fun k v hk hv hd => ?_, fun k v hk hv hd => ?_, fun k v hk hv => ?_, fun c x hc hx s hs => ?_, hkeep⟩
  · rw [a1, hF x]
    constructor
    · rintro ⟨h1, h2⟩
      rcases h1 with h1 | ⟨k, hk, h3, h4⟩
      · exact Or.inl h1
      · by_cases hkn : k + 1 < q_sc M 2
        · exact Or.inr (Or.inl ⟨k, hkn, h3, h4⟩)
        · have hk' : k = q_sc M 2 - 1 := by omega
          subst hk'
          obtain ⟨g1, ⟨j, hj, hlj⟩, ⟨j', hj', hj2, hlj'⟩⟩ := h4
          refine Or.inr (Or.inr ⟨by omega, g1, ⟨j, by omega, hlj⟩, ?_⟩)
          by_cases hjj : j' = q_fl M (q_sc M 2 - 1)
          · subst hjj
            by_cases hex : ∃ j, q_fl M (q_sc M 2 - 1) + 1 ≤ j ∧ j < p_ct P (q_ff M (q_sc M 2 - 1)) ∧ d_lr P D (q_ff M (q_sc M 2 - 1)) j x.2
            · exact hex
            · exact absurd ⟨by omega, (hen x.2).mpr ⟨g1, hlj', fun j h1 h2 h3 => hex ⟨j, by omega, h2, h3⟩⟩⟩ h2
          · exact ⟨j', by omega, hj2, hlj'⟩
    · rintro (h1 | ⟨k, hk, h3, h4⟩ | ⟨h3, g1, ⟨j, hj, hlj⟩, ⟨j', hj', hj2, hlj'⟩⟩)
      · exact ⟨Or.inl h1, by omega⟩
      · exact ⟨Or.inr ⟨k, by omega, h3, h4⟩, by omega⟩
      · refine ⟨Or.inr ⟨q_sc M 2 - 1, by omega, by omega, g1, ⟨j, ?_, hlj⟩, ⟨j', by omega, hj2, hlj'⟩⟩, ?_⟩
        · rcases (by omega : j < q_fl M (q_sc M 2 - 1) ∨ j = q_fl M (q_sc M 2 - 1)) with h | h
          · exact Or.inl h
          · exact Or.inr ⟨h, Or.inr trivial⟩
        · rintro ⟨-, g2⟩
          exact ((hen x.2).mp g2).2.2 j' (by omega) hj2 hlj'
  · rw [a3] at hd
    rw [a4]
    by_cases hk' : k = q_sc M 2 - 1
    · subst hk'
      by_cases hh : q_hit D (d_en D (q_ff M (q_sc M 2 - 1)) (q_fl M (q_sc M 2 - 1))) (q_ff M (q_sc M 2 - 1)) v = true
      · rw [if_pos ⟨rfl, hv, hh⟩] at hd; omega
      · rw [if_neg (by rintro ⟨-, -, h⟩; exact hh h)] at hd ⊢
        rw [show q_sc M 2 - 1 + 1 = q_sc M 2 by omega]
        by_cases hvv : v = p_pa P (q_ff M (q_sc M 2 - 1)) + q_fl M (q_sc M 2 - 1)
        · rw [if_pos ⟨rfl, hvv⟩] at hd ⊢
          rw [hvv] at hh ⊢
          exact hkeepv _ _ (by simp only [p_vs]; omega) (hgv hd) hh
        · rw [if_neg (by rintro ⟨-, h⟩; exact hvv h)] at hd ⊢
          have := hV _ v (by omega) hv hd
          rw [show q_sc M 2 - 1 + 1 = q_sc M 2 by omega] at this
          exact hkeepv _ _ hv this hh
    · rw [if_neg (by rintro ⟨h, -⟩; exact hk' h), if_neg (by rintro ⟨h, -⟩; exact hk' h)] at hd ⊢
      obtain ⟨r, c, h1, h2, h3, h4⟩ := hV k v hk hv hd
      refine ⟨r, c, h1, h2, h3, ?_⟩
      rw [hatc]
      exact hkeep c _ h4 (by have := hvis (k + 1) r; omega)
  · rw [a3] at hd
    rw [hfl] at hv ⊢
    by_cases hk' : k = q_sc M 2 - 1
    · subst hk'
      rw [if_pos rfl] at hv ⊢
      by_cases hh : v < p_vs P (q_ff M (q_sc M 2 - 1)) ∧ q_hit D (d_en D (q_ff M (q_sc M 2 - 1)) (q_fl M (q_sc M 2 - 1))) (q_ff M (q_sc M 2 - 1)) v = true
      · have := hh.2
        simp only [q_hit, List.any_eq_true, Bool.and_eq_true] at this
        obtain ⟨r, -, g1, g2⟩ := this
        obtain ⟨e1, e2, e3⟩ := (hen r).mp g2
        exact ⟨r, e1, g1, fun j hj hj2 => e3 j (by omega) hj2⟩
      · rw [if_neg (by rintro ⟨-, h1, h2⟩; exact hh ⟨h1, h2⟩)] at hd
        by_cases hvv : v = p_pa P (q_ff M (q_sc M 2 - 1)) + q_fl M (q_sc M 2 - 1)
        · rw [if_pos ⟨rfl, hvv⟩] at hd; omega
        · rw [if_neg (by rintro ⟨-, h⟩; exact hvv h)] at hd
          obtain ⟨r, g1, g2, g3⟩ := hA _ v (by omega) (by omega) hd
          exact ⟨r, g1, g2, fun j hj hj2 => g3 j (by omega) hj2⟩
    · rw [if_neg hk'] at hv ⊢
      rw [if_neg (by rintro ⟨h, -⟩; exact hk' h), if_neg (by rintro ⟨h, -⟩; exact hk' h)] at hd
      exact hA k v hk hv hd
  · rw [hfl] at hv
    rw [a3]
    by_cases hk' : k = q_sc M 2 - 1
    · subst hk'
      rw [if_pos rfl] at hv
      split
      · rfl
      · rw [if_neg (by rintro ⟨-, h⟩; omega)]
        exact hU _ v (by omega) (by omega)
    · rw [if_neg hk'] at hv
      rw [if_neg (by rintro ⟨h, -⟩; exact hk' h), if_neg (by rintro ⟨h, -⟩; exact hk' h)]
      exact hU k v hk hv
  · obtain ⟨hx1, hx2⟩ := (a2 c x).mp hx
    obtain ⟨s1, s2⟩ := hS c x hc hx1 s hs
    rw [a5, a6]
    refine ⟨s1, fun h2 => ?_⟩
    obtain ⟨r, d, h1, h2', h3, h4⟩ := s2 h2
    refine ⟨r, d, h1, h2', h3, ?_⟩
    rw [hatc]
    refine (a2 d _).mpr ⟨h4, ?_⟩
    rintro ⟨g1, g2⟩
    rw [hv2] at g2
    have hlv := hvis x.1 r
    have hxF := hB.2.2.2.2.2.1 c x hc hx1
    have hxl := i_lev hF x hxF
    have hxn : x.1 = q_sc M 2 := by omega
    rcases (hF x).mp hxF with ⟨h, -⟩ | ⟨k, hk, hk1, o1, -, ⟨j, hj, hj2, hlj⟩⟩
    · omega
    · have hk' : k = q_sc M 2 - 1 := by omega
      subst hk'
      obtain ⟨e1, e2, e3⟩ := (hen r).mp g2
      refine hx2 ⟨hxn, (hen x.2).mpr ⟨o1, ?_, fun j' hj' hj2' hl' => e3 j' hj' hj2' (d_lr_sd hW hG b1 hj2' hl' hs h1)⟩⟩
      by_cases hjj : j = q_fl M (q_sc M 2 - 1)
      · rw [← hjj]; exact hlj
      · exact absurd (d_lr_sd hW hG b1 hj2 hlj hs h1) (e3 j (by omega) hj2)
end IW
