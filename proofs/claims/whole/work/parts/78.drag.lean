/-! how much is kept too long: it grows only where values are lost -/
def w_dr (P : pP) (M : qM) : Nat := q_sc M 4 - (w_all P M).length
def w_un (P : pP) (M : qM) (c : Nat) : Bool := (q_ce M c).isSome && !decide (c ∈ w_all P M)
section WD
variable {P : pP} {D : pD} {M : qM}
theorem w_dr_un (hB : q_B P M) (hL : q_L P M) : w_dr P M = fb_ct (w_un P M) 200 ∧ (w_all P M).length ≤ q_sc M 4 := by
  obtain ⟨h1, -, -, -, -⟩ := w_all_ok hL
  have e := w_ct h1.1 (fun c hc => (h1.2 c hc).1)
  have h2 := fb_ct_or (p := fun c => decide (c ∈ w_all P M)) (q := w_un P M) (n := 200) (fun k _ => by
    rintro ⟨a1, a2⟩
    simp only [w_un, Bool.and_eq_true, Bool.not_eq_true'] at a2
    rw [a1] at a2; cases a2.2)
  have h3 : fb_ct (fun k => decide (k ∈ w_all P M) || w_un P M k) 200 = fb_ct (fun c => (q_ce M c).isSome) 200 := fb_ct_cong (fun k hk => by
    by_cases hm : k ∈ w_all P M
    · have := (h1.2 k hm).2
      rw [decide_eq_true hm, Bool.true_or]
      cases hc : q_ce M k with
      | none => exact absurd hc this
      | some y => rfl
    · simp only [w_un, decide_eq_false hm, Bool.not_false, Bool.and_true, Bool.false_or])
  have h4 := hB.2.2.2.2.2.2.1
  simp only [w_dr]
  omega
theorem w_mono {M' : qM} (hL : q_L P M) (hL' : q_L P M') (h0 : q_sc M 0 ≠ 2)
    (hr : ∀ k v, k < q_sc M 2 → v < p_vs P (q_ff M k) → q_kd M k v = 2 → k < q_sc M' 2 ∧ v < p_vs P (q_ff M' k) ∧ q_kd M' k v = 2 ∧ q_vl M' k v = q_vl M k v)
    (hs : ∀ c, c < 200 → q_ce M c ≠ none → q_sk M' c = q_sk M c ∧ q_sv M' c = q_sv M c) : ∀ c, c ∈ w_all P M → c ∈ w_all P M' := by
  obtain ⟨-, r1, -, r3, -⟩ := w_all_ok hL'
  refine (w_all_ok hL).2.2.2.2 (fun c => c ∈ w_all P M') (fun k v hk hv h2 => ?_) (fun h => absurd h h0) (fun c hc hce hX s hs' h2 => ?_)
  · obtain ⟨a1, a2, a3, a4⟩ := hr k v hk hv h2
    rw [← a4]; exact r1 k v a1 a2 a3
  · obtain ⟨e1, e2⟩ := hs c hc hce
    rw [← e2]; exact r3 c hX s hs' (by rw [e1]; exact h2)
theorem w_un_le {M' : qM} (hB : q_B P M) (hB' : q_B P M') (hL : q_L P M) (hL' : q_L P M') (h0 : q_sc M 0 ≠ 2)
    (hr : ∀ k v, k < q_sc M 2 → v < p_vs P (q_ff M k) → q_kd M k v = 2 → k < q_sc M' 2 ∧ v < p_vs P (q_ff M' k) ∧ q_kd M' k v = 2 ∧ q_vl M' k v = q_vl M k v)
    (hs : ∀ c, c < 200 → q_ce M c ≠ none → q_sk M' c = q_sk M c ∧ q_sv M' c = q_sv M c)
    (hn : ∀ c, c < 200 → q_ce M' c ≠ none → q_ce M c ≠ none ∨ c ∈ w_all P M') : w_dr P M' ≤ w_dr P M := by
  rw [(w_dr_un hB hL).1, (w_dr_un hB' hL').1]
  refine fb_ct_sub (fun c hc h => ?_)
  simp only [w_un, Bool.and_eq_true, Bool.not_eq_true', decide_eq_false_iff_not] at h ⊢
  obtain ⟨a1, a2⟩ := h
  have hce : q_ce M' c ≠ none := fun q => by rw [q] at a1; cases a1
  refine ⟨?_, fun q => a2 (w_mono hL hL' h0 hr hs c q)⟩
  rcases hn c hc hce with q | q
  · cases hx : q_ce M c with
    | none => exact absurd hx q
    | some y => rfl
  · exact absurd q a2
theorem q_free_11 {k f : Nat} {e : Nat → Bool} (h : q_sc M 11 = 1) : q_sc (q_free P D M k f e) 11 = 1 := by
  rw [q_free]
  split
  · exact h
  · show q_sc (q_frs e (k + 1) 24 0 (q_s M 11 1)) 11 = 1
    rw [(q_frs_ff (e := e) (n := k + 1) 24 0 (q_s M 11 1)).2.2.2.2.2.2.2 11 (by omega)]; exact q_sc_eq
theorem q_set_11 : ∀ (j : Nat) (M : qM), q_sc M 11 = 1 → q_sc (q_set P D j M) 11 = 1 := by
  intro j
  induction j with
  | zero => intro M h; exact h
  | succ j ih =>
    intro M h
    rw [q_set]
    split
    · exact h
    · split
      · exact q_free_11 (M := q_var M _ _ _ _) h
      · exact ih _ q_sc_eq
theorem w_step (hW : p_W P) (hSd : d_S D) (hG : d_G P D) (h : q_Z P D M) (hl : q_sc (q_step P D M) 11 = 0) : w_dr P (q_step P D M) ≤ w_dr P M := by
  obtain ⟨-, -, hQ, -⟩ := i_step hW hSd hG h
  obtain ⟨h0, hI, hn, h6, h7, h8⟩ := h
  have hBQ : q_B P (q_step P D M) ∧ q_L P (q_step P D M) := by
    rcases hQ with ⟨z0, zI, -⟩ | ⟨-, z1, z2⟩
    · exact ⟨zI.1, zI.live (by omega)⟩
    · exact ⟨z1, z2⟩
  have hB := hI.1
  have hL := hI.live (by omega)
  have hUU := hI.2.2.2.2.2.2.1
  have T := hB.top hn
  have T2 := T
  obtain ⟨hB', hL'⟩ := hBQ
  rw [q_step] at hl hB' hL' ⊢
  generalize hf : q_ff M (q_sc M 2 - 1) = f at *
  generalize hi : q_fl M (q_sc M 2 - 1) = i at *
  obtain ⟨t1, t2, t3, t4, t5, t6, t7⟩ := T
  by_cases hz : q_stop P D (q_m1 D M) f i = 0
  · rw [if_neg (by rw [hz]; exact fun h => h rfl)] at hl hB' hL' ⊢
    by_cases hc : q_cl P (q_m2 D M) (p_fi P f + i) = true
    · rw [if_pos hc, q_call] at hl hB' hL' ⊢
      by_cases hlv : q_lv P D f i = true
      · rw [if_pos hlv] at hl
        have hl : 1 = 0 := hl
        omega
      · rw [if_neg hlv] at hl hB' hL' ⊢
        refine w_un_le hB hB' hL hL' (by omega) (fun k v hk hv h2 => ?_) (fun c hc hce => ⟨rfl, rfl⟩) (fun c hc hce => Or.inl hce)
        have hne : k ≠ q_sc (q_m2 D M) 2 := by rw [q_m2_sc (by omega) (by omega)]; omega
        refine ⟨?_, ?_, ?_, ?_⟩
        · show k < q_sc (q_m2 D M) 2 + 1; rw [q_m2_sc (by omega) (by omega)]; omega
        · show v < p_vs P (va_up (q_ff M) (q_sc (q_m2 D M) 2) _ k); rw [va_up_ne _ _ hne]; exact hv
        · show va_up (q_kd M) (q_sc (q_m2 D M) 2) _ k v = 2; rw [va_up_ne _ _ hne]; exact h2
        · show va_up (q_vl M) (q_sc (q_m2 D M) 2) _ k v = _; rw [va_up_ne _ _ hne]
    · rw [if_neg hc] at hl hB' hL' ⊢
      have e2 : q_sc (q_work P D (q_m2 D M) f i) 2 = q_sc M 2 := by rw [q_work_2, q_m2_sc (by omega) (by omega)]
      have eff : q_ff (q_work P D (q_m2 D M) f i) = q_ff M := by
        simp only [q_work]; split <;> rfl
      have efl : q_fl (q_work P D (q_m2 D M) f i) = q_fl M := by
        simp only [q_work]; split <;> rfl
      have ekd : q_kd (q_work P D (q_m2 D M) f i) = q_kd M := by
        simp only [q_work]; split <;> rfl
      have evl : q_vl (q_work P D (q_m2 D M) f i) = q_vl M := by
        simp only [q_work]; split <;> rfl
      have hside : ∀ c, c < 200 → q_ce M c ≠ none → q_sk (q_work P D (q_m2 D M) f i) c = q_sk M c ∧ q_sv (q_work P D (q_m2 D M) f i) c = q_sv M c := by
        intro c hc hce
        simp only [q_work]
        split
        case h_3 ho =>
          have hfc : q_ce M (q_fc (q_ce M) 200 0) = none := by
            have h4 := (q_stop_0 hz).2 ho
            rw [q_m1_sc (by omega), hB.2.2.2.2.2.2.1] at h4
            have := fb_ct_not (fun c => (q_ce M c).isSome) 200
            obtain ⟨k, hk, hk2⟩ := fb_ct_pos.mp (show 0 < fb_ct (fun k => !(q_ce M k).isSome) 200 by omega)
            exact (q_fc_ok 200 0 ⟨k, by omega, by omega, by
              cases h : q_ce M k with
              | none => rfl
              | some y => rw [h] at hk2; cases hk2⟩).2.2.1
          have hne : c ≠ q_fc (q_ce M) 200 0 := fun q => hce (by rw [q]; exact hfc)
          exact ⟨va_up_ne (q_sk M) _ hne, va_up_ne (q_sv M) _ hne⟩
        all_goals exact ⟨rfl, rfl⟩
      have hcell : ∀ c, q_ce (q_work P D (q_m2 D M) f i) c ≠ none → q_ce M c ≠ none ∨ (q_sc (q_work P D (q_m2 D M) f i) 9 = 2 ∧ q_gv (q_work P D (q_m2 D M) f i) = nI c ∧ c < 200) := by
        intro c
        simp only [q_work]
        split
        case h_3 ho =>
          intro hce
          by_cases hcc : c = q_fc (q_ce M) 200 0
          · refine Or.inr ⟨rfl, by rw [hcc]; rfl, ?_⟩
            have h4 := (q_stop_0 hz).2 ho
            rw [q_m1_sc (by omega), hB.2.2.2.2.2.2.1] at h4
            have := fb_ct_not (fun c => (q_ce M c).isSome) 200
            obtain ⟨k, hk, hk2⟩ := fb_ct_pos.mp (show 0 < fb_ct (fun k => !(q_ce M k).isSome) 200 by omega)
            have := (q_fc_ok (c := q_ce M) 200 0 ⟨k, by omega, by omega, by
              cases h : q_ce M k with
              | none => rfl
              | some y => rw [h] at hk2; cases hk2⟩).2.1
            omega
          · refine Or.inl ?_
            have hce : va_up (q_ce M) (q_fc (q_ce M) 200 0) _ c ≠ none := hce
            rw [va_up_ne _ _ hcc] at hce; exact hce
        all_goals exact fun h => Or.inl h
      generalize hN : q_work P D (q_m2 D M) f i = N at *
      rw [q_set, if_neg (by omega), e2, eff, efl, hf, hi] at hl hB' hL' ⊢
      by_cases hlt : i + 1 < p_ct P f
      · rw [if_pos hlt] at hl hB' hL' ⊢
        have hfr : q_free P D (q_var N (q_sc N 2 - 1) (p_pa P (q_ff N (q_sc N 2 - 1)) + q_fl N (q_sc N 2 - 1)) (q_sc N 9) (q_gv N)) (q_sc N 2 - 1) (q_ff N (q_sc N 2 - 1)) (d_en D (q_ff N (q_sc N 2 - 1)) (q_fl N (q_sc N 2 - 1))) = q_var N (q_sc N 2 - 1) (p_pa P (q_ff N (q_sc N 2 - 1)) + q_fl N (q_sc N 2 - 1)) (q_sc N 9) (q_gv N) := by
          rw [q_fin] at hl
          have hl : q_sc (q_free P D (q_var N (q_sc N 2 - 1) (p_pa P (q_ff N (q_sc N 2 - 1)) + q_fl N (q_sc N 2 - 1)) (q_sc N 9) (q_gv N)) (q_sc N 2 - 1) (q_ff N (q_sc N 2 - 1)) (d_en D (q_ff N (q_sc N 2 - 1)) (q_fl N (q_sc N 2 - 1)))) 11 = 0 := hl
          rw [q_free] at hl ⊢
          split at hl
          · rw [if_pos (by assumption)]
          · have hl : q_sc (q_frs (d_en D (q_ff N (q_sc N 2 - 1)) (q_fl N (q_sc N 2 - 1))) (q_sc N 2 - 1 + 1) 24 0 (q_s (q_var N (q_sc N 2 - 1) (p_pa P (q_ff N (q_sc N 2 - 1)) + q_fl N (q_sc N 2 - 1)) (q_sc N 9) (q_gv N)) 11 1)) 11 = 0 := hl
            rw [(q_frs_ff 24 0 _).2.2.2.2.2.2.2 11 (by omega), q_sc_eq] at hl; omega
        have hfin : q_fin P D N = q_lin (q_var N (q_sc M 2 - 1) (p_pa P f + i) (q_sc N 9) (q_gv N)) (q_sc M 2 - 1) (i + 1) := by
          rw [q_fin, hfr, e2, eff, efl, hf, hi]
        rw [hfin] at hl hB' hL' ⊢
        have hkd : ∀ k v, q_kd (q_lin (q_var N (q_sc M 2 - 1) (p_pa P f + i) (q_sc N 9) (q_gv N)) (q_sc M 2 - 1) (i + 1)) k v = if k = q_sc M 2 - 1 ∧ v = p_pa P f + i then q_sc N 9 else q_kd M k v := fun k v => by
          show va_up (q_kd N) _ (va_up (q_kd N _) _ _) k v = _
          rw [q_kvar, ekd]
        have hvl : ∀ k v, q_vl (q_lin (q_var N (q_sc M 2 - 1) (p_pa P f + i) (q_sc N 9) (q_gv N)) (q_sc M 2 - 1) (i + 1)) k v = if k = q_sc M 2 - 1 ∧ v = p_pa P f + i then q_gv N else q_vl M k v := fun k v => by
          show va_up (q_vl N) _ (va_up (q_vl N _) _ _) k v = _
          rw [q_vvar, evl]
        refine w_un_le hB hB' hL hL' (by omega) (fun k v hk hv h2 => ?_) (fun c hc hce => hside c hc hce) (fun c hc hce => ?_)
        · have hno : ¬ (k = q_sc M 2 - 1 ∧ v = p_pa P f + i) := by
            rintro ⟨q1, q2⟩
            have := hUU k v hk (by rw [q1, t3, t4]; omega)
            omega
          refine ⟨by show k < q_sc N 2; omega, by show v < p_vs P (q_ff N k); rw [eff]; exact hv, by rw [hkd, if_neg hno]; exact h2, by rw [hvl, if_neg hno]⟩
        · rcases hcell c hce with q | ⟨q1, q2, q3⟩
          · exact Or.inl q
          · refine Or.inr ?_
            have := (w_all_ok hL').2.1 (q_sc M 2 - 1) (p_pa P f + i) (by show _ < q_sc N 2; omega) (by show _ < p_vs P (q_ff N _); rw [eff, t3]; simp only [p_vs]; omega) (by rw [hkd, if_pos ⟨rfl, rfl⟩]; exact q1)
            have hcl : (q_gv N).toNatClampNeg = c := by rw [q2]; exact nI_clamp (by omega)
            rw [hvl, if_pos ⟨rfl, rfl⟩, hcl] at this
            exact this
      · rw [if_neg hlt] at hl
        have := q_set_11 (P := P) (D := D) 11 (q_nxt P D N) q_sc_eq
        omega
  · rw [if_pos hz] at hl hB' hL' ⊢
    refine w_un_le hB hB' hL hL' (by omega) (fun k v hk hv h2 => ?_) (fun c hc hce => ⟨rfl, rfl⟩) (fun c hc hce => Or.inl hce)
    exact ⟨by show k < q_sc (q_m2 D M) 2; rw [q_m2_sc (by omega) (by omega)]; exact hk, hv, h2, rfl⟩
end WD
