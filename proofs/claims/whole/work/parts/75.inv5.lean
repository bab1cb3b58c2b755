/-! a fun is called, a step is made: what holds stays -/
section IZ
variable {P : pP} {D : pD} {M : qM} {f i : Nat}
theorem q_kk_le {l : Nat} (h : ∀ v, q_kd M (q_sc M 2 - 1) v ≤ 2) (v : Nat) : q_kk P M l v ≤ 2 := by
  simp only [q_kk]
  split
  · exact h _
  · omega
/-- the new frame's vars -/
theorem i_new (hW : p_W P) (hI : q_I P D True M) (T : q_top P M f i) (ho : p_op P (p_fi P f + i) = 8 ∨ p_op P (p_fi P f + i) = 9) :
    (∀ v, v < p_pa P (p_ca P (p_fi P f + i)) → (q_kk P M (p_fi P f + i) v = 1 ∨ q_kk P M (p_fi P f + i) v = 2) ∧ (q_kk P M (p_fi P f + i) v = 2 → i_val D M (q_sc M 2) (d_pt D f (p_va P (p_fi P f + i) (q_ar P (p_fi P f + i) v))) (q_vv P M (p_fi P f + i) v))) ∧ (∀ v, p_pa P (p_ca P (p_fi P f + i)) ≤ v → q_kk P M (p_fi P f + i) v = 0) := by
  have hca := (hW.2.2.2.2 f i T.2.2.2.2.1 T.2.2.2.2.2.1).2.2.1 (by omega)
  have hp3 := hW.2.2.1 _ hca
  refine ⟨fun v hv => ?_, fun v hv => ?_⟩
  · have us := (p_sl_ar (P := P) (l := p_fi P f + i) (v := v) ho hv).2
    have har : q_ar P (p_fi P f + i) v < 5 := by simp only [q_ar]; split <;> omega
    obtain ⟨o1, o2⟩ := i_opd hW hI T har us
    simp only [q_kk, q_vv, if_pos hv]
    exact ⟨o1, o2⟩
  · simp only [q_kk]; rw [if_neg (by omega)]
theorem i_call1 (hW : p_W P) (hG : d_G P D) (hI : q_I P D True M) (T : q_top P M f i) (ho : p_op P (p_fi P f + i) = 8 ∨ p_op P (p_fi P f + i) = 9) (hlim : q_sc M 2 < 12) :
    q_I P D False (q_s (q_push M (q_sc M 2) (p_ca P (p_fi P f + i)) (q_kk P M (p_fi P f + i)) (q_vv P M (p_fi P f + i))) 2 (q_sc M 2 + 1)) := by
  obtain ⟨nv1, nv2⟩ := i_new hW hI T ho
  have T' := T
  obtain ⟨t1, t2, t3, t4, t5, t6, t7⟩ := T
  have hca := (hW.2.2.2.2 f i t5 t6).2.2.1 (by omega)
  have hp3 := hW.2.2.1 _ hca
  obtain ⟨e1, e2⟩ := (hG.2.2.2.2.2.2.2 f i t5 t6).2.2.2.2.2.1 (by omega)
  have hout := fun r => i_outer hW hG t5 t6 ho (r := r)
  obtain ⟨hB, hF, hC, hL, hV, hA, hU, hS, hp⟩ := hI
  generalize hg : p_ca P (p_fi P f + i) = g at *
  generalize hkk : q_kk P M (p_fi P f + i) = kk at *
  generalize hvv : q_vv P M (p_fi P f + i) = vv at *
  have hk2 : ∀ v, kk v ≤ 2 := fun v => by rw [← hkk]; exact q_kk_le t7 v
  generalize hN : q_s (q_push M (q_sc M 2) g kk vv) 2 (q_sc M 2 + 1) = N
  have n2 : q_sc N 2 = q_sc M 2 + 1 := by rw [← hN]; exact q_sc_eq
  have nsc : ∀ t, t ≠ 2 → q_sc N t = q_sc M t := fun t ht => by rw [← hN]; exact q_sc_ne ht
  have nff : ∀ k, q_ff N k = if k = q_sc M 2 then g else q_ff M k := fun k => by rw [← hN]; rfl
  have nfl : ∀ k, q_fl N k = if k = q_sc M 2 then 0 else q_fl M k := fun k => by rw [← hN]; rfl
  have nkd : ∀ k, q_kd N k = if k = q_sc M 2 then kk else q_kd M k := fun k => by rw [← hN]; rfl
  have nvl : ∀ k, q_vl N k = if k = q_sc M 2 then vv else q_vl M k := fun k => by rw [← hN]; rfl
  have nF : q_F N = q_F M := by rw [← hN]; rfl
  have nce : q_ce N = q_ce M := by rw [← hN]; rfl
  have nsk : q_sk N = q_sk M := by rw [← hN]; rfl
  have nsv : q_sv N = q_sv M := by rw [← hN]; rfl
  have hlt : ∀ k, k < q_sc M 2 → q_ff N k = q_ff M k ∧ q_fl N k = q_fl M k ∧ q_kd N k = q_kd M k ∧ q_vl N k = q_vl M k := fun k hk => by
    rw [nff, nfl, nkd, nvl, if_neg (by omega), if_neg (by omega), if_neg (by omega), if_neg (by omega)]; exact ⟨rfl, rfl, rfl, rfl⟩
  have hat : ∀ n r, n ≤ q_sc M 2 → q_at D N n r = q_at D M n r := fun n r hn => q_at_cong (fun k hk => (hlt k (by omega)).1)
  have hval : ∀ n o y, n ≤ q_sc M 2 → i_val D M n o y → i_val D N n o y := fun n o y hn ⟨r, c, g1, g2, g3, g4⟩ => ⟨r, c, g1, g2, g3, by rw [nce, hat n r hn]; exact g4⟩
  have hlev := i_lev hF
  refine ⟨?_, fun x => ?_, fun k hk r hr => ?_, fun k hk => ?_, fun k v hk hv hd => ?_, fun k v hk hv hd => ?_, fun k v hk hv => ?_, fun c x hc hx s hs => ?_, hp⟩
  · obtain ⟨a1, a2, a3, a4, a5, a6, a7, a8, a9, a10, a11, a12, a13, a14, a15, a16, a17⟩ := hB
    refine ⟨by omega, by rw [nF]; exact a2, by rw [nF]; exact a3, by rw [nF]; exact a4, fun k hk => ?_, by rw [nF, nce]; exact a6, by rw [nsc 4 (by omega), nce]; exact a7, by rw [nsc 5 (by omega)]; exact a8, by rw [nsc 6 (by omega)]; exact a9, by rw [nsc 7 (by omega)]; exact a10, by rw [nsc 8 (by omega)]; exact a11, by rw [nsc 9 (by omega)]; exact a12, by rw [nsc 0 (by omega)]; exact a13, by rw [nsc 1 (by omega)]; exact a14, by rw [nsc 11 (by omega)]; exact a15, by rw [nce, nsk]; exact a16, by rw [nF]; exact a17⟩
    by_cases hkn : k = q_sc M 2
    · rw [nff, nfl, nkd, if_pos hkn, if_pos hkn, if_pos hkn]; exact ⟨hca, by omega, hk2⟩
    · obtain ⟨l1, l2, l3, l4⟩ := hlt k (by omega)
      rw [l1, l2, l3]; exact a5 k (by omega)
  · rw [nF, hF x]
    constructor
    · rintro (h | ⟨k, hk, h1, h2, ⟨j, hj, hlr⟩, h4⟩)
      · exact Or.inl h
      · obtain ⟨l1, l2, l3, l4⟩ := hlt k hk
        refine Or.inr ⟨k, by omega, h1, ?_⟩
        simp only [i_act, l1, l2, n2]
        refine ⟨h2, ⟨j, ?_, hlr⟩, h4⟩
        rcases hj with hj | ⟨hj, -⟩
        · exact Or.inl hj
        · exact Or.inr ⟨hj, Or.inl (by omega)⟩
    · rintro (h | ⟨k, hk, h1, ha⟩)
      · exact Or.inl h
      · by_cases hkn : k = q_sc M 2
        · simp only [i_act, nff, nfl, if_pos hkn, n2] at ha
          obtain ⟨-, ⟨j, hj, -⟩, -⟩ := ha
          rcases hj with hj | ⟨-, hj | hj⟩
          · omega
          · omega
          · exact hj.elim
        · obtain ⟨l1, l2, l3, l4⟩ := hlt k (by omega)
          simp only [i_act, l1, l2, n2] at ha
          obtain ⟨h2, ⟨j, hj, hlr⟩, h4⟩ := ha
          refine Or.inr ⟨k, by omega, h1, h2, ⟨j, ?_, hlr⟩, h4⟩
          rcases hj with hj | ⟨hj, -⟩
          · exact Or.inl hj
          · exact Or.inr ⟨hj, Or.inr trivial⟩
  · by_cases hkn : k = q_sc M 2
    · rw [nff, if_pos hkn] at hr
      have := hout r hr
      rw [hkn, show q_sc M 2 = (q_sc M 2 - 1) + 1 by omega]
      show d_lr P D (q_ff N (q_sc M 2 - 1)) (q_fl N (q_sc M 2 - 1)) r
      obtain ⟨l1, l2, -⟩ := hlt (q_sc M 2 - 1) (by omega)
      rw [l1, l2, t3, t4]; exact this
    · rw [(hlt k (by omega)).1] at hr
      have := hC k (by omega) r hr
      cases k with
      | zero => exact this
      | succ k =>
        show d_lr P D (q_ff N k) (q_fl N k) r
        rw [(hlt k (by omega)).1, (hlt k (by omega)).2.1]; exact this
  · by_cases hkn : k + 1 = q_sc M 2
    · have hk1 : k = q_sc M 2 - 1 := by omega
      rw [nff (k + 1), if_pos hkn, (hlt k (by omega)).1, (hlt k (by omega)).2.1, hk1, t3, t4]
      exact e2.symm
    · rw [(hlt (k + 1) (by omega)).1, (hlt k (by omega)).1, (hlt k (by omega)).2.1]
      exact hL k (by omega)
  · by_cases hkn : k = q_sc M 2
    · rw [nkd, if_pos hkn] at hd
      rw [nff, nvl, if_pos hkn, if_pos hkn, hkn]
      have hvp : v < p_pa P g := by
        rcases Nat.lt_or_ge v (p_pa P g) with h | h
        · exact h
        · rw [nv2 v h] at hd; omega
      obtain ⟨r, c, g1, g2, g3, g4⟩ := (nv1 v hvp).2 hd
      have hpt : d_pt D g v = r + 1 := by rw [e1 v hvp]; exact g1
      have hvs : v < p_vs P g := by simp only [p_vs]; omega
      have hrc := hG.2.1 _ _ _ hca hvs hpt
      have hou : d_ou D g r = true := (hG.2.2.2.1 _ r hca).mpr ⟨v, hvs, Or.inl hvp, hrc⟩
      refine ⟨r, c, hpt, g2, g3, ?_⟩
      rw [nce, q_at_s, nff, if_pos rfl, if_neg (fun q => d_ex hG hca q hou), hat _ _ (Nat.le_refl _)]; exact g4
    · obtain ⟨l1, l2, l3, l4⟩ := hlt k (by omega)
      rw [l3] at hd
      rw [l1] at hv
      rw [l1, l4]
      exact hval _ _ _ (by omega) (hV k v (by omega) hv hd)
  · by_cases hkn : k = q_sc M 2
    · rw [nkd, if_pos hkn] at hd
      rw [nff, nfl, if_pos hkn, if_pos hkn] at hv
      rcases (nv1 v (by omega)).1 with h | h <;> omega
    · obtain ⟨l1, l2, l3, l4⟩ := hlt k (by omega)
      rw [l3] at hd
      rw [l1, l2] at hv ⊢
      exact hA k v (by omega) hv hd
  · by_cases hkn : k = q_sc M 2
    · rw [nff, nfl, if_pos hkn, if_pos hkn] at hv
      rw [nkd, if_pos hkn]
      exact nv2 v (by omega)
    · obtain ⟨l1, l2, l3, l4⟩ := hlt k (by omega)
      rw [l1, l2] at hv
      rw [l3]
      exact hU k v (by omega) hv
  · rw [nce] at hx
    rw [nsk, nsv]
    obtain ⟨s1, s2⟩ := hS c x hc hx s hs
    exact ⟨s1, fun h => hval _ _ _ (hlev x (hB.2.2.2.2.2.1 c x hc hx)) (s2 h)⟩
theorem i_call2 (hW : p_W P) (hSd : d_S D) (hG : d_G P D) (hI : q_I P D True M) (T : q_top P M f i) (ho : p_op P (p_fi P f + i) = 8 ∨ p_op P (p_fi P f + i) = 9) (hlv : q_lv P D f i = true) (h8 : q_sc M 8 ≤ 5000) :
    q_I P D False (q_s (q_s (q_s (q_push M (q_sc M 2 - 1) (p_ca P (p_fi P f + i)) (q_kk P M (p_fi P f + i)) (q_vv P M (p_fi P f + i))) 2 (q_sc M 2)) 11 1) 8 (q_sc M 8 + 1)) := by
  obtain ⟨nv1, nv2⟩ := i_new hW hI T ho
  have T' := T
  obtain ⟨t1, t2, t3, t4, t5, t6, t7⟩ := T
  have hca := (hW.2.2.2.2 f i t5 t6).2.2.1 (by omega)
  have hp3 := hW.2.2.1 _ hca
  obtain ⟨e1, e2⟩ := (hG.2.2.2.2.2.2.2 f i t5 t6).2.2.2.2.2.1 (by omega)
  have hout := fun r => i_outer hW hG t5 t6 ho (r := r)
  obtain ⟨hB, hF, hC, hL, hV, hA, hU, hS, hp⟩ := hI
  have hlast : i + 1 = p_ct P f := by
    simp only [q_lv, Bool.and_eq_true, decide_eq_true_eq] at hlv; exact hlv.1
  have hnoen : ∀ r, d_en D f i r = false := fun r => by
    simp only [q_lv, Bool.and_eq_true, List.all_eq_true] at hlv
    rcases Nat.lt_or_ge r 24 with h | h
    · have := hlv.2 r (List.mem_range.mpr h); simpa using this
    · exact hSd.1 2 f i r h
  have hno : ∀ r, d_ow D f r = true → d_lr P D f i r → False := fun r h1 h2 => by
    have := (hG.2.2.2.2.2.2.1 f i r t5 t6).mpr ⟨h1, h2, fun j hj hj2 => by omega⟩
    rw [hnoen r] at this; cases this
  have hus : ∀ v, v < p_pa P (p_ca P (p_fi P f + i)) → ∀ r, d_pt D f (p_va P (p_fi P f + i) (q_ar P (p_fi P f + i) v)) = r + 1 → d_lr P D f i r := fun v hv r hr => by
    have us := (p_sl_ar (P := P) (l := p_fi P f + i) (v := v) ho hv).2
    have har : q_ar P (p_fi P f + i) v < 5 := by simp only [q_ar]; split <;> omega
    have hvs := (hW.2.2.2.2 f i t5 t6).2.2.2 _ us
    exact Or.inr ⟨_, har, us, hG.2.1 _ _ _ t5 (by simp only [p_vs]; omega) hr⟩
  generalize hg : p_ca P (p_fi P f + i) = g at *
  generalize hkk : q_kk P M (p_fi P f + i) = kk at *
  generalize hvv : q_vv P M (p_fi P f + i) = vv at *
  have hk2 : ∀ v, kk v ≤ 2 := fun v => by rw [← hkk]; exact q_kk_le t7 v
  generalize hN : q_s (q_s (q_s (q_push M (q_sc M 2 - 1) g kk vv) 2 (q_sc M 2)) 11 1) 8 (q_sc M 8 + 1) = N
  have n2 : q_sc N 2 = q_sc M 2 := by rw [← hN]; rfl
  have n8 : q_sc N 8 = q_sc M 8 + 1 := by rw [← hN]; exact q_sc_eq
  have n11 : q_sc N 11 = 1 := by rw [← hN]; rfl
  have nsc : ∀ t, t ≠ 2 → t ≠ 8 → t ≠ 11 → q_sc N t = q_sc M t := fun t h2 h8 h11 => by rw [← hN]; exact (q_sc_ne h8).trans ((q_sc_ne h11).trans (q_sc_ne h2))
  have nff : ∀ k, q_ff N k = if k = q_sc M 2 - 1 then g else q_ff M k := fun k => by rw [← hN]; rfl
  have nfl : ∀ k, q_fl N k = if k = q_sc M 2 - 1 then 0 else q_fl M k := fun k => by rw [← hN]; rfl
  have nkd : ∀ k, q_kd N k = if k = q_sc M 2 - 1 then kk else q_kd M k := fun k => by rw [← hN]; rfl
  have nvl : ∀ k, q_vl N k = if k = q_sc M 2 - 1 then vv else q_vl M k := fun k => by rw [← hN]; rfl
  have nF : q_F N = q_F M := by rw [← hN]; rfl
  have nce : q_ce N = q_ce M := by rw [← hN]; rfl
  have nsk : q_sk N = q_sk M := by rw [← hN]; rfl
  have nsv : q_sv N = q_sv M := by rw [← hN]; rfl
  have hlt : ∀ k, k < q_sc M 2 - 1 → q_ff N k = q_ff M k ∧ q_fl N k = q_fl M k ∧ q_kd N k = q_kd M k ∧ q_vl N k = q_vl M k := fun k hk => by
    rw [nff, nfl, nkd, nvl, if_neg (by omega), if_neg (by omega), if_neg (by omega), if_neg (by omega)]; exact ⟨rfl, rfl, rfl, rfl⟩
  have hat : ∀ n r, n ≤ q_sc M 2 - 1 → q_at D N n r = q_at D M n r := fun n r hn => q_at_cong (fun k hk => (hlt k (by omega)).1)
  have hval : ∀ n o y, n ≤ q_sc M 2 - 1 → i_val D M n o y → i_val D N n o y := fun n o y hn ⟨r, c, g1, g2, g3, g4⟩ => ⟨r, c, g1, g2, g3, by rw [nce, hat n r hn]; exact g4⟩
  have hnone : ∀ x, x ∈ q_F M → x.1 ≤ q_sc M 2 - 1 := fun x hx => by
    rcases (hF x).mp hx with ⟨h, -⟩ | ⟨k, hk, h, o1, -, ⟨j, hj, hj2, hlj⟩⟩
    · omega
    · by_cases hkn : k = q_sc M 2 - 1
      · rw [hkn, t3] at o1 hlj hj2
        rw [hkn, t4] at hj
        have : j = i := by omega
        rw [this] at hlj
        exact (hno _ o1 hlj).elim
      · omega
  refine ⟨?_, fun x => ?_, fun k hk r hr => ?_, fun k hk => ?_, fun k v hk hv hd => ?_, fun k v hk hv hd => ?_, fun k v hk hv => ?_, fun c x hc hx s hs => ?_, hp⟩
  · obtain ⟨a1, a2, a3, a4, a5, a6, a7, a8, a9, a10, a11, a12, a13, a14, a15, a16, a17⟩ := hB
    refine ⟨by omega, by rw [nF]; exact a2, by rw [nF]; exact a3, by rw [nF]; exact a4, fun k hk => ?_, by rw [nF, nce]; exact a6, by rw [nsc 4 (by omega) (by omega) (by omega), nce]; exact a7, by rw [nsc 5 (by omega) (by omega) (by omega)]; exact a8, by rw [nsc 6 (by omega) (by omega) (by omega)]; exact a9, by rw [nsc 7 (by omega) (by omega) (by omega)]; exact a10, by omega, by rw [nsc 9 (by omega) (by omega) (by omega)]; exact a12, by rw [nsc 0 (by omega) (by omega) (by omega)]; exact a13, by rw [nsc 1 (by omega) (by omega) (by omega)]; exact a14, by omega, by rw [nce, nsk]; exact a16, by rw [nF]; exact a17⟩
    by_cases hkn : k = q_sc M 2 - 1
    · rw [nff, nfl, nkd, if_pos hkn, if_pos hkn, if_pos hkn]; exact ⟨hca, by omega, hk2⟩
    · obtain ⟨l1, l2, l3, l4⟩ := hlt k (by omega)
      rw [l1, l2, l3]; exact a5 k (by omega)
  · rw [nF]
    constructor
    · intro hx
      have hle := hnone x hx
      rcases (hF x).mp hx with h | ⟨k, hk, h1, h2, ⟨j, hj, hlr⟩, h4⟩
      · exact Or.inl h
      · obtain ⟨l1, l2, l3, l4⟩ := hlt k (by omega)
        refine Or.inr ⟨k, by omega, h1, ?_⟩
        simp only [i_act, l1, l2, n2]
        refine ⟨h2, ⟨j, ?_, hlr⟩, h4⟩
        rcases hj with hj | ⟨hj, -⟩
        · exact Or.inl hj
        · exact Or.inr ⟨hj, Or.inl (by omega)⟩
    · rintro (h | ⟨k, hk, h1, ha⟩)
      · exact (hF x).mpr (Or.inl h)
      · by_cases hkn : k = q_sc M 2 - 1
        · simp only [i_act, nff, nfl, if_pos hkn, n2] at ha
          obtain ⟨-, ⟨j, hj, -⟩, -⟩ := ha
          rcases hj with hj | ⟨-, hj | hj⟩
          · omega
          · omega
          · exact hj.elim
        · obtain ⟨l1, l2, l3, l4⟩ := hlt k (by omega)
          simp only [i_act, l1, l2, n2] at ha
          obtain ⟨h2, ⟨j, hj, hlr⟩, h4⟩ := ha
          refine (hF x).mpr (Or.inr ⟨k, by omega, h1, h2, ⟨j, ?_, hlr⟩, h4⟩)
          rcases hj with hj | ⟨hj, -⟩
          · exact Or.inl hj
          · exact Or.inr ⟨hj, Or.inr trivial⟩
  · have key : ∀ k, k ≤ q_sc M 2 - 1 → i_ctx P D M k r → i_ctx P D N k r := fun k hk h => by
      cases k with
      | zero => exact h
      | succ k =>
        show d_lr P D (q_ff N k) (q_fl N k) r
        rw [(hlt k (by omega)).1, (hlt k (by omega)).2.1]; exact h
    by_cases hkn : k = q_sc M 2 - 1
    · rw [nff, if_pos hkn] at hr
      have h1 := hout r hr
      rw [hkn]
      refine key _ (Nat.le_refl _) ?_
      rcases d_cases hW hG t5 t6 h1 with h2 | h2
      · exact (hno r h2 h1).elim
      · exact hC _ (by omega) r (by rw [t3]; exact h2)
    · rw [(hlt k (by omega)).1] at hr
      exact key k (by omega) (hC k (by omega) r hr)
  · by_cases hkn : k + 1 = q_sc M 2 - 1
    · rw [nff (k + 1), if_pos hkn, (hlt k (by omega)).1, (hlt k (by omega)).2.1, ← hL k (by omega), hkn, t3, ← e2]
      congr 1
      simp only [p_vs]; omega
    · rw [(hlt (k + 1) (by omega)).1, (hlt k (by omega)).1, (hlt k (by omega)).2.1]
      exact hL k (by omega)
  · by_cases hkn : k = q_sc M 2 - 1
    · rw [nkd, if_pos hkn] at hd
      rw [nff, nvl, if_pos hkn, if_pos hkn, hkn]
      have hvp : v < p_pa P g := by
        rcases Nat.lt_or_ge v (p_pa P g) with h | h
        · exact h
        · rw [nv2 v h] at hd; omega
      obtain ⟨r, c, g1, g2, g3, g4⟩ := (nv1 v hvp).2 hd
      have hpt : d_pt D g v = r + 1 := by rw [e1 v hvp]; exact g1
      have hvs : v < p_vs P g := by simp only [p_vs]; omega
      have hrc := hG.2.1 _ _ _ hca hvs hpt
      have hou : d_ou D g r = true := (hG.2.2.2.1 _ r hca).mpr ⟨v, hvs, Or.inl hvp, hrc⟩
      refine ⟨r, c, hpt, g2, g3, ?_⟩
      rw [nce, q_at_s, nff, if_pos rfl, if_neg (fun q => d_ex hG hca q hou), hat _ _ (Nat.le_refl _)]
      have h1 := hus v hvp r g1
      rw [g4, show q_sc M 2 = (q_sc M 2 - 1) + 1 by omega, q_at_s, t3, if_neg (fun q => hno r q h1)]; rfl
    · obtain ⟨l1, l2, l3, l4⟩ := hlt k (by omega)
      rw [l3] at hd
      rw [l1] at hv
      rw [l1, l4]
      exact hval _ _ _ (by omega) (hV k v (by omega) hv hd)
  · by_cases hkn : k = q_sc M 2 - 1
    · rw [nkd, if_pos hkn] at hd
      rw [nff, nfl, if_pos hkn, if_pos hkn] at hv
      rcases (nv1 v (by omega)).1 with h | h <;> omega
    · obtain ⟨l1, l2, l3, l4⟩ := hlt k (by omega)
      rw [l3] at hd
      rw [l1, l2] at hv ⊢
      exact hA k v (by omega) hv hd
  · by_cases hkn : k = q_sc M 2 - 1
    · rw [nff, nfl, if_pos hkn, if_pos hkn] at hv
      rw [nkd, if_pos hkn]
      exact nv2 v (by omega)
    · obtain ⟨l1, l2, l3, l4⟩ := hlt k (by omega)
      rw [l1, l2] at hv
      rw [l3]
      exact hU k v (by omega) hv
  · rw [nce] at hx
    rw [nsk, nsv]
    obtain ⟨s1, s2⟩ := hS c x hc hx s hs
    exact ⟨s1, fun h => hval _ _ _ (hnone x (hB.2.2.2.2.2.1 c x hc hx)) (s2 h)⟩
/-! the machine between two steps -/
def q_Z (P : pP) (D : pD) (M : qM) : Prop := q_sc M 0 = 1 ∧ q_I P D False M ∧ 1 ≤ q_sc M 2 ∧ q_sc M 6 ≤ 5000 ∧ q_sc M 7 ≤ q_sc M 6 ∧ q_sc M 8 ≤ q_sc M 6
def q_Q (P : pP) (D : pD) (M : qM) : Prop := q_Z P D M ∨ (q_sc M 0 ≠ 1 ∧ q_B P M ∧ q_L P M)
theorem q_I.s6 {w : Prop} {v : Nat} (h : q_I P D w M) (hv : v ≤ 5001) : q_I P D w (q_s M 6 v) := by
  obtain ⟨hB, hF, hC, hL, hV, hA, hU, hS, hp⟩ := h
  exact ⟨hB.s (by omega) (by omega) (by omega) (by omega) (by omega) (by omega) (by omega) (by omega), hF, hC, hL, hV, hA, hU, hS, hp⟩
theorem q_work_sc {t : Nat} (h4 : t ≠ 4) (h5 : t ≠ 5) (h7 : t ≠ 7) (h9 : t ≠ 9) : q_sc (q_work P D M f i) t = q_sc M t := by
  have hg : ∀ (N : qM) (x : Nat) (y : Int32), q_sc (q_gi N x y) t = q_sc N t := fun N x y => by rw [q_sc_gi, if_neg h9]
  simp only [q_work]
  split
  case h_3 =>
    rw [hg]
    show (if t = 4 then _ else if t = 7 then _ else if t = 5 then _ else q_sc M t) = _
    rw [if_neg h4, if_neg h7, if_neg h5]
  all_goals exact hg _ _ _
theorem q_work_7 : q_sc (q_work P D M f i) 7 ≤ q_sc M 7 + 1 := by
  have hg : ∀ (N : qM) (x : Nat) (y : Int32), q_sc (q_gi N x y) 7 = q_sc N 7 := fun N x y => rfl
  simp only [q_work]
  split
  case h_3 => rw [hg]; exact Nat.le_refl _
  all_goals rw [hg]; exact Nat.le_succ _
theorem i_step (hW : p_W P) (hSd : d_S D) (hG : d_G P D) (h : q_Z P D M) : q_sp P D M ∧ q_sp2 P M ∧ q_Q P D (q_step P D M) ∧ q_sc (q_step P D M) 6 = q_sc M 6 + 1 := by
  obtain ⟨h0, hI, hn, h6, h7, h8⟩ := h
  have hI1 := i_m1 hW hSd hG hI hn
  have hI2 : q_I P D True (q_m2 D M) := hI1.s6 (by omega)
  have hB := hI.1
  have T := hB.top hn
  generalize hf : q_ff M (q_sc M 2 - 1) = f at *
  generalize hi : q_fl M (q_sc M 2 - 1) = i at *
  have T0 := T
  obtain ⟨t1, t2, t3, t4, t5, t6, t7⟩ := T
  have T1 : q_top P (q_m1 D M) f i := by
    have : q_sc (q_m1 D M) 2 = q_sc M 2 := q_m1_sc (by omega)
    simp only [q_top, this]
    exact ⟨t1, t2, t3, t4, t5, t6, t7⟩
  have e22 : q_sc (q_m2 D M) 2 = q_sc M 2 := q_m2_sc (by omega) (by omega)
  have T2 : q_top P (q_m2 D M) f i := by
    simp only [q_top, e22]
    exact ⟨t1, t2, t3, t4, t5, t6, t7⟩
  have e20 : q_sc (q_m2 D M) 0 = 1 := by rw [q_m2_sc (by omega) (by omega)]; exact h0
  have e27 : q_sc (q_m2 D M) 7 = q_sc M 7 := q_m2_sc (by omega) (by omega)
  have e28 : q_sc (q_m2 D M) 8 = q_sc M 8 := q_m2_sc (by omega) (by omega)
  have e26 : q_sc (q_m2 D M) 6 = q_sc M 6 + 1 := q_sc_eq
  have eK : ∀ l, q_K P (q_m2 D M) l 0 = q_K P (q_m1 D M) l 0 := fun l => by simp only [q_K]; rw [e22, q_m1_sc (by omega)]; rfl
  have hlim5 : q_stop P D (q_m1 D M) f i = 0 → q_sc M 6 < 5000 := fun hz => by
    have e6 : q_sc (q_m1 D M) 6 = q_sc M 6 := q_m1_sc (by omega)
    simp only [q_stop] at hz
    split at hz
    · omega
    split at hz
    · omega
    split at hz
    · omega
    split at hz
    · omega
    split at hz <;> omega
  have hgo : q_stop P D (q_m1 D M) f i = 0 → q_cl P (q_m2 D M) (p_fi P f + i) = false → q_wk P D (q_m2 D M) f i ∧ q_J P D (q_work P D (q_m2 D M) f i) := fun hz hc => by
    obtain ⟨z1, z2⟩ := q_stop_0 hz
    exact i_work hW hG hI2 T2 (fun h => by rw [eK]; exact z1 h) (fun h => by have := z2 h; rw [q_m1_sc (by omega)] at this; rw [q_m2_sc (by omega) (by omega)]; exact this) hc (by omega)
  have hwk0 : ∀ t, t ≠ 4 → t ≠ 5 → t ≠ 7 → t ≠ 9 → q_sc (q_work P D (q_m2 D M) f i) t = q_sc (q_m2 D M) t := fun t a b c d => q_work_sc a b c d
  have hset : q_stop P D (q_m1 D M) f i = 0 → q_cl P (q_m2 D M) (p_fi P f + i) = false → _ := fun hz hc => i_set hW hSd hG 12 _ (hgo hz hc).2 (by rw [q_work_2, e22]; exact t2) (by rw [hwk0 0 (by omega) (by omega) (by omega) (by omega)]; exact e20)
  refine ⟨⟨h0, hn, h6, hB, hI1.1, ?_⟩, ?_, ?_, ?_⟩
  · rw [hf, hi]
    intro hz hc
    exact ⟨(hgo hz hc).1, (hset hz hc).1⟩
  · intro ho
    rw [hf, hi] at ho ⊢
    have := (i_opd hW hI2 T2 (show 0 < 5 by omega) (p_us_0 (by omega))).1
    have e : q_K P (q_m2 D M) (p_fi P f + i) 0 = q_K P M (p_fi P f + i) 0 := by simp only [q_K]; rw [e22]; rfl
    rw [e] at this; omega
  · rw [q_step, hf, hi]
    by_cases hz : q_stop P D (q_m1 D M) f i = 0
    · have h5 := hlim5 hz
      rw [if_neg (by rw [hz]; exact fun h => h rfl)]
      by_cases hc : q_cl P (q_m2 D M) (p_fi P f + i) = true
      · rw [if_pos hc]
        have ho := q_cl_op hc
        refine Or.inl ?_
        rw [q_call]
        by_cases hlv : q_lv P D f i = true
        · rw [if_pos hlv]
          exact ⟨e20, i_call2 hW hSd hG hI2 T2 ho hlv (by omega), by show 1 ≤ q_sc (q_m2 D M) 2; omega, by show q_sc (q_m2 D M) 6 ≤ 5000; omega, by show q_sc (q_m2 D M) 7 ≤ q_sc (q_m2 D M) 6; omega, by show q_sc (q_m2 D M) 8 + 1 ≤ q_sc (q_m2 D M) 6; omega⟩
        · rw [if_neg hlv]
          have hl12 : q_sc (q_m2 D M) 2 < 12 := by
            rw [e22, ← q_m1_sc (D := D) (M := M) (j := 2) (by omega)]
            exact q_stop_lim hz (q_m12 ▸ hc) (Bool.eq_false_iff.mpr hlv)
          exact ⟨e20, i_call1 hW hG hI2 T2 ho hl12, by show 1 ≤ q_sc (q_m2 D M) 2 + 1; omega, by show q_sc (q_m2 D M) 6 ≤ 5000; omega, by show q_sc (q_m2 D M) 7 ≤ q_sc (q_m2 D M) 6; omega, by show q_sc (q_m2 D M) 8 ≤ q_sc (q_m2 D M) 6; omega⟩
      · rw [if_neg hc]
        have hc' : q_cl P (q_m2 D M) (p_fi P f + i) = false := Bool.eq_false_iff.mpr hc
        have w6 := hwk0 6 (by omega) (by omega) (by omega) (by omega)
        have w8 := hwk0 8 (by omega) (by omega) (by omega) (by omega)
        have w7 := q_work_7 (P := P) (D := D) (M := q_m2 D M) (f := f) (i := i)
        rcases (hset hz hc').2 with ⟨s1, s2, s3⟩ | ⟨s1, s2, s3⟩
        · refine Or.inl ⟨s1, s2, s3, ?_, ?_, ?_⟩
          · rw [q_set_sc (by omega) (by omega) (by omega) (by omega)]; omega
          · rw [q_set_sc (by omega) (by omega) (by omega) (by omega), q_set_sc (by omega) (by omega) (by omega) (by omega)]; omega
          · rw [q_set_sc (by omega) (by omega) (by omega) (by omega), q_set_sc (by omega) (by omega) (by omega) (by omega)]; omega
        · exact Or.inr ⟨by omega, s2, s3⟩
    · rw [if_pos hz]
      have hlt := q_stop_lt (P := P) (D := D) (M := q_m1 D M) (f := f) (i := i)
      obtain ⟨l1, l2, l3⟩ := hI2.live (by omega)
      refine Or.inr ⟨by show 3 ≠ 1; omega, (hI2.1.s (j := 0) (v := 3) (by omega) (by omega) (by omega) (by omega) (by omega) (by omega) (by omega) (by omega)).s (by omega) (by omega) (by omega) (by omega) (by omega) (by omega) (by omega) (by omega), l1, l2, fun h => ?_⟩
      have h : 3 = 2 := h
      omega
  · rw [q_step, hf, hi]
    by_cases hz : q_stop P D (q_m1 D M) f i = 0
    · rw [if_neg (by rw [hz]; exact fun h => h rfl)]
      by_cases hc : q_cl P (q_m2 D M) (p_fi P f + i) = true
      · rw [if_pos hc, q_call]
        by_cases hlv : q_lv P D f i = true
        · rw [if_pos hlv]; exact e26
        · rw [if_neg hlv]; exact e26
      · rw [if_neg hc, q_set_sc (by omega) (by omega) (by omega) (by omega), hwk0 6 (by omega) (by omega) (by omega) (by omega)]; exact e26
    · rw [if_pos hz]; exact e26
end IZ
