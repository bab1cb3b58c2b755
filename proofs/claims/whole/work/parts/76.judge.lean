/-! the judge beside the machine: the cells to which one comes, in their order -/
def w_cm (L : List Nat) (x : Nat) (y : Int32) : List Nat := if x = 2 ∧ y.toNatClampNeg ∉ L then L ++ [y.toNatClampNeg] else L
def w_ok (M : qM) (L : List Nat) : Prop := L.Nodup ∧ ∀ c, c ∈ L → c < 200 ∧ q_ce M c ≠ none
def w_fv (M : qM) (k : Nat) : Nat → Nat → List Nat → List Nat
  | 0, _, L => L
  | d + 1, v, L => w_fv M k d (v + 1) (w_cm L (q_kd M k v) (q_vl M k v))
def w_fr (P : pP) (M : qM) : Nat → Nat → List Nat → List Nat
  | 0, _, L => L
  | d + 1, k, L => w_fr P M d (k + 1) (w_fv M k (p_vs P (q_ff M k)) 0 L)
def w_sd (M : qM) (L : List Nat) (c : Nat) : List Nat := w_cm (w_cm L (q_sk M c 0) (q_sv M c 0)) (q_sk M c 1) (q_sv M c 1)
def w_cl (M : qM) : Nat → Nat → List Nat → List Nat
  | 0, _, L => L
  | n + 1, i, L => if i < L.length then w_cl M n (i + 1) (w_sd M L (L.getD i 0)) else L
def w_rt (P : pP) (M : qM) : List Nat := w_cm (w_fr P M (q_sc M 2) 0 []) (if q_sc M 0 = 2 then q_sc M 9 else 0) (q_gv M)
def w_all (P : pP) (M : qM) : List Nat := w_cl M 201 0 (w_rt P M)
def w_R (S : m_M) (o j s f : Nat) (L : List Nat) : Prop := m_ri S o j = nI L.length ∧ (∀ c, c < 200 → m_ri S s c = nI (if c ∈ L then 1 else 0)) ∧ ∀ i c, L[i]? = some c → m_ri S f i = nI c
section WA
variable {P : pP} {D : pD} {M : qM} {L : List Nat}
theorem w_ct : ∀ {L : List Nat}, L.Nodup → (∀ c, c ∈ L → c < 200) → L.length = fb_ct (fun c => decide (c ∈ L)) 200
  | [], _, _ => (fb_ct_zero.mpr (fun k _ => decide_eq_false (by intro h; cases h))).symm
  | c :: L, hn, h => by
    obtain ⟨h1, h2⟩ := List.nodup_cons.mp hn
    have ih := w_ct h2 (fun d hd => h d (List.mem_cons_of_mem _ hd))
    have hu := fb_ct_upd (fun d => decide (d ∈ L)) true (i := c) (n := 200) (h c (List.mem_cons_self ..))
    have e : (fun k => if k = c then true else decide (k ∈ L)) = fun k => decide (k ∈ c :: L) := by
      funext k
      by_cases hk : k = c
      · rw [if_pos hk]; exact (decide_eq_true (by rw [hk]; exact List.mem_cons_self ..)).symm
      · rw [if_neg hk]
        by_cases hm : k ∈ L
        · rw [decide_eq_true hm]; exact (decide_eq_true (List.mem_cons_of_mem _ hm)).symm
        · rw [decide_eq_false hm]; exact (decide_eq_false (by rw [List.mem_cons]; rintro (q | q); exact hk q; exact hm q)).symm
    rw [e] at hu
    simp only [h1, decide_false, Bool.false_eq_true, if_false, if_true] at hu
    rw [List.length_cons]; omega
theorem w_ok.len (h : w_ok M L) : L.length ≤ 200 := by
  rw [w_ct h.1 (fun c hc => (h.2 c hc).1)]; exact fb_ct_le _ _
theorem w_ok.lt {c : Nat} (h : w_ok M L) (hc : c < 200) (hn : c ∉ L) (hce : q_ce M c ≠ none) : L.length < 200 := by
  have h2 : w_ok M (c :: L) := ⟨List.nodup_cons.mpr ⟨hn, h.1⟩, fun d hd => by
    rcases List.mem_cons.mp hd with q | q
    · rw [q]; exact ⟨hc, hce⟩
    · exact h.2 d q⟩
  have := h2.len
  rw [List.length_cons] at this; omega
theorem w_cm_ok {x : Nat} {y : Int32} (h : w_ok M L) (hl : x = 2 → i_live M y) : w_ok M (w_cm L x y) ∧ (x = 2 → y.toNatClampNeg ∈ w_cm L x y) ∧ ∃ Y, w_cm L x y = L ++ Y := by
  simp only [w_cm]
  by_cases hx : x = 2
  · obtain ⟨c, hc, hy, hce⟩ := hl hx
    have hcc : y.toNatClampNeg = c := by rw [hy]; exact nI_clamp (by omega)
    rw [hcc]
    by_cases hm : c ∈ L
    · rw [if_neg (fun q => q.2 hm)]; exact ⟨h, fun _ => hm, [], (List.append_nil _).symm⟩
    · rw [if_pos ⟨hx, hm⟩]
      refine ⟨⟨?_, fun d hd => ?_⟩, fun _ => List.mem_append_right _ (List.mem_singleton.mpr rfl), _, rfl⟩
      · rw [List.nodup_append]
        refine ⟨h.1, List.nodup_cons.mpr ⟨fun q => (by cases q), List.nodup_nil⟩, fun a ha b hb hab => ?_⟩
        rw [List.mem_singleton.mp hb] at hab
        exact hm (hab ▸ ha)
      · rcases List.mem_append.mp hd with q | q
        · exact h.2 d q
        · rw [List.mem_singleton.mp q]; exact ⟨hc, hce⟩
  · rw [if_neg (fun q => hx q.1)]; exact ⟨h, fun q => absurd q hx, [], (List.append_nil _).symm⟩
theorem w_cm_in {X : Nat → Prop} {x : Nat} {y : Int32} (h : ∀ c, c ∈ L → X c) (hy : x = 2 → X y.toNatClampNeg) : ∀ c, c ∈ w_cm L x y → X c := by
  intro c hc
  simp only [w_cm] at hc
  by_cases hh : x = 2 ∧ y.toNatClampNeg ∉ L
  · rw [if_pos hh] at hc
    rcases List.mem_append.mp hc with q | q
    · exact h c q
    · rw [List.mem_singleton.mp q]; exact hy hh.1
  · rw [if_neg hh] at hc; exact h c hc
/-- vars of a frame -/
theorem w_fv_ok {k : Nat} : ∀ (d v : Nat) (L : List Nat), w_ok M L → (∀ w, v ≤ w → w < v + d → q_kd M k w = 2 → i_live M (q_vl M k w)) →
    w_ok M (w_fv M k d v L) ∧ (∃ Y, w_fv M k d v L = L ++ Y) ∧ (∀ w, v ≤ w → w < v + d → q_kd M k w = 2 → (q_vl M k w).toNatClampNeg ∈ w_fv M k d v L) ∧
    ∀ X : Nat → Prop, (∀ c, c ∈ L → X c) → (∀ w, v ≤ w → w < v + d → q_kd M k w = 2 → X (q_vl M k w).toNatClampNeg) → ∀ c, c ∈ w_fv M k d v L → X c := by
  intro d
  induction d with
  | zero => intro v L h _; exact ⟨h, ⟨[], (List.append_nil _).symm⟩, fun w h1 h2 => by omega, fun X hX _ => hX⟩
  | succ d ih =>
    intro v L h hl
    obtain ⟨c1, c2, Y1, c3⟩ := w_cm_ok h (hl v (Nat.le_refl _) (by omega))
    obtain ⟨i1, ⟨Y2, i2⟩, i3, i4⟩ := ih (v + 1) _ c1 (fun w h1 h2 => hl w (by omega) (by omega))
    refine ⟨i1, ⟨Y1 ++ Y2, ?_⟩, fun w h1 h2 h3 => ?_, fun X hX hw c hc => ?_⟩
    · show w_fv M k d (v + 1) _ = _
      rw [i2, c3, List.append_assoc]
    · by_cases hv : w = v
      · show _ ∈ w_fv M k d (v + 1) _
        rw [i2]
        exact List.mem_append_left _ (hv ▸ c2 (hv ▸ h3))
      · exact i3 w (by omega) (by omega) h3
    · exact i4 X (w_cm_in hX (fun q => hw v (Nat.le_refl _) (by omega) q)) (fun w h1 h2 h3 => hw w (by omega) (by omega) h3) c hc
theorem w_fr_ok : ∀ (d k : Nat) (L : List Nat), w_ok M L → (∀ k', k ≤ k' → k' < k + d → ∀ w, w < p_vs P (q_ff M k') → q_kd M k' w = 2 → i_live M (q_vl M k' w)) →
    w_ok M (w_fr P M d k L) ∧ (∃ Y, w_fr P M d k L = L ++ Y) ∧ (∀ k', k ≤ k' → k' < k + d → ∀ w, w < p_vs P (q_ff M k') → q_kd M k' w = 2 → (q_vl M k' w).toNatClampNeg ∈ w_fr P M d k L) ∧
    ∀ X : Nat → Prop, (∀ c, c ∈ L → X c) → (∀ k', k ≤ k' → k' < k + d → ∀ w, w < p_vs P (q_ff M k') → q_kd M k' w = 2 → X (q_vl M k' w).toNatClampNeg) → ∀ c, c ∈ w_fr P M d k L → X c := by
  intro d
  induction d with
  | zero => intro k L h _; exact ⟨h, ⟨[], (List.append_nil _).symm⟩, fun w h1 h2 => by omega, fun X hX _ => hX⟩
  | succ d ih =>
    intro k L h hl
    obtain ⟨c1, ⟨Y1, c2⟩, c3, c4⟩ := w_fv_ok (M := M) (k := k) (p_vs P (q_ff M k)) 0 L h (fun w _ h2 => hl k (Nat.le_refl _) (by omega) w (by omega))
    obtain ⟨i1, ⟨Y2, i2⟩, i3, i4⟩ := ih (k + 1) _ c1 (fun k' h1 h2 => hl k' (by omega) (by omega))
    refine ⟨i1, ⟨Y1 ++ Y2, ?_⟩, fun k' h1 h2 w hw h3 => ?_, fun X hX hw c hc => ?_⟩
    · show w_fr P M d (k + 1) _ = _
      rw [i2, c2, List.append_assoc]
    · by_cases hk : k' = k
      · subst hk
        show _ ∈ w_fr P M d (k' + 1) _
        rw [i2]
        exact List.mem_append_left _ (c3 w (by omega) (by omega) h3)
      · exact i3 k' (by omega) (by omega) w hw h3
    · exact i4 X (c4 X hX (fun w _ h2 h3 => hw k (Nat.le_refl _) (by omega) w (by omega) h3)) (fun k' h1 h2 w hw' h3 => hw k' (by omega) (by omega) w hw' h3) c hc
def w_live (M : qM) : Prop := ∀ c, c < 200 → q_ce M c ≠ none → ∀ s, s < 2 → (q_sk M c s = 1 ∨ q_sk M c s = 2) ∧ (q_sk M c s = 2 → i_live M (q_sv M c s))
def w_cd (M : qM) (L : List Nat) (c : Nat) : Prop := ∀ s, s < 2 → q_sk M c s = 2 → (q_sv M c s).toNatClampNeg ∈ L
theorem w_sd_ok {c : Nat} (hS : w_live M) (h : w_ok M L) (hc : c < 200) (hce : q_ce M c ≠ none) : w_ok M (w_sd M L c) ∧ (∃ Y, w_sd M L c = L ++ Y) ∧ w_cd M (w_sd M L c) c ∧ ∀ X : Nat → Prop, (∀ d, d ∈ L → X d) → (∀ s, s < 2 → q_sk M c s = 2 → X (q_sv M c s).toNatClampNeg) → ∀ d, d ∈ w_sd M L c → X d := by
  obtain ⟨c1, c2, Y1, c3⟩ := w_cm_ok h ((hS c hc hce 0 (by omega)).2)
  obtain ⟨d1, d2, Y2, d3⟩ := w_cm_ok c1 ((hS c hc hce 1 (by omega)).2)
  refine ⟨d1, ⟨Y1 ++ Y2, by rw [w_sd, d3, c3, List.append_assoc]⟩, fun s hs h2 => ?_, fun X hX hs => w_cm_in (w_cm_in hX (hs 0 (by omega))) (hs 1 (by omega))⟩
  rcases (by omega : s = 0 ∨ s = 1) with q | q
  · subst q; rw [w_sd, d3]; exact List.mem_append_left _ (c2 h2)
  · subst q; exact d2 h2
theorem w_get {i : Nat} (h : i < L.length) : L[i]? = some (L.getD i 0) ∧ L.getD i 0 ∈ L := by
  have e : L.getD i 0 = L[i] := by rw [List.getD_eq_getElem?_getD, List.getElem?_eq_getElem h]; rfl
  rw [e]; exact ⟨List.getElem?_eq_getElem h, List.getElem_mem h⟩
theorem w_cl_ok (hS : w_live M) : ∀ (n i : Nat) (L : List Nat), 200 < n + i → w_ok M L → (∀ t c, t < i → L[t]? = some c → w_cd M L c) →
    w_ok M (w_cl M n i L) ∧ (∃ Y, w_cl M n i L = L ++ Y) ∧ (∀ c, c ∈ w_cl M n i L → w_cd M (w_cl M n i L) c) ∧
    ∀ X : Nat → Prop, (∀ c, c ∈ L → X c) → (∀ c, c < 200 → q_ce M c ≠ none → X c → ∀ s, s < 2 → q_sk M c s = 2 → X (q_sv M c s).toNatClampNeg) → ∀ c, c ∈ w_cl M n i L → X c := by
  have hend : ∀ (i : Nat) (L : List Nat), L.length ≤ i → (∀ t c, t < i → L[t]? = some c → w_cd M L c) → ∀ c, c ∈ L → w_cd M L c := fun i L hi h c hc => by
    obtain ⟨t, ht⟩ := List.mem_iff_getElem?.mp hc
    exact h t c (by have := (List.getElem?_eq_some_iff.mp ht).1; omega) ht
  intro n
  induction n with
  | zero =>
    intro i L hn h hp
    exact ⟨h, ⟨[], (List.append_nil _).symm⟩, hend i L (by have := h.len; omega) hp, fun X hX _ => hX⟩
  | succ n ih =>
    intro i L hn h hp
    rw [w_cl]
    by_cases hi : i < L.length
    · rw [if_pos hi]
      obtain ⟨g1, g2⟩ := w_get hi
      obtain ⟨l1, l2⟩ := h.2 _ g2
      obtain ⟨s1, ⟨Y1, s2⟩, s3, s4⟩ := w_sd_ok hS h l1 l2
      obtain ⟨i1, ⟨Y2, i2⟩, i3, i4⟩ := ih (i + 1) _ (by omega) s1 (fun t c ht hc => by
        by_cases htl : t < L.length
        · rw [s2, List.getElem?_append_left htl] at hc
          by_cases hti : t = i
          · rw [hti, g1] at hc; rw [← Option.some.inj hc]; exact s3
          · intro s hs h2
            rw [s2]; exact List.mem_append_left _ (hp t c (by omega) hc s hs h2)
        · omega)
      refine ⟨i1, ⟨Y1 ++ Y2, by rw [i2, s2, List.append_assoc]⟩, i3, fun X hX hc => i4 X (s4 X hX (hc _ l1 l2 (hX _ g2))) hc⟩
    · rw [if_neg hi]
      exact ⟨h, ⟨[], (List.append_nil _).symm⟩, hend i L (by omega) hp, fun X hX _ => hX⟩
/-- what it finds is what can be reached, and no more -/
theorem w_all_ok (hL : q_L P M) : w_ok M (w_all P M) ∧ (∀ k v, k < q_sc M 2 → v < p_vs P (q_ff M k) → q_kd M k v = 2 → (q_vl M k v).toNatClampNeg ∈ w_all P M) ∧ (q_sc M 0 = 2 → q_sc M 9 = 2 → (q_gv M).toNatClampNeg ∈ w_all P M) ∧ (∀ c, c ∈ w_all P M → w_cd M (w_all P M) c) ∧
    ∀ X : Nat → Prop, (∀ k v, k < q_sc M 2 → v < p_vs P (q_ff M k) → q_kd M k v = 2 → X (q_vl M k v).toNatClampNeg) → (q_sc M 0 = 2 → q_sc M 9 = 2 → X (q_gv M).toNatClampNeg) → (∀ c, c < 200 → q_ce M c ≠ none → X c → ∀ s, s < 2 → q_sk M c s = 2 → X (q_sv M c s).toNatClampNeg) → ∀ c, c ∈ w_all P M → X c := by
  obtain ⟨l1, l2, l3⟩ := hL
  have h0 : w_ok M [] := ⟨List.nodup_nil, fun c h => by cases h⟩
  obtain ⟨f1, -, f3, f4⟩ := w_fr_ok (P := P) (q_sc M 2) 0 [] h0 (fun k _ hk w hw => l1 k w (by omega) hw)
  have hg : (if q_sc M 0 = 2 then q_sc M 9 else 0) = 2 → q_sc M 0 = 2 ∧ q_sc M 9 = 2 := fun h => by
    split at h
    · exact ⟨by assumption, h⟩
    · omega
  obtain ⟨r1, r2, Y, r3⟩ := w_cm_ok (x := if q_sc M 0 = 2 then q_sc M 9 else 0) (y := q_gv M) f1 (fun h => (l3 (hg h).1).2.2 (hg h).2)
  obtain ⟨c1, ⟨Y2, c2⟩, c3, c4⟩ := w_cl_ok l2 201 0 (w_rt P M) (by omega) r1 (fun t c ht => by omega)
  refine ⟨c1, fun k v hk hv h2 => ?_, fun h0 h9 => ?_, c3, fun X hX hXg hXc => c4 X (w_cm_in (f4 X (fun c h => by cases h) (fun k _ hk w hw h2 => hX k w (by omega) hw h2)) (fun h => hXg (hg h).1 (hg h).2)) hXc⟩
  · rw [w_all, c2]
    refine List.mem_append_left _ ?_
    rw [w_rt, r3]
    exact List.mem_append_left _ (f3 k (by omega) (by omega) v hv h2)
  · rw [w_all, c2]
    exact List.mem_append_left _ (r2 (by rw [if_pos h0]; exact h9))
end WA
/-! the one side's judge -/
section WB
variable {S : m_M} {a b p : Nat} {P : pP} {D : pD} {M : qM} {L : List Nat}
theorem e_nz0 : vp_nar .boolean (nI 0) = nI 0 := by decide +kernel
theorem e_nz1 : vp_nar .boolean (nI 1) = nI 1 := by decide +kernel
theorem w_R.put {S : m_M} {o j s f c : Nat} (h : w_R S o j s f L) (hs : o ≠ s ∧ o ≠ f ∧ s ≠ f) (hc : c ∉ L) : w_R (m_si (m_si (m_si S s c (nI 1)) f L.length (nI c)) o j (nI (L.length + 1))) o j s f (L ++ [c]) := by
  obtain ⟨h1, h2, h3⟩ := h
  refine ⟨by rw [e_rs, List.length_append]; rfl, fun d hd => ?_, fun i d hi => ?_⟩
  · rw [e_rq (by omega), e_rq (by omega), e_rif]
    by_cases hdc : d = c
    · rw [if_pos hdc, if_pos (by rw [hdc]; exact List.mem_append_right _ (List.mem_singleton.mpr rfl))]
    · rw [if_neg hdc, h2 d hd]
      congr 1
      by_cases hm : d ∈ L
      · rw [if_pos hm, if_pos (List.mem_append_left _ hm)]
      · rw [if_neg hm, if_neg (by rw [List.mem_append, List.mem_singleton]; rintro (q | q); exact hm q; exact hdc q)]
  · rw [e_rq (by omega), e_rif]
    by_cases hil : i = L.length
    · rw [if_pos hil]
      rw [hil, List.getElem?_append_right (Nat.le_refl _)] at hi
      simp at hi
      rw [hi]
    · rw [if_neg hil, e_rq (by omega)]
      have hl : i < (L ++ [c]).length := (List.getElem?_eq_some_iff.mp hi).1
      rw [List.length_append] at hl
      simp at hl
      rw [List.getElem?_append_left (by omega)] at hi
      exact h3 i d hi
theorem k_come {x : Nat} {y : Int32} (hM : q_R S a M) (hB : q_B P M) (hL : w_R S b 2 (b + 1) (b + 2) L) (hk : w_ok M L) (hx : x ≤ 2) (hl : x = 2 → i_live M y) : ∃ S', f_X1_come b a S (nI x) y = some S' ∧ w_R S' b 2 (b + 1) (b + 2) (w_cm L x y) ∧ e_O b (b + 3) S S' := by
  by_cases h2 : x = 2
  · obtain ⟨c, hc, hy, hce⟩ := hl h2
    subst hy
    have hcc : (nI c).toNatClampNeg = c := nI_clamp (by omega)
    have hcell := k_hasCell hM hB.2.1 hB.2.2.2.2.2.1 hc
    rw [if_neg hce] at hcell
    have hs := hL.2.1 c hc
    simp only [w_cm, hcc]
    by_cases hm : c ∈ L
    · rw [if_pos hm] at hs
      refine ⟨S, ?_, by rw [if_neg (fun q => q.2 hm)]; exact hL, e_O.rf⟩
      simp (disch := omega) only [e_let, e_call, e_cal0, e_bind, e_lit, e_ofN, e_neg, nI_add, pk_mul, e_sub, e_ldi, e_sti, e_ldj, e_stj, e_le_t, e_le_f, e_lt_t, e_lt_f, e_eq_t, e_eq_f, e_no_eq, e_no_eq', e_no_rfl, e_no_lt, e_no_le, e_le_no, e_lt_no, if_true, if_false, ↓reduceIte, e_rs, e_rq, e_rn, e_ji, e_ki, e_ij, e_kj, e_js, e_jq, e_jn, e_cs, e_cq, e_jc, e_kc, e_js', e_jcq, e_icj, e_kcj, or_true, true_or, or_false, false_or, and_true, true_and, not_true_eq_false, not_false_eq_true, f_X1_come, h2, hcell, hs, b_X1_come_49]
    · rw [if_neg hm] at hs
      have hlen := hk.lt hc hm hce
      have hz := hL.1
      refine ⟨_, ?_, by rw [if_pos ⟨h2, hm⟩]; exact hL.put (by omega) hm, ((e_O.rf.si (by omega) (by omega)).si (by omega) (by omega)).si (by omega) (by omega)⟩
      simp (disch := omega) only [e_let, e_call, e_cal0, e_bind, e_lit, e_ofN, e_neg, nI_add, pk_mul, e_sub, e_ldi, e_sti, e_ldj, e_stj, e_le_t, e_le_f, e_lt_t, e_lt_f, e_eq_t, e_eq_f, e_no_eq, e_no_eq', e_no_rfl, e_no_lt, e_no_le, e_le_no, e_lt_no, if_true, if_false, ↓reduceIte, e_rs, e_rq, e_rn, e_ji, e_ki, e_ij, e_kj, e_js, e_jq, e_jn, e_cs, e_cq, e_jc, e_kc, e_js', e_jcq, e_icj, e_kcj, or_true, true_or, or_false, false_or, and_true, true_and, not_true_eq_false, not_false_eq_true, f_X1_come, h2, hcell, hs, b_X1_come_49, e_nz1, hz]
  · refine ⟨S, ?_, by rw [w_cm, if_neg (fun q => h2 q.1)]; exact hL, e_O.rf⟩
    simp (disch := omega) only [e_let, e_call, e_cal0, e_bind, e_lit, e_ofN, e_neg, nI_add, pk_mul, e_sub, e_ldi, e_sti, e_ldj, e_stj, e_le_t, e_le_f, e_lt_t, e_lt_f, e_eq_t, e_eq_f, e_no_eq, e_no_eq', e_no_rfl, e_no_lt, e_no_le, e_le_no, e_lt_no, if_true, if_false, ↓reduceIte, e_rs, e_rq, e_rn, e_ji, e_ki, e_ij, e_kj, e_js, e_jq, e_jn, e_cs, e_cq, e_jc, e_kc, e_js', e_jcq, e_icj, e_kcj, or_true, true_or, or_false, false_or, and_true, true_and, not_true_eq_false, not_false_eq_true, f_X1_come, h2, b_X1_come_49]
theorem q_P.kep {S' : m_M} (h : q_P S a p P D) (w : ∀ q, p ≤ q → q < p + 22 → m_ri S' q = m_ri S q) : q_P S' a p P D :=
  ⟨h.1, h.2.1, h.2.2.1.kept w, h.2.2.2.1.kept w, h.2.2.2.2⟩
/-- the judge's cells are apart from program and machine -/
def w_ap (a b p : Nat) : Prop := (a + 9 ≤ b ∨ b + 3 ≤ a) ∧ (b + 3 ≤ p ∨ p + 22 ≤ b)
theorem w_kR {S' : m_M} (h : q_R S a M) (hap : w_ap a b p) (w : e_O b (b + 3) S S') : q_R S' a M := h.kept (fun q h1 h2 => w.1 q (by have := hap.1; omega))
theorem w_kP {S' : m_M} (h : q_P S a p P D) (hap : w_ap a b p) (w : e_O b (b + 3) S S') : q_P S' a p P D := h.kep (fun q h1 h2 => w.1 q (by have := hap.2; omega))
theorem k_cv {k : Nat} {K : m_M → Int32 → Option (Int32 × m_M)} (hap : w_ap a b p) (hW : p_W P) (hB : q_B P M) (hLv : q_L P M) (hk : k < q_sc M 2) : ∀ (d v fu : Nat) (S : m_M) (L : List Nat), v + d = p_vs P (q_ff M k) → d < fu → q_R S a M → w_R S b 2 (b + 1) (b + 2) L → w_ok M L →
    ∃ S', b_X1_countReached_52 b p a K fu S (nI k) (nI (p_vs P (q_ff M k))) (nI v) = K S' (nI (k + 1)) ∧ w_R S' b 2 (b + 1) (b + 2) (w_fv M k d v L) ∧ e_O b (b + 3) S S' := by
  obtain ⟨b1, b2, b3⟩ := hB.2.2.2.2.1 k hk
  have hvs := (hW.line b1 b2).2.2.2.1
  have h12 := hB.1
  have hvs : p_vs P (q_ff M k) ≤ 27 := hvs
  intro d
  induction d with
  | zero =>
    intro v fu S L hv hf hM hL hok
    obtain ⟨fu, rfl⟩ : ∃ f, fu = f + 1 := ⟨fu - 1, by omega⟩
    refine ⟨S, ?_, hL, e_O.rf⟩
    simp (disch := omega) only [e_let, e_call, e_cal0, e_bind, e_lit, e_ofN, e_neg, nI_add, pk_mul, e_sub, e_ldi, e_sti, e_ldj, e_stj, e_le_t, e_le_f, e_lt_t, e_lt_f, e_eq_t, e_eq_f, e_no_eq, e_no_eq', e_no_rfl, e_no_lt, e_no_le, e_le_no, e_lt_no, if_true, if_false, ↓reduceIte, e_rs, e_rq, e_rn, e_ji, e_ki, e_ij, e_kj, e_js, e_jq, e_jn, e_cs, e_cq, e_jc, e_kc, e_js', e_jcq, e_icj, e_kcj, or_true, true_or, or_false, false_or, and_true, true_and, not_true_eq_false, not_false_eq_true, b_X1_countReached_52]
  | succ d ih =>
    intro v fu S L hv hf hM hL hok
    obtain ⟨fu, rfl⟩ : ∃ f, fu = f + 1 := ⟨fu - 1, by omega⟩
    have h3 := hM.2.2.2.2.2.1 k v hk (by omega)
    have h4 := hM.2.2.2.2.2.2.1 k v hk (by omega)
    have hlive := hLv.1 k v hk (by omega)
    obtain ⟨S1, f1, f2, f3⟩ := k_come (x := q_kd M k v) (y := q_vl M k v) hM hB hL hok (b3 v) hlive
    obtain ⟨S', g1, g2, g3⟩ := ih (v + 1) fu S1 _ (by omega) (by omega) (w_kR hM hap f3) f2 (w_cm_ok hok hlive).1
    refine ⟨S', ?_, g2, f3.tr g3⟩
    rw [← g1]
    simp (disch := omega) only [e_let, e_call, e_cal0, e_bind, e_lit, e_ofN, e_neg, nI_add, pk_mul, e_sub, e_ldi, e_sti, e_ldj, e_stj, e_le_t, e_le_f, e_lt_t, e_lt_f, e_eq_t, e_eq_f, e_no_eq, e_no_eq', e_no_rfl, e_no_lt, e_no_le, e_le_no, e_lt_no, if_true, if_false, ↓reduceIte, e_rs, e_rq, e_rn, e_ji, e_ki, e_ij, e_kj, e_js, e_jq, e_jn, e_cs, e_cq, e_jc, e_kc, e_js', e_jcq, e_icj, e_kcj, or_true, true_or, or_false, false_or, and_true, true_and, not_true_eq_false, not_false_eq_true, b_X1_countReached_52, h3, h4, f1]
theorem k_cf (hap : w_ap a b p) (hW : p_W P) (hB : q_B P M) (hLv : q_L P M) : ∀ (d k fu : Nat) (S : m_M) (L : List Nat), k + d = q_sc M 2 → d < fu → q_P S a p P D → q_R S a M → w_R S b 2 (b + 1) (b + 2) L → w_ok M L →
    ∃ S' fu', b_X1_countReached_29 b p a fu S (nI k) = b_X1_countReached_29 b p a (fu' + 1) S' (nI (q_sc M 2)) ∧ w_R S' b 2 (b + 1) (b + 2) (w_fr P M d k L) ∧ e_O b (b + 3) S S' := by
  have hfu := m_fu_ge
  have h12 := hB.1
  intro d
  induction d with
  | zero =>
    intro k fu S L hk hf C hM hL hok
    obtain ⟨fu, rfl⟩ : ∃ f, fu = f + 1 := ⟨fu - 1, by omega⟩
    have hk : k = q_sc M 2 := hk
    subst hk
    exact ⟨S, fu, rfl, hL, e_O.rf⟩
  | succ d ih =>
    intro k fu S L hk hf C hM hL hok
    obtain ⟨fu, rfl⟩ : ∃ f, fu = f + 1 := ⟨fu - 1, by omega⟩
    have s2 := hM.1 2 (by omega) (by omega) (by omega)
    have hff := hM.2.2.2.1 k (by omega)
    obtain ⟨b1, b2, b3⟩ := hB.2.2.2.2.1 k (by omega)
    have hvc := k_varCount C b1
    have hvs : p_vs P (q_ff M k) ≤ 27 := (hW.line b1 b2).2.2.2.1
    obtain ⟨S1, f1, f2, f3⟩ := k_cv (K := b_X1_countReached_29 b p a fu) hap hW hB hLv (k := k) (by omega) (p_vs P (q_ff M k)) 0 m_fu S L (by omega) (by omega) hM hL hok
    obtain ⟨S', fu', g1, g2, g3⟩ := ih (k + 1) fu S1 _ (by omega) (by omega) (w_kP C hap f3) (w_kR hM hap f3) f2 (w_fv_ok _ 0 L hok (fun w _ h2 => hLv.1 k w (by omega) (by omega))).1
    refine ⟨S', fu', ?_, g2, f3.tr g3⟩
    rw [← g1, ← f1, b_X1_countReached_29]
    rw [s2, if_neg (by rw [e_le_f (by omega) (by omega)]; exact fun h => h), e_ldi (by omega) (by omega), e_bind, hff, hvc, e_call]
    rfl
theorem k_cc (hap : w_ap a b p) (hB : q_B P M) (hLv : q_L P M) : ∀ (n i fu : Nat) (S : m_M) (L : List Nat), 200 < n + i → i ≤ 200 → n < fu → q_R S a M → w_R S b 2 (b + 1) (b + 2) L → w_ok M L →
    ∃ S', b_X1_countReached_115 b p a fu S (nI i) = some (nI (w_cl M n i L).length, S') ∧ w_R S' b 2 (b + 1) (b + 2) (w_cl M n i L) ∧ e_O b (b + 3) S S' := by
  intro n
  induction n with
  | zero => intro i fu S L hn; omega
  | succ n ih =>
    intro i fu S L hn hi2 hf hM hL hok
    obtain ⟨fu, rfl⟩ : ∃ f, fu = f + 1 := ⟨fu - 1, by omega⟩
    have hlen := hok.len
    have hz := hL.1
    rw [w_cl]
    by_cases hi : i < L.length
    · rw [if_pos hi]
      obtain ⟨g1, g2⟩ := w_get hi
      obtain ⟨l1, l2⟩ := hok.2 _ g2
      have hfd := hL.2.2 _ _ g1
      generalize L.getD i 0 = c at *
      have hsl := hLv.2.1 c l1 l2
      have e0 : m_ri S (a + 7) (2 * c) = nI (q_sk M c 0) := hM.2.2.2.2.2.2.2.2.2.1 c 0 l1 (by omega) l2
      have v0 : m_ri S (a + 8) (2 * c) = q_sv M c 0 := hM.2.2.2.2.2.2.2.2.2.2 c 0 l1 (by omega) l2
      obtain ⟨S1, f1, f2, f3⟩ := k_come (x := q_sk M c 0) (y := q_sv M c 0) hM hB hL hok (by have := (hsl 0 (by omega)).1; omega) (hsl 0 (by omega)).2
      have hok1 := (w_cm_ok hok (hsl 0 (by omega)).2).1
      have hM1 := w_kR hM hap f3
      have e1 := hM1.2.2.2.2.2.2.2.2.2.1 c 1 l1 (by omega) l2
      have v1 := hM1.2.2.2.2.2.2.2.2.2.2 c 1 l1 (by omega) l2
      obtain ⟨S2, h1, h2, h3⟩ := k_come (x := q_sk M c 1) (y := q_sv M c 1) hM1 hB f2 hok1 (by have := (hsl 1 (by omega)).1; omega) (hsl 1 (by omega)).2
      have hok2 := (w_cm_ok hok1 (hsl 1 (by omega)).2).1
      obtain ⟨S', k1, k2, k3⟩ := ih (i + 1) fu S2 _ (by omega) (by omega) (by omega) (w_kR hM1 hap h3) h2 hok2
      refine ⟨S', ?_, k2, (f3.tr h3).tr k3⟩
      rw [← w_sd] at k1
      rw [← k1]
      simp (disch := omega) only [e_let, e_call, e_cal0, e_bind, e_lit, e_ofN, e_neg, nI_add, pk_mul, e_sub, e_ldi, e_sti, e_ldj, e_stj, e_le_t, e_le_f, e_lt_t, e_lt_f, e_eq_t, e_eq_f, e_no_eq, e_no_eq', e_no_rfl, e_no_lt, e_no_le, e_le_no, e_lt_no, if_true, if_false, ↓reduceIte, e_rs, e_rq, e_rn, e_ji, e_ki, e_ij, e_kj, e_js, e_jq, e_jn, e_cs, e_cq, e_jc, e_kc, e_js', e_jcq, e_icj, e_kcj, or_true, true_or, or_false, false_or, and_true, true_and, not_true_eq_false, not_false_eq_true, b_X1_countReached_115, hz, hfd, e0, v0, f1, e1, v1, h1]
    · rw [if_neg hi]
      refine ⟨S, ?_, hL, e_O.rf⟩
      simp (disch := omega) only [e_let, e_call, e_cal0, e_bind, e_lit, e_ofN, e_neg, nI_add, pk_mul, e_sub, e_ldi, e_sti, e_ldj, e_stj, e_le_t, e_le_f, e_lt_t, e_lt_f, e_eq_t, e_eq_f, e_no_eq, e_no_eq', e_no_rfl, e_no_lt, e_no_le, e_le_no, e_lt_no, if_true, if_false, ↓reduceIte, e_rs, e_rq, e_rn, e_ji, e_ki, e_ij, e_kj, e_js, e_jq, e_jn, e_cs, e_cq, e_jc, e_kc, e_js', e_jcq, e_icj, e_kcj, or_true, true_or, or_false, false_or, and_true, true_and, not_true_eq_false, not_false_eq_true, b_X1_countReached_115, hz]
theorem k_c0 (hz : b + 1 ≠ b) : ∀ (d i fu : Nat) (S : m_M), i + d = 200 → d < fu → (∀ c, c < i → m_ri S (b + 1) c = nI 0) →
    ∃ S', b_X1_countReached_2 b p a fu S (nI i) = b_X1_countReached_29 b p a m_fu S' (nI 0) ∧ w_R S' b 2 (b + 1) (b + 2) [] ∧ e_O b (b + 3) S S' := by
  intro d
  induction d with
  | zero =>
    intro i fu S hi hf h0
    obtain ⟨fu, rfl⟩ : ∃ f, fu = f + 1 := ⟨fu - 1, by omega⟩
    refine ⟨m_si S b 2 (nI 0), ?_, ⟨e_rs, fun c hc => ?_, fun i c h => by cases h⟩, e_O.rf.si (by omega) (by omega)⟩
    · simp (disch := omega) only [e_let, e_call, e_cal0, e_bind, e_lit, e_ofN, e_neg, nI_add, pk_mul, e_sub, e_ldi, e_sti, e_ldj, e_stj, e_le_t, e_le_f, e_lt_t, e_lt_f, e_eq_t, e_eq_f, e_no_eq, e_no_eq', e_no_rfl, e_no_lt, e_no_le, e_le_no, e_lt_no, if_true, if_false, ↓reduceIte, e_rs, e_rq, e_rn, e_ji, e_ki, e_ij, e_kj, e_js, e_jq, e_jn, e_cs, e_cq, e_jc, e_kc, e_js', e_jcq, e_icj, e_kcj, or_true, true_or, or_false, false_or, and_true, true_and, not_true_eq_false, not_false_eq_true, b_X1_countReached_2]
    · rw [e_rq hz, h0 c (by omega), if_neg (fun h => by cases h)]
  | succ d ih =>
    intro i fu S hi hf h0
    obtain ⟨fu, rfl⟩ : ∃ f, fu = f + 1 := ⟨fu - 1, by omega⟩
    obtain ⟨S', g1, g2, g3⟩ := ih (i + 1) fu (m_si S (b + 1) i (nI 0)) (by omega) (by omega) (fun c hc => by
      rw [e_rif]
      by_cases h : c = i
      · rw [if_pos h]
      · rw [if_neg h]; exact h0 c (by omega))
    refine ⟨S', ?_, g2, (e_O.rf.si (by omega) (by omega)).tr g3⟩
    rw [← g1]
    simp (disch := omega) only [e_let, e_call, e_cal0, e_bind, e_lit, e_ofN, e_neg, nI_add, pk_mul, e_sub, e_ldi, e_sti, e_ldj, e_stj, e_le_t, e_le_f, e_lt_t, e_lt_f, e_eq_t, e_eq_f, e_no_eq, e_no_eq', e_no_rfl, e_no_lt, e_no_le, e_le_no, e_lt_no, if_true, if_false, ↓reduceIte, e_rs, e_rq, e_rn, e_ji, e_ki, e_ij, e_kj, e_js, e_jq, e_jn, e_cs, e_cq, e_jc, e_kc, e_js', e_jcq, e_icj, e_kcj, or_true, true_or, or_false, false_or, and_true, true_and, not_true_eq_false, not_false_eq_true, b_X1_countReached_2, e_nz0]
theorem k_count (hap : w_ap a b p) (C : q_P S a p P D) (hM : q_R S a M) (hB : q_B P M) (hLv : q_L P M) : ∃ S', f_X1_countReached b p a S = some (nI (w_all P M).length, S') ∧ w_R S' b 2 (b + 1) (b + 2) (w_all P M) ∧ e_O b (b + 3) S S' := by
  have hfu := m_fu_ge
  have hW := C.2.1
  have h12 := hB.1
  obtain ⟨S0, z1, z2, z3⟩ := k_c0 (a := a) (b := b) (p := p) (by omega) 200 0 m_fu S (by omega) (by omega) (fun c h => by omega)
  have h0 : w_ok M [] := ⟨List.nodup_nil, fun c h => by cases h⟩
  have hM0 := w_kR hM hap z3
  obtain ⟨S1, fu', f1, f2, f3⟩ := k_cf hap hW hB hLv (q_sc M 2) 0 m_fu S0 [] (by omega) (by omega) (w_kP C hap z3) hM0 z2 h0
  have hM1 := w_kR hM0 hap f3
  have ok1 := (w_fr_ok (P := P) (q_sc M 2) 0 [] h0 (fun k _ hk w hw => hLv.1 k w (by omega) hw)).1
  have s2 := hM1.1 2 (by omega) (by omega) (by omega)
  have s0 := hM1.1 0 (by omega) (by omega) (by omega)
  have s9 := hM1.1 9 (by omega) (by omega) (by omega)
  have s10 := hM1.2.2.1
  have hg : (if q_sc M 0 = 2 then q_sc M 9 else 0) = 2 → q_sc M 0 = 2 ∧ q_sc M 9 = 2 := fun h => by
    split at h
    · exact ⟨by assumption, h⟩
    · omega
  have hlg : (if q_sc M 0 = 2 then q_sc M 9 else 0) = 2 → i_live M (q_gv M) := fun h => (hLv.2.2 (hg h).1).2.2 (hg h).2
  have hle : (if q_sc M 0 = 2 then q_sc M 9 else 0) ≤ 2 := by
    have := hB.2.2.2.2.2.2.2.2.2.2.2.1
    split <;> omega
  obtain ⟨S2, g1, g2, g3⟩ := k_come (x := if q_sc M 0 = 2 then q_sc M 9 else 0) (y := q_gv M) hM1 hB f2 ok1 hle hlg
  have ok2 := (w_cm_ok ok1 hlg).1
  obtain ⟨S3, h1, h2, h3⟩ := k_cc (p := p) hap hB hLv 201 0 m_fu S2 _ (by omega) (by omega) (by omega) (w_kR hM1 hap g3) g2 ok2
  have h04 := hB.2.2.2.2.2.2.2.2.2.2.2.2.1
  have hrk : f_X2_resultKind a S1 = some (nI (if q_sc M 0 = 2 then q_sc M 9 else 0), S1) := by
    by_cases h : q_sc M 0 = 2
    · rw [if_pos h]; rw [h] at s0; simp (disch := omega) only [e_let, e_call, e_cal0, e_bind, e_lit, e_ofN, e_neg, nI_add, pk_mul, e_sub, e_ldi, e_sti, e_ldj, e_stj, e_le_t, e_le_f, e_lt_t, e_lt_f, e_eq_t, e_eq_f, e_no_eq, e_no_eq', e_no_rfl, e_no_lt, e_no_le, e_le_no, e_lt_no, if_true, if_false, ↓reduceIte, e_rs, e_rq, e_rn, e_ji, e_ki, e_ij, e_kj, e_js, e_jq, e_jn, e_cs, e_cq, e_jc, e_kc, e_js', e_jcq, e_icj, e_kcj, or_true, true_or, or_false, false_or, and_true, true_and, not_true_eq_false, not_false_eq_true, f_X2_resultKind, s0, s9, b_X2_resultKind_16]
    · rw [if_neg h]; simp (disch := omega) only [e_let, e_call, e_cal0, e_bind, e_lit, e_ofN, e_neg, nI_add, pk_mul, e_sub, e_ldi, e_sti, e_ldj, e_stj, e_le_t, e_le_f, e_lt_t, e_lt_f, e_eq_t, e_eq_f, e_no_eq, e_no_eq', e_no_rfl, e_no_lt, e_no_le, e_le_no, e_lt_no, if_true, if_false, ↓reduceIte, e_rs, e_rq, e_rn, e_ji, e_ki, e_ij, e_kj, e_js, e_jq, e_jn, e_cs, e_cq, e_jc, e_kc, e_js', e_jcq, e_icj, e_kcj, or_true, true_or, or_false, false_or, and_true, true_and, not_true_eq_false, not_false_eq_true, f_X2_resultKind, s0, h, b_X2_resultKind_16]
  refine ⟨S3, ?_, h2, ((z3.tr f3).tr g3).tr h3⟩
  rw [w_all, w_rt, ← h1, f_X1_countReached, e_lit]
  show b_X1_countReached_2 b p a m_fu S (nI 0) = _
  rw [z1, f1, b_X1_countReached_29, s2, if_pos (by rw [e_le_t (Nat.le_refl _) (by omega)]; trivial), hrk, e_call, s10, g1, e_cal0]
  rfl
end WB
