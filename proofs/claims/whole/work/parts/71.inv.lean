/-! what holds of the machine as it runs -/
/-- a line of a fun reaches a region -/
def d_lr (P : pP) (D : pD) (f i r : Nat) : Prop := d_rc D f (p_pa P f + i) r = true ∨ ∃ k, k < 5 ∧ p_us P (p_fi P f + i) k ∧ d_rc D f (p_va P (p_fi P f + i) k) r = true
/-- what the regions keep to -/
def d_G (P : pP) (D : pD) : Prop :=
  (∀ f v r s q, f < p_fu P → v < p_vs P f → d_rc D f v r = true → s < 2 → d_sd D r s = q + 1 → d_rc D f v q = true) ∧
  (∀ f v r, f < p_fu P → v < p_vs P f → d_pt D f v = r + 1 → d_rc D f v r = true) ∧
  (∀ f v g w, f < p_fu P → g < p_fu P → v < p_vs P f → w < p_vs P g → d_pt D f v = d_pt D g w → ∀ r, d_rc D f v r = d_rc D g w r) ∧
  (∀ f r, f < p_fu P → (d_ou D f r = true ↔ ∃ v, v < p_vs P f ∧ (v < p_pa P f ∨ v + 1 = p_vs P f) ∧ d_rc D f v r = true)) ∧
  (∀ f r, f < p_fu P → (d_ow D f r = true ↔ (∃ v, v < p_vs P f ∧ d_rc D f v r = true) ∧ d_ou D f r = false)) ∧
  (∀ f i r, f < p_fu P → i < p_ct P f → (d_bg D f i r = true ↔ d_ow D f r = true ∧ d_lr P D f i r ∧ ∀ j, j < i → ¬ d_lr P D f j r)) ∧
  (∀ f i r, f < p_fu P → i < p_ct P f → (d_en D f i r = true ↔ d_ow D f r = true ∧ d_lr P D f i r ∧ ∀ j, i < j → j < p_ct P f → ¬ d_lr P D f j r)) ∧
  (∀ f i, f < p_fu P → i < p_ct P f →
    (p_op P (p_fi P f + i) = 1 → d_pt D f (p_pa P f + i) = d_pt D f (p_va P (p_fi P f + i) 0)) ∧
    (p_op P (p_fi P f + i) = 2 → ∃ r, d_pt D f (p_pa P f + i) = r + 1 ∧ d_sd D r 0 = d_pt D f (p_va P (p_fi P f + i) 0) ∧ d_sd D r 1 = d_pt D f (p_va P (p_fi P f + i) 1)) ∧
    (p_op P (p_fi P f + i) = 3 → ∃ r, d_pt D f (p_va P (p_fi P f + i) 0) = r + 1 ∧ d_sd D r 0 = d_pt D f (p_pa P f + i)) ∧
    (p_op P (p_fi P f + i) = 4 → ∃ r, d_pt D f (p_va P (p_fi P f + i) 0) = r + 1 ∧ d_sd D r 1 = d_pt D f (p_pa P f + i)) ∧
    (p_op P (p_fi P f + i) = 7 → d_pt D f (p_pa P f + i) = d_pt D f (p_va P (p_fi P f + i) 1) ∧ d_pt D f (p_pa P f + i) = d_pt D f (p_va P (p_fi P f + i) 2)) ∧
    (8 ≤ p_op P (p_fi P f + i) → (∀ k, k < p_pa P (p_ca P (p_fi P f + i)) → d_pt D (p_ca P (p_fi P f + i)) k = d_pt D f (p_va P (p_fi P f + i) (q_ar P (p_fi P f + i) k))) ∧ d_pt D f (p_pa P f + i) = d_pt D (p_ca P (p_fi P f + i)) (p_vs P (p_ca P (p_fi P f + i)) - 1)) ∧
    (p_op P (p_fi P f + i) = 9 → d_pt D f (p_pa P f + i) = d_pt D f (p_va P (p_fi P f + i) 4)))
/-- a region has a room of a frame: its span holds the frame's line -/
def i_act (P : pP) (D : pD) (w : Prop) (M : qM) (k r : Nat) : Prop := d_ow D (q_ff M k) r = true ∧ (∃ j, (j < q_fl M k ∨ (j = q_fl M k ∧ (k + 1 < q_sc M 2 ∨ w))) ∧ d_lr P D (q_ff M k) j r) ∧ ∃ j, q_fl M k ≤ j ∧ j < p_ct P (q_ff M k) ∧ d_lr P D (q_ff M k) j r
def i_F (P : pP) (D : pD) (w : Prop) (M : qM) : Prop := ∀ x, x ∈ q_F M ↔ (x.1 = 0 ∧ d_ou D (p_fu P - 1) x.2 = true) ∨ ∃ k, k < q_sc M 2 ∧ x.1 = k + 1 ∧ i_act P D w M k x.2
/-- what is seen from outside of a frame -/
def i_ctx (P : pP) (D : pD) (M : qM) (k r : Nat) : Prop := match k with | 0 => d_ou D (p_fu P - 1) r = true | k + 1 => d_lr P D (q_ff M k) (q_fl M k) r
def i_C (P : pP) (D : pD) (M : qM) : Prop := ∀ k, k < q_sc M 2 → ∀ r, d_ou D (q_ff M k) r = true → i_ctx P D M k r
def i_L (P : pP) (D : pD) (M : qM) : Prop := ∀ k, k + 1 < q_sc M 2 → d_pt D (q_ff M (k + 1)) (p_vs P (q_ff M (k + 1)) - 1) = d_pt D (q_ff M k) (p_pa P (q_ff M k) + q_fl M k)
/-- a value is a number, or a cell in the room that is seen -/
def i_val (D : pD) (M : qM) (n o : Nat) (y : Int32) : Prop := ∃ r c, o = r + 1 ∧ c < 200 ∧ y = nI c ∧ q_ce M c = some (q_at D M n r)
def i_V (P : pP) (D : pD) (M : qM) : Prop := ∀ k v, k < q_sc M 2 → v < p_vs P (q_ff M k) → q_kd M k v = 2 → i_val D M (k + 1) (d_pt D (q_ff M k) v) (q_vl M k v)
def i_A (P : pP) (D : pD) (M : qM) : Prop := ∀ k v, k < q_sc M 2 → v < p_pa P (q_ff M k) + q_fl M k → q_kd M k v = 0 → ∃ r, d_ow D (q_ff M k) r = true ∧ d_rc D (q_ff M k) v r = true ∧ ∀ j, q_fl M k ≤ j → j < p_ct P (q_ff M k) → ¬ d_lr P D (q_ff M k) j r
def i_U (P : pP) (M : qM) : Prop := ∀ k v, k < q_sc M 2 → p_pa P (q_ff M k) + q_fl M k ≤ v → q_kd M k v = 0
def i_S (D : pD) (M : qM) : Prop := ∀ c x, c < 200 → q_ce M c = some x → ∀ s, s < 2 → (q_sk M c s = 1 ∨ q_sk M c s = 2) ∧ (q_sk M c s = 2 → i_val D M x.1 (d_sd D x.2 s) (q_sv M c s))
def q_I (P : pP) (D : pD) (w : Prop) (M : qM) : Prop := q_B P M ∧ i_F P D w M ∧ i_C P D M ∧ i_L P D M ∧ i_V P D M ∧ i_A P D M ∧ i_U P M ∧ i_S D M ∧ 1 ≤ p_fu P
section IV
variable {P : pP} {D : pD} {M : qM} {w : Prop}
theorem q_vis_le {u : Nat → Bool} {r : Nat} : ∀ n, (q_vis u r n).1 ≤ n := by
  intro n
  induction n with
  | zero => exact Nat.le_refl _
  | succ n ih =>
    simp only [q_vis]
    split
    · exact Nat.le_refl _
    · omega
theorem q_vis_max {u : Nat → Bool} {r k : Nat} : ∀ n, k < n → u k = true → k + 1 ≤ (q_vis u r n).1 := by
  intro n
  induction n with
  | zero => intro h; omega
  | succ n ih =>
    intro hk hu
    simp only [q_vis]
    by_cases h : u n = true
    · rw [if_pos h]; show k + 1 ≤ n + 1; omega
    · rw [if_neg h]
      exact ih (by have : k ≠ n := fun q => h (q ▸ hu); omega) hu
theorem q_vis_cong {u u' : Nat → Bool} {r : Nat} : ∀ n, (∀ k, k < n → u k = u' k) → q_vis u r n = q_vis u' r n := by
  intro n
  induction n with
  | zero => intro _; rfl
  | succ n ih => intro h; simp only [q_vis]; rw [h n (by omega), ih (fun k hk => h k (by omega))]
theorem q_at_cong {M' : qM} {n r : Nat} (h : ∀ k, k < n → q_ff M' k = q_ff M k) : q_at D M' n r = q_at D M n r := q_vis_cong n (fun k hk => by rw [h k hk])
theorem q_at_s {k r : Nat} : q_at D M (k + 1) r = if d_ow D (q_ff M k) r = true then (k + 1, r) else q_at D M k r := rfl
theorem d_lr_all {f i r : Nat} (hW : p_W P) (hf : f < p_fu P) (hi : i < p_ct P f) (h : d_lr P D f i r) : ∃ v, v < p_vs P f ∧ d_rc D f v r = true := by
  rcases h with h | ⟨k, -, hu, h⟩
  · exact ⟨_, by simp only [p_vs]; omega, h⟩
  · exact ⟨_, by have := (hW.2.2.2.2 f i hf hi).2.2.2 k hu; simp only [p_vs]; omega, h⟩
theorem d_cases {f i r : Nat} (hW : p_W P) (hG : d_G P D) (hf : f < p_fu P) (hi : i < p_ct P f) (h : d_lr P D f i r) : d_ow D f r = true ∨ d_ou D f r = true := by
  cases ho : d_ou D f r with
  | true => exact Or.inr rfl
  | false => exact Or.inl ((hG.2.2.2.2.1 f r hf).mpr ⟨d_lr_all hW hf hi h, ho⟩)
theorem d_ex {f r : Nat} (hG : d_G P D) (hf : f < p_fu P) (h1 : d_ow D f r = true) (h2 : d_ou D f r = true) : False := by
  have := ((hG.2.2.2.2.1 f r hf).mp h1).2
  rw [h2] at this; cases this
/-- what is seen has a room -/
theorem i_avail (hW : p_W P) (hG : d_G P D) (hB : q_B P M) (hF : i_F P D w M) (hC : i_C P D M) : ∀ k r, k < q_sc M 2 ∨ (k = q_sc M 2 ∧ w) → i_ctx P D M k r → q_at D M k r ∈ q_F M := by
  intro k
  induction k with
  | zero => intro r _ h; exact (hF (0, r)).mpr (Or.inl ⟨rfl, h⟩)
  | succ k ih =>
    intro r hk h
    have h : d_lr P D (q_ff M k) (q_fl M k) r := h
    have hkn : k < q_sc M 2 := by omega
    obtain ⟨b1, b2, -⟩ := hB.2.2.2.2.1 k hkn
    rw [q_at_s]
    by_cases ho : d_ow D (q_ff M k) r = true
    · rw [if_pos ho]
      refine (hF _).mpr (Or.inr ⟨k, hkn, rfl, ho, ⟨_, Or.inr ⟨rfl, ?_⟩, h⟩, ⟨_, Nat.le_refl _, b2, h⟩⟩)
      rcases hk with hk | ⟨hk, hw⟩
      · exact Or.inl hk
      · exact Or.inr hw
    · rw [if_neg ho]
      rcases d_cases hW hG b1 b2 h with h1 | h1
      · exact absurd h1 ho
      · exact ih r (Or.inl hkn) (hC k hkn r h1)
theorem i_max (hF : i_F P D w M) {r : Nat} : ∀ y, y ∈ q_F M → y.2 = r → y.1 ≤ (q_at D M (q_sc M 2) r).1 := by
  intro y hy hr
  rcases (hF y).mp hy with ⟨h, -⟩ | ⟨k, hk, h, ha⟩
  · omega
  · rw [h]
    exact q_vis_max _ hk (by rw [← hr]; exact ha.1)
theorem i_lev (hF : i_F P D w M) : ∀ y, y ∈ q_F M → y.1 ≤ q_sc M 2 := by
  intro y hy
  rcases (hF y).mp hy with ⟨h, -⟩ | ⟨k, hk, h, -⟩ <;> omega
theorem q_len {F : List (Nat × Nat)} (hn : F.Nodup) (h1 : ∀ x, x ∈ F → x.1 ≤ 12) (h2 : ∀ x, x ∈ F → x.2 < 24) : F.length ≤ 312 := by
  refine fb_holes 312 F.length (fun i => (F.getD i (0, 0)).1 * 24 + (F.getD i (0, 0)).2) (fun i hi => ?_) (fun i j hij hj => ?_)
  · have e : F.getD i (0, 0) = F[i] := by rw [List.getD_eq_getElem?_getD, List.getElem?_eq_getElem hi]; rfl
    have := h1 _ (List.getElem_mem hi)
    have := h2 _ (List.getElem_mem hi)
    simp only [e]; omega
  · have hi : i < F.length := by omega
    have e : F.getD i (0, 0) = F[i] := by rw [List.getD_eq_getElem?_getD, List.getElem?_eq_getElem hi]; rfl
    have e' : F.getD j (0, 0) = F[j] := by rw [List.getD_eq_getElem?_getD, List.getElem?_eq_getElem hj]; rfl
    have a1 := h2 _ (List.getElem_mem hi)
    have a2 := h2 _ (List.getElem_mem hj)
    have h := List.pairwise_iff_getElem.mp (List.nodup_iff_pairwise_ne.mp hn) i j hi hj hij
    simp only [e, e']
    intro hq
    exact h (Prod.ext (by omega) (by omega))
/-- rooms are made for a line -/
theorem i_m1 (hW : p_W P) (hS : d_S D) (hG : d_G P D) (hI : q_I P D False M) (hn : 1 ≤ q_sc M 2) : q_I P D True (q_m1 D M) := by
  obtain ⟨hB, hF, hC, hL, hV, hA, hU, hSi, hp⟩ := hI
  have e2 : q_sc (q_m1 D M) 2 = q_sc M 2 := q_m1_sc (by omega)
  obtain ⟨b1, b2, b3⟩ := hB.2.2.2.2.1 (q_sc M 2 - 1) (by omega)
  have hFm : ∀ x, x ∈ q_F (q_m1 D M) ↔ x ∈ q_F M ∨ (x.1 = q_sc M 2 ∧ d_bg D (q_ff M (q_sc M 2 - 1)) (q_fl M (q_sc M 2 - 1)) x.2 = true) := by
    intro x
    show x ∈ q_F M ++ q_rs _ _ 0 24 ↔ _
    rw [List.mem_append, q_rs_mem]
    constructor
    · rintro (h | ⟨h1, -, -, h2⟩)
      · exact Or.inl h
      · exact Or.inr ⟨h1, h2⟩
    · rintro (h | ⟨h1, h2⟩)
      · exact Or.inl h
      · refine Or.inr ⟨h1, by omega, ?_, h2⟩
        rcases Nat.lt_or_ge x.2 24 with h | h
        · omega
        · rw [show d_bg D (q_ff M (q_sc M 2 - 1)) (q_fl M (q_sc M 2 - 1)) x.2 = false from hS.1 1 _ _ _ h] at h2; cases h2
  have hbg := fun r => hG.2.2.2.2.2.1 (q_ff M (q_sc M 2 - 1)) (q_fl M (q_sc M 2 - 1)) r b1 b2
  have hnew : ∀ r, d_bg D (q_ff M (q_sc M 2 - 1)) (q_fl M (q_sc M 2 - 1)) r = true → (q_sc M 2, r) ∉ q_F M := by
    intro r hr hm
    obtain ⟨-, -, h3⟩ := (hbg r).mp hr
    rcases (hF _).mp hm with ⟨h, -⟩ | ⟨k, hk, h, -, ⟨j, hj, hlr⟩, -⟩
    · have h : q_sc M 2 = 0 := h; omega
    · have h : q_sc M 2 = k + 1 := h
      have hk' : k = q_sc M 2 - 1 := by omega
      rw [hk'] at hj hlr
      rcases hj with hj | ⟨-, hj | hj⟩
      · exact h3 j hj hlr
      · omega
      · exact hj
  have hlev := i_lev hF
  have hB1 : q_B P (q_m1 D M) := by
    obtain ⟨a1, a2, a3, a4, a5, a6, a7, a8, a9, a10, a11, a12, a13, a14, a15, a16, a17⟩ := hB
    have hnd : (q_F (q_m1 D M)).Nodup := by
      show (q_F M ++ q_rs _ _ 0 24).Nodup
      rw [List.nodup_append]
      refine ⟨a3, ?_, fun x hx y hy hxy => ?_⟩
      · simp only [q_rs]
        rw [List.nodup_iff_pairwise_ne, List.pairwise_map]
        have : ((List.range' 0 24).filter (d_bg D (q_ff M (q_sc M 2 - 1)) (q_fl M (q_sc M 2 - 1)))).Nodup := (List.nodup_range' (step := 1)).filter _
        exact (List.nodup_iff_pairwise_ne.mp this).imp (fun h q => h (congrArg Prod.snd q))
      · subst hxy
        obtain ⟨h1, -, -, h2⟩ := q_rs_mem.mp hy
        exact hnew x.2 h2 (by rw [← h1]; exact hx)
    have hreg : ∀ x, x ∈ q_F (q_m1 D M) → x.2 < 24 := by
      intro x hx
      have hx : x ∈ q_F M ++ q_rs _ _ 0 24 := hx
      rcases List.mem_append.mp hx with h | h
      · exact a4 x h
      · obtain ⟨-, -, h, -⟩ := q_rs_mem.mp h; omega
    have hlev1 : ∀ x, x ∈ q_F (q_m1 D M) → x.1 ≤ 12 := by
      intro x hx
      rcases (hFm x).mp hx with h | ⟨h, -⟩
      · have := hlev x h; omega
      · omega
    refine ⟨by rw [e2]; exact a1, q_len hnd hlev1 hreg, hnd, hreg, fun k hk => a5 k (by omega), fun c x hc hx => List.mem_append_left _ (a6 c x hc hx), by rw [q_m1_sc (by omega)]; exact a7, by rw [q_m1_sc (by omega)]; exact a8, by rw [q_m1_sc (by omega)]; exact a9, by rw [q_m1_sc (by omega)]; exact a10, by rw [q_m1_sc (by omega)]; exact a11, by rw [q_m1_sc (by omega)]; exact a12, by rw [q_m1_sc (by omega)]; exact a13, by rw [q_m1_sc (by omega)]; exact a14, ?_, a16, ?_⟩
    · show (if 11 = 11 then 0 else q_sc M 11) < 2; rw [if_pos rfl]; omega
    · show (q_F M ++ q_rs _ _ 0 24).Pairwise _
      rw [List.pairwise_append]
      refine ⟨a17, ?_, fun x hx y hy => ?_⟩
      · refine List.pairwise_of_forall_mem_list (fun x hx y hy => ?_)
        obtain ⟨h1, -⟩ := q_rs_mem.mp hx
        obtain ⟨h2, -⟩ := q_rs_mem.mp hy
        omega
      · obtain ⟨h2, -⟩ := q_rs_mem.mp hy
        have := hlev x hx
        omega
  refine ⟨hB1, fun x => ?_, fun k hk r h => ?_, fun k hk => ?_, fun k v hk hv hd => ?_, fun k v hk hv hd => ?_, fun k v hk hv => ?_, fun c x hc hx => hSi c x hc hx, hp⟩
  · rw [hFm, hF x]
    constructor
    · rintro ((h | ⟨k, hk, h1, h2, ⟨j, hj, hlr⟩, h4⟩) | ⟨h1, h2⟩)
      · exact Or.inl h
      · refine Or.inr ⟨k, by omega, h1, h2, ⟨j, ?_, hlr⟩, h4⟩
        rcases hj with hj | ⟨hj, hj2⟩
        · exact Or.inl hj
        · exact Or.inr ⟨hj, Or.inr trivial⟩
      · obtain ⟨g1, g2, g3⟩ := (hbg x.2).mp h2
        exact Or.inr ⟨q_sc M 2 - 1, by omega, by omega, g1, ⟨_, Or.inr ⟨rfl, Or.inr trivial⟩, g2⟩, ⟨_, Nat.le_refl _, b2, g2⟩⟩
    · rintro (h | ⟨k, hk, h1, h2, ⟨j, hj, hlr⟩, h4⟩)
      · exact Or.inl (Or.inl h)
      · rw [e2] at hk
        by_cases hkn : k + 1 < q_sc M 2
        · refine Or.inl (Or.inr ⟨k, hk, h1, h2, ⟨j, ?_, hlr⟩, h4⟩)
          rcases hj with hj | ⟨hj, -⟩
          · exact Or.inl hj
          · exact Or.inr ⟨hj, Or.inl hkn⟩
        · have hk' : k = q_sc M 2 - 1 := by omega
          subst hk'
          by_cases hex : ∃ j, j < q_fl M (q_sc M 2 - 1) ∧ d_lr P D (q_ff M (q_sc M 2 - 1)) j x.2
          · obtain ⟨j', hj', hl'⟩ := hex
            exact Or.inl (Or.inr ⟨_, hk, h1, h2, ⟨j', Or.inl hj', hl'⟩, h4⟩)
          · refine Or.inr ⟨by omega, (hbg x.2).mpr ⟨h2, ?_, fun j' hj' hl' => hex ⟨j', hj', hl'⟩⟩⟩
            rcases hj with hj | ⟨hj, -⟩
            · exact absurd ⟨j, hj, hlr⟩ hex
            · have hj : j = q_fl M (q_sc M 2 - 1) := hj
              rw [← hj]; exact hlr
  · have := hC k (by omega) r h
    cases k with
    | zero => exact this
    | succ k => exact this
  · exact hL k (by omega)
  · exact hV k v (by omega) hv hd
  · exact hA k v (by omega) hv hd
  · exact hU k v (by omega) hv
end IV
