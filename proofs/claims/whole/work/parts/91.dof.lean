/-! what is known of regions, as a picture made of the program -/
def d_rn (sd : Nat → Nat → Nat) : Nat → Nat → Nat → Bool
  | 0, o, r => decide (o = r + 1)
  | n + 1, o, r => d_rn sd n o r || (List.range 24).any (fun q => d_rn sd n o q && (decide (sd q 0 = r + 1) || decide (sd q 1 = r + 1)))
section DA
variable {sd : Nat → Nat → Nat} {z : Nat}
theorem d_rn_s {n o r : Nat} : d_rn sd (n + 1) o r = true ↔ d_rn sd n o r = true ∨ ∃ q s, q < 24 ∧ s < 2 ∧ d_rn sd n o q = true ∧ sd q s = r + 1 := by
  simp only [d_rn, Bool.or_eq_true, List.any_eq_true, Bool.and_eq_true, decide_eq_true_eq]
  constructor
  · rintro (h | ⟨q, h1, h2, h3 | h3⟩)
    · exact Or.inl h
    · exact Or.inr ⟨q, 0, List.mem_range.mp h1, by omega, h2, h3⟩
    · exact Or.inr ⟨q, 1, List.mem_range.mp h1, by omega, h2, h3⟩
  · rintro (h | ⟨q, s, h1, h2, h3, h4⟩)
    · exact Or.inl h
    · refine Or.inr ⟨q, List.mem_range.mpr h1, h3, ?_⟩
      rcases (by omega : s = 0 ∨ s = 1) with e | e
      · subst e; exact Or.inl h4
      · subst e; exact Or.inr h4
theorem d_rn_le {o r : Nat} : ∀ (n k : Nat), d_rn sd n o r = true → d_rn sd (n + k) o r = true := by
  intro n k
  induction k with
  | zero => intro h; exact h
  | succ k ih => intro h; exact d_rn_s.mpr (Or.inl (ih h))
theorem d_rn_lt (hz : z ≤ 24) (hs : ∀ q s, s < 2 → sd q s ≤ z) {o : Nat} (ho : o ≤ z) : ∀ (n r : Nat), d_rn sd n o r = true → r < z := by
  intro n
  induction n with
  | zero =>
    intro r h
    have := of_decide_eq_true h
    omega
  | succ n ih =>
    intro r h
    rcases d_rn_s.mp h with h | ⟨q, s, -, h2, -, h4⟩
    · exact ih r h
    · have := hs q s h2; omega
theorem d_rn_st {o n : Nat} (h : ∀ r, d_rn sd (n + 1) o r = true → d_rn sd n o r = true) : ∀ (k r : Nat), d_rn sd (n + k) o r = true → d_rn sd n o r = true := by
  intro k
  induction k with
  | zero => intro r h; exact h
  | succ k ih =>
    intro r hr
    rcases d_rn_s.mp hr with hr | ⟨q, s, h1, h2, h3, h4⟩
    · exact ih r hr
    · exact h r (d_rn_s.mpr (Or.inr ⟨q, s, h1, h2, ih q h3, h4⟩))
/-- after as many rounds as there are regions nothing more comes -/
theorem d_rn_z (hz : z ≤ 24) (hs : ∀ q s, s < 2 → sd q s ≤ z) {o : Nat} (ho : o ≤ z) : ∀ (k r : Nat), d_rn sd (z + k) o r = true → d_rn sd z o r = true := by
  refine Classical.byContradiction fun hx => ?_
  have hno : ∀ n, n ≤ z → ∃ r, d_rn sd (n + 1) o r = true ∧ ¬ d_rn sd n o r = true := fun n hn => by
    refine Classical.byContradiction fun hy => hx ?_
    have hst : ∀ r, d_rn sd (n + 1) o r = true → d_rn sd n o r = true := fun r hr => Classical.byContradiction fun q => hy ⟨r, hr, q⟩
    intro k r hr
    have h1 := d_rn_st hst (z - n + k) r (by rw [show n + (z - n + k) = z + k by omega]; exact hr)
    have h2 := d_rn_le n (z - n) h1
    rw [show n + (z - n) = z by omega] at h2; exact h2
  have hct : ∀ n, n ≤ z + 1 → n ≤ fb_ct (d_rn sd n o) z := by
    intro n
    induction n with
    | zero => intro _; omega
    | succ n ih =>
      intro hn
      have h1 := ih (by omega)
      obtain ⟨r, r1, r2⟩ := hno n (by omega)
      have hr := d_rn_lt hz hs ho (n + 1) r r1
      have h2 := fb_ct_upd (d_rn sd n o) true hr
      rw [show d_rn sd n o r = false from Bool.eq_false_iff.mpr r2] at h2
      simp only [Bool.false_eq_true, if_false, if_true] at h2
      have h3 := fb_ct_sub (p := fun k => if k = r then true else d_rn sd n o k) (q := d_rn sd (n + 1) o) (n := z) (fun k _ hk => by
        have hk : (if k = r then true else d_rn sd n o k) = true := hk
        by_cases e : k = r
        · rw [e]; exact r1
        · rw [if_neg e] at hk; exact d_rn_s.mpr (Or.inl hk))
      omega
  have h1 := hct (z + 1) (Nat.le_refl _)
  have h2 := fb_ct_le (d_rn sd (z + 1) o) z
  omega
theorem d_rn_24 (hz : z ≤ 24) (hs : ∀ q s, s < 2 → sd q s ≤ z) {o n r : Nat} (ho : o ≤ z) (h : d_rn sd n o r = true) : d_rn sd z o r = true := by
  have h1 := d_rn_le n z h
  rw [Nat.add_comm] at h1
  exact d_rn_z hz hs ho n r h1
theorem d_rn_cl (hz : z ≤ 24) (hs : ∀ q s, s < 2 → sd q s ≤ z) {o q s r : Nat} (ho : o ≤ z) (h : d_rn sd 24 o q = true) (h2 : s < 2) (h4 : sd q s = r + 1) : d_rn sd 24 o r = true := by
  have hq := d_rn_lt hz hs ho 24 q h
  have h1 : d_rn sd 25 o r = true := d_rn_s.mpr (Or.inr ⟨q, s, by omega, h2, h, h4⟩)
  have h3 := d_rn_24 hz hs ho h1
  have h5 := d_rn_le z (24 - z) h3
  rw [show z + (24 - z) = 24 by omega] at h5; exact h5
theorem d_rn_0 {r : Nat} (n : Nat) : d_rn sd n (r + 1) r = true := by
  have := d_rn_le (sd := sd) (o := r + 1) (r := r) 0 n (decide_eq_true rfl)
  rw [Nat.zero_add] at this; exact this
theorem d_rn_in {X : Nat → Prop} {o : Nat} (h0 : ∀ r, o = r + 1 → X r) (hc : ∀ q s r, q < 24 → s < 2 → X q → sd q s = r + 1 → X r) : ∀ (n r : Nat), d_rn sd n o r = true → X r := by
  intro n
  induction n with
  | zero => intro r h; exact h0 r (of_decide_eq_true h)
  | succ n ih =>
    intro r h
    rcases d_rn_s.mp h with h | ⟨q, s, h1, h2, h3, h4⟩
    · exact ih r h
    · exact hc q s r h1 h2 (ih q h3) h4
end DA
noncomputable def d_U (P : pP) : u2 := (u_E 30 false P).1
noncomputable def d_Gx (P : pP) : u_GT := u_na 30 (d_U P) P (p_fu P) 0 u_g0
noncomputable def d_z (P : pP) : Nat := (d_Gx P).2
noncomputable def d_p (P : pP) (f v : Nat) : Nat := if u_nd f v < 183 then (d_Gx P).1 (u_nd f v) else 0
noncomputable def d_s (P : pP) (r s : Nat) : Nat := if r < d_z P ∧ s < 2 then u_sx (d_U P) (d_Gx P) r s else 0
noncomputable def d_0 (P : pP) : pD := (d_p P, d_s P, fun t f v r => if t = 0 then d_rn (d_s P) 24 (d_p P f v) r else false)
noncomputable def d_dec (p : Prop) : Bool := @decide p (Classical.propDecidable p)
theorem d_dec_t {p : Prop} : d_dec p = true ↔ p := @decide_eq_true_iff p (Classical.propDecidable p)
noncomputable def d_oup (P : pP) (f r : Nat) : Prop := ∃ v, v < p_vs P f ∧ (v < p_pa P f ∨ v + 1 = p_vs P f) ∧ d_rn (d_s P) 24 (d_p P f v) r = true
noncomputable def d_owp (P : pP) (f r : Nat) : Prop := (∃ v, v < p_vs P f ∧ d_rn (d_s P) 24 (d_p P f v) r = true) ∧ ¬ d_oup P f r
noncomputable def d_of (P : pP) : pD := (d_p P, d_s P, fun t f v r => match t with
  | 0 => d_rn (d_s P) 24 (d_p P f v) r
  | 1 => d_dec (d_owp P f r ∧ d_lr P (d_0 P) f v r ∧ ∀ j, j < v → ¬ d_lr P (d_0 P) f j r)
  | 2 => d_dec (d_owp P f r ∧ d_lr P (d_0 P) f v r ∧ ∀ j, v < j → j < p_ct P f → ¬ d_lr P (d_0 P) f j r)
  | 3 => d_dec (d_oup P f r)
  | 4 => d_dec (d_owp P f r)
  | _ => false)
section DB
variable {P : pP}
/-- the pieces of which it is made -/
theorem d_pcs (hW : p_W P) : ∃ o, u_S3 o (u_E 30 false P) (u_E 200 true P) ∧ (∀ g j, g < p_fu P → j < p_ct P g → u_LC P g j (u_E 30 false P) o) ∧ u_NV (u_E 30 false P).2 o (d_U P) (d_Gx P) ∧ d_Gx P = u_na 60 (u_E 200 true P).1 P (p_fu P) 0 u_g0 ∧ ∀ g w, g < p_fu P → w < p_vs P g → (d_U P).2 ((d_U P).1 (u_nd g w)) ≠ 0 → (d_Gx P).1 (u_nd g w) ≠ 0 := by
  obtain ⟨o, h1, h2⟩ := u_E_ok (sw := false) (sw' := true) (d := 30) (e := 200) (by omega) (by omega) hW
  obtain ⟨a1, a2, a3, a4⟩ := u_na_ok (d := 30) (e := 60) h1.2 (by omega) (by omega) hW (p_fu P) 0 u_g0 (by omega) u_g0_NV
  exact ⟨o, h1, h2, a2, a1, fun g w hg hw hq => a4 g w (by omega) hg hw hq⟩
theorem d_z_le (hW : p_W P) : d_z P ≤ 24 := by
  obtain ⟨o, h1, -, h3, -⟩ := d_pcs hW
  have := h3.le h1.2.1.2.1
  have := h1.2.1.2.1
  show (d_Gx P).2 ≤ 24
  omega
theorem d_p_le (hW : p_W P) (f v : Nat) : d_p P f v ≤ d_z P := by
  obtain ⟨o, h1, -, h3, -⟩ := d_pcs hW
  rw [d_p]
  split
  · exact h3.2.2.1 _ (by assumption)
  · omega
theorem d_s_le (hW : p_W P) (r s : Nat) : d_s P r s ≤ d_z P := by
  obtain ⟨o, h1, -, h3, -⟩ := d_pcs hW
  have hm := h1.2.1.2.1
  rw [d_s]
  split
  · rename_i hh
    obtain ⟨k, k1, k2⟩ := h3.2.2.2.1 r hh.1
    have e := u_sx_k h1.2.1 h1.2.2.2.1 h3 k1 hh.2 k2
    show u_sx (d_U P) (d_Gx P) r s ≤ _
    rw [show u_sx (d_U P) (d_Gx P) r s = _ from e]
    exact h3.2.2.1 _ (u_sd_lt (by omega) hh.2)
  · omega
theorem d_rc_of {f v r : Nat} : d_rc (d_of P) f v r = d_rn (d_s P) 24 (d_p P f v) r := by simp only [d_rc, d_of]
theorem d_lr_of {f i r : Nat} : d_lr P (d_of P) f i r ↔ d_lr P (d_0 P) f i r := Iff.rfl
theorem d_ou_of {f r : Nat} : d_ou (d_of P) f r = true ↔ d_oup P f r := d_dec_t
theorem d_ow_of {f r : Nat} : d_ow (d_of P) f r = true ↔ d_owp P f r := d_dec_t
theorem d_rc_z (hW : p_W P) {f v r : Nat} (h : d_rc (d_of P) f v r = true) : r < d_z P := d_rn_lt (d_z_le hW) (fun q s _ => d_s_le hW q s) (d_p_le hW f v) 24 r h
theorem d_lr_z (hW : p_W P) {f i r : Nat} (h : d_lr P (d_of P) f i r) : r < d_z P := by
  rcases h with h | ⟨k, -, -, h⟩
  · exact d_rc_z hW h
  · exact d_rc_z hW h
theorem d_S_of (hW : p_W P) : d_S (d_of P) := by
  have hz := d_z_le hW
  refine ⟨fun t f v r hr => ?_, fun f v => ?_, fun r s => ?_⟩
  · rw [Bool.eq_false_iff]
    intro h
    match t, h with
    | 0, h => have := d_rc_z hW (f := f) (v := v) h; omega
    | 1, h => have := d_lr_z hW (d_lr_of.mpr (d_dec_t.mp h).2.1); omega
    | 2, h => have := d_lr_z hW (d_lr_of.mpr (d_dec_t.mp h).2.1); omega
    | 3, h => obtain ⟨w, -, -, h3⟩ := d_dec_t.mp h; have := d_rc_z hW (f := f) (v := w) h3; omega
    | 4, h => obtain ⟨⟨w, -, h3⟩, -⟩ := d_dec_t.mp h; have := d_rc_z hW (f := f) (v := w) h3; omega
    | n + 5, h => exact absurd h Bool.false_ne_true
  · have := d_p_le hW f v; show d_p P f v ≤ 24; omega
  · have := d_s_le hW r s; show d_s P r s ≤ 24; omega
theorem d_p_n (f v : Nat) (h : u_nd f v < 183) : d_pt (d_of P) f v = (d_Gx P).1 (u_nd f v) := if_pos h
theorem d_G_of (hW : p_W P) : d_G P (d_of P) := by
  have hz := d_z_le hW
  obtain ⟨o, h1, h2, h3, -, h5⟩ := d_pcs hW
  have hV := h1.2.1
  have hcl := h1.2.2.2.1
  have m24 := hV.2.1
  have nl : ∀ f v, f < p_fu P → v < p_vs P f → u_nd f v < 135 := fun f v hf hv => by
    have := hW.1
    have := hW.2.2.1 f hf
    have := hW.2.1
    simp only [p_vs] at hv
    simp only [u_nd]; omega
  refine ⟨fun f v r s q hf hv h hs hq => d_rn_cl hz (fun q s _ => d_s_le hW q s) (d_p_le hW f v) h hs hq, fun f v r hf hv h => ?_, fun f v g w hf hg hv hw h r => ?_, fun f r hf => d_ou_of, fun f r hf => ?_, fun f i r hf hi => ?_, fun f i r hf hi => ?_, fun f i hf hi => ?_⟩
  · show d_rn (d_s P) 24 (d_p P f v) r = true
    rw [show d_p P f v = r + 1 from h]; exact d_rn_0 24
  · show d_rn (d_s P) 24 (d_p P f v) r = d_rn (d_s P) 24 (d_p P g w) r
    rw [show d_p P f v = d_p P g w from h]
  · rw [d_ow_of, d_owp]
    refine and_congr Iff.rfl ?_
    rw [← d_ou_of]
    exact Bool.eq_false_iff.symm
  · refine d_dec_t.trans ?_
    rw [d_ow_of]; exact Iff.rfl
  · refine d_dec_t.trans ?_
    rw [d_ow_of]; exact Iff.rfl
  · obtain ⟨nx, nv, ng⟩ := u_nodes hW hf hi
    obtain ⟨l1, l2, l3, l4, l5, l6, l7⟩ := h2 f i hf hi
    have hvs := fun k hk => (hW.2.2.2.2 f i hf hi).2.2.2 k hk
    have px : d_pt (d_of P) f (p_pa P f + i) = (d_Gx P).1 (u_xn P f i) := d_p_n _ _ (by have : u_nd f (p_pa P f + i) < 135 := nx; omega)
    have pv : ∀ k, p_us P (p_fi P f + i) k → d_pt (d_of P) f (p_va P (p_fi P f + i) k) = (d_Gx P).1 (u_vn P f i k) := fun k hk => d_p_n _ _ (by have : u_nd f (p_va P (p_fi P f + i) k) < 135 := nv k hk; omega)
    have eq : ∀ n m, n < 183 → m < 183 → (d_U P).1 n = (d_U P).1 m → (d_Gx P).1 n = (d_Gx P).1 m := h3.1
    have hnum : ∀ k v s, k < (u_E 30 false P).2 → s < 2 → v < p_vs P f → (d_U P).1 (o k) = (d_U P).1 (u_nd f v) → ∃ r, (d_Gx P).1 (u_nd f v) = r + 1 ∧ ∀ s, s < 2 → d_sd (d_of P) r s = (d_Gx P).1 (u_sd k s) := fun k v s hk hs hv he => by
      have hn := nl f v hf hv
      have hh := h5 f v hf hv (by rw [← he]; exact hV.2.2.2.2.2 k hk)
      obtain ⟨r, hr⟩ : ∃ r, (d_Gx P).1 (u_nd f v) = r + 1 := ⟨(d_Gx P).1 (u_nd f v) - 1, by omega⟩
      refine ⟨r, hr, fun s hs => ?_⟩
      have hok := hV.2.2.1 k hk
      have hgo : (d_Gx P).1 (o k) = r + 1 := by rw [eq _ _ (by omega) (by omega) he]; exact hr
      have hrz : r < d_z P := by have := h3.2.2.1 (u_nd f v) (by omega); show r < (d_Gx P).2; omega
      show d_s P r s = _
      rw [d_s, if_pos ⟨hrz, hs⟩]
      exact u_sx_k hV hcl h3 hk hs hgo
    refine ⟨fun h => ?_, fun h => ?_, fun h => ?_, fun h => ?_, fun h => ?_, fun h => ⟨fun k hk => ?_, ?_⟩, fun h => ?_⟩
    · have u0 := p_us_0 (P := P) (l := p_fi P f + i) (by omega)
      have := nv 0 u0
      rw [px, pv 0 u0]; exact eq _ _ (by omega) (by omega) (l1 h)
    · have u0 := p_us_0 (P := P) (l := p_fi P f + i) (by omega)
      have u1 := p_us_1 (P := P) (l := p_fi P f + i) (by omega)
      have n0 := nv 0 u0
      have n1 := nv 1 u1
      obtain ⟨k, k1, k2, k3, k4⟩ := l2 h
      obtain ⟨r, r1, r2⟩ := hnum k (p_pa P f + i) 0 k1 (by omega) (by simp only [p_vs]; omega) k2
      refine ⟨r, by rw [px]; exact r1, ?_, ?_⟩
      · rw [r2 0 (by omega), pv 0 u0]; exact eq _ _ (u_sd_lt (by omega) (by omega)) (by omega) k3
      · rw [r2 1 (by omega), pv 1 u1]; exact eq _ _ (u_sd_lt (by omega) (by omega)) (by omega) k4
    · have u0 := p_us_0 (P := P) (l := p_fi P f + i) (by omega)
      obtain ⟨k, k1, k2, k3⟩ := l3 h
      obtain ⟨r, r1, r2⟩ := hnum k (p_va P (p_fi P f + i) 0) 0 k1 (by omega) (by have := hvs 0 u0; simp only [p_vs]; omega) k2
      exact ⟨r, by rw [pv 0 u0]; exact r1, by rw [r2 0 (by omega), px]; exact eq _ _ (u_sd_lt (by omega) (by omega)) (by omega) k3⟩
    · have u0 := p_us_0 (P := P) (l := p_fi P f + i) (by omega)
      obtain ⟨k, k1, k2, k3⟩ := l4 h
      obtain ⟨r, r1, r2⟩ := hnum k (p_va P (p_fi P f + i) 0) 0 k1 (by omega) (by have := hvs 0 u0; simp only [p_vs]; omega) k2
      exact ⟨r, by rw [pv 0 u0]; exact r1, by rw [r2 1 (by omega), px]; exact eq _ _ (u_sd_lt (by omega) (by omega)) (by omega) k3⟩
    · have u1 := p_us_1 (P := P) (l := p_fi P f + i) (by omega)
      have u2 := p_us_2 (P := P) (l := p_fi P f + i) h
      have n1 := nv 1 u1
      have n2 := nv 2 u2
      rw [px, pv 1 u1, pv 2 u2]
      exact ⟨eq _ _ (by omega) (by omega) (l5 h).1, eq _ _ (by omega) (by omega) (l5 h).2⟩
    · have ho : p_op P (p_fi P f + i) = 8 ∨ p_op P (p_fi P f + i) = 9 := by have := (hW.2.2.2.2 f i hf hi).1; omega
      have us := (p_sl_ar (P := P) (l := p_fi P f + i) (v := k) ho hk).2
      have n1 := ng h k (by simp only [p_vs]; omega)
      have n2 := nv _ us
      rw [pv _ us, d_p_n _ _ (by omega)]
      exact eq _ _ (by omega) (by omega) ((l6 h).1 k hk)
    · have hca := (hW.2.2.2.2 f i hf hi).2.2.1 h
      have hp := hW.2.2.1 _ hca
      have n1 := ng h (p_vs P (p_ca P (p_fi P f + i)) - 1) (by simp only [p_vs]; omega)
      rw [px, d_p_n _ _ (by omega)]
      exact eq _ _ (by omega) (by omega) (l6 h).2
    · have u4 := p_us_e (P := P) (l := p_fi P f + i) h
      have n4 := nv 4 u4
      rw [px, pv 4 u4]; exact eq _ _ (by omega) (by omega) (l7 h)
end DB
