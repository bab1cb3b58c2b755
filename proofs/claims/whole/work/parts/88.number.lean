/-! regions have numbers -/
abbrev u_GT : Type := (Nat → Nat) × Nat
def u_nu (U : u2) (n : Nat) (G : u_GT) : u_GT := (fun j => if j < 183 ∧ U.1 j = U.1 n then G.2 + 1 else G.1 j, G.2 + 1)
def u_nr : Nat → u2 → Nat → u_GT → u_GT
  | 0, _, _, G => G
  | d + 1, U, n, G => if U.2 (U.1 n) = 0 then G else if G.1 n ≠ 0 then G else u_nr d U (u_sd (U.2 (U.1 n) - 1) 1) (u_nr d U (u_sd (U.2 (U.1 n) - 1) 0) (u_nu U n G))
def u_nv (d : Nat) (U : u2) (f : Nat) : Nat → Nat → u_GT → u_GT
  | 0, _, G => G
  | c + 1, v, G => u_nv d U f c (v + 1) (u_nr d U (u_nd f v) G)
def u_na (d : Nat) (U : u2) (P : pP) : Nat → Nat → u_GT → u_GT
  | 0, _, G => G
  | c + 1, f, G => u_na d U P c (f + 1) (u_nv d U f (p_vs P f) 0 G)
def u_g0 : u_GT := (fun _ => 0, 0)
def u_NV (mk : Nat) (o : Nat → Nat) (U : u2) (G : u_GT) : Prop :=
  (∀ n m, n < 183 → m < 183 → U.1 n = U.1 m → G.1 n = G.1 m) ∧ (∀ n, n < 183 → U.2 (U.1 n) = 0 → G.1 n = 0) ∧ (∀ n, n < 183 → G.1 n ≤ G.2) ∧ (∀ j, j < G.2 → ∃ k, k < mk ∧ G.1 (o k) = j + 1) ∧ (∀ n m, n < 183 → m < 183 → G.1 n ≠ 0 → G.1 n = G.1 m → U.1 n = U.1 m)
section UI
variable {S T : m_M} {a m p mk : Nat} {P : pP} {U W : u2} {o : Nat → Nat} {G : u_GT} {f i : Nat}
theorem u_NV.le (hm : mk ≤ 24) (h : u_NV mk o U G) : G.2 ≤ mk := by
  refine fb_holes mk G.2 (fun j => if h' : j < G.2 then Classical.choose (h.2.2.2.1 j h') else 0) (fun i hi => ?_) (fun i j hij hj => ?_)
  · show (if h' : i < G.2 then Classical.choose (h.2.2.2.1 i h') else 0) < mk
    rw [dif_pos hi]; exact (Classical.choose_spec (h.2.2.2.1 i hi)).1
  · show (if h' : i < G.2 then Classical.choose (h.2.2.2.1 i h') else 0) ≠ (if h' : j < G.2 then Classical.choose (h.2.2.2.1 j h') else 0)
    rw [dif_pos (by omega : i < G.2), dif_pos hj]
    intro q
    have e1 := (Classical.choose_spec (h.2.2.2.1 i (by omega))).2
    have e2 := (Classical.choose_spec (h.2.2.2.1 j hj)).2
    rw [q, e2] at e1; omega
theorem u_NV.lt (hV : u_V mk o U) (h : u_NV mk o U G) {n : Nat} (hn : n < 183) (hq : U.2 (U.1 n) ≠ 0) (hg : G.1 n = 0) : G.2 < mk := by
  obtain ⟨t1, t2⟩ := hV.1 n hn
  have hk := hV.2.2.2.1 _ t1
  have e := hV.2.2.2.2.1 _ t1 t2 hq
  have ho := hV.2.2.1 (U.2 (U.1 n) - 1) (by omega)
  have hz : G.1 (o (U.2 (U.1 n) - 1)) = 0 := by rw [h.1 _ n (by omega) hn e]; exact hg
  refine fb_holes mk (G.2 + 1) (fun j => if h' : j < G.2 then Classical.choose (h.2.2.2.1 j h') else U.2 (U.1 n) - 1) (fun i hi => ?_) (fun i j hij hj => ?_)
  · show (if h' : i < G.2 then Classical.choose (h.2.2.2.1 i h') else U.2 (U.1 n) - 1) < mk
    by_cases hi2 : i < G.2
    · rw [dif_pos hi2]; exact (Classical.choose_spec (h.2.2.2.1 i hi2)).1
    · rw [dif_neg hi2]; omega
  · show (if h' : i < G.2 then Classical.choose (h.2.2.2.1 i h') else U.2 (U.1 n) - 1) ≠ (if h' : j < G.2 then Classical.choose (h.2.2.2.1 j h') else U.2 (U.1 n) - 1)
    rw [dif_pos (by omega : i < G.2)]
    have e1 := (Classical.choose_spec (h.2.2.2.1 i (by omega))).2
    by_cases hj2 : j < G.2
    · rw [dif_pos hj2]
      intro q
      have e2 := (Classical.choose_spec (h.2.2.2.1 j hj2)).2
      rw [q, e2] at e1; omega
    · rw [dif_neg hj2]
      intro q
      rw [q, hz] at e1; omega
theorem u_nu_1 {n j : Nat} (hj : j < 183) : (u_nu U n G).1 j = if U.1 j = U.1 n then G.2 + 1 else G.1 j := by
  show (if j < 183 ∧ U.1 j = U.1 n then G.2 + 1 else G.1 j) = _
  by_cases h : U.1 j = U.1 n
  · rw [if_pos ⟨hj, h⟩, if_pos h]
  · rw [if_neg (fun q => h q.2), if_neg h]
theorem u_nu_NV (hV : u_V mk o U) (h : u_NV mk o U G) {n : Nat} (hn : n < 183) (hq : U.2 (U.1 n) ≠ 0) (hg : G.1 n = 0) : u_NV mk o U (u_nu U n G) ∧ ∀ j, j < 183 → G.1 j ≠ 0 → (u_nu U n G).1 j = G.1 j := by
  obtain ⟨t1, t2⟩ := hV.1 n hn
  have hk := hV.2.2.2.1 _ t1
  have e := hV.2.2.2.2.1 _ t1 t2 hq
  have ho := hV.2.2.1 (U.2 (U.1 n) - 1) (by omega)
  have hkeep : ∀ j, j < 183 → G.1 j ≠ 0 → (u_nu U n G).1 j = G.1 j := fun j hj hgj => by
    rw [u_nu_1 hj, if_neg]
    intro q; rw [h.1 j n hj hn q] at hgj; exact hgj hg
  refine ⟨⟨fun a b ha hb hab => ?_, fun a ha hz => ?_, fun a ha => ?_, fun j hj => ?_, fun a b ha hb hga hab => ?_⟩, hkeep⟩
  · rw [u_nu_1 ha, u_nu_1 hb, hab, h.1 a b ha hb hab]
  · rw [u_nu_1 ha, if_neg (fun q => hq (by rw [← q]; exact hz))]; exact h.2.1 a ha hz
  · rw [u_nu_1 ha]
    show _ ≤ G.2 + 1
    have := h.2.2.1 a ha
    split <;> omega
  · have hj : j < G.2 + 1 := hj
    by_cases hjc : j = G.2
    · exact ⟨U.2 (U.1 n) - 1, by omega, by rw [u_nu_1 (by omega), if_pos (by rw [e]), hjc]⟩
    · obtain ⟨k, k1, k2⟩ := h.2.2.2.1 j (by omega)
      exact ⟨k, k1, by rw [hkeep _ (by have := hV.2.2.1 k k1; omega) (by omega)]; exact k2⟩
  · rw [u_nu_1 ha] at hga hab
    rw [u_nu_1 hb] at hab
    have l1 := h.2.2.1 a ha
    have l2 := h.2.2.1 b hb
    by_cases h1 : U.1 a = U.1 n
    · rw [if_pos h1] at hab
      by_cases h2 : U.1 b = U.1 n
      · rw [h1, h2]
      · rw [if_neg h2] at hab; omega
    · rw [if_neg h1] at hab hga
      by_cases h2 : U.1 b = U.1 n
      · rw [if_pos h2] at hab; omega
      · rw [if_neg h2] at hab; exact h.2.2.2.2 a b ha hb hga hab
theorem u_nr_ok (hV : u_V mk o U) : ∀ (d n : Nat) (G : u_GT), 24 < d + G.2 → n < 183 → u_NV mk o U G →
    u_NV mk o U (u_nr d U n G) ∧ G.2 ≤ (u_nr d U n G).2 ∧ (∀ j, j < 183 → G.1 j ≠ 0 → (u_nr d U n G).1 j = G.1 j) ∧ (U.2 (U.1 n) ≠ 0 → (u_nr d U n G).1 n ≠ 0) := by
  have m24 := hV.2.1
  intro d
  induction d with
  | zero => intro n G hd _ h; have := h.le m24; omega
  | succ d ih =>
    intro n G hd hn h
    rw [u_nr]
    by_cases hq : U.2 (U.1 n) = 0
    · rw [if_pos hq]; exact ⟨h, Nat.le_refl _, fun _ _ _ => rfl, fun q => absurd hq q⟩
    · rw [if_neg hq]
      by_cases hg : G.1 n = 0
      · rw [if_neg (fun q => q hg)]
        obtain ⟨n1, n2⟩ := u_nu_NV hV h hn hq hg
        have t1 := (hV.1 n hn).1
        have hk := hV.2.2.2.1 _ t1
        obtain ⟨a1, a2, a3, a4⟩ := ih (u_sd (U.2 (U.1 n) - 1) 0) (u_nu U n G) (by show 24 < d + (G.2 + 1); omega) (u_sd_lt (by omega) (by omega)) n1
        have e2 : (u_nu U n G).2 = G.2 + 1 := rfl
        obtain ⟨b1, b2, b3, b4⟩ := ih (u_sd (U.2 (U.1 n) - 1) 1) _ (by omega) (u_sd_lt (by omega) (by omega)) a1
        have hnn : (u_nu U n G).1 n ≠ 0 := by rw [u_nu_1 hn, if_pos rfl]; omega
        refine ⟨b1, by omega, fun j hj hgj => ?_, fun _ => ?_⟩
        · have g1 := n2 j hj hgj
          have g2 := a3 j hj (by rw [g1]; exact hgj)
          rw [b3 j hj (by rw [g2, g1]; exact hgj), g2, g1]
        · have g2 := a3 n hn hnn
          rw [b3 n hn (by rw [g2]; exact hnn), g2]; exact hnn
      · rw [if_pos hg]; exact ⟨h, Nat.le_refl _, fun _ _ _ => rfl, fun _ => hg⟩
theorem u_nr_sim (hS : u_Sim mk o U W) : ∀ (d e n n' : Nat) (G : u_GT), 24 < d + G.2 → 24 < e + G.2 → n < 183 → n' < 183 → U.1 n = U.1 n' → u_NV mk o U G → u_nr d U n G = u_nr e W n' G := by
  have hV := hS.1
  have hVW := hS.2.1
  have m24 := hV.2.1
  intro d
  induction d with
  | zero => intro e n n' G hd _ _ _ _ h; have := h.le m24; omega
  | succ d ih =>
    intro e n n' G hd he hn hn' hnn h
    obtain ⟨e, rfl⟩ : ∃ f, e = f + 1 := ⟨e - 1, by have := h.le m24; omega⟩
    have hW' : W.1 n = W.1 n' := (hS.2.2.2.2 n n' hn hn').mp hnn
    rw [u_nr, u_nr]
    by_cases hq : U.2 (U.1 n) = 0
    · have hqW : W.2 (W.1 n') = 0 := by
        refine Classical.byContradiction fun q => ?_
        have := (hS.sym.has hn' q).1
        rw [← hnn] at this; exact this hq
      rw [if_pos hq, if_pos hqW]
    · obtain ⟨hw1, hw2⟩ := hS.has hn hq
      rw [hW'] at hw1 hw2
      rw [if_neg hq, if_neg hw1, ← h.1 n n' hn hn' hnn]
      by_cases hg : G.1 n = 0
      · rw [if_neg (fun q => q hg), if_neg (fun q => q hg)]
        obtain ⟨n1, n2⟩ := u_nu_NV hV h hn hq hg
        have hk := hV.2.2.2.1 _ (hV.1 n hn).1
        have hkW := hVW.2.2.2.1 _ (hVW.1 n' hn').1
        have enu : u_nu W n' G = u_nu U n G := by
          have : (fun j => if j < 183 ∧ W.1 j = W.1 n' then G.2 + 1 else G.1 j) = fun j => if j < 183 ∧ U.1 j = U.1 n then G.2 + 1 else G.1 j := by
            funext j
            by_cases hj : j < 183
            · by_cases hjn : U.1 j = U.1 n
              · rw [if_pos ⟨hj, (hS.2.2.2.2 j n' hj hn').mp (hjn.trans hnn)⟩, if_pos ⟨hj, hjn⟩]
              · rw [if_neg (fun q => hjn (((hS.2.2.2.2 j n' hj hn').mpr q.2).trans hnn.symm)), if_neg (fun q => hjn q.2)]
            · rw [if_neg (fun q => hj q.1), if_neg (fun q => hj q.1)]
          simp only [u_nu, this]
        rw [enu]
        have e2 : (u_nu U n G).2 = G.2 + 1 := rfl
        have s0 := u_sd_lt (k := U.2 (U.1 n) - 1) (s := 0) (by omega) (by omega)
        have s1 := u_sd_lt (k := U.2 (U.1 n) - 1) (s := 1) (by omega) (by omega)
        have w0 := u_sd_lt (k := W.2 (W.1 n') - 1) (s := 0) (by omega) (by omega)
        have w1 := u_sd_lt (k := W.2 (W.1 n') - 1) (s := 1) (by omega) (by omega)
        rw [← ih e (u_sd (U.2 (U.1 n) - 1) 0) (u_sd (W.2 (W.1 n') - 1) 0) (u_nu U n G) (by omega) (by omega) s0 w0 ((hS.2.2.2.2 _ _ s0 w0).mpr (hw2 0 (by omega))) n1]
        obtain ⟨a1, a2, a3, a4⟩ := u_nr_ok hV d (u_sd (U.2 (U.1 n) - 1) 0) (u_nu U n G) (by omega) s0 n1
        exact ih e _ _ _ (by omega) (by omega) s1 w1 ((hS.2.2.2.2 _ _ s1 w1).mpr (hw2 1 (by omega))) a1
      · rw [if_pos hg, if_pos hg]
theorem u_g0_NV : u_NV mk o U u_g0 := ⟨fun _ _ _ _ _ => rfl, fun _ _ _ => rfl, fun _ _ => Nat.le_refl _, fun j hj => absurd hj (Nat.not_lt_zero j), fun _ _ _ _ h => absurd rfl h⟩
theorem u_nv_ok {d e : Nat} (hS : u_Sim mk o U W) (hd : 24 < d) (he : 24 < e) (hf : f < 5) : ∀ (c v : Nat) (G : u_GT), v + c ≤ 27 → u_NV mk o U G →
    u_nv d U f c v G = u_nv e W f c v G ∧ u_NV mk o U (u_nv d U f c v G) ∧ (∀ j, j < 183 → G.1 j ≠ 0 → (u_nv d U f c v G).1 j = G.1 j) ∧ ∀ w, v ≤ w → w < v + c → U.2 (U.1 (u_nd f w)) ≠ 0 → (u_nv d U f c v G).1 (u_nd f w) ≠ 0 := by
  intro c
  induction c with
  | zero => intro v G _ h; exact ⟨rfl, h, fun _ _ _ => rfl, fun w h1 h2 => by omega⟩
  | succ c ih =>
    intro v G hv h
    have hn : u_nd f v < 183 := by simp only [u_nd]; omega
    obtain ⟨a1, a2, a3, a4⟩ := u_nr_ok hS.1 d (u_nd f v) G (by omega) hn h
    have es := u_nr_sim hS d e (u_nd f v) (u_nd f v) G (by omega) (by omega) hn hn rfl h
    obtain ⟨i1, i2, i3, i4⟩ := ih (v + 1) _ (by omega) a1
    refine ⟨?_, i2, fun j hj hg => ?_, fun w h1 h2 hq => ?_⟩
    · show u_nv d U f c (v + 1) _ = u_nv e W f c (v + 1) _
      rw [← es]; exact i1
    · have := a3 j hj hg
      exact (i3 j hj (by rw [this]; exact hg)).trans this
    · by_cases hw : w = v
      · rw [hw] at hq ⊢
        have := i3 _ hn (a4 hq)
        intro q
        exact a4 hq (this.symm.trans q)
      · exact i4 w (by omega) (by omega) hq
theorem u_na_ok {d e : Nat} (hS : u_Sim mk o U W) (hd : 24 < d) (he : 24 < e) (hW : p_W P) : ∀ (c f : Nat) (G : u_GT), f + c = p_fu P → u_NV mk o U G →
    u_na d U P c f G = u_na e W P c f G ∧ u_NV mk o U (u_na d U P c f G) ∧ (∀ j, j < 183 → G.1 j ≠ 0 → (u_na d U P c f G).1 j = G.1 j) ∧ ∀ g w, f ≤ g → g < p_fu P → w < p_vs P g → U.2 (U.1 (u_nd g w)) ≠ 0 → (u_na d U P c f G).1 (u_nd g w) ≠ 0 := by
  have h5 := hW.1
  have h24 := hW.2.1
  intro c
  induction c with
  | zero => intro f G hf h; exact ⟨rfl, h, fun _ _ _ => rfl, fun g w h1 h2 => by omega⟩
  | succ c ih =>
    intro f G hf h
    have hp := hW.2.2.1 f (by omega)
    have hvs : p_vs P f ≤ 27 := by simp only [p_vs]; omega
    obtain ⟨a1, a2, a3, a4⟩ := u_nv_ok (f := f) hS hd he (by omega) (p_vs P f) 0 G (by omega) h
    obtain ⟨i1, i2, i3, i4⟩ := ih (f + 1) _ (by omega) a2
    refine ⟨?_, i2, fun j hj hg => ?_, fun g w h1 h2 h3 hq => ?_⟩
    · show u_na d U P c (f + 1) _ = u_na e W P c (f + 1) _
      rw [← a1]; exact i1
    · have := a3 j hj hg
      exact (i3 j hj (by rw [this]; exact hg)).trans this
    · by_cases hg : g = f
      · rw [hg] at hq h3 ⊢
        have hn : u_nd f w < 183 := by simp only [u_nd]; omega
        have hh := a4 w (by omega) (by omega) hq
        have := i3 _ hn hh
        intro q
        exact hh (this.symm.trans q)
      · exact i4 g w (by omega) h2 h3 hq
/-! the one side -/
def u_Q1 (S : m_M) (a p : Nat) (U : u2) (G : u_GT) : Prop := (∀ n, n < 183 → m_ri S (a + 4) n = nO (if U.1 n = n then G.1 n else 0)) ∧ m_ri S (p + 8) 0 = nI G.2
def u_O1 (a p : Nat) (S S' : m_M) : Prop := (∀ q, q ≠ a + 4 → q ≠ p + 8 → m_ri S' q = m_ri S q) ∧ (∀ j, j ≠ 0 → m_ri S' (p + 8) j = m_ri S (p + 8) j) ∧ m_rj S' = m_rj S ∧ m_rr S' = m_rr S
theorem u_O1.rf : u_O1 a p S S := ⟨fun _ _ _ => rfl, fun _ _ => rfl, rfl, rfl⟩
theorem u_O1.tr {S' S'' : m_M} (h : u_O1 a p S S') (h' : u_O1 a p S' S'') : u_O1 a p S S'' := ⟨fun q h1 h2 => (h'.1 q h1 h2).trans (h.1 q h1 h2), fun j hj => (h'.2.1 j hj).trans (h.2.1 j hj), h'.2.2.1.trans h.2.2.1, h'.2.2.2.trans h.2.2.2⟩
theorem u_R1.kep {S' : m_M} (h : u_R1 S a U mk) (hap : p + 22 ≤ a ∨ a + 5 ≤ p) (w : u_O1 a p S S') : u_R1 S' a U mk := by
  simp only [u_R1, w.1 a (by omega) (by omega), w.1 (a + 1) (by omega) (by omega), w.1 (a + 2) (by omega) (by omega), w.1 (a + 3) (by omega) (by omega)]
  exact h
theorem p_R.kep1 {S' : m_M} (h : p_R S p P) (hap : p + 22 ≤ a ∨ a + 5 ≤ p) (w : u_O1 a p S S') : p_R S' p P := by
  simp only [p_R, w.1 p (by omega) (by omega), w.1 (p + 2) (by omega) (by omega), w.1 (p + 3) (by omega) (by omega), w.1 (p + 4) (by omega) (by omega), w.1 (p + 5) (by omega) (by omega), w.1 (p + 6) (by omega) (by omega), w.1 (p + 7) (by omega) (by omega)]
  exact h
theorem k_num (hV : u_V mk o U) (hap : p + 22 ≤ a ∨ a + 5 ≤ p) : ∀ (d n i3 : Nat) (S : m_M) (G : u_GT), 24 < d + G.2 → i3 ≤ G.2 → n < 183 → u_NV mk o U G → u_R1 S a U mk → u_Q1 S a p U G →
    ∃ S', f_X5_numberFrom d a (p + 8) S (nI n) (nI i3) = some S' ∧ u_Q1 S' a p U (u_nr d U n G) ∧ u_O1 a p S S' := by
  have m24 := hV.2.1
  intro d
  induction d with
  | zero => intro n i3 S G hd _ _ h; have := h.le m24; omega
  | succ d ih =>
    intro n i3 S G hd h3 hn h hR hQ
    have hle := h.le m24
    have ri := k_rootOf hR.1 hn
    obtain ⟨t1, t2⟩ := hV.1 n hn
    obtain ⟨lx, rx⟩ := hR.2.1 _ t1
    have hk := hV.2.2.2.1 _ t1
    have hq4 := hQ.1 _ t1
    rw [if_pos t2, h.1 _ n t1 hn t2] at hq4
    have hgl := h.2.2.1 n hn
    rw [u_nr]
    by_cases hq : U.2 (U.1 n) = 0
    · rw [if_pos hq]
      rw [hq] at lx
      have lx : m_ri S (a + 2) (U.1 n) = m_no := lx
      refine ⟨S, ?_, hQ, u_O1.rf⟩
      rw [f_X5_numberFrom, g_X5_numberFrom]
      simp (disch := omega) only [e_let, e_call, e_cal0, e_bind, e_lit, e_ofN, e_neg, nI_add, pk_mul, e_sub, e_ldi, e_sti, e_ldj, e_stj, e_le_t, e_le_f, e_lt_t, e_lt_f, e_eq_t, e_eq_f, e_no_eq, e_no_eq', e_no_rfl, e_no_lt, e_no_le, e_le_no, e_lt_no, if_true, if_false, ↓reduceIte, e_rs, e_rq, e_rn, e_ji, e_ki, e_ij, e_kj, e_js, e_jq, e_jn, e_cs, e_cq, e_jc, e_kc, e_js', e_jcq, e_icj, e_kcj, or_true, true_or, or_false, false_or, and_true, true_and, not_true_eq_false, not_false_eq_true, ri, lx, b_X5_numberFrom_29]
    · rw [if_neg hq]
      rw [u_ln_p hq] at lx rx
      have s0 := u_sd_lt (k := U.2 (U.1 n) - 1) (s := 0) (by omega) (by omega)
      have s1 := u_sd_lt (k := U.2 (U.1 n) - 1) (s := 1) (by omega) (by omega)
      by_cases hg : G.1 n = 0
      · rw [if_neg (fun q => q hg)]
        rw [hg] at hq4
        have hq4 : m_ri S (a + 4) (U.1 n) = m_no := hq4
        have hlt := h.lt hV hn hq hg
        have hz := hQ.2
        obtain ⟨n1, n2⟩ := u_nu_NV hV h hn hq hg
        have hO : u_O1 a p S (m_si (m_si S (a + 4) (U.1 n) (nI G.2)) (p + 8) 0 (nI (G.2 + 1))) := ⟨fun q h1 h2 => by rw [e_rq h2, e_rq h1], fun j hj => by rw [e_rn hj, e_rq (by omega)], rfl, rfl⟩
        have hQ1 : u_Q1 (m_si (m_si S (a + 4) (U.1 n) (nI G.2)) (p + 8) 0 (nI (G.2 + 1))) a p U (u_nu U n G) := by
          refine ⟨fun j hj => ?_, e_rs⟩
          rw [e_rq (by omega), e_rif, u_nu_1 hj]
          by_cases hjn : j = U.1 n
          · rw [if_pos hjn, hjn, if_pos t2, if_pos (by rw [t2])]; rfl
          · rw [if_neg hjn, hQ.1 j hj]
            by_cases hr : U.1 j = j
            · rw [if_pos hr, if_pos hr, if_neg (fun q => hjn (hr.symm.trans q))]
            · rw [if_neg hr, if_neg hr]
        have e2 : (u_nu U n G).2 = G.2 + 1 := rfl
        obtain ⟨S1, f1, f2, f3⟩ := ih (u_sd (U.2 (U.1 n) - 1) 0) (i3 + 1) _ (u_nu U n G) (by omega) (by omega) s0 n1 (hR.kep hap hO) hQ1
        obtain ⟨a1, a2, a3, a4⟩ := u_nr_ok hV d (u_sd (U.2 (U.1 n) - 1) 0) (u_nu U n G) (by omega) s0 n1
        have hR1 := (hR.kep hap hO).kep hap f3
        have rx1 := (hR1.2.1 _ t1).2
        rw [u_ln_p hq] at rx1
        obtain ⟨S2, g1, g2, g3⟩ := ih (u_sd (U.2 (U.1 n) - 1) 1) (i3 + 1) S1 _ (by omega) (by omega) s1 a1 hR1 f2
        refine ⟨S2, ?_, g2, (hO.tr f3).tr g3⟩
        have hpa : p + 8 ≠ a + 4 ∧ a + 4 ≠ p + 8 ∧ a + 2 ≠ p + 8 := by omega
        rw [f_X5_numberFrom, g_X5_numberFrom]
        simp (disch := omega) only [e_let, e_call, e_cal0, e_bind, e_lit, e_ofN, e_neg, nI_add, pk_mul, e_sub, e_ldi, e_sti, e_ldj, e_stj, e_le_t, e_le_f, e_lt_t, e_lt_f, e_eq_t, e_eq_f, e_no_eq, e_no_eq', e_no_rfl, e_no_lt, e_no_le, e_le_no, e_lt_no, if_true, if_false, ↓reduceIte, e_rs, e_rq, e_rn, e_ji, e_ki, e_ij, e_kj, e_js, e_jq, e_jn, e_cs, e_cq, e_jc, e_kc, e_js', e_jcq, e_icj, e_kcj, or_true, true_or, or_false, false_or, and_true, true_and, not_true_eq_false, not_false_eq_true, ri, lx, hq4, hz, e_rq hpa.1, e_rq hpa.2.2, f1, rx1, g1, b_X5_numberFrom_45, b_X5_numberFrom_29]
      · rw [if_pos hg]
        rw [nO_pos (by omega)] at hq4
        refine ⟨S, ?_, hQ, u_O1.rf⟩
        rw [f_X5_numberFrom, g_X5_numberFrom]
        simp (disch := omega) only [e_let, e_call, e_cal0, e_bind, e_lit, e_ofN, e_neg, nI_add, pk_mul, e_sub, e_ldi, e_sti, e_ldj, e_stj, e_le_t, e_le_f, e_lt_t, e_lt_f, e_eq_t, e_eq_f, e_no_eq, e_no_eq', e_no_rfl, e_no_lt, e_no_le, e_le_no, e_lt_no, if_true, if_false, ↓reduceIte, e_rs, e_rq, e_rn, e_ji, e_ki, e_ij, e_kj, e_js, e_jq, e_jn, e_cs, e_cq, e_jc, e_kc, e_js', e_jcq, e_icj, e_kcj, or_true, true_or, or_false, false_or, and_true, true_and, not_true_eq_false, not_false_eq_true, ri, lx, hq4, b_X5_numberFrom_29]
/-! the other side -/
def u_Q2 (T : m_M) (m mk : Nat) (o : Nat → Nat) (U : u2) (G : u_GT) : Prop := (∀ k, k < 24 → m_ri T (m + 14) k = nO (if k < mk ∧ U.2 (U.1 (o k)) = k + 1 then G.1 (o k) else 0)) ∧ m_ri T (m + 2) 2 = nI G.2
def u_O2 (m : Nat) (T T' : m_M) : Prop := (∀ q, q ≠ m + 14 → q ≠ m + 2 → m_ri T' q = m_ri T q) ∧ (∀ j, j ≠ 2 → m_ri T' (m + 2) j = m_ri T (m + 2) j) ∧ m_rj T' = m_rj T ∧ m_rr T' = m_rr T
theorem u_O2.rf : u_O2 m T T := ⟨fun _ _ _ => rfl, fun _ _ => rfl, rfl, rfl⟩
theorem u_O2.tr {T' T'' : m_M} (h : u_O2 m T T') (h' : u_O2 m T' T'') : u_O2 m T T'' := ⟨fun q h1 h2 => (h'.1 q h1 h2).trans (h.1 q h1 h2), fun j hj => (h'.2.1 j hj).trans (h.2.1 j hj), h'.2.2.1.trans h.2.2.1, h'.2.2.2.trans h.2.2.2⟩
theorem u_R2.kep {T' : m_M} (h : u_R2 T m U mk) (w : u_O2 m T T') : u_R2 T' m U mk := by
  simp only [u_R2, w.1 m (by omega) (by omega), w.1 (m + 12) (by omega) (by omega), w.1 (m + 13) (by omega) (by omega)]
  exact h
theorem r_P.kep2 {T' : m_M} (h : r_P (m_ri T (m + 2)) P) (hW : p_W P) (w : ∀ j, j ≠ 2 → m_ri T' (m + 2) j = m_ri T (m + 2) j) : r_P (m_ri T' (m + 2)) P := by
  obtain ⟨h1, h2, h3, h4⟩ := h
  obtain ⟨w1, w2, w3, w4, w5⟩ := hW
  refine ⟨by rw [w 0 (by omega)]; exact h1, by rw [w 1 (by omega)]; exact h2, fun f hf => ?_, fun f i hf hi => ?_⟩
  · rw [w _ (by omega), w _ (by omega), w _ (by omega)]; exact h3 f hf
  · have := w3 f hf
    obtain ⟨g1, g2, g3, g4⟩ := h4 f i hf hi
    refine ⟨by rw [w _ (by omega)]; exact g1, fun h => by rw [w _ (by omega)]; exact g2 h, fun h => by rw [w _ (by omega)]; exact g3 h, fun k hk => ?_⟩
    rw [w _ (by omega)]; exact g4 k hk
theorem j_num (hV : u_V mk o U) : ∀ (d n : Nat) (T : m_M) (G : u_GT), 24 < d + G.2 → n < 183 → u_NV mk o U G → u_R2 T m U mk → u_Q2 T m mk o U G →
    ∃ T', f_X12_numberFrom d m T (nI n) = some T' ∧ u_Q2 T' m mk o U (u_nr d U n G) ∧ u_O2 m T T' := by
  have m24 := hV.2.1
  intro d
  induction d with
  | zero => intro n T G hd _ h; have := h.le m24; omega
  | succ d ih =>
    intro n T G hd hn h hR hQ
    have hle := h.le m24
    have ri := j_topOf hR.1 hn
    obtain ⟨t1, t2⟩ := hV.1 n hn
    have lx := hR.2.1 _ t1
    have hk := hV.2.2.2.1 _ t1
    have hgl := h.2.2.1 n hn
    rw [u_nr]
    by_cases hq : U.2 (U.1 n) = 0
    · rw [if_pos hq]
      rw [hq] at lx
      have lx : m_ri T (m + 13) (U.1 n) = m_no := lx
      refine ⟨T, ?_, hQ, u_O2.rf⟩
      rw [f_X12_numberFrom, g_X12_numberFrom]
      simp (disch := omega) only [e_let, e_call, e_cal0, e_bind, e_lit, e_ofN, e_neg, nI_add, pk_mul, e_sub, e_ldi, e_sti, e_ldj, e_stj, e_le_t, e_le_f, e_lt_t, e_lt_f, e_eq_t, e_eq_f, e_no_eq, e_no_eq', e_no_rfl, e_no_lt, e_no_le, e_le_no, e_lt_no, if_true, if_false, ↓reduceIte, e_rs, e_rq, e_rn, e_ji, e_ki, e_ij, e_kj, e_js, e_jq, e_jn, e_cs, e_cq, e_jc, e_kc, e_js', e_jcq, e_icj, e_kcj, or_true, true_or, or_false, false_or, and_true, true_and, not_true_eq_false, not_false_eq_true, ri, lx, b_X12_numberFrom_26]
    · rw [if_neg hq]
      rw [nO_pos (by omega)] at lx
      have s0 := u_sd_lt (k := U.2 (U.1 n) - 1) (s := 0) (by omega) (by omega)
      have s1 := u_sd_lt (k := U.2 (U.1 n) - 1) (s := 1) (by omega) (by omega)
      have ho := hV.2.2.2.2.1 _ t1 t2 hq
      have ho2 := hV.2.2.1 (U.2 (U.1 n) - 1) (by omega)
      have hq4 := hQ.1 (U.2 (U.1 n) - 1) (by omega)
      rw [if_pos ⟨by omega, by rw [ho]; omega⟩, h.1 _ n (by omega) hn ho] at hq4
      have hz := hQ.2
      by_cases hg : G.1 n = 0
      · rw [if_neg (fun q => q hg)]
        rw [hg] at hq4
        have hq4 : m_ri T (m + 14) (U.2 (U.1 n) - 1) = m_no := hq4
        obtain ⟨n1, n2⟩ := u_nu_NV hV h hn hq hg
        have hO : u_O2 m T (m_si (m_si T (m + 14) (U.2 (U.1 n) - 1) (nI G.2)) (m + 2) 2 (nI (G.2 + 1))) := ⟨fun q h1 h2 => by rw [e_rq h2, e_rq h1], fun j hj => by rw [e_rn hj, e_rq (by omega)], rfl, rfl⟩
        have hQ1 : u_Q2 (m_si (m_si T (m + 14) (U.2 (U.1 n) - 1) (nI G.2)) (m + 2) 2 (nI (G.2 + 1))) m mk o U (u_nu U n G) := by
          refine ⟨fun k hk24 => ?_, e_rs⟩
          rw [e_rq (by omega), e_rif]
          by_cases hkk : k = U.2 (U.1 n) - 1
          · rw [if_pos hkk, hkk, if_pos ⟨by omega, by rw [ho]; omega⟩, u_nu_1 (by omega), if_pos ho]; rfl
          · rw [if_neg hkk, hQ.1 k hk24]
            by_cases hc : k < mk ∧ U.2 (U.1 (o k)) = k + 1
            · rw [if_pos hc, if_pos hc, u_nu_1 (by have := hV.2.2.1 k hc.1; omega), if_neg (fun q => hkk (by have := hc.2; rw [q] at this; omega))]
            · rw [if_neg hc, if_neg hc]
        have e2 : (u_nu U n G).2 = G.2 + 1 := rfl
        obtain ⟨S1, f1, f2, f3⟩ := ih (u_sd (U.2 (U.1 n) - 1) 0) _ (u_nu U n G) (by omega) s0 n1 (hR.kep hO) hQ1
        obtain ⟨a1, a2, a3, a4⟩ := u_nr_ok hV d (u_sd (U.2 (U.1 n) - 1) 0) (u_nu U n G) (by omega) s0 n1
        obtain ⟨S2, g1, g2, g3⟩ := ih (u_sd (U.2 (U.1 n) - 1) 1) S1 _ (by omega) s1 a1 ((hR.kep hO).kep f3) f2
        refine ⟨S2, ?_, g2, (hO.tr f3).tr g3⟩
        rw [f_X12_numberFrom, g_X12_numberFrom]
        rw [u_sd] at f1 g1
        simp (disch := omega) only [e_let, e_call, e_cal0, e_bind, e_lit, e_ofN, e_neg, nI_add, pk_mul, e_sub, e_ldi, e_sti, e_ldj, e_stj, e_le_t, e_le_f, e_lt_t, e_lt_f, e_eq_t, e_eq_f, e_no_eq, e_no_eq', e_no_rfl, e_no_lt, e_no_le, e_le_no, e_lt_no, if_true, if_false, ↓reduceIte, e_rs, e_rq, e_rn, e_ji, e_ki, e_ij, e_kj, e_js, e_jq, e_jn, e_cs, e_cq, e_jc, e_kc, e_js', e_jcq, e_icj, e_kcj, or_true, true_or, or_false, false_or, and_true, true_and, not_true_eq_false, not_false_eq_true, ri, lx, hq4, hz, f_X12_sideNode, f1, g1]
      · rw [if_pos hg]
        rw [nO_pos (by omega)] at hq4
        refine ⟨T, ?_, hQ, u_O2.rf⟩
        rw [f_X12_numberFrom, g_X12_numberFrom]
        simp (disch := omega) only [e_let, e_call, e_cal0, e_bind, e_lit, e_ofN, e_neg, nI_add, pk_mul, e_sub, e_ldi, e_sti, e_ldj, e_stj, e_le_t, e_le_f, e_lt_t, e_lt_f, e_eq_t, e_eq_f, e_no_eq, e_no_eq', e_no_rfl, e_no_lt, e_no_le, e_le_no, e_lt_no, if_true, if_false, ↓reduceIte, e_rs, e_rq, e_rn, e_ji, e_ki, e_ij, e_kj, e_js, e_jq, e_jn, e_cs, e_cq, e_jc, e_kc, e_js', e_jcq, e_icj, e_kcj, or_true, true_or, or_false, false_or, and_true, true_and, not_true_eq_false, not_false_eq_true, ri, lx, hq4, b_X12_numberFrom_26]
end UI
