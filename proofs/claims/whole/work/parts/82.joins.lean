/-! what is joined: the least that must be the same -/
abbrev u2 : Type := (Nat → Nat) × (Nat → Nat)
def u_sd (k s : Nat) : Nat := 135 + 2 * k + s
def u_mg (t : Nat → Nat) (x y : Nat) : Nat → Nat := fun n => if t n = y then x else t n
def u_jn : Nat → u2 → Nat → Nat → u2
  | 0, U, _, _ => U
  | d + 1, U, a, b =>
    if U.1 a = U.1 b then U
    else if U.2 (U.1 a) = 0 then (u_mg U.1 (U.1 a) (U.1 b), va_up U.2 (U.1 a) (U.2 (U.1 b)))
    else if U.2 (U.1 b) = 0 then (u_mg U.1 (U.1 a) (U.1 b), U.2)
    else u_jn d (u_jn d (u_mg U.1 (U.1 a) (U.1 b), U.2) (u_sd (U.2 (U.1 a) - 1) 0) (u_sd (U.2 (U.1 b) - 1) 0)) (u_sd (U.2 (U.1 a) - 1) 1) (u_sd (U.2 (U.1 b) - 1) 1)
def u_p (U : u2) (n : Nat) : Bool := decide (U.1 n = n ∧ U.2 n ≠ 0)
def u_c (U : u2) : Nat := fb_ct (u_p U) 183
def u_V (mk : Nat) (o : Nat → Nat) (U : u2) : Prop :=
  (∀ n, n < 183 → U.1 n < 183 ∧ U.1 (U.1 n) = U.1 n) ∧ mk ≤ 24 ∧ (∀ k, k < mk → o k < 135) ∧ (∀ n, n < 183 → U.2 n ≤ mk) ∧ (∀ n, n < 183 → U.1 n = n → U.2 n ≠ 0 → U.1 (o (U.2 n - 1)) = n) ∧ (∀ k, k < mk → U.2 (U.1 (o k)) ≠ 0)
def u_cl (o : Nat → Nat) (U : u2) (k : Nat) : Prop := ∀ s, s < 2 → U.1 (u_sd k s) = U.1 (u_sd (U.2 (U.1 (o k)) - 1) s)
def u_Cg (mk : Nat) (o : Nat → Nat) (F : Nat → Nat → Prop) : Prop := (∀ n, F n n) ∧ (∀ n m, F n m → F m n) ∧ (∀ n m l, F n m → F m l → F n l) ∧ ∀ k j, k < mk → j < mk → F (o k) (o j) → ∀ s, s < 2 → F (u_sd k s) (u_sd j s)
section UC
variable {mk : Nat} {o : Nat → Nat} {U : u2} {x y : Nat}
theorem u_mg_f {t : Nat → Nat} {n m : Nat} (h : t n = t m) : u_mg t x y n = u_mg t x y m := by simp only [u_mg]; rw [h]
theorem u_mg_y {t : Nat → Nat} {n : Nat} (h : t n = y) : u_mg t x y n = x := if_pos h
theorem u_mg_n {t : Nat → Nat} {n : Nat} (h : t n ≠ y) : u_mg t x y n = t n := if_neg h
theorem u_mg_rt {t : Nat → Nat} {n : Nat} (hxy : x ≠ y) (tx : t x = x) : u_mg t x y n = n ↔ t n = n ∧ n ≠ y := by
  by_cases h : t n = y
  · rw [u_mg_y h]
    constructor
    · intro q; rw [← q, tx] at h; exact absurd h hxy
    · rintro ⟨q1, q2⟩; exact absurd (q1.symm.trans h) q2
  · rw [u_mg_n h]
    exact ⟨fun q => ⟨q, fun e => h (q.trans e)⟩, fun q => q.1⟩
theorem u_mg_V (hV : u_V mk o U) (hx : x < 183) (hy : y < 183) (tx : U.1 x = x) (ty : U.1 y = y) (hxy : x ≠ y) (qx : U.2 x ≠ 0) : u_V mk o (u_mg U.1 x y, U.2) := by
  obtain ⟨v1, v2, v3, v4, v5, v6⟩ := hV
  refine ⟨fun n hn => ?_, v2, v3, v4, fun n hn hr hq => ?_, fun k hk => ?_⟩
  · show u_mg U.1 x y n < 183 ∧ u_mg U.1 x y (u_mg U.1 x y n) = u_mg U.1 x y n
    by_cases h : U.1 n = y
    · rw [u_mg_y h, u_mg_n (by rw [tx]; exact hxy)]; exact ⟨hx, tx⟩
    · rw [u_mg_n h, u_mg_n (by rw [(v1 n hn).2]; exact h)]; exact v1 n hn
  · obtain ⟨r1, r2⟩ := (u_mg_rt hxy tx).mp hr
    have := v5 n hn r1 hq
    show u_mg U.1 x y (o (U.2 n - 1)) = n
    rw [u_mg_n (by rw [this]; exact r2)]; exact this
  · show U.2 (u_mg U.1 x y (o k)) ≠ 0
    by_cases h : U.1 (o k) = y
    · rw [u_mg_y h]; exact qx
    · rw [u_mg_n h]; exact v6 k hk
theorem u_mg_V0 (hV : u_V mk o U) (hx : x < 183) (hy : y < 183) (tx : U.1 x = x) (ty : U.1 y = y) (hxy : x ≠ y) (qx : U.2 x = 0) : u_V mk o (u_mg U.1 x y, va_up U.2 x (U.2 y)) ∧ ∀ k, k < mk → va_up U.2 x (U.2 y) (u_mg U.1 x y (o k)) = U.2 (U.1 (o k)) := by
  obtain ⟨v1, v2, v3, v4, v5, v6⟩ := hV
  have key : ∀ k, k < mk → va_up U.2 x (U.2 y) (u_mg U.1 x y (o k)) = U.2 (U.1 (o k)) := fun k hk => by
    by_cases h : U.1 (o k) = y
    · rw [u_mg_y h, va_up_self, h]
    · rw [u_mg_n h, va_up_ne]
      intro q; have := v6 k hk; rw [q] at this; exact this qx
  refine ⟨⟨fun n hn => ?_, v2, v3, fun n hn => ?_, fun n hn hr hq => ?_, fun k hk => ?_⟩, key⟩
  · show u_mg U.1 x y n < 183 ∧ u_mg U.1 x y (u_mg U.1 x y n) = u_mg U.1 x y n
    by_cases h : U.1 n = y
    · rw [u_mg_y h, u_mg_n (by rw [tx]; exact hxy)]; exact ⟨hx, tx⟩
    · rw [u_mg_n h, u_mg_n (by rw [(v1 n hn).2]; exact h)]; exact v1 n hn
  · show va_up U.2 x (U.2 y) n ≤ mk
    by_cases h : n = x
    · rw [h, va_up_self]; exact v4 y hy
    · rw [va_up_ne _ _ h]; exact v4 n hn
  · obtain ⟨r1, r2⟩ := (u_mg_rt hxy tx).mp hr
    have hq : va_up U.2 x (U.2 y) n ≠ 0 := hq
    show u_mg U.1 x y (o (va_up U.2 x (U.2 y) n - 1)) = n
    by_cases h : n = x
    · rw [h, va_up_self] at hq ⊢
      exact u_mg_y (v5 y hy ty hq)
    · rw [va_up_ne _ _ h] at hq ⊢
      have := v5 n hn r1 hq
      rw [u_mg_n (by rw [this]; exact r2)]; exact this
  · show va_up U.2 x (U.2 y) (u_mg U.1 x y (o k)) ≠ 0
    rw [key k hk]; exact v6 k hk
theorem u_c_two (hy : y < 183) (tx : U.1 x = x) (ty : U.1 y = y) (hxy : x ≠ y) (qy : U.2 y ≠ 0) : u_c (u_mg U.1 x y, U.2) + 1 = u_c U := by
  have e : u_p (u_mg U.1 x y, U.2) = fun n => if n = y then false else u_p U n := by
    funext n
    show decide (u_mg U.1 x y n = n ∧ U.2 n ≠ 0) = _
    by_cases h : n = y
    · rw [if_pos h]; exact decide_eq_false (fun q => ((u_mg_rt hxy tx).mp q.1).2 h)
    · rw [if_neg h]
      exact decide_eq_decide.mpr ⟨fun q => ⟨((u_mg_rt hxy tx).mp q.1).1, q.2⟩, fun q => ⟨(u_mg_rt hxy tx).mpr ⟨q.1, h⟩, q.2⟩⟩
  have h := fb_ct_upd (u_p U) false hy
  rw [← e] at h
  have hp : u_p U y = true := decide_eq_true ⟨ty, qy⟩
  rw [hp] at h
  simp only [if_true, Bool.false_eq_true, if_false] at h
  simp only [u_c]; omega
theorem u_c_one (hy : y < 183) (tx : U.1 x = x) (ty : U.1 y = y) (hxy : x ≠ y) (qy : U.2 y = 0) : u_c (u_mg U.1 x y, U.2) = u_c U := by
  refine fb_ct_cong (fun n _ => ?_)
  show decide (u_mg U.1 x y n = n ∧ U.2 n ≠ 0) = decide (U.1 n = n ∧ U.2 n ≠ 0)
  exact decide_eq_decide.mpr ⟨fun q => ⟨((u_mg_rt hxy tx).mp q.1).1, q.2⟩, fun q => ⟨(u_mg_rt hxy tx).mpr ⟨q.1, fun e => q.2 (e ▸ qy)⟩, q.2⟩⟩
theorem u_c_nul (hx : x < 183) (hy : y < 183) (tx : U.1 x = x) (ty : U.1 y = y) (hxy : x ≠ y) (qx : U.2 x = 0) : u_c (u_mg U.1 x y, va_up U.2 x (U.2 y)) = u_c U := by
  have e : u_p (u_mg U.1 x y, va_up U.2 x (U.2 y)) = fun n => if n = x then decide (U.2 y ≠ 0) else (fun n => if n = y then false else u_p U n) n := by
    funext n
    show decide (u_mg U.1 x y n = n ∧ va_up U.2 x (U.2 y) n ≠ 0) = _
    by_cases h : n = x
    · rw [if_pos h, h, va_up_self]
      exact decide_eq_decide.mpr ⟨fun q => q.2, fun q => ⟨(u_mg_rt hxy tx).mpr ⟨tx, hxy⟩, q⟩⟩
    · rw [if_neg h, va_up_ne _ _ h]
      show _ = if n = y then false else u_p U n
      by_cases h2 : n = y
      · rw [if_pos h2]; exact decide_eq_false (fun q => ((u_mg_rt hxy tx).mp q.1).2 h2)
      · rw [if_neg h2]
        exact decide_eq_decide.mpr ⟨fun q => ⟨((u_mg_rt hxy tx).mp q.1).1, q.2⟩, fun q => ⟨(u_mg_rt hxy tx).mpr ⟨q.1, h2⟩, q.2⟩⟩
  have h1 := fb_ct_upd (u_p U) false hy
  have h2 := fb_ct_upd (fun n => if n = y then false else u_p U n) (decide (U.2 y ≠ 0)) hx
  rw [← e] at h2
  have hpx : u_p U x = false := decide_eq_false (fun q => q.2 qx)
  have hpy : u_p U y = decide (U.2 y ≠ 0) := decide_eq_decide.mpr ⟨fun q => q.2, fun q => ⟨ty, q⟩⟩
  have hx' : (if x = y then false else u_p U x) = false := by rw [if_neg hxy]; exact hpx
  rw [hpy] at h1
  rw [hx'] at h2
  simp only [Bool.false_eq_true, if_false] at h1 h2
  simp only [u_c]; omega
theorem u_sd_lt {k s : Nat} (hk : k < 24) (hs : s < 2) : u_sd k s < 183 := by simp only [u_sd]; omega
theorem u_jn_ok : ∀ (d : Nat) (U : u2) (a b : Nat), u_V mk o U → u_c U < d → a < 183 → b < 183 →
    u_V mk o (u_jn d U a b) ∧ u_c (u_jn d U a b) ≤ u_c U ∧ (∀ n m, n < 183 → m < 183 → U.1 n = U.1 m → (u_jn d U a b).1 n = (u_jn d U a b).1 m) ∧ (u_jn d U a b).1 a = (u_jn d U a b).1 b ∧ (∀ k, k < mk → u_cl o U k → u_cl o (u_jn d U a b) k) ∧
    ∀ F, u_Cg mk o F → (∀ n m, n < 183 → m < 183 → U.1 n = U.1 m → F n m) → F a b → ∀ n m, n < 183 → m < 183 → (u_jn d U a b).1 n = (u_jn d U a b).1 m → F n m := by
  intro d
  induction d with
  | zero => intro U a b _ h; omega
  | succ d ih =>
    intro U a b hV hc ha hb
    rw [u_jn]
    by_cases h1 : U.1 a = U.1 b
    · rw [if_pos h1]
      exact ⟨hV, Nat.le_refl _, fun n m _ _ h => h, h1, fun k _ h => h, fun F _ hF _ => hF⟩
    · rw [if_neg h1]
      obtain ⟨hx, tx⟩ := hV.1 a ha
      obtain ⟨hy, ty⟩ := hV.1 b hb
      generalize hxa : U.1 a = x at *
      generalize hyb : U.1 b = y at *
      have hab : u_mg U.1 x y a = u_mg U.1 x y b := by rw [u_mg_y hyb, u_mg_n (by rw [hxa]; exact h1), hxa]
      have hsound : ∀ F, u_Cg mk o F → (∀ n m, n < 183 → m < 183 → U.1 n = U.1 m → F n m) → F a b → F x y ∧ ∀ n m, n < 183 → m < 183 → u_mg U.1 x y n = u_mg U.1 x y m → F n m := fun F hC hF hab => by
        have hr : ∀ n, n < 183 → F n (U.1 n) := fun n hn => hF n _ hn (hV.1 n hn).1 (hV.1 n hn).2.symm
        have hxy : F x y := hC.2.2.1 _ a _ (hC.2.1 _ _ (hxa ▸ hr a ha)) (hC.2.2.1 _ b _ hab (hyb ▸ hr b hb))
        have hw : ∀ n, n < 183 → F n (u_mg U.1 x y n) := fun n hn => by
          by_cases h : U.1 n = y
          · rw [u_mg_y h]; exact hC.2.2.1 _ y _ (h ▸ hr n hn) (hC.2.1 _ _ hxy)
          · rw [u_mg_n h]; exact hr n hn
        exact ⟨hxy, fun n m hn hm h => hC.2.2.1 _ _ _ (hw n hn) (by rw [h]; exact hC.2.1 _ _ (hw m hm))⟩
      by_cases qx : U.2 x = 0
      · rw [if_pos qx]
        obtain ⟨hV', hkey⟩ := u_mg_V0 hV hx hy tx ty h1 qx
        refine ⟨hV', Nat.le_of_eq (u_c_nul hx hy tx ty h1 qx), fun n m _ _ h => u_mg_f h, hab, fun k hk hcl s hs => ?_, fun F hC hF hab => (hsound F hC hF hab).2⟩
        show u_mg U.1 x y (u_sd k s) = u_mg U.1 x y (u_sd (va_up U.2 x (U.2 y) (u_mg U.1 x y (o k)) - 1) s)
        rw [hkey k hk]; exact u_mg_f (hcl s hs)
      · rw [if_neg qx]
        have hVW := u_mg_V hV hx hy tx ty h1 qx
        by_cases qy : U.2 y = 0
        · rw [if_pos qy]
          refine ⟨hVW, Nat.le_of_eq (u_c_one hy tx ty h1 qy), fun n m _ _ h => u_mg_f h, hab, fun k hk hcl s hs => ?_, fun F hC hF hab => (hsound F hC hF hab).2⟩
          show u_mg U.1 x y (u_sd k s) = u_mg U.1 x y (u_sd (U.2 (u_mg U.1 x y (o k)) - 1) s)
          rw [u_mg_n (fun q => hV.2.2.2.2.2 k hk (by rw [q]; exact qy) : U.1 (o k) ≠ y)]; exact u_mg_f (hcl s hs)
        · rw [if_neg qy]
          have hcW := u_c_two hy tx ty h1 qy
          have m24 := hV.2.1
          have hrm := hV.2.2.2.1 x hx
          have hsm := hV.2.2.2.1 y hy
          obtain ⟨i1, i2, i3, i4, i5, i6⟩ := ih (u_mg U.1 x y, U.2) (u_sd (U.2 x - 1) 0) (u_sd (U.2 y - 1) 0) hVW (by omega) (u_sd_lt (by omega) (by omega)) (u_sd_lt (by omega) (by omega))
          generalize u_jn d (u_mg U.1 x y, U.2) (u_sd (U.2 x - 1) 0) (u_sd (U.2 y - 1) 0) = U1 at *
          obtain ⟨j1, j2, j3, j4, j5, j6⟩ := ih U1 (u_sd (U.2 x - 1) 1) (u_sd (U.2 y - 1) 1) i1 (by omega) (u_sd_lt (by omega) (by omega)) (u_sd_lt (by omega) (by omega))
          generalize u_jn d U1 (u_sd (U.2 x - 1) 1) (u_sd (U.2 y - 1) 1) = U2 at *
          have hco : ∀ n m, n < 183 → m < 183 → U.1 n = U.1 m → U2.1 n = U2.1 m := fun n m hn hm h => j3 n m hn hm (i3 n m hn hm (u_mg_f h))
          have hor := hV.2.2.2.2.1 x hx tx qx
          have hos := hV.2.2.2.2.1 y hy ty qy
          have ho : ∀ k, k < mk → o k < 183 := fun k hk => by have := hV.2.2.1 k hk; omega
          refine ⟨j1, by omega, hco, j3 a b ha hb (i3 a b ha hb hab), fun k hk hcl => ?_, fun F hC hF hab => ?_⟩
          · by_cases hky : U.1 (o k) = y
            · intro s hs
              have e1 : U2.1 (u_sd k s) = U2.1 (u_sd (U.2 y - 1) s) := hco _ _ (u_sd_lt (by omega) hs) (u_sd_lt (by omega) hs) (by have := hcl s hs; rw [hky] at this; exact this)
              have e2 : U2.1 (u_sd (U.2 x - 1) s) = U2.1 (u_sd (U.2 y - 1) s) := by
                rcases (by omega : s = 0 ∨ s = 1) with q | q
                · subst q; exact j3 _ _ (u_sd_lt (by omega) (by omega)) (u_sd_lt (by omega) (by omega)) i4
                · subst q; exact j4
              have hclr : u_cl o (u_mg U.1 x y, U.2) (U.2 x - 1) := fun s hs => by
                show u_mg U.1 x y _ = u_mg U.1 x y (u_sd (U.2 (u_mg U.1 x y (o (U.2 x - 1))) - 1) s)
                have e : u_mg U.1 x y (o (U.2 x - 1)) = x := by rw [u_mg_n (by rw [hor]; exact h1), hor]
                rw [e]
              have e3 := j5 (U.2 x - 1) (by omega) (i5 (U.2 x - 1) (by omega) hclr) s hs
              have e4 : U2.1 (o (U.2 x - 1)) = U2.1 (o k) := j3 _ _ (ho _ (by omega)) (ho k hk) (i3 _ _ (ho _ (by omega)) (ho k hk) (by
                show u_mg U.1 x y _ = u_mg U.1 x y _
                rw [u_mg_y hky, u_mg_n (by rw [hor]; exact h1), hor]))
              rw [e1, ← e2, e3, e4]
            · refine j5 k hk (i5 k hk (fun s hs => ?_))
              show u_mg U.1 x y _ = u_mg U.1 x y (u_sd (U.2 (u_mg U.1 x y (o k)) - 1) s)
              rw [u_mg_n hky]; exact u_mg_f (hcl s hs)
          · obtain ⟨fxy, fW⟩ := hsound F hC hF hab
            have f1 : F (o (U.2 x - 1)) x := hF _ _ (ho _ (by omega)) hx (by rw [hor, tx])
            have f2 : F (o (U.2 y - 1)) y := hF _ _ (ho _ (by omega)) hy (by rw [hos, ty])
            have f3 := hC.2.2.2 (U.2 x - 1) (U.2 y - 1) (by omega) (by omega) (hC.2.2.1 _ _ _ f1 (hC.2.2.1 _ _ _ fxy (hC.2.1 _ _ f2)))
            exact j6 F hC (i6 F hC fW (f3 0 (by omega))) (f3 1 (by omega))
theorem u_c_le (hV : u_V mk o U) : u_c U ≤ mk := by
  have hex : ∀ i, i < u_c U → ∃ r, r < 183 ∧ u_p U r = true ∧ fb_ct (u_p U) r = i := fun i hi => fb_ct_kth hi
  refine fb_holes mk (u_c U) (fun i => if h : i < u_c U then U.2 (Classical.choose (hex i h)) - 1 else 0) (fun i hi => ?_) (fun i j hij hj => ?_)
  · show (if h : i < u_c U then U.2 (Classical.choose (hex i h)) - 1 else 0) < mk
    rw [dif_pos hi]
    obtain ⟨r1, r2, r3⟩ := Classical.choose_spec (hex i hi)
    have := hV.2.2.2.1 _ r1
    have := (of_decide_eq_true r2).2
    omega
  · show (if h : i < u_c U then U.2 (Classical.choose (hex i h)) - 1 else 0) ≠ (if h : j < u_c U then U.2 (Classical.choose (hex j h)) - 1 else 0)
    rw [dif_pos (by omega : i < u_c U), dif_pos hj]
    obtain ⟨r1, r2, r3⟩ := Classical.choose_spec (hex i (by omega))
    obtain ⟨s1, s2, s3⟩ := Classical.choose_spec (hex j hj)
    intro q
    have a1 := of_decide_eq_true r2
    have a2 := of_decide_eq_true s2
    have e1 := hV.2.2.2.2.1 _ r1 a1.1 a1.2
    have e2 := hV.2.2.2.2.1 _ s1 a2.1 a2.2
    rw [q] at e1
    rw [← e1, e2] at r3
    omega
/-! two that are joined side by side -/
def u_Sim (mk : Nat) (o : Nat → Nat) (U W : u2) : Prop := u_V mk o U ∧ u_V mk o W ∧ (∀ k, k < mk → u_cl o U k) ∧ (∀ k, k < mk → u_cl o W k) ∧ ∀ n m, n < 183 → m < 183 → (U.1 n = U.1 m ↔ W.1 n = W.1 m)
theorem u_Cg_of (hV : u_V mk o U) (hc : ∀ k, k < mk → u_cl o U k) : u_Cg mk o (fun n m => U.1 n = U.1 m) :=
  ⟨fun _ => rfl, fun _ _ h => h.symm, fun _ _ _ h h' => h.trans h', fun k j hk hj h s hs => by
    show U.1 _ = U.1 _
    have h : U.1 (o k) = U.1 (o j) := h
    rw [hc k hk s hs, hc j hj s hs, h]⟩
theorem u_Sim.sym {W : u2} (h : u_Sim mk o U W) : u_Sim mk o W U := ⟨h.2.1, h.1, h.2.2.2.1, h.2.2.1, fun n m hn hm => (h.2.2.2.2 n m hn hm).symm⟩
theorem u_Sim.join {W : u2} {d e a b a' b' : Nat} (h : u_Sim mk o U W) (hd : 24 < d) (he : 24 < e) (ha : a < 183) (hb : b < 183) (ha' : a' < 183) (hb' : b' < 183) (hab : (U.1 a = U.1 a' ∧ U.1 b = U.1 b') ∨ (U.1 a = U.1 b' ∧ U.1 b = U.1 a')) : u_Sim mk o (u_jn d U a b) (u_jn e W a' b') := by
  obtain ⟨h1, h2, h3, h4, h5⟩ := h
  have m24 := h1.2.1
  obtain ⟨i1, i2, i3, i4, i5, i6⟩ := u_jn_ok d U a b h1 (by have := u_c_le h1; omega) ha hb
  obtain ⟨j1, j2, j3, j4, j5, j6⟩ := u_jn_ok e W a' b' h2 (by have := u_c_le h2; omega) ha' hb'
  have c1 := fun k hk => i5 k hk (h3 k hk)
  have c2 := fun k hk => j5 k hk (h4 k hk)
  refine ⟨i1, j1, c1, c2, fun n m hn hm => ⟨?_, ?_⟩⟩
  · refine i6 (fun n m => (u_jn e W a' b').1 n = (u_jn e W a' b').1 m) (u_Cg_of j1 c2) (fun n m hn hm h => j3 n m hn hm ((h5 n m hn hm).mp h)) ?_ n m hn hm
    show (u_jn e W a' b').1 a = (u_jn e W a' b').1 b
    rcases hab with ⟨q1, q2⟩ | ⟨q1, q2⟩
    · rw [j3 a a' ha ha' ((h5 _ _ ha ha').mp q1), j3 b b' hb hb' ((h5 _ _ hb hb').mp q2)]; exact j4
    · rw [j3 a b' ha hb' ((h5 _ _ ha hb').mp q1), j3 b a' hb ha' ((h5 _ _ hb ha').mp q2)]; exact j4.symm
  · refine j6 (fun n m => (u_jn d U a b).1 n = (u_jn d U a b).1 m) (u_Cg_of i1 c1) (fun n m hn hm h => i3 n m hn hm ((h5 n m hn hm).mpr h)) ?_ n m hn hm
    show (u_jn d U a b).1 a' = (u_jn d U a b).1 b'
    rcases hab with ⟨q1, q2⟩ | ⟨q1, q2⟩
    · rw [← i3 a a' ha ha' q1, ← i3 b b' hb hb' q2]; exact i4
    · rw [← i3 a b' ha hb' q1, ← i3 b a' hb ha' q2]; exact i4.symm
/-- a new region -/
def u_nw (mk : Nat) (U : u2) (n : Nat) : u2 := if U.2 (U.1 n) = 0 then (U.1, va_up U.2 (U.1 n) (mk + 1)) else U
def u_nm (mk : Nat) (U : u2) (n : Nat) : Nat := if U.2 (U.1 n) = 0 then mk + 1 else mk
def u_no (mk : Nat) (o : Nat → Nat) (n : Nat) : Nat → Nat := va_up o mk n
theorem u_no_lt {n k : Nat} (hk : k < mk) : u_no mk o n k = o k := va_up_ne _ _ (by omega)
theorem u_nw_V {n : Nat} (hV : u_V mk o U) (hn : n < 135) (hm : mk < 24) (hq : U.2 (U.1 n) = 0) : u_V (mk + 1) (u_no mk o n) (U.1, va_up U.2 (U.1 n) (mk + 1)) ∧ ∀ k, k < mk → va_up U.2 (U.1 n) (mk + 1) (U.1 (o k)) = U.2 (U.1 (o k)) := by
  obtain ⟨v1, v2, v3, v4, v5, v6⟩ := hV
  have hn' := v1 n (by omega)
  have hne : ∀ k, k < mk → U.1 (o k) ≠ U.1 n := fun k hk q => v6 k hk (by rw [q]; exact hq)
  have e0 : u_no mk o n mk = n := va_up_self _ _ _
  refine ⟨⟨v1, by omega, fun k hk => ?_, fun m hm => ?_, fun m hm hr hqm => ?_, fun k hk => ?_⟩, fun k hk => va_up_ne _ _ (hne k hk)⟩
  · by_cases h : k = mk
    · rw [h, e0]; exact hn
    · rw [u_no_lt (by omega)]; exact v3 k (by omega)
  · show va_up U.2 (U.1 n) (mk + 1) m ≤ mk + 1
    by_cases h : m = U.1 n
    · rw [h, va_up_self]; exact Nat.le_refl _
    · rw [va_up_ne _ _ h]; have := v4 m hm; omega
  · have hqm : va_up U.2 (U.1 n) (mk + 1) m ≠ 0 := hqm
    show U.1 (u_no mk o n (va_up U.2 (U.1 n) (mk + 1) m - 1)) = m
    by_cases h : m = U.1 n
    · rw [h, va_up_self, Nat.add_sub_cancel, e0]
    · rw [va_up_ne _ _ h] at hqm ⊢
      have := v4 m hm
      rw [u_no_lt (by omega)]; exact v5 m hm hr hqm
  · show va_up U.2 (U.1 n) (mk + 1) (U.1 (u_no mk o n k)) ≠ 0
    by_cases h : k = mk
    · rw [h, e0, va_up_self]; omega
    · rw [u_no_lt (by omega), va_up_ne _ _ (hne k (by omega))]; exact v6 k (by omega)
theorem u_nw_cl {n : Nat} (hV : u_V mk o U) (hn : n < 135) (hm : mk < 24) (hq : U.2 (U.1 n) = 0) (hc : ∀ k, k < mk → u_cl o U k) : ∀ k, k < mk + 1 → u_cl (u_no mk o n) (U.1, va_up U.2 (U.1 n) (mk + 1)) k := by
  intro k hk s hs
  show U.1 (u_sd k s) = U.1 (u_sd (va_up U.2 (U.1 n) (mk + 1) (U.1 (u_no mk o n k)) - 1) s)
  by_cases h : k = mk
  · rw [h, show u_no mk o n mk = n from va_up_self _ _ _, va_up_self]; rfl
  · rw [u_no_lt (by omega), (u_nw_V hV hn hm hq).2 k (by omega)]; exact hc k (by omega) s hs
theorem u_Sim.has {W : u2} {n : Nat} (h : u_Sim mk o U W) (hn : n < 183) (hq : U.2 (U.1 n) ≠ 0) : W.2 (W.1 n) ≠ 0 ∧ ∀ s, s < 2 → W.1 (u_sd (U.2 (U.1 n) - 1) s) = W.1 (u_sd (W.2 (W.1 n) - 1) s) := by
  obtain ⟨h1, h2, h3, h4, h5⟩ := h
  obtain ⟨t1, t2⟩ := h1.1 n hn
  have hk := h1.2.2.2.1 _ t1
  have e := h1.2.2.2.2.1 _ t1 t2 hq
  have ho := h1.2.2.1 (U.2 (U.1 n) - 1) (by omega)
  have e2 : W.1 (o (U.2 (U.1 n) - 1)) = W.1 n := (h5 _ _ (by omega) hn).mp e
  have hw := h2.2.2.2.2.2 (U.2 (U.1 n) - 1) (by omega)
  refine ⟨by rw [e2] at hw; exact hw, fun s hs => ?_⟩
  have := h4 (U.2 (U.1 n) - 1) (by omega) s hs
  rw [e2] at this; exact this
theorem u_Sim.new {W : u2} {n : Nat} (h : u_Sim mk o U W) (hn : n < 135) (hm : mk < 24) : u_nm mk U n = u_nm mk W n ∧ ∃ o', u_Sim (u_nm mk U n) o' (u_nw mk U n) (u_nw mk W n) ∧ (∀ k, k < mk → o' k = o k) ∧ (u_nw mk U n).1 = U.1 ∧ (u_nw mk U n).2 (U.1 n) ≠ 0 ∧ (u_nw mk W n).1 = W.1 ∧ (u_nw mk W n).2 (W.1 n) ≠ 0 := by
  by_cases hq : U.2 (U.1 n) = 0
  · have hqW : W.2 (W.1 n) = 0 := by
      refine Classical.byContradiction fun q => ?_
      exact (h.sym.has (by omega) q).1 hq
    rw [show u_nm mk U n = mk + 1 from if_pos hq, show u_nm mk W n = mk + 1 from if_pos hqW, show u_nw mk U n = (U.1, va_up U.2 (U.1 n) (mk + 1)) from if_pos hq, show u_nw mk W n = (W.1, va_up W.2 (W.1 n) (mk + 1)) from if_pos hqW]
    obtain ⟨a1, a2⟩ := u_nw_V h.1 hn hm hq
    obtain ⟨b1, b2⟩ := u_nw_V h.2.1 hn hm hqW
    refine ⟨rfl, u_no mk o n, ⟨a1, b1, u_nw_cl h.1 hn hm hq h.2.2.1, u_nw_cl h.2.1 hn hm hqW h.2.2.2.1, h.2.2.2.2⟩, fun k hk => u_no_lt hk, rfl, ?_, rfl, ?_⟩
    · show va_up U.2 (U.1 n) (mk + 1) (U.1 n) ≠ 0; rw [va_up_self]; omega
    · show va_up W.2 (W.1 n) (mk + 1) (W.1 n) ≠ 0; rw [va_up_self]; omega
  · have hqW := (h.has (by omega) hq).1
    rw [show u_nm mk U n = mk from if_neg hq, show u_nm mk W n = mk from if_neg hqW, show u_nw mk U n = U from if_neg hq, show u_nw mk W n = W from if_neg hqW]
    exact ⟨rfl, o, h, fun k _ => rfl, rfl, hq, rfl, hqW⟩
end UC
