/-! lines, as they join -/
abbrev u3 : Type := u2 × Nat
def u_nd (f v : Nat) : Nat := 27 * f + v
def u_J (d : Nat) (X : u3) (a b : Nat) : u3 := (u_jn d X.1 a b, X.2)
def u_N (X : u3) (n : Nat) : u3 := (u_nw X.2 X.1 n, u_nm X.2 X.1 n)
def u_at (X : u3) (n s : Nat) : Nat := u_sd (X.1.2 (X.1.1 n) - 1) s
def u_Jw (d : Nat) (sw : Bool) (X : u3) (a b : Nat) : u3 := if sw = true then u_J d X b a else u_J d X a b
def u_ag (d : Nat) (sw : Bool) (g h : Nat → Nat) : Nat → Nat → u3 → u3
  | 0, _, X => X
  | c + 1, j, X => u_ag d sw g h c (j + 1) (u_Jw d sw X (g j) (h j))
def u_vn (P : pP) (f i k : Nat) : Nat := u_nd f (p_va P (p_fi P f + i) k)
def u_xn (P : pP) (f i : Nat) : Nat := u_nd f (p_pa P f + i)
def u_pr (d : Nat) (P : pP) (f i : Nat) (X : u3) : u3 := u_J d (u_N X (u_xn P f i)) (u_at (u_N X (u_xn P f i)) (u_xn P f i) 0) (u_vn P f i 0)
def u_ca (d : Nat) (sw : Bool) (P : pP) (f i : Nat) (X : u3) : u3 := u_Jw d sw (u_ag d sw (fun j => u_nd (p_ca P (p_fi P f + i)) j) (fun j => u_vn P f i (q_ar P (p_fi P f + i) j)) (p_pa P (p_ca P (p_fi P f + i))) 0 X) (u_nd (p_ca P (p_fi P f + i)) (p_vs P (p_ca P (p_fi P f + i)) - 1)) (u_xn P f i)
def u_li (d : Nat) (sw : Bool) (P : pP) (f i : Nat) (X : u3) : u3 := match p_op P (p_fi P f + i) with
  | 1 => u_J d X (u_xn P f i) (u_vn P f i 0)
  | 2 => u_J d (u_N (u_pr d P f i X) (u_xn P f i)) (u_at (u_N (u_pr d P f i X) (u_xn P f i)) (u_xn P f i) 1) (u_vn P f i 1)
  | 3 => u_J d (u_N X (u_vn P f i 0)) (u_at (u_N X (u_vn P f i 0)) (u_vn P f i 0) 0) (u_xn P f i)
  | 4 => u_J d (u_N X (u_vn P f i 0)) (u_at (u_N X (u_vn P f i 0)) (u_vn P f i 0) 1) (u_xn P f i)
  | 7 => u_J d (u_J d X (u_xn P f i) (u_vn P f i 1)) (u_xn P f i) (u_vn P f i 2)
  | 8 => u_ca d sw P f i X
  | 9 => u_J d (u_ca d sw P f i X) (u_xn P f i) (u_vn P f i 4)
  | _ => X
def u_S3 (o : Nat → Nat) (X Y : u3) : Prop := X.2 = Y.2 ∧ u_Sim X.2 o X.1 Y.1
def u_Gr (X : u3) (o : Nat → Nat) (X' : u3) (o' : Nat → Nat) : Prop := X.2 ≤ X'.2 ∧ (∀ k, k < X.2 → o' k = o k) ∧ ∀ n m, n < 183 → m < 183 → X.1.1 n = X.1.1 m → X'.1.1 n = X'.1.1 m
def u_LC (P : pP) (f i : Nat) (X : u3) (o : Nat → Nat) : Prop :=
  (p_op P (p_fi P f + i) = 1 → X.1.1 (u_xn P f i) = X.1.1 (u_vn P f i 0)) ∧
  (p_op P (p_fi P f + i) = 2 → ∃ k, k < X.2 ∧ X.1.1 (o k) = X.1.1 (u_xn P f i) ∧ X.1.1 (u_sd k 0) = X.1.1 (u_vn P f i 0) ∧ X.1.1 (u_sd k 1) = X.1.1 (u_vn P f i 1)) ∧
  (p_op P (p_fi P f + i) = 3 → ∃ k, k < X.2 ∧ X.1.1 (o k) = X.1.1 (u_vn P f i 0) ∧ X.1.1 (u_sd k 0) = X.1.1 (u_xn P f i)) ∧
  (p_op P (p_fi P f + i) = 4 → ∃ k, k < X.2 ∧ X.1.1 (o k) = X.1.1 (u_vn P f i 0) ∧ X.1.1 (u_sd k 1) = X.1.1 (u_xn P f i)) ∧
  (p_op P (p_fi P f + i) = 7 → X.1.1 (u_xn P f i) = X.1.1 (u_vn P f i 1) ∧ X.1.1 (u_xn P f i) = X.1.1 (u_vn P f i 2)) ∧
  (8 ≤ p_op P (p_fi P f + i) → (∀ k, k < p_pa P (p_ca P (p_fi P f + i)) → X.1.1 (u_nd (p_ca P (p_fi P f + i)) k) = X.1.1 (u_vn P f i (q_ar P (p_fi P f + i) k))) ∧ X.1.1 (u_xn P f i) = X.1.1 (u_nd (p_ca P (p_fi P f + i)) (p_vs P (p_ca P (p_fi P f + i)) - 1))) ∧
  (p_op P (p_fi P f + i) = 9 → X.1.1 (u_xn P f i) = X.1.1 (u_vn P f i 4))
section UE
variable {P : pP} {X Y : u3} {o : Nat → Nat} {f i : Nat}
theorem u_Gr.rf : u_Gr X o X o := ⟨Nat.le_refl _, fun _ _ => rfl, fun _ _ _ _ h => h⟩
theorem u_Gr.tr {X' X'' : u3} {o' o'' : Nat → Nat} (h : u_Gr X o X' o') (h' : u_Gr X' o' X'' o'') : u_Gr X o X'' o'' := ⟨Nat.le_trans h.1 h'.1, fun k hk => (h'.2.1 k (by have := h.1; omega)).trans (h.2.1 k hk), fun n m hn hm e => h'.2.2 n m hn hm (h.2.2 n m hn hm e)⟩
theorem u_S3.J {d e a b a' b' : Nat} (h : u_S3 o X Y) (hd : 24 < d) (he : 24 < e) (ha : a < 183) (hb : b < 183) (ha' : a' < 183) (hb' : b' < 183) (hab : (X.1.1 a = X.1.1 a' ∧ X.1.1 b = X.1.1 b') ∨ (X.1.1 a = X.1.1 b' ∧ X.1.1 b = X.1.1 a')) : u_S3 o (u_J d X a b) (u_J e Y a' b') ∧ u_Gr X o (u_J d X a b) o ∧ (u_J d X a b).1.1 a = (u_J d X a b).1.1 b := by
  obtain ⟨h1, h2⟩ := h
  have m24 := h2.1.2.1
  obtain ⟨i1, i2, i3, i4, i5, i6⟩ := u_jn_ok d X.1 a b h2.1 (by have := u_c_le h2.1; omega) ha hb
  exact ⟨⟨h1, h2.join hd he ha hb ha' hb' hab⟩, ⟨Nat.le_refl _, fun _ _ => rfl, i3⟩, i4⟩
theorem u_S3.W {d e a b : Nat} {sw sw' : Bool} (h : u_S3 o X Y) (hd : 24 < d) (he : 24 < e) (ha : a < 183) (hb : b < 183) : u_S3 o (u_Jw d sw X a b) (u_Jw e sw' Y a b) ∧ u_Gr X o (u_Jw d sw X a b) o ∧ (u_Jw d sw X a b).1.1 a = (u_Jw d sw X a b).1.1 b := by
  cases sw <;> cases sw'
  · exact h.J hd he ha hb ha hb (Or.inl ⟨rfl, rfl⟩)
  · exact h.J hd he ha hb hb ha (Or.inr ⟨rfl, rfl⟩)
  · obtain ⟨a1, a2, a3⟩ := h.J (a := b) (b := a) hd he hb ha ha hb (Or.inr ⟨rfl, rfl⟩)
    exact ⟨a1, a2, a3.symm⟩
  · obtain ⟨a1, a2, a3⟩ := h.J (a := b) (b := a) hd he hb ha hb ha (Or.inl ⟨rfl, rfl⟩)
    exact ⟨a1, a2, a3.symm⟩
theorem u_S3.N {n : Nat} (h : u_S3 o X Y) (hn : n < 135) (hm : X.2 < 24) : ∃ o', u_S3 o' (u_N X n) (u_N Y n) ∧ u_Gr X o (u_N X n) o' ∧ (u_N X n).2 ≤ X.2 + 1 ∧ (u_N X n).1.1 = X.1.1 ∧ (u_N X n).1.2 (X.1.1 n) ≠ 0 ∧ (∀ s, s < 2 → u_at (u_N X n) n s < 183 ∧ u_at (u_N Y n) n s < 183 ∧ X.1.1 (u_at (u_N X n) n s) = X.1.1 (u_at (u_N Y n) n s)) ∧
    ∃ k, k < (u_N X n).2 ∧ X.1.1 (o' k) = X.1.1 n ∧ ∀ s, u_at (u_N X n) n s = u_sd k s := by
  obtain ⟨h1, h2⟩ := h
  obtain ⟨e1, o', e2, e3, e4, e5, e6, e7⟩ := h2.new hn hm
  have e5' : (u_N X n).1.2 (X.1.1 n) ≠ 0 := e5
  have hY : (u_N Y n).1 = u_nw X.2 Y.1 n := by show u_nw Y.2 Y.1 n = _; rw [← h1]
  have hle : (u_N X n).2 ≤ X.2 + 1 := by show u_nm X.2 X.1 n ≤ _; rw [u_nm]; split <;> omega
  have hge : X.2 ≤ (u_N X n).2 := by show _ ≤ u_nm X.2 X.1 n; rw [u_nm]; split <;> omega
  have t1 : (u_N X n).1.1 = X.1.1 := e4
  have t2 : (u_N Y n).1.1 = Y.1.1 := by rw [hY]; exact e6
  have hV := e2.1
  have hVY := e2.2.1
  obtain ⟨n1, n2⟩ := h2.1.1 n (by omega)
  obtain ⟨n3, n4⟩ := h2.2.1.1 n (by omega)
  have q1 := hV.2.2.2.1 (X.1.1 n) n1
  have q2 := hVY.2.2.2.1 (Y.1.1 n) n3
  have m24 := hV.2.1
  have sim : u_S3 o' (u_N X n) (u_N Y n) := ⟨by show u_nm X.2 X.1 n = u_nm Y.2 Y.1 n; rw [← h1]; exact e1, by rw [hY]; exact e2⟩
  refine ⟨o', sim, ⟨hge, e3, fun a b _ _ h => by rw [t1]; exact h⟩, hle, t1, e5, fun s hs => ?_, (u_nw X.2 X.1 n).2 (X.1.1 n) - 1, ?_, ?_, fun s => ?_⟩
  · have ex : u_at (u_N X n) n s = u_sd ((u_nw X.2 X.1 n).2 (X.1.1 n) - 1) s := by simp only [u_at]; rw [t1]; rfl
    have ey : u_at (u_N Y n) n s = u_sd ((u_nw X.2 Y.1 n).2 (Y.1.1 n) - 1) s := by simp only [u_at]; rw [t2, hY]
    rw [ex, ey]
    refine ⟨u_sd_lt (by omega) hs, u_sd_lt (by omega) hs, ?_⟩
    have := (e2.sym.has (n := n) (by omega) (by rw [e6]; exact e7)).2 s hs
    rw [e4, e6] at this
    exact this.symm
  · show _ < u_nm X.2 X.1 n; omega
  · have := hV.2.2.2.2.1 (X.1.1 n) n1 (by rw [e4]; exact n2) e5
    rw [e4] at this; exact this
  · simp only [u_at]; rw [t1]; rfl
theorem u_ag_ok {d e : Nat} {sw sw' : Bool} {g h : Nat → Nat} (hd : 24 < d) (he : 24 < e) : ∀ (c j : Nat) (X Y : u3), u_S3 o X Y → (∀ t, j ≤ t → t < j + c → g t < 183 ∧ h t < 183) →
    u_S3 o (u_ag d sw g h c j X) (u_ag e sw' g h c j Y) ∧ u_Gr X o (u_ag d sw g h c j X) o ∧ ∀ t, j ≤ t → t < j + c → (u_ag d sw g h c j X).1.1 (g t) = (u_ag d sw g h c j X).1.1 (h t) := by
  intro c
  induction c with
  | zero => intro j X Y hS _; exact ⟨hS, u_Gr.rf, fun t h1 h2 => by omega⟩
  | succ c ih =>
    intro j X Y hS hb
    obtain ⟨b1, b2⟩ := hb j (Nat.le_refl _) (by omega)
    obtain ⟨a1, a2, a3⟩ := hS.W (sw := sw) (sw' := sw') hd he b1 b2
    obtain ⟨i1, i2, i3⟩ := ih (j + 1) _ _ a1 (fun t h1 h2 => hb t (by omega) (by omega))
    refine ⟨i1, a2.tr i2, fun t h1 h2 => ?_⟩
    by_cases ht : t = j
    · rw [ht]; exact i2.2.2 _ _ b1 b2 a3
    · exact i3 t (by omega) (by omega)
theorem u_nodes (hW : p_W P) (hf : f < p_fu P) (hi : i < p_ct P f) : u_xn P f i < 135 ∧ (∀ k, p_us P (p_fi P f + i) k → u_vn P f i k < 135) ∧ (8 ≤ p_op P (p_fi P f + i) → ∀ v, v < p_vs P (p_ca P (p_fi P f + i)) → u_nd (p_ca P (p_fi P f + i)) v < 135) := by
  have hl := hW.line hf hi
  have h5 := hW.1
  refine ⟨by simp only [u_xn, u_nd]; omega, fun k hk => ?_, fun h8 v hv => ?_⟩
  · have := (hW.2.2.2.2 f i hf hi).2.2.2 k hk
    simp only [u_vn, u_nd]; omega
  · have hca := (hW.2.2.2.2 f i hf hi).2.2.1 h8
    have := hW.2.2.1 _ hca
    have h24 := hW.2.1
    simp only [p_vs] at hv
    simp only [u_nd]; omega
theorem u_ca_ok {d e : Nat} {sw sw' : Bool} (hd : 24 < d) (he : 24 < e) (hW : p_W P) (hf : f < p_fu P) (hi : i < p_ct P f) (ho : p_op P (p_fi P f + i) = 8 ∨ p_op P (p_fi P f + i) = 9) (hS : u_S3 o X Y) :
    u_S3 o (u_ca d sw P f i X) (u_ca e sw' P f i Y) ∧ u_Gr X o (u_ca d sw P f i X) o ∧ (∀ k, k < p_pa P (p_ca P (p_fi P f + i)) → (u_ca d sw P f i X).1.1 (u_nd (p_ca P (p_fi P f + i)) k) = (u_ca d sw P f i X).1.1 (u_vn P f i (q_ar P (p_fi P f + i) k))) ∧ (u_ca d sw P f i X).1.1 (u_xn P f i) = (u_ca d sw P f i X).1.1 (u_nd (p_ca P (p_fi P f + i)) (p_vs P (p_ca P (p_fi P f + i)) - 1)) := by
  obtain ⟨nx, nv, ng⟩ := u_nodes hW hf hi
  have hca := (hW.2.2.2.2 f i hf hi).2.2.1 (by omega)
  have hp := hW.2.2.1 _ hca
  have hb : ∀ t, 0 ≤ t → t < 0 + p_pa P (p_ca P (p_fi P f + i)) → u_nd (p_ca P (p_fi P f + i)) t < 183 ∧ u_vn P f i (q_ar P (p_fi P f + i) t) < 183 := fun t _ ht => by
    have h1 := ng (by omega) t (by simp only [p_vs]; omega)
    have h2 := nv _ (p_sl_ar (P := P) (l := p_fi P f + i) (v := t) ho (by omega)).2
    omega
  obtain ⟨a1, a2, a3⟩ := u_ag_ok (sw := sw) (sw' := sw') hd he (p_pa P (p_ca P (p_fi P f + i))) 0 X Y hS hb
  have hr := ng (by omega) (p_vs P (p_ca P (p_fi P f + i)) - 1) (by simp only [p_vs]; omega)
  obtain ⟨b1, b2, b3⟩ := a1.W (sw := sw) (sw' := sw') (a := u_nd (p_ca P (p_fi P f + i)) (p_vs P (p_ca P (p_fi P f + i)) - 1)) (b := u_xn P f i) hd he (by omega) (by omega)
  exact ⟨b1, a2.tr b2, fun k hk => b2.2.2 _ _ (hb k (by omega) (by omega)).1 (hb k (by omega) (by omega)).2 (a3 k (by omega) (by omega)), b3.symm⟩
theorem u_li_ok {d e : Nat} {sw sw' : Bool} (hd : 24 < d) (he : 24 < e) (hW : p_W P) (hf : f < p_fu P) (hi : i < p_ct P f) (hS : u_S3 o X Y) (hm : X.2 < 24) :
    ∃ o', u_S3 o' (u_li d sw P f i X) (u_li e sw' P f i Y) ∧ u_Gr X o (u_li d sw P f i X) o' ∧ (u_li d sw P f i X).2 ≤ X.2 + 1 ∧ u_LC P f i (u_li d sw P f i X) o' := by
  obtain ⟨nx, nv, ng⟩ := u_nodes hW hf hi
  have h9 := (hW.2.2.2.2 f i hf hi).1
  have hop : p_op P (p_fi P f + i) = 0 ∨ p_op P (p_fi P f + i) = 1 ∨ p_op P (p_fi P f + i) = 2 ∨ p_op P (p_fi P f + i) = 3 ∨ p_op P (p_fi P f + i) = 4 ∨ p_op P (p_fi P f + i) = 5 ∨ p_op P (p_fi P f + i) = 6 ∨ p_op P (p_fi P f + i) = 7 ∨ p_op P (p_fi P f + i) = 8 ∨ p_op P (p_fi P f + i) = 9 := by omega
  have hsk : ∀ (s : Nat), s < 2 → (p_op P (p_fi P f + i) = 3 ∨ p_op P (p_fi P f + i) = 4) → ∃ o', u_S3 o' (u_J d (u_N X (u_vn P f i 0)) (u_at (u_N X (u_vn P f i 0)) (u_vn P f i 0) s) (u_xn P f i)) (u_J e (u_N Y (u_vn P f i 0)) (u_at (u_N Y (u_vn P f i 0)) (u_vn P f i 0) s) (u_xn P f i)) ∧ u_Gr X o (u_J d (u_N X (u_vn P f i 0)) (u_at (u_N X (u_vn P f i 0)) (u_vn P f i 0) s) (u_xn P f i)) o' ∧ (u_N X (u_vn P f i 0)).2 ≤ X.2 + 1 ∧
      ∃ k, k < (u_N X (u_vn P f i 0)).2 ∧ (u_J d (u_N X (u_vn P f i 0)) (u_at (u_N X (u_vn P f i 0)) (u_vn P f i 0) s) (u_xn P f i)).1.1 (o' k) = (u_J d (u_N X (u_vn P f i 0)) (u_at (u_N X (u_vn P f i 0)) (u_vn P f i 0) s) (u_xn P f i)).1.1 (u_vn P f i 0) ∧ (u_J d (u_N X (u_vn P f i 0)) (u_at (u_N X (u_vn P f i 0)) (u_vn P f i 0) s) (u_xn P f i)).1.1 (u_sd k s) = (u_J d (u_N X (u_vn P f i 0)) (u_at (u_N X (u_vn P f i 0)) (u_vn P f i 0) s) (u_xn P f i)).1.1 (u_xn P f i) := fun s hs ho => by
    have hv := nv 0 (p_us_0 (by omega))
    obtain ⟨o', b1, b2, b3, b4, b5, b6, k, b7, b8, b9⟩ := hS.N hv hm
    obtain ⟨s1, s2, s3⟩ := b6 s hs
    obtain ⟨c1, c2, c3⟩ := b1.J (b := u_xn P f i) (b' := u_xn P f i) hd he s1 (by omega) s2 (by omega) (Or.inl ⟨by rw [b4]; exact s3, rfl⟩)
    refine ⟨o', c1, b2.tr c2, b3, k, b7, ?_, ?_⟩
    · exact c2.2.2 _ _ (by have := b1.2.1.2.2.1 k b7; omega) (by omega) (by rw [b4]; exact b8)
    · rw [← b9 s]; exact c3
  rcases hop with h | h | h | h | h | h | h | h | h | h
  · refine ⟨o, ?_⟩
    simp only [u_li, h]
    exact ⟨hS, u_Gr.rf, by omega, ⟨fun q => by omega, fun q => by omega, fun q => by omega, fun q => by omega, fun q => by omega, fun q => by omega, fun q => by omega⟩⟩
  · have hv := nv 0 (p_us_0 (by omega))
    obtain ⟨a1, a2, a3⟩ := hS.J (a := u_xn P f i) (b := u_vn P f i 0) (a' := u_xn P f i) (b' := u_vn P f i 0) hd he (by omega) (by omega) (by omega) (by omega) (Or.inl ⟨rfl, rfl⟩)
    refine ⟨o, ?_⟩
    simp only [u_li, h]
    exact ⟨a1, a2, Nat.le_succ _, ⟨fun _ => a3, fun q => by omega, fun q => by omega, fun q => by omega, fun q => by omega, fun q => by omega, fun q => by omega⟩⟩
  · have hv0 := nv 0 (p_us_0 (by omega))
    have hv1 := nv 1 (p_us_1 (by omega))
    obtain ⟨o', b1, b2, b3, b4, b5, b6, k, b7, b8, b9⟩ := hS.N nx hm
    obtain ⟨s1, s2, s3⟩ := b6 0 (by omega)
    obtain ⟨c1, c2, c3⟩ := b1.J (b := u_vn P f i 0) (b' := u_vn P f i 0) hd he s1 (by omega) s2 (by omega) (Or.inl ⟨by rw [b4]; exact s3, rfl⟩)
    have hk135 := b1.2.1.2.2.1 k b7
    have hhas : (u_pr d P f i X).1.2 ((u_pr d P f i X).1.1 (u_xn P f i)) ≠ 0 := by
      have h1 := c1.2.1.2.2.2.2.2 k b7
      have h2 : (u_pr d P f i X).1.1 (o' k) = (u_pr d P f i X).1.1 (u_xn P f i) := c2.2.2 _ _ (by omega) (by omega) (by rw [b4]; exact b8)
      rw [← h2]; exact h1
    have hstay : u_N (u_pr d P f i X) (u_xn P f i) = u_pr d P f i X := by
      show (u_nw _ _ _, u_nm _ _ _) = _
      rw [u_nw, u_nm, if_neg hhas, if_neg hhas]
    have c1' : u_S3 o' (u_pr d P f i X) (u_pr e P f i Y) := c1
    have c2' : u_Gr (u_N X (u_xn P f i)) o' (u_pr d P f i X) o' := c2
    have hhasY : (u_pr e P f i Y).1.2 ((u_pr e P f i Y).1.1 (u_xn P f i)) ≠ 0 := (c1'.2.has (by omega) hhas).1
    have hstayY : u_N (u_pr e P f i Y) (u_xn P f i) = u_pr e P f i Y := by
      show (u_nw _ _ _, u_nm _ _ _) = _
      rw [u_nw, u_nm, if_neg hhasY, if_neg hhasY]
    obtain ⟨n1, n2⟩ := c1'.2.1.1 (u_xn P f i) (by omega)
    obtain ⟨n3, n4⟩ := c1'.2.2.1.1 (u_xn P f i) (by omega)
    have q1 := c1'.2.1.2.2.2.1 _ n1
    have q2 := c1'.2.2.1.2.2.2.1 _ n3
    have m24 := c1'.2.1.2.1
    have a1 : u_at (u_pr d P f i X) (u_xn P f i) 1 < 183 := u_sd_lt (by omega) (by omega)
    have a2 : u_at (u_pr e P f i Y) (u_xn P f i) 1 < 183 := u_sd_lt (by omega) (by omega)
    have a3 : (u_pr d P f i X).1.1 (u_at (u_pr d P f i X) (u_xn P f i) 1) = (u_pr d P f i X).1.1 (u_at (u_pr e P f i Y) (u_xn P f i) 1) := ((c1'.2.sym.has (by omega) hhasY).2 1 (by omega)).symm
    obtain ⟨e1, e2, e3⟩ := c1'.J (b := u_vn P f i 1) (b' := u_vn P f i 1) hd he a1 (by omega) a2 (by omega) (Or.inl ⟨a3, rfl⟩)
    have hcl := c1'.2.2.2.1 k b7 1 (by omega)
    have hok : (u_pr d P f i X).1.1 (o' k) = (u_pr d P f i X).1.1 (u_xn P f i) := c2'.2.2 _ _ (by omega) (by omega) (by rw [b4]; exact b8)
    rw [hok] at hcl
    have k24 : k < 24 := by have : k < (u_pr d P f i X).2 := b7; omega
    refine ⟨o', ?_⟩
    simp only [u_li, h, hstay, hstayY]
    refine ⟨e1, (b2.tr c2').tr e2, b3, ⟨fun q => by omega, fun _ => ⟨k, b7, ?_, ?_, ?_⟩, fun q => by omega, fun q => by omega, fun q => by omega, fun q => by omega, fun q => by omega⟩⟩
    · exact e2.2.2 _ _ (by omega) (by omega) hok
    · refine e2.2.2 _ _ (u_sd_lt k24 (by omega)) (by omega) ?_
      rw [← b9 0]; exact c3
    · rw [← e3]
      exact e2.2.2 _ _ (u_sd_lt k24 (by omega)) a1 hcl
  · obtain ⟨o', b1, b2, b3, k, b4, b5, b6⟩ := hsk 0 (by omega) (Or.inl h)
    refine ⟨o', ?_⟩
    simp only [u_li, h]
    exact ⟨b1, b2, b3, ⟨fun q => by omega, fun q => by omega, fun _ => ⟨k, b4, b5, b6⟩, fun q => by omega, fun q => by omega, fun q => by omega, fun q => by omega⟩⟩
  · obtain ⟨o', b1, b2, b3, k, b4, b5, b6⟩ := hsk 1 (by omega) (Or.inr h)
    refine ⟨o', ?_⟩
    simp only [u_li, h]
    exact ⟨b1, b2, b3, ⟨fun q => by omega, fun q => by omega, fun q => by omega, fun _ => ⟨k, b4, b5, b6⟩, fun q => by omega, fun q => by omega, fun q => by omega⟩⟩
  · refine ⟨o, ?_⟩
    simp only [u_li, h]
    exact ⟨hS, u_Gr.rf, by omega, ⟨fun q => by omega, fun q => by omega, fun q => by omega, fun q => by omega, fun q => by omega, fun q => by omega, fun q => by omega⟩⟩
  · refine ⟨o, ?_⟩
    simp only [u_li, h]
    exact ⟨hS, u_Gr.rf, by omega, ⟨fun q => by omega, fun q => by omega, fun q => by omega, fun q => by omega, fun q => by omega, fun q => by omega, fun q => by omega⟩⟩
  · have hv1 := nv 1 (p_us_1 (by omega))
    have hv2 := nv 2 (p_us_2 h)
    obtain ⟨a1, a2, a3⟩ := hS.J (a := u_xn P f i) (b := u_vn P f i 1) (a' := u_xn P f i) (b' := u_vn P f i 1) hd he (by omega) (by omega) (by omega) (by omega) (Or.inl ⟨rfl, rfl⟩)
    obtain ⟨b1, b2, b3⟩ := a1.J (a := u_xn P f i) (b := u_vn P f i 2) (a' := u_xn P f i) (b' := u_vn P f i 2) hd he (by omega) (by omega) (by omega) (by omega) (Or.inl ⟨rfl, rfl⟩)
    refine ⟨o, ?_⟩
    simp only [u_li, h]
    exact ⟨b1, a2.tr b2, Nat.le_succ _, ⟨fun q => by omega, fun q => by omega, fun q => by omega, fun q => by omega, fun _ => ⟨b2.2.2 _ _ (by omega) (by omega) a3, b3⟩, fun q => by omega, fun q => by omega⟩⟩
  · obtain ⟨a1, a2, a3, a4⟩ := u_ca_ok (sw := sw) (sw' := sw') hd he hW hf hi (Or.inl h) hS
    refine ⟨o, ?_⟩
    have hle : (u_ca d sw P f i X).2 ≤ X.2 + 1 := by
      have : ∀ (c j : Nat) (X : u3), (u_ag d sw (fun j => u_nd (p_ca P (p_fi P f + i)) j) (fun j => u_vn P f i (q_ar P (p_fi P f + i) j)) c j X).2 = X.2 := by
        intro c
        induction c with
        | zero => intro j X; rfl
        | succ c ih => intro j X; rw [u_ag, ih]; cases sw <;> rfl
      have h2 : (u_ca d sw P f i X).2 = X.2 := by
        rw [u_ca]
        refine Eq.trans ?_ (this (p_pa P (p_ca P (p_fi P f + i))) 0 X)
        cases sw <;> rfl
      omega
    have e1 : u_li d sw P f i X = u_ca d sw P f i X := by simp only [u_li, h]
    have e2 : u_li e sw' P f i Y = u_ca e sw' P f i Y := by simp only [u_li, h]
    rw [e1, e2]
    exact ⟨a1, a2, hle, ⟨fun q => by omega, fun q => by omega, fun q => by omega, fun q => by omega, fun q => by omega, fun _ => ⟨a3, a4⟩, fun q => by omega⟩⟩
  · obtain ⟨a1, a2, a3, a4⟩ := u_ca_ok (sw := sw) (sw' := sw') hd he hW hf hi (Or.inr h) hS
    have hv4 := nv 4 (p_us_e h)
    obtain ⟨b1, b2, b3⟩ := a1.J (a := u_xn P f i) (b := u_vn P f i 4) (a' := u_xn P f i) (b' := u_vn P f i 4) hd he (by omega) (by omega) (by omega) (by omega) (Or.inl ⟨rfl, rfl⟩)
    refine ⟨o, ?_⟩
    have hle : (u_ca d sw P f i X).2 ≤ X.2 + 1 := by
      have : ∀ (c j : Nat) (X : u3), (u_ag d sw (fun j => u_nd (p_ca P (p_fi P f + i)) j) (fun j => u_vn P f i (q_ar P (p_fi P f + i) j)) c j X).2 = X.2 := by
        intro c
        induction c with
        | zero => intro j X; rfl
        | succ c ih => intro j X; rw [u_ag, ih]; cases sw <;> rfl
      have h2 : (u_ca d sw P f i X).2 = X.2 := by
        rw [u_ca]
        refine Eq.trans ?_ (this (p_pa P (p_ca P (p_fi P f + i))) 0 X)
        cases sw <;> rfl
      omega
    have hca := (hW.2.2.2.2 f i hf hi).2.2.1 (by omega)
    have hp := hW.2.2.1 _ hca
    have e1 : u_li d sw P f i X = u_J d (u_ca d sw P f i X) (u_xn P f i) (u_vn P f i 4) := by simp only [u_li, h]
    have e2 : u_li e sw' P f i Y = u_J e (u_ca e sw' P f i Y) (u_xn P f i) (u_vn P f i 4) := by simp only [u_li, h]
    rw [e1, e2]
    refine ⟨b1, a2.tr b2, hle, ⟨fun q => by omega, fun q => by omega, fun q => by omega, fun q => by omega, fun q => by omega, fun _ => ⟨fun k hk => b2.2.2 _ _ ?_ ?_ (a3 k hk), b2.2.2 _ _ (by omega) ?_ a4⟩, fun _ => b3⟩⟩
    · have := ng (by omega) k (by simp only [p_vs]; omega); omega
    · have := nv _ (p_sl_ar (P := P) (l := p_fi P f + i) (v := k) (Or.inr h) hk).2; omega
    · have := ng (by omega) (p_vs P (p_ca P (p_fi P f + i)) - 1) (by simp only [p_vs]; omega); omega
theorem u_LC.gr {X' : u3} {o' : Nat → Nat} (hW : p_W P) (hf : f < p_fu P) (hi : i < p_ct P f) (hV : u_V X.2 o X.1) (h : u_LC P f i X o) (hg : u_Gr X o X' o') : u_LC P f i X' o' := by
  obtain ⟨nx, nv, ng⟩ := u_nodes hW hf hi
  obtain ⟨g1, g2, g3⟩ := hg
  have m24 := hV.2.1
  have hk3 : ∀ k, k < X.2 → o k < 183 := fun k hk => by have := hV.2.2.1 k hk; omega
  obtain ⟨l1, l2, l3, l4, l5, l6, l7⟩ := h
  refine ⟨fun q => ?_, fun q => ?_, fun q => ?_, fun q => ?_, fun q => ?_, fun q => ⟨fun k hk => ?_, ?_⟩, fun q => ?_⟩
  · have := nv 0 (p_us_0 (by omega))
    exact g3 _ _ (by omega) (by omega) (l1 q)
  · have h0 := nv 0 (p_us_0 (by omega))
    have h1 := nv 1 (p_us_1 (by omega))
    obtain ⟨k, a1, a2, a3, a4⟩ := l2 q
    exact ⟨k, by omega, by rw [g2 k a1]; exact g3 _ _ (hk3 k a1) (by omega) a2, g3 _ _ (u_sd_lt (by omega) (by omega)) (by omega) a3, g3 _ _ (u_sd_lt (by omega) (by omega)) (by omega) a4⟩
  · have h0 := nv 0 (p_us_0 (by omega))
    obtain ⟨k, a1, a2, a3⟩ := l3 q
    exact ⟨k, by omega, by rw [g2 k a1]; exact g3 _ _ (hk3 k a1) (by omega) a2, g3 _ _ (u_sd_lt (by omega) (by omega)) (by omega) a3⟩
  · have h0 := nv 0 (p_us_0 (by omega))
    obtain ⟨k, a1, a2, a3⟩ := l4 q
    exact ⟨k, by omega, by rw [g2 k a1]; exact g3 _ _ (hk3 k a1) (by omega) a2, g3 _ _ (u_sd_lt (by omega) (by omega)) (by omega) a3⟩
  · have h1 := nv 1 (p_us_1 (by omega))
    have h2 := nv 2 (p_us_2 q)
    exact ⟨g3 _ _ (by omega) (by omega) (l5 q).1, g3 _ _ (by omega) (by omega) (l5 q).2⟩
  · have ho : p_op P (p_fi P f + i) = 8 ∨ p_op P (p_fi P f + i) = 9 := by have := (hW.2.2.2.2 f i hf hi).1; omega
    have h1 := ng q k (by simp only [p_vs]; omega)
    have h2 := nv _ (p_sl_ar (P := P) (l := p_fi P f + i) (v := k) ho hk).2
    exact g3 _ _ (by omega) (by omega) ((l6 q).1 k hk)
  · have hca := (hW.2.2.2.2 f i hf hi).2.2.1 q
    have hp := hW.2.2.1 _ hca
    have h1 := ng q (p_vs P (p_ca P (p_fi P f + i)) - 1) (by simp only [p_vs]; omega)
    exact g3 _ _ (by omega) (by omega) (l6 q).2
  · have := nv 4 (p_us_e q)
    exact g3 _ _ (by omega) (by omega) (l7 q)
end UE
