/-! OBJECTS THAT ARE BEING MADE -/
section MRaw
variable {p : Program} {l : Launch} {e : Env} {R : Room} {s : State} {m : MethodId} {args : Array Value} {below : List Frame} {meth : Method} {c : Code} {H : Heap} {locs : List Loc} {cells slots : Nat} {Q : State → Prop}
variable {cc : ByteArray} {nL : Nat} {own : String} {pc : Nat} {ls : Array Slot} {st rest As : List Value} {G : m_G} {nx : Nat} {κ : Nat → Nat} {S S' : m_M}
theorem m_ow_i {S : m_M} {a k i j : Nat} (h : ((m_tab k).getD j (0, 0, 0)).1 = 0) : m_ow S a k i j = .int (m_ri S a j) := by simp only [m_ow, h]
theorem m_ow_j {S : m_M} {a k i j : Nat} (h : ((m_tab k).getD j (0, 0, 0)).1 = 1) : m_ow S a k i j = .long (m_rj S a j) := by simp only [m_ow, h]
theorem m_ow_si {S : m_M} {a k i j : Nat} {v : Int32} (ht : ((m_tab k).getD j (0, 0, 0)).1 = 0) (q : Nat) : m_ow (m_si S a j v) a k i q = if q = j then .int v else m_ow S a k i q := by
  by_cases h : q = j
  · subst h; rw [if_pos rfl, m_ow_i ht, m_si_eq]; simp [va_up]
  · rw [if_neg h]; unfold m_ow; rw [m_si_eq]; simp only [va_up, if_neg h]; rfl
theorem m_ow_sj {S : m_M} {a k i j : Nat} {v : Int64} (ht : ((m_tab k).getD j (0, 0, 0)).1 = 1) (q : Nat) : m_ow (m_sj S a j v) a k i q = if q = j then .long v else m_ow S a k i q := by
  by_cases h : q = j
  · subst h; rw [if_pos rfl, m_ow_j ht, m_sj_eq]; simp [va_up]
  · rw [if_neg h]; unfold m_ow; rw [m_sj_eq]; simp only [va_up, if_neg h]; rfl
theorem m_ow_next {S : m_M} {a k i j A B : Nat} (ho : (m_ord k)[i]? = some j) (ht : (m_tab k).getD j (0, 0, 0) = (2, A, B)) (q : Nat) : m_ow S a k (i + 1) q = if q = j then .ref (a + A - B) else m_ow S a k i q := by
  have e : (m_ord k).take (i + 1) = (m_ord k).take i ++ [j] := by rw [List.take_succ, ho]; rfl
  by_cases h : q = j
  · subst h; rw [if_pos rfl]; unfold m_ow; rw [ht, e, show ((m_ord k).take i ++ [q]).contains q = true by simp]; rfl
  · rw [if_neg h]; unfold m_ow; rw [e]
    have : ((m_ord k).take i ++ [j]).contains q = ((m_ord k).take i).contains q := by simp [h]
    rw [this]
theorem r_putw (X : m_Cx p s m args meth c cc nL own G) (hH : m_H G nx κ S H) (hS0 : m_S G s H locs) {S' : m_M} {k i a j index N : Nat} {C : String} {T : u_T} (ty0 : Nat → FieldType) {v : Value} (hk : κ a = m_ac 7 (100 * k + i)) (hkl : k < 13) (hi : i < 100) (hc : vwCl[k]? = some (C, T, N)) (hin : ∀ w ∈ u_ws C T N, w ∈ m_gW) (hty : ∀ k, k < N → parseFieldDescriptor (T k).2.2.1 = some (ty0 k)) (hnm : ∀ a, a < N → ∀ b, b < N → a ≠ b → (T a).2.1 ≠ (T b).2.1)
    (hj : j < N) (hlink : Cond.fieldLink own index C (T j).2.1 (T j).2.2.1 ∈ m_gW) (hC : (T j).1 = C) (hfin : (T j).2.2.2 = false) (hn : narrow (ty0 j) v = v) (hfit : fits (ty0 j) v = true)
    (e1 : ∀ q, q ≠ a → m_ri S' q = m_ri S q) (e2 : ∀ q, q ≠ a → m_rj S' q = m_rj S q) (e3 : ∀ q, m_rr S' q = m_rr S q) (hov : ∀ q, m_ow S' a k i q = if q = j then v else m_ow S a k i q)
    (hdg : decode cc pc = .ok (.putfield index, 3)) (kk : ∀ (H1 : Heap) (locs1 : List Loc), m_H G nx κ S' H1 → m_S G s H1 locs1 → W p l e R s m args below meth c H1 locs1 cells slots Q (F0 m (pc + 3) ls rest)) : W p l e R s m args below meth c H locs cells slots Q (F0 m pc ls (v :: .ref a :: rest)) := by
  obtain ⟨⟨hx, hb, -, hown, hts⟩, hK, -, -⟩ := X
  have hap := va_apart (own := own) hts hin ty0 hty hnm hK hc
  obtain ⟨r, h1, cell, q1, q2, q3, q4⟩ := hH.2.2.2.1 a k i hk hkl hi
  have hr : r = (C, T, N) := Option.some.inj (h1.symm.trans hc)
  subst hr
  obtain ⟨hS, hfc, kC, hkC, hkind⟩ := hK.1 k _ hc
  obtain ⟨cf, kf, fi, f, hif, hsl⟩ := hS j hj
  have hlay := hts _ (hin _ (u_in_lay hj))
  unfold u_lay at hlay
  rw [if_neg (by rw [hfin]; decide)] at hlay
  have hst := (u_facts hfc hkC (u_lays hts hin hj) hif).1
  have h6 := u_store hfc hkC hkind hlay hif (hty j hj) hn hfit
  refine W.putK hx hb (f := f) ⟨hown, hts _ hlink, ⟨_, _, _, by rw [← hC]; exact hif⟩, hst⟩ (by rw [q2]; exact h6) q1 q3 (by rw [hsl]; exact k2_hasslot (q4 j hj)) rfl rfl hdg fun H' g1 g2 g3 => ?_
  rw [hsl] at g1 ⊢
  refine kk H' _ (hH.one g2 g3 e1 e2 (fun q _ => e3 q) (fun k' hk' _ => ?_) (fun k' i' hk' _ _ => ?_) (fun t n hk' _ => ?_) (fun n hk' => ?_) (fun t n hk' _ => ?_)) (hS0.put g2 g3 (hH.2.1.2 a (by rw [hk]; simp only [m_ac]; omega)).1)
  · rw [hk] at hk'; simp only [m_ac] at hk'; omega
  · have := (m_ac_inj (by omega) (by omega) (hk.symm.trans hk')).2
    have e5 : k' = k := by omega
    have e6 : i' = i := by omega
    subst e5; subst e6
    refine ⟨_, hc, t_OB.to (V := updV (m_ow S a k' i') j v) ⟨_, g1, q2, q3, t_set q4 hap hj v⟩ (fun q _ => ?_)⟩
    rw [hov q]; rfl
  · have := m_ac_inj (by omega) (by omega) (hk.symm.trans hk'); omega
  · have := m_ac_inj (by omega) (by omega) (hk.symm.trans hk'); omega
  · have := m_ac_inj (by omega) (by omega) (hk.symm.trans hk'); omega
theorem n_puwi (X : m_Cx p s m args meth c cc nL own G) (hH : m_H G nx κ S H) (hS0 : m_S G s H locs) {k i a j index N : Nat} {C : String} {T : u_T} (ty0 : Nat → FieldType) {v : Int32} (hk : κ a = m_ac 7 (100 * k + i)) (hkl : k < 13) (hi : i < 100) (hc : vwCl[k]? = some (C, T, N)) (hin : ∀ w ∈ u_ws C T N, w ∈ m_gW) (hty : ∀ k, k < N → parseFieldDescriptor (T k).2.2.1 = some (ty0 k)) (hnm : ∀ a, a < N → ∀ b, b < N → a ≠ b → (T a).2.1 ≠ (T b).2.1)
    (hj : j < N) (hlink : Cond.fieldLink own index C (T j).2.1 (T j).2.2.1 ∈ m_gW) (hC : (T j).1 = C) (hfin : (T j).2.2.2 = false) (ht : ((m_tab k).getD j (0, 0, 0)).1 = 0) (hn : narrow (ty0 j) (.int v) = .int v ∧ fits (ty0 j) (.int v) = true) (hv : m_si S a j v = S')
    (hdg : decode cc pc = .ok (.putfield index, 3)) (kk : ∀ (H1 : Heap) (locs1 : List Loc), m_H G nx κ S' H1 → m_S G s H1 locs1 → W p l e R s m args below meth c H1 locs1 cells slots Q (F0 m (pc + 3) ls rest)) : W p l e R s m args below meth c H locs cells slots Q (F0 m pc ls (.int v :: .ref a :: rest)) := by
  subst hv
  exact r_putw (S' := m_si S a j v) X hH hS0 ty0 hk hkl hi hc hin hty hnm hj hlink hC hfin hn.1 hn.2 (fun q h => m_si_ne h) (fun _ _ => rfl) (fun _ => rfl) (m_ow_si ht) hdg kk
theorem n_puwj (X : m_Cx p s m args meth c cc nL own G) (hH : m_H G nx κ S H) (hS0 : m_S G s H locs) {k i a j index N : Nat} {C : String} {T : u_T} (ty0 : Nat → FieldType) {v : Int64} (hk : κ a = m_ac 7 (100 * k + i)) (hkl : k < 13) (hi : i < 100) (hc : vwCl[k]? = some (C, T, N)) (hin : ∀ w ∈ u_ws C T N, w ∈ m_gW) (hty : ∀ k, k < N → parseFieldDescriptor (T k).2.2.1 = some (ty0 k)) (hnm : ∀ a, a < N → ∀ b, b < N → a ≠ b → (T a).2.1 ≠ (T b).2.1)
    (hj : j < N) (hlink : Cond.fieldLink own index C (T j).2.1 (T j).2.2.1 ∈ m_gW) (hC : (T j).1 = C) (hfin : (T j).2.2.2 = false) (ht : ((m_tab k).getD j (0, 0, 0)).1 = 1) (hn : narrow (ty0 j) (.long v) = .long v ∧ fits (ty0 j) (.long v) = true) (hv : m_sj S a j v = S')
    (hdg : decode cc pc = .ok (.putfield index, 3)) (kk : ∀ (H1 : Heap) (locs1 : List Loc), m_H G nx κ S' H1 → m_S G s H1 locs1 → W p l e R s m args below meth c H1 locs1 cells slots Q (F0 m (pc + 3) ls rest)) : W p l e R s m args below meth c H locs cells slots Q (F0 m pc ls (.long v :: .ref a :: rest)) := by
  subst hv
  exact r_putw (S' := m_sj S a j v) X hH hS0 ty0 hk hkl hi hc hin hty hnm hj hlink hC hfin hn.1 hn.2 (fun _ _ => rfl) (fun q h => m_sj_ne h) (fun _ => rfl) (m_ow_sj ht) hdg kk
theorem m_rawpos : ∀ k, k < 14 → ∀ c ∈ m_lay k, c < 100 ∨ (c - 100) % 8 ≠ 7 := by decide +kernel
/-- a code of one address is exchanged: no layout of another speaks of it -/
theorem m_Str.swap {a c0 c1 : Nat} (h : m_Str κ) (h0 : κ a = c0) (hc0 : 100 ≤ c0 ∧ (c0 - 100) % 8 = 7) (hself : c1 < 14 → ∀ i c, (m_lay c1)[i]? = some c → va_up κ a c1 (a + i) = c) : m_Str (va_up κ a c1) := by
  intro b k hk hl i c hi
  by_cases hb : b = a
  · subst hb; rw [m_up_eq] at hk; subst hk; exact hself hl i c hi
  · rw [m_up_ne hb] at hk
    have h1 := h b k hk hl i c hi
    have h2 : b + i ≠ a := fun e => by
      rw [e, h0] at h1
      have := m_rawpos k hl c (List.mem_of_getElem? hi)
      omega
    rw [m_up_ne h2]; exact h1
/-- the next reference of an object that is being made -/
theorem n_puwr (X : m_Cx p s m args meth c cc nL own G) (hinit : meth.name = "<init>") (hH : m_H G nx κ S H) (hS0 : m_S G s H locs) (hT : m_Str κ) {k i a b j index N A B : Nat} {C : String} {T : u_T} (ty0 : Nat → FieldType) (hk : κ a = m_ac 7 (100 * k + i)) (hkl : k < 13) (hi : i + 1 < 100) (hc : vwCl[k]? = some (C, T, N)) (hin : ∀ w ∈ u_ws C T N, w ∈ m_gW) (hty : ∀ k, k < N → parseFieldDescriptor (T k).2.2.1 = some (ty0 k)) (hnm : ∀ a, a < N → ∀ b, b < N → a ≠ b → (T a).2.1 ≠ (T b).2.1)
    (hj : j < N) (hlink : Cond.fieldLink own index C (T j).2.1 (T j).2.2.1 ∈ m_gW) (hC : (T j).1 = C) (hCo : C = own) (hfin : (T j).2.2.2 = true) (ho : (m_ord k)[i]? = some j) (ht : (m_tab k).getD j (0, 0, 0) = (2, A, B)) (hb2 : a + A - B = b) (hn : narrow (ty0 j) (.ref b) = .ref b ∧ fits (ty0 j) (.ref b) = true)
    (hdg : decode cc pc = .ok (.putfield index, 3)) (kk : ∀ (H1 : Heap) (locs1 : List Loc) (κ' : Nat → Nat), (∀ q, q ≠ a → κ' q = κ q) → κ' a = m_ac 7 (100 * k + (i + 1)) → m_Str κ' → m_H G nx κ' S H1 → m_S G s H1 locs1 → W p l e R s m args below meth c H1 locs1 cells slots Q (F0 m (pc + 3) ls rest)) : W p l e R s m args below meth c H locs cells slots Q (F0 m pc ls (.ref b :: .ref a :: rest)) := by
  obtain ⟨⟨hx, hb, -, hown, hts⟩, hK, -, -⟩ := X
  have hap := va_apart (own := own) hts hin ty0 hty hnm hK hc
  obtain ⟨r, h1, cell, q1, q2, q3, q4⟩ := hH.2.2.2.1 a k i hk hkl (by omega)
  have hr : r = (C, T, N) := Option.some.inj (h1.symm.trans hc)
  subst hr
  obtain ⟨hS, hfc, kC, hkC, hkind⟩ := hK.1 k _ hc
  obtain ⟨cf, kf, fi, f, hif, hsl⟩ := hS j hj
  have hlay := hts _ (hin _ (u_in_lay hj))
  unfold u_lay at hlay
  rw [if_pos hfin] at hlay
  have hst := (u_facts hfc hkC (u_lays hts hin hj) hif).1
  have hcf : m.cls = cf := by
    obtain ⟨_, _, c', _, _, _, -, -, hf', -, -, -, hown2, -⟩ := Cond.laysFinal_spec hlay
    have e1 : c' = cf := by have := hif.symm.trans hf'; simp at this; exact this.1.symm
    rw [hC, hCo] at hown2
    rw [← e1]; exact Option.some.inj (hown.symm.trans hown2)
  have h6 := u_fits hfc hkC hkind (Or.inr hlay) hif (hty j hj) hn.1 hn.2
  refine W.putFinK hx hb hown (hts _ hlink) (by rw [← hC]; exact hif) hst hcf hinit (by rw [q2]; exact h6) q1 q3 (by rw [hsl]; exact k2_hasslot (q4 j hj)) rfl rfl hdg fun H' g1 g2 g3 => ?_
  rw [hsl] at g1 ⊢
  have hA : m_ge G.2.2 a := (hH.2.1.2 a (by rw [hk]; simp only [m_ac]; omega)).1
  refine kk H' _ (va_up κ a (m_ac 7 (100 * k + (i + 1)))) (fun q hq => m_up_ne hq) m_up_eq (hT.swap hk ⟨by simp only [m_ac]; omega, by simp only [m_ac]; omega⟩ (fun h => by simp only [m_ac] at h; omega)) ?_ (hS0.put g2 g3 hA)
  obtain ⟨h0, hb0, k1, k2, k3, k4, k5⟩ := hH
  refine ⟨g2.trans h0, ⟨hb0.1, fun q hq => ?_⟩, fun q k' hq hk' => ?_, fun q k' i' hq hk' hi' => ?_, fun q t n hq ht => ?_, fun q n hq => ?_, fun q t n hq ht => ?_⟩
  · by_cases hqa : q = a
    · subst hqa; exact hb0.2 q (by rw [hk]; simp only [m_ac]; omega)
    · rw [m_up_ne hqa] at hq; exact hb0.2 q hq
  · by_cases hqa : q = a
    · subst hqa; rw [m_up_eq] at hq; simp only [m_ac] at hq; omega
    · rw [m_up_ne hqa] at hq
      obtain ⟨r, r1, r2⟩ := k1 q k' hq hk'
      exact ⟨r, r1, r2.kept (g3 q hqa)⟩
  · by_cases hqa : q = a
    · subst hqa; rw [m_up_eq] at hq
      have := (m_ac_inj (by omega) (by omega) hq).2
      have e5 : k' = k := by omega
      have e6 : i' = i + 1 := by omega
      subst e5; subst e6
      refine ⟨_, hc, t_OB.to (V := updV (m_ow S q k' i) j (.ref b)) ⟨_, g1, q2, q3, t_set q4 hap hj _⟩ (fun z _ => ?_)⟩
      rw [m_ow_next ho ht z, hb2]; rfl
    · rw [m_up_ne hqa] at hq
      obtain ⟨r, r1, r2⟩ := k2 q k' i' hq hk' hi'
      exact ⟨r, r1, r2.kept (g3 q hqa)⟩
  · by_cases hqa : q = a
    · subst hqa; rw [m_up_eq] at hq; have := m_ac_inj (by omega) (by omega) hq; omega
    · rw [m_up_ne hqa] at hq; rw [g3 q hqa]; exact k3 q t n hq ht
  · by_cases hqa : q = a
    · subst hqa; rw [m_up_eq] at hq; have := m_ac_inj (by omega) (by omega) hq; omega
    · rw [m_up_ne hqa] at hq; rw [g3 q hqa]; exact k4 q n hq
  · by_cases hqa : q = a
    · subst hqa; rw [m_up_eq] at hq; have := m_ac_inj (by omega) (by omega) hq; omega
    · rw [m_up_ne hqa] at hq; rw [g3 q hqa]
      refine ⟨(k5 q t n hq ht).1, fun z b' hz => ?_⟩
      have hb1 := (k5 q t n hq ht).2 z b' hz
      have : b' ≠ a := fun e => by rw [e, hk] at hb1; simp only [m_ac] at hb1; unfold m_ek at hb1; split at hb1 <;> omega
      rw [m_up_ne this]; exact hb1
/-- a reference of an object that is being made is read -/
theorem r_getw (X : m_Cx p s m args meth c cc nL own G) (hH : m_H G nx κ S H) {k i a j index N b A B : Nat} {C : String} {T : u_T} (hk : κ a = m_ac 7 (100 * k + i)) (hkl : k < 13) (hi : i < 100) (hc : vwCl[k]? = some (C, T, N)) (hin : ∀ w ∈ u_ws C T N, w ∈ m_gW) (hj : j < N) (hlink : Cond.fieldLink own index C (T j).2.1 (T j).2.2.1 ∈ m_gW) (hC : (T j).1 = C) (ht : (m_tab k).getD j (0, 0, 0) = (2, A, B)) (hset : ((m_ord k).take i).contains j = true) (hb2 : a + A - B = b)
    (hdg : decode cc pc = .ok (.getfield index, 3)) (kk : W p l e R s m args below meth c H locs cells slots Q (F0 m (pc + 3) ls (.ref b :: rest))) : W p l e R s m args below meth c H locs cells slots Q (F0 m pc ls (.ref a :: rest)) := by
  obtain ⟨⟨hx, hb, -, hown, hts⟩, hK, -, -⟩ := X
  obtain ⟨r, h1, cell, q1, q2, q3, q4⟩ := hH.2.2.2.1 a k i hk hkl hi
  have hr : r = (C, T, N) := Option.some.inj (h1.symm.trans hc)
  subst hr
  obtain ⟨hS, hfc, kC, hkC, hkind⟩ := hK.1 k _ hc
  obtain ⟨cf, kf, fi, f, hif, hsl⟩ := hS j hj
  refine W.getf hx hb hown (hts _ hlink) (by rw [← hC]; exact hif) (u_facts hfc hkC (u_lays hts hin hj) hif).1 q1 (by rw [q3]; exact fun h => by cases h) (v := .ref b) ?_ rfl rfl hdg kk
  rw [hsl, q4 j hj]
  unfold m_ow; rw [ht, hset]; show some (Value.ref (a + A - B)) = _; rw [hb2]
/-- all references are set: it is made -/
theorem m_seal {k i a N : Nat} {C : String} {T : u_T} {tl : List Nat} (hH : m_H G nx κ S H) (hT : m_Str κ) (hg : m_seg κ a (m_ac 7 (100 * k + i) :: tl)) (hkl : k < 13) (hi : i < 100) (hc : vwCl[k]? = some (C, T, N)) (hlay : m_lay (k + 1) = (k + 1) :: tl) (hall : ∀ j, j < N → ((m_tab k).getD j (0, 0, 0)).1 < 2 ∨ ((m_ord k).take i).contains j = true) :
    ∃ κ', (∀ q, q ≠ a → κ' q = κ q) ∧ κ' a = k + 1 ∧ m_seg κ' a (m_lay (k + 1)) ∧ m_Str κ' ∧ m_H G nx κ' S H := by
  have hk : κ a = m_ac 7 (100 * k + i) := hg 0 _ rfl
  have hseg : m_seg (va_up κ a (k + 1)) a (m_lay (k + 1)) := by
    rw [hlay]
    intro z c hz
    cases z with
    | zero => cases hz; exact m_up_eq
    | succ z => rw [m_up_ne (by omega)]; exact hg (z + 1) c hz
  refine ⟨va_up κ a (k + 1), fun q hq => m_up_ne hq, m_up_eq, hseg, hT.swap hk ⟨by simp only [m_ac]; omega, by simp only [m_ac]; omega⟩ (fun _ z c hz => hseg z c hz), ?_⟩
  obtain ⟨h0, hb0, k1, k2, k3, k4, k5⟩ := hH
  refine ⟨h0, ⟨hb0.1, fun q hq => ?_⟩, fun q k' hq hk' => ?_, fun q k' i' hq hk' hi' => ?_, fun q t n hq ht => ?_, fun q n hq => ?_, fun q t n hq ht => ?_⟩
  · by_cases hqa : q = a
    · subst hqa; exact hb0.2 q (by rw [hk]; simp only [m_ac]; omega)
    · rw [m_up_ne hqa] at hq; exact hb0.2 q hq
  · by_cases hqa : q = a
    · subst hqa; rw [m_up_eq] at hq
      have e5 : k' = k := by omega
      subst e5
      obtain ⟨r, r1, r2⟩ := k2 q k' i hk hkl hi
      have hr : r = (C, T, N) := Option.some.inj (r1.symm.trans hc)
      subst hr
      refine ⟨_, r1, r2.to (fun j hj => ?_)⟩
      unfold m_ow m_ov
      rcases hall j hj with h | h
      · generalize ((m_tab k').getD j (0, 0, 0)).1 = d at h ⊢
        match d, h with
        | 0, _ => rfl
        | 1, _ => rfl
        | d + 2, h => exact absurd h (by omega)
      · rw [h]; rfl
    · rw [m_up_ne hqa] at hq; exact k1 q k' hq hk'
  · by_cases hqa : q = a
    · subst hqa; rw [m_up_eq] at hq; simp only [m_ac] at hq; omega
    · rw [m_up_ne hqa] at hq; exact k2 q k' i' hq hk' hi'
  · by_cases hqa : q = a
    · subst hqa; rw [m_up_eq] at hq; simp only [m_ac] at hq; omega
    · rw [m_up_ne hqa] at hq; exact k3 q t n hq ht
  · by_cases hqa : q = a
    · subst hqa; rw [m_up_eq] at hq; simp only [m_ac] at hq; omega
    · rw [m_up_ne hqa] at hq; exact k4 q n hq
  · by_cases hqa : q = a
    · subst hqa; rw [m_up_eq] at hq; simp only [m_ac] at hq; omega
    · rw [m_up_ne hqa] at hq
      refine ⟨(k5 q t n hq ht).1, fun z b' hz => ?_⟩
      have hb1 := (k5 q t n hq ht).2 z b' hz
      have : b' ≠ a := fun e => by rw [e, hk] at hb1; simp only [m_ac] at hb1; unfold m_ek at hb1; split at hb1 <;> omega
      rw [m_up_ne this]; exact hb1
/-- an int field of an object that is being made -/
theorem r_gewi (X : m_Cx p s m args meth c cc nL own G) (hH : m_H G nx κ S H) {k i a j index N : Nat} {C : String} {T : u_T} (hk : κ a = m_ac 7 (100 * k + i)) (hkl : k < 13) (hi : i < 100) (hc : vwCl[k]? = some (C, T, N)) (hin : ∀ w ∈ u_ws C T N, w ∈ m_gW) (hj : j < N) (hlink : Cond.fieldLink own index C (T j).2.1 (T j).2.2.1 ∈ m_gW) (hC : (T j).1 = C) (ht : ((m_tab k).getD j (0, 0, 0)).1 = 0)
    (hdg : decode cc pc = .ok (.getfield index, 3)) (kk : W p l e R s m args below meth c H locs cells slots Q (F0 m (pc + 3) ls (.int (m_ri S a j) :: rest))) : W p l e R s m args below meth c H locs cells slots Q (F0 m pc ls (.ref a :: rest)) := by
  obtain ⟨⟨hx, hb, -, hown, hts⟩, hK, -, -⟩ := X
  obtain ⟨r, h1, cell, q1, q2, q3, q4⟩ := hH.2.2.2.1 a k i hk hkl hi
  have hr : r = (C, T, N) := Option.some.inj (h1.symm.trans hc)
  subst hr
  obtain ⟨hS, hfc, kC, hkC, hkind⟩ := hK.1 k _ hc
  obtain ⟨cf, kf, fi, f, hif, hsl⟩ := hS j hj
  refine W.getf hx hb hown (hts _ hlink) (by rw [← hC]; exact hif) (u_facts hfc hkC (u_lays hts hin hj) hif).1 q1 (by rw [q3]; exact fun h => by cases h) (v := .int (m_ri S a j)) ?_ rfl rfl hdg kk
  rw [hsl, q4 j hj]
  unfold m_ow; rw [ht]; rfl
/-- the same of a class whose layout tells only how its cells begin -/
theorem m_sealp {k i a N : Nat} {C : String} {T : u_T} {tl t2 : List Nat} (hH : m_H G nx κ S H) (hT : m_Str κ) (hg : m_seg κ a (m_ac 7 (100 * k + i) :: (tl ++ t2))) (hkl : k < 13) (hi : i < 100) (hc : vwCl[k]? = some (C, T, N)) (hlay : m_lay (k + 1) = (k + 1) :: tl) (hall : ∀ j, j < N → ((m_tab k).getD j (0, 0, 0)).1 < 2 ∨ ((m_ord k).take i).contains j = true) :
    ∃ κ', (∀ q, q ≠ a → κ' q = κ q) ∧ κ' a = k + 1 ∧ m_seg κ' a ((k + 1) :: (tl ++ t2)) ∧ m_Str κ' ∧ m_H G nx κ' S H := by
  have hg0 : m_seg κ a (m_ac 7 (100 * k + i) :: tl) := by
    intro z c hz
    cases z with
    | zero => exact hg 0 c hz
    | succ z =>
      have hz' : tl[z]? = some c := hz
      refine hg (z + 1) c ?_
      show (tl ++ t2)[z]? = some c
      rw [List.getElem?_append_left (List.getElem?_eq_some_iff.mp hz').1]; exact hz'
  obtain ⟨κ', h1, h2, -, h4, h5⟩ := m_seal hH hT hg0 hkl hi hc hlay hall
  refine ⟨κ', h1, h2, ?_, h4, h5⟩
  intro z c hz
  cases z with
  | zero => cases hz; exact h2
  | succ z => rw [h1 _ (by omega)]; exact hg (z + 1) c hz
end MRaw
