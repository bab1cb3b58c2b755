/-! CELLS THAT COME: one behind another -/
def m_seg (κ : Nat → Nat) (a : Nat) (l : List Nat) : Prop := ∀ i c, l[i]? = some c → κ (a + i) = c
theorem m_seg.app {κ : Nat → Nat} {a : Nat} {l1 l2 : List Nat} (h1 : m_seg κ a l1) (h2 : m_seg κ (a + l1.length) l2) : m_seg κ a (l1 ++ l2) := by
  intro i c h
  by_cases hi : i < l1.length
  · rw [List.getElem?_append_left hi] at h; exact h1 i c h
  · rw [List.getElem?_append_right (by omega)] at h
    have := h2 _ c h
    rwa [show a + l1.length + (i - l1.length) = a + i by omega] at this
theorem m_seg.kept {κ κ' : Nat → Nat} {a : Nat} {l : List Nat} (h : m_seg κ a l) (hk : ∀ q, q < a + l.length → κ' q = κ q) : m_seg κ' a l := by
  intro i c hi
  have hl : i < l.length := (List.getElem?_eq_some_iff.mp hi).1
  rw [hk _ (by omega)]; exact h i c hi
theorem m_seg.one {κ : Nat → Nat} {a c : Nat} (h : κ a = c) : m_seg κ a [c] := by
  intro i c' hi
  have hl : i < 1 := (List.getElem?_eq_some_iff.mp hi).1
  have : i = 0 := by omega
  subst this
  cases hi; exact h
theorem m_lay_pos : ∀ k, k < 14 → ∀ c ∈ m_lay k, c ≠ 0 := by decide +kernel
theorem m_Str.push {κ : Nat → Nat} {n c : Nat} (h : m_Str κ) (hn : κ n = 0) (hc : 14 ≤ c) : m_Str (va_up κ n c) := by
  intro a k hk hl i c' hi
  by_cases ha : a = n
  · subst ha; rw [m_up_eq] at hk; omega
  · rw [m_up_ne ha] at hk
    have h1 := h a k hk hl i c' hi
    have h2 : a + i ≠ n := fun e => m_lay_pos k hl c' (List.mem_of_getElem? hi) (by rw [← h1, e, hn])
    rw [m_up_ne h2]; exact h1
theorem m_new_ri {S : m_M} {q : Nat} : m_ri (m_new S q) q = fun _ => 0 := m_up_eq
theorem m_new_rj {S : m_M} {q : Nat} : m_rj (m_new S q) q = fun _ => 0 := m_up_eq
theorem m_new_rr {S : m_M} {q : Nat} : m_rr (m_new S q) q = fun _ => none := m_up_eq
theorem m_new_ri_ne {S : m_M} {q a : Nat} (h : a ≠ q) : m_ri (m_new S q) a = m_ri S a := m_up_ne h
theorem m_new_rj_ne {S : m_M} {q a : Nat} (h : a ≠ q) : m_rj (m_new S q) a = m_rj S a := m_up_ne h
theorem m_new_rr_ne {S : m_M} {q a : Nat} (h : a ≠ q) : m_rr (m_new S q) a = m_rr S a := m_up_ne h
theorem m_H.push {G : m_G} {nx : Nat} {κ : Nat → Nat} {S : m_M} {H H1 : Heap} {c : Nat} (h : m_H G nx κ S H) (hc : 14 ≤ c) (z : H1.size = nx + 1) (o : ∀ q, q < nx → H1[q]? = H[q]?)
    (c2 : ∀ k i, c = m_ac 7 (100 * k + i) → k < 13 → i < 100 → ∃ r, vwCl[k]? = some r ∧ t_OB nx (G.1.1 k) r.2.2 (G.1.2 k) H1 (m_ow (m_new S nx) nx k i))
    (c3 : ∀ t n, c = m_ac t n → (t < 2 ∨ t = 3) → H1[nx]? = some (arrV (G.2.1 t) n (fun _ => .int 0)))
    (c4 : ∀ n, c = m_ac 2 n → H1[nx]? = some (arrV (G.2.1 2) n (fun _ => .long 0)))
    (c5 : ∀ t n, c = m_ac t n → (t = 4 ∨ t = 5) → H1[nx]? = some (arrV (G.2.1 t) n (fun _ => .null))) : m_H G (nx + 1) (va_up κ nx c) (m_new S nx) H1 := by
  obtain ⟨h0, hb, h1, h2, h3, h4, h5⟩ := h
  have hlt : ∀ q, κ q ≠ 0 → q < nx := fun q hq => (hb.2 q hq).2
  refine ⟨z, ⟨by omega, fun q hq => ?_⟩, fun q k hq hk => ?_, fun q k i hq hk hi => ?_, fun q t n hq ht => ?_, fun q n hq => ?_, fun q t n hq ht => ?_⟩
  · by_cases hqa : q = nx
    · subst hqa; exact ⟨hb.1, by omega⟩
    · rw [m_up_ne hqa] at hq; have := hb.2 q hq; exact ⟨this.1, by omega⟩
  · by_cases hqa : q = nx
    · subst hqa; rw [m_up_eq] at hq; omega
    · rw [m_up_ne hqa] at hq
      obtain ⟨r, r1, r2⟩ := h1 q k hq hk
      exact ⟨r, r1, by rw [m_ov_other (m_new_ri_ne hqa) (m_new_rj_ne hqa)]; exact r2.kept (o q (hlt q (by omega)))⟩
  · by_cases hqa : q = nx
    · subst hqa; rw [m_up_eq] at hq; exact c2 k i hq hk hi
    · rw [m_up_ne hqa] at hq
      obtain ⟨r, r1, r2⟩ := h2 q k i hq hk hi
      exact ⟨r, r1, by rw [m_ow_other (m_new_ri_ne hqa) (m_new_rj_ne hqa)]; exact r2.kept (o q (hlt q (by rw [hq]; simp only [m_ac]; omega)))⟩
  · by_cases hqa : q = nx
    · subst hqa; rw [m_up_eq] at hq; rw [m_new_ri]; exact c3 t n hq ht
    · rw [m_up_ne hqa] at hq; rw [m_new_ri_ne hqa, o q (hlt q (by rw [hq]; simp only [m_ac]; omega))]; exact h3 q t n hq ht
  · by_cases hqa : q = nx
    · subst hqa; rw [m_up_eq] at hq; rw [m_new_rj]; exact c4 n hq
    · rw [m_up_ne hqa] at hq; rw [m_new_rj_ne hqa, o q (hlt q (by rw [hq]; simp only [m_ac]; omega))]; exact h4 q n hq
  · by_cases hqa : q = nx
    · subst hqa; rw [m_up_eq] at hq; rw [m_new_rr]; exact ⟨c5 t n hq ht, fun i b hb => by cases hb⟩
    · rw [m_up_ne hqa] at hq; rw [m_new_rr_ne hqa, o q (hlt q (by rw [hq]; simp only [m_ac]; omega))]
      refine ⟨(h5 q t n hq ht).1, fun i b hi => ?_⟩
      have hb1 := (h5 q t n hq ht).2 i b hi
      have : b ≠ nx := fun e => by
        have := hlt b (by rw [hb1]; unfold m_ek; split <;> omega)
        omega
      rw [m_up_ne this]; exact hb1
/-- what the tables say beyond the good words: nest mates' constructors, arrays of objects -/
def m_nest : List (String × Nat × MethodName × String) := [(RX11, 19, yX4_init, "RegionRooms"), (RX4, 11, yX3_init, "RegionRooms"), (RX3, 43, yX6_init, "RegionRooms"), (RX11, 26, yX8_init, "RegionRooms"), (RX8, 11, yX7_init, "RegionRooms"), (RX11, 33, yX5_init, "RegionRooms"), (RX11, 43, yX10_init, "RegionRooms"), (RX10, 9, yX3_init, "RegionRooms"), (RX10, 25, yX7_init, "RegionRooms"), (RX11, 57, yX1_init, "RegionRooms"), (RX11, 64, yX0_init, "RegionRooms")]
def m_N (U : State) : Prop := (∀ q ∈ m_nest, va_Nw (.methodLinkNest q.1 q.2.1 q.2.2.1 q.2.2.2) U) ∧ va_AO "RegionRooms$Machine" U ∧ va_AO "RegionRooms$Whole" U
theorem m_N.warm {s U : State} (hW : s.WarmedH U.vm) (h : m_N s) : m_N U := ⟨fun q hq => va_Nw.warmM hW (h.1 q hq), h.2.1.moved hW.alike, h.2.2.moved hW.alike⟩
theorem m_N.same {u U : State} (hvm : u.vm = U.vm) (h : m_N u) : m_N U := ⟨fun q hq => va_Nw.same rfl hvm (h.1 q hq), h.2.1.moved (by rw [hvm]; exact Vm.Alike.refl _), h.2.2.moved (by rw [hvm]; exact Vm.Alike.refl _)⟩
def m_WN (G : m_G) (nx : Nat) (κ : Nat → Nat) (S : m_M) (U : State) : Prop := m_Wd G nx κ S U ∧ m_N U
section MAlloc
variable {p : Program} {l : Launch} {e : Env} {R : Room} {s : State} {m : MethodId} {args : Array Value} {below : List Frame} {meth : Method} {c : Code} {H : Heap} {locs : List Loc} {cells slots : Nat} {Q : State → Prop}
variable {cc : ByteArray} {nL : Nat} {own : String} {pc : Nat} {ls : Array Slot} {st rest As : List Value} {G : m_G} {nx : Nat} {κ : Nat → Nat} {S S' : m_M}
theorem m_S.push {H1 : Heap} (hS : m_S G s H locs) (z : H1.size = H.size + 1) (o : ∀ q, q < H.size → H1[q]? = H[q]?) : m_S G s H1 locs :=
  ⟨Nat.le_trans hS.1 (by omega), fun q h1 h2 => (o q (Nat.lt_of_lt_of_le h1 hS.1)).trans (hS.2.1 q h1 h2), hS.2.2⟩
theorem m_kz (hH : m_H G nx κ S H) : κ nx = 0 := by
  by_cases h : κ nx = 0
  · exact h
  · have := (hH.2.1.2 nx h).2; omega
/-- new: an object of class k, no reference set -/
theorem n_new (X : m_Cx p s m args meth c cc nL own G) (hH : m_H G nx κ S H) (hS : m_S G s H locs) (hT : m_Str κ) {k index N : Nat} {C : String} {T : u_T} (ty0 : Nat → FieldType) (hkl : k < 13) (hc : vwCl[k]? = some (C, T, N)) (hin : ∀ w ∈ u_ws C T N, w ∈ m_gW) (hty : ∀ k, k < N → parseFieldDescriptor (T k).2.2.1 = some (ty0 k)) (hlink : Cond.classLink own index C ∈ m_gW) (hinst : Cond.instantiable C N ∈ m_gW) (hini : Cond.initialized C ∈ m_gW)
    (hdef : ∀ (S : m_M) (a j : Nat), j < N → m_ri S a = (fun _ => 0) → m_rj S a = (fun _ => 0) → defaultValue (ty0 j) = m_ow S a k 0 j) (hm : m_new S nx = S') {nx' : Nat} (hnx : nx + 1 = nx') (hcells : cells + 1 ≤ R.cells) (hslots : slots + N ≤ R.slots) (hdg : decode cc pc = .ok (.new index, 3))
    (kk : ∀ (H1 : Heap) (κ' : Nat → Nat), (∀ q, q < nx → κ' q = κ q) → κ' nx = m_ac 7 (100 * k) → m_Str κ' → m_H G nx' κ' S' H1 → m_S G s H1 locs → W p l e R s m args below meth c H1 locs (cells + 1) (slots + N) Q (F0 m (pc + 3) ls (.ref nx :: rest))) : W p l e R s m args below meth c H locs cells slots Q (F0 m pc ls rest) := by
  subst hm; subst hnx
  have hts := X.1.2.2.2.2
  have hKn := X.2.1.1 k _ hc
  refine W.newcK X.1.1 X.1.2.1 X.1.2.2.2.1 (hts _ hlink) (hts _ hinst) (hts _ hini) rfl hdg hcells hslots hKn.2.1 hH.1 fun H1 kC hkC e1 z1 o1 => ?_
  refine kk H1 (va_up κ nx (m_ac 7 (100 * k))) (fun q hq => m_up_ne (by omega)) m_up_eq (hT.push (m_kz hH) (by simp only [m_ac]; omega)) ?_ (hS.push (by rw [z1, hH.1]) (fun q hq => o1 q (by rw [← hH.1]; exact hq)))
  refine hH.push (by simp only [m_ac]; omega) z1 o1 (fun k' i' hk' hk13 hi => ?_) (fun t n hk' ht => ?_) (fun n hk' => ?_) (fun t n hk' ht => ?_)
  · have := (m_ac_inj (by omega) (by omega) hk').2
    have e2 : k' = k := by omega
    have e3 : i' = 0 := by omega
    subst e2; subst e3
    exact ⟨_, hc, (u_born ty0 hts hin hKn hkC e1 hty).to (fun j hj => hdef _ _ j hj m_new_ri m_new_rj)⟩
  · have := m_ac_inj (by omega) (by omega) hk'; omega
  · have := m_ac_inj (by omega) (by omega) hk'; omega
  · have := m_ac_inj (by omega) (by omega) hk'; omega
/-- newarray -/
theorem n_newa (X : m_Cx p s m args meth c cc nL own G) (hH : m_H G nx κ S H) (hS : m_S G s H locs) (hT : m_Str κ) {atype : ArrayType} {ty : FieldType} (hat : newarray.typeOf atype = ty) (harr : Cond.arrayClass ty ∈ m_gW) (t : Nat) (ht : (m_tys G.2.1)[t]? = some (G.2.1 t, ty)) (htt : t < 4) (hd : defaultValue ty = if t = 2 then .long 0 else .int 0) (hRA : ∀ (U : State) (cA : ClassId), va_RA U cA ty → U.vm.findClass ("[" ++ ty.toString) = some cA)
    {n : Int32} {N : Nat} (hn : ¬ n < 0) (hN : n.toNatClampNeg = N) (hbytes : N * componentBytes ty ≤ 536870912) (hm : m_new S nx = S') {nx' : Nat} (hnx : nx + 1 = nx') (hcells : cells + 1 ≤ R.cells) (hslots : slots + N ≤ R.slots) (hdg : decode cc pc = .ok (.newarray atype, 2))
    (kk : ∀ (H1 : Heap) (κ' : Nat → Nat), (∀ q, q < nx → κ' q = κ q) → κ' nx = m_ac t N → m_Str κ' → m_H G nx' κ' S' H1 → m_S G s H1 locs → W p l e R s m args below meth c H1 locs (cells + 1) (slots + N) Q (F0 m (pc + 2) ls (.ref nx :: rest))) : W p l e R s m args below meth c H locs cells slots Q (F0 m pc ls (.int n :: rest)) := by
  subst hm; subst hnx; subst hat
  refine va_newaK X.1.1 X.1.2.1 (m_w X harr) rfl hdg rfl hn hN hbytes hcells hslots hH.1 fun H1 cA e1 z1 o1 hAr hNm => ?_
  have hcA : cA = G.2.1 t := Option.some.inj (hNm.symm.trans (hRA s _ (X.2.1.2 t _ ht).2))
  subst hcA
  refine kk H1 (va_up κ nx (m_ac t N)) (fun q hq => m_up_ne (by omega)) m_up_eq (hT.push (m_kz hH) (by simp only [m_ac]; omega)) ?_ (hS.push (by rw [z1, hH.1]) (fun q hq => o1 q (by rw [← hH.1]; exact hq)))
  refine hH.push (by simp only [m_ac]; omega) z1 o1 (fun k' i' hk' hk13 hi => ?_) (fun t' n' hk' ht' => ?_) (fun n' hk' => ?_) (fun t' n' hk' ht' => ?_)
  · have := m_ac_inj (by omega) (by omega) hk'; omega
  · obtain ⟨rfl, rfl⟩ := m_ac_inj (by omega) (by omega) hk'
    rw [e1, hd, if_neg (by omega)]
  · obtain ⟨rfl, rfl⟩ := m_ac_inj (by omega) (by omega) hk'
    rw [e1, hd, if_pos rfl]
  · have := m_ac_inj (by omega) (by omega) hk'; omega
/-- anewarray -/
theorem n_newq (X : m_Cx p s m args meth c cc nL own G) (hH : m_H G nx κ S H) (hS : m_S G s H locs) (hT : m_Str κ) {C : String} {index : Nat} (hlink : Cond.classLink own index C ∈ m_gW) (hover : va_AO C s) (t : Nat) (ht : (m_tys G.2.1)[t]? = some (G.2.1 t, .object C)) (htt : t = 4 ∨ t = 5)
    {n : Int32} {N : Nat} (hn : ¬ n < 0) (hN : n.toNatClampNeg = N) (hbytes : N * 4 ≤ 536870912) (hm : m_new S nx = S') {nx' : Nat} (hnx : nx + 1 = nx') (hcells : cells + 1 ≤ R.cells) (hslots : slots + N ≤ R.slots) (hdg : decode cc pc = .ok (.anewarray index, 3))
    (kk : ∀ (H1 : Heap) (κ' : Nat → Nat), (∀ q, q < nx → κ' q = κ q) → κ' nx = m_ac t N → m_Str κ' → m_H G nx' κ' S' H1 → m_S G s H1 locs → W p l e R s m args below meth c H1 locs (cells + 1) (slots + N) Q (F0 m (pc + 3) ls (.ref nx :: rest))) : W p l e R s m args below meth c H locs cells slots Q (F0 m pc ls (.int n :: rest)) := by
  subst hm; subst hnx; subst hN
  refine W.anew X.1.1 X.1.2.1 X.1.2.2.2.1 (m_w X hlink) (va_AO.use hover) rfl hdg rfl hn hbytes hcells hslots fun cA kA comp f1 f2 f3 f4 => ?_
  obtain ⟨kA2, comp2, g1, g2, g3, g4⟩ := (X.2.1.2 t _ ht).2
  have hcA : cA = G.2.1 t := Option.some.inj (f1.symm.trans g4)
  subst hcA
  generalize hH1 : H.push ({ cls := G.2.1 t, slots := Array.replicate n.toNatClampNeg .null, vm := .none } : Cell) = H1
  have z1 : H1.size = H.size + 1 := by rw [← hH1, Array.size_push]
  have e1 : H1[H.size]? = some (arrV (G.2.1 t) n.toNatClampNeg (fun _ => .null)) := by rw [← hH1, Array.getElem?_push_size, ← arrV_new]
  have o1 : ∀ q : Nat, q < H.size → H1[q]? = H[q]? := fun q hq => by rw [← hH1, Array.getElem?_push, if_neg (Nat.ne_of_lt hq)]
  rw [hH.1] at z1 e1 o1
  have := kk H1 (va_up κ nx (m_ac t n.toNatClampNeg)) (fun q hq => m_up_ne (by omega)) m_up_eq (hT.push (m_kz hH) (by simp only [m_ac]; omega)) ?_ (hS.push (by rw [z1, hH.1]) (fun q hq => o1 q (by rw [← hH.1]; exact hq)))
  · rw [hH.1]; exact this
  refine hH.push (by simp only [m_ac]; omega) z1 o1 (fun k' i' hk' hk13 hi => ?_) (fun t' n' hk' ht' => ?_) (fun n' hk' => ?_) (fun t' n' hk' ht' => ?_)
  · have := m_ac_inj (by omega) (by omega) hk'; omega
  · have := m_ac_inj (by omega) (by omega) hk'; omega
  · have := m_ac_inj (by omega) (by omega) hk'; omega
  · obtain ⟨rfl, rfl⟩ := m_ac_inj (by omega) (by omega) hk'
    exact e1
end MAlloc
