/-! System.arraycopy -/
def m_cpi (S : m_M) (a0 n0 a n1 : Nat) (sp dp n : Int32) : Option m_M := if sp < 0 ∨ dp < 0 ∨ n < 0 ∨ n0 < sp.toNatClampNeg + n.toNatClampNeg ∨ n1 < dp.toNatClampNeg + n.toNatClampNeg then none else some (m_ci S a (va_cpy (m_ri S a0) (m_ri S a) sp.toNatClampNeg dp.toNatClampNeg n.toNatClampNeg))
def m_cpj (S : m_M) (a0 n0 a n1 : Nat) (sp dp n : Int32) : Option m_M := if sp < 0 ∨ dp < 0 ∨ n < 0 ∨ n0 < sp.toNatClampNeg + n.toNatClampNeg ∨ n1 < dp.toNatClampNeg + n.toNatClampNeg then none else some (m_cj S a (va_cpy (m_rj S a0) (m_rj S a) sp.toNatClampNeg dp.toNatClampNeg n.toNatClampNeg))
theorem m_ci_eq {S : m_M} {a : Nat} {f : Nat → Int32} : m_ri (m_ci S a f) a = f := m_up_eq
theorem m_ci_ne {S : m_M} {a q : Nat} {f : Nat → Int32} (h : q ≠ a) : m_ri (m_ci S a f) q = m_ri S q := m_up_ne h
theorem m_cj_eq {S : m_M} {a : Nat} {f : Nat → Int64} : m_rj (m_cj S a f) a = f := m_up_eq
theorem m_cj_ne {S : m_M} {a q : Nat} {f : Nat → Int64} (h : q ≠ a) : m_rj (m_cj S a f) q = m_rj S q := m_up_ne h
theorem m_clamp {z : Int32} (hz : ¬ z < 0) : z.toInt = (z.toNatClampNeg : Int) := by
  have hz0 : (0 : Int) ≤ z.toInt := by
    have := Int32.not_lt.mp hz
    simpa using Int32.le_iff_toInt_le.mp this
  show z.toInt = ((z.toInt.toNat : Nat) : Int)
  omega
section MCopy
variable {p : Program} {l : Launch} {e : Env} {R : Room} {s : State} {m : MethodId} {args : Array Value} {below : List Frame} {meth : Method} {c : Code} {H : Heap} {locs : List Loc} {cells slots : Nat} {Q : State → Prop}
variable {cc : ByteArray} {nL : Nat} {own : String} {pc : Nat} {ls : Array Slot} {rest : List Value} {G : m_G} {nx : Nat} {κ : Nat → Nat} {S S' : m_M}
theorem n_cpi (X : m_Cx p s m args meth c cc nL own G) (hH : m_H G nx κ S H) (hS0 : m_S G s H locs) (hsz : ls.size = nL) {index a0 n0 a n1 : Nat} {sp dp n : Int32} (hk0 : κ a0 = m_ac 1 n0) (hk1 : κ a = m_ac 1 n1) (hm : m_cpi S a0 n0 a n1 sp dp n = some S')
    (hlink : Cond.methodLink own index arraycopyName ∈ m_gW) (hnat : Cond.native arraycopyName ∈ m_gW) (hstat : Cond.static arraycopyName ∈ m_gW) (hini : Cond.initialized "java/lang/System" ∈ m_gW)
    (hframes : 1 ≤ R.frames) (hlocals : (rest.map fun v => v.category).sum + (nativeFrameWords "java/lang/System" "arraycopy" 5 + 11) ≤ R.locals) (hdg : decode cc pc = .ok (.invokestatic index, 3))
    (kk : ∀ (H1 : Heap) (locs1 : List Loc), m_H G nx κ S' H1 → m_S G s H1 locs1 → W p l e R s m args below meth c H1 locs1 cells slots Q (F0 m (pc + 3) ls rest)) : W p l e R s m args below meth c H locs cells slots Q (F0 m pc ls (.int n :: .int dp :: .ref a :: .int sp :: .ref a0 :: rest)) := by
  unfold m_cpi at hm
  obtain ⟨hc, hm⟩ := m_ifn_of hm
  have h1 : ¬ sp < 0 := fun q => hc (Or.inl q)
  have h2 : ¬ dp < 0 := fun q => hc (Or.inr (Or.inl q))
  have h3 : ¬ n < 0 := fun q => hc (Or.inr (Or.inr (Or.inl q)))
  have h4 : sp.toNatClampNeg + n.toNatClampNeg ≤ n0 := Nat.not_lt.mp fun q => hc (Or.inr (Or.inr (Or.inr (Or.inl q))))
  have h5 : dp.toNatClampNeg + n.toNatClampNeg ≤ n1 := Nat.not_lt.mp fun q => hc (Or.inr (Or.inr (Or.inr (Or.inr q))))
  have hm := Option.some.inj hm
  have hw := fun {w : Cond} (h : w ∈ m_gW) => m_w X h
  obtain ⟨⟨hx, hb, hml, hown, -⟩, hK, -, -⟩ := X
  have hc0 : H[a0]? = some (arrV (G.2.1 1) n0 (fun j => .int (m_ri S a0 j))) := hH.2.2.2.2.1 a0 1 n0 hk0 (Or.inl (by decide))
  have hc1 : H[a]? = some (arrV (G.2.1 1) n1 (fun j => .int (m_ri S a j))) := hH.2.2.2.2.1 a 1 n1 hk1 (Or.inl (by decide))
  intro T hT X
  obtain ⟨-, k0, hk0', cm0, hkk0⟩ := (hK.2 1 (G.2.1 1, .int) rfl).1 n0 (fun j => .int (m_ri S a0 j))
  obtain ⟨-, k1, hk1', cm1, hkk1⟩ := (hK.2 1 (G.2.1 1, .int) rfl).1 n1 (fun j => .int (m_ri S a j))
  obtain ⟨vm', X', step⟩ := X.arraycopy hx hown (hw hlink) (hw hnat) (hw hstat) (hw hini) (src := a0) (dst := a) (cs := arrV (G.2.1 1) n0 (fun j => .int (m_ri S a0 j))) (cd := arrV (G.2.1 1) n1 (fun j => .int (m_ri S a j))) (srcPos := sp) (destPos := dp) (n := n) (by rw [hT]; exact hc0) (by rw [hT]; exact hc1)
    (fun _ h => by cases h) (fun _ h => by cases h) (fun h => by cases h) (fun h => by cases h) hk0' hk1' hkk0 hkk1 (by simp [refKind]) h1 h2 h3
    (by rw [m_clamp h1, m_clamp h3]; show ¬ _ > ((arrV (G.2.1 1) n0 (fun j => .int (m_ri S a0 j))).slots.size : Int); rw [arrV_size]; omega)
    (by rw [m_clamp h2, m_clamp h3]; show ¬ _ > ((arrV (G.2.1 1) n1 (fun j => .int (m_ri S a j))).slots.size : Int); rw [arrV_size]; omega)
    (fun vm₁ _ i hi => by
      have e : (arrV (G.2.1 1) n0 (fun j => Value.int (m_ri S a0 j))).slots.getD (sp.toNatClampNeg + i) .null = .int (m_ri S a0 (sp.toNatClampNeg + i)) := by
        rw [Array.getD_eq_getD_getElem?, arrV_read _ _ (by omega)]
        rfl
      refine ⟨?_, ?_⟩
      · rw [e]; rfl
      · rw [e]; exact trivial)
    (g := F0 m pc ls (.int n :: .int dp :: .ref a :: .int sp :: .ref a0 :: rest)) rfl (by rw [hml]; exact hsz) (rest := rest) rfl (by rw [hb]; exact hdg) hframes (by show 2 * 0 + _ + _ ≤ _; omega)
  have e1 : copied (arrV (G.2.1 1) n0 (fun j => .int (m_ri S a0 j))) (arrV (G.2.1 1) n1 (fun j => .int (m_ri S a j))) sp dp n = arrV (G.2.1 1) n1 (fun j => .int (va_cpy (m_ri S a0) (m_ri S a) sp.toNatClampNeg dp.toNatClampNeg n.toNatClampNeg j)) := va_copied (fun z => .int z) _ _ _ _ h4
  rw [e1] at X' step
  have hl : a < H.size := (Array.getElem?_eq_some_iff.mp hc1).1
  have hheap : ((T.setVm vm').setCell a (arrV (G.2.1 1) n1 (fun j => .int (va_cpy (m_ri S a0) (m_ri S a) sp.toNatClampNeg dp.toNatClampNeg n.toNatClampNeg j)))).heap = H.setIfInBounds a (arrV (G.2.1 1) n1 (fun j => .int (va_cpy (m_ri S a0) (m_ri S a) sp.toNatClampNeg dp.toNatClampNeg n.toNatClampNeg j))) := by rw [← hT]; rfl
  have oq : ∀ q : Nat, q ≠ a → (H.setIfInBounds a (arrV (G.2.1 1) n1 (fun j => Value.int (va_cpy (m_ri S a0) (m_ri S a) sp.toNatClampNeg dp.toNatClampNeg n.toNatClampNeg j))))[q]? = H[q]? := fun q hq => by simp [Array.getElem?_setIfInBounds, Ne.symm hq]
  have hA : m_ge G.2.2 a := (hH.2.1.2 a (by rw [hk1]; simp only [m_ac]; omega)).1
  subst hm
  have hH1 : m_H G nx κ (m_ci S a (va_cpy (m_ri S a0) (m_ri S a) sp.toNatClampNeg dp.toNatClampNeg n.toNatClampNeg)) (H.setIfInBounds a (arrV (G.2.1 1) n1 (fun j => Value.int (va_cpy (m_ri S a0) (m_ri S a) sp.toNatClampNeg dp.toNatClampNeg n.toNatClampNeg j)))) := by
    refine hH.one (by simp) oq (fun q h => m_ci_ne h) (fun _ _ => rfl) (fun _ _ => rfl) (fun k hk' _ => ?_) (fun k i' hk' _ _ => ?_) (fun t' n' hk' ht' => ?_) (fun n' hk' => ?_) (fun t' n' hk' ht' => ?_)
    · rw [hk1] at hk'; simp only [m_ac] at hk'; omega
    · have := m_ac_inj (by omega) (by omega) (hk1.symm.trans hk'); omega
    · obtain ⟨rfl, rfl⟩ := m_ac_inj (by omega) (by omega) (hk1.symm.trans hk')
      rw [m_ci_eq]; simp [Array.getElem?_setIfInBounds, hl]
    · have := m_ac_inj (by omega) (by omega) (hk1.symm.trans hk'); omega
    · have := m_ac_inj (by omega) (by omega) (hk1.symm.trans hk'); omega
  obtain ⟨t, a1, b1⟩ := kk _ _ hH1 ⟨by simp; exact hS0.1, fun q g1 g2 => by
      rw [oq q (fun e => g2 (by rw [e]; exact hA))]
      exact hS0.2.1 q g1 g2, fun q hq => by
      rcases List.mem_append.mp hq with h | h
      · exact hS0.2.2 q h
      · obtain ⟨z, -, hz⟩ := List.mem_map.mp h
        rw [← hz]
        exact hA⟩ _ hheap X'
  exact ⟨t, step t a1, b1⟩
theorem n_cpj (X : m_Cx p s m args meth c cc nL own G) (hH : m_H G nx κ S H) (hS0 : m_S G s H locs) (hsz : ls.size = nL) {index a0 n0 a n1 : Nat} {sp dp n : Int32} (hk0 : κ a0 = m_ac 2 n0) (hk1 : κ a = m_ac 2 n1) (hm : m_cpj S a0 n0 a n1 sp dp n = some S')
    (hlink : Cond.methodLink own index arraycopyName ∈ m_gW) (hnat : Cond.native arraycopyName ∈ m_gW) (hstat : Cond.static arraycopyName ∈ m_gW) (hini : Cond.initialized "java/lang/System" ∈ m_gW)
    (hframes : 1 ≤ R.frames) (hlocals : (rest.map fun v => v.category).sum + (nativeFrameWords "java/lang/System" "arraycopy" 5 + 11) ≤ R.locals) (hdg : decode cc pc = .ok (.invokestatic index, 3))
    (kk : ∀ (H1 : Heap) (locs1 : List Loc), m_H G nx κ S' H1 → m_S G s H1 locs1 → W p l e R s m args below meth c H1 locs1 cells slots Q (F0 m (pc + 3) ls rest)) : W p l e R s m args below meth c H locs cells slots Q (F0 m pc ls (.int n :: .int dp :: .ref a :: .int sp :: .ref a0 :: rest)) := by
  unfold m_cpj at hm
  obtain ⟨hc, hm⟩ := m_ifn_of hm
  have h1 : ¬ sp < 0 := fun q => hc (Or.inl q)
  have h2 : ¬ dp < 0 := fun q => hc (Or.inr (Or.inl q))
  have h3 : ¬ n < 0 := fun q => hc (Or.inr (Or.inr (Or.inl q)))
  have h4 : sp.toNatClampNeg + n.toNatClampNeg ≤ n0 := Nat.not_lt.mp fun q => hc (Or.inr (Or.inr (Or.inr (Or.inl q))))
  have h5 : dp.toNatClampNeg + n.toNatClampNeg ≤ n1 := Nat.not_lt.mp fun q => hc (Or.inr (Or.inr (Or.inr (Or.inr q))))
  have hm := Option.some.inj hm
  have hw := fun {w : Cond} (h : w ∈ m_gW) => m_w X h
  obtain ⟨⟨hx, hb, hml, hown, -⟩, hK, -, -⟩ := X
  have hc0 : H[a0]? = some (arrV (G.2.1 2) n0 (fun j => .long (m_rj S a0 j))) := hH.2.2.2.2.2.1 a0 n0 hk0
  have hc1 : H[a]? = some (arrV (G.2.1 2) n1 (fun j => .long (m_rj S a j))) := hH.2.2.2.2.2.1 a n1 hk1
  intro T hT X
  obtain ⟨-, k0, hk0', cm0, hkk0⟩ := (hK.2 2 (G.2.1 2, .long) rfl).1 n0 (fun j => .long (m_rj S a0 j))
  obtain ⟨-, k1, hk1', cm1, hkk1⟩ := (hK.2 2 (G.2.1 2, .long) rfl).1 n1 (fun j => .long (m_rj S a j))
  obtain ⟨vm', X', step⟩ := X.arraycopy hx hown (hw hlink) (hw hnat) (hw hstat) (hw hini) (src := a0) (dst := a) (cs := arrV (G.2.1 2) n0 (fun j => .long (m_rj S a0 j))) (cd := arrV (G.2.1 2) n1 (fun j => .long (m_rj S a j))) (srcPos := sp) (destPos := dp) (n := n) (by rw [hT]; exact hc0) (by rw [hT]; exact hc1)
    (fun _ h => by cases h) (fun _ h => by cases h) (fun h => by cases h) (fun h => by cases h) hk0' hk1' hkk0 hkk1 (by simp [refKind]) h1 h2 h3
    (by rw [m_clamp h1, m_clamp h3]; show ¬ _ > ((arrV (G.2.1 2) n0 (fun j => .long (m_rj S a0 j))).slots.size : Int); rw [arrV_size]; omega)
    (by rw [m_clamp h2, m_clamp h3]; show ¬ _ > ((arrV (G.2.1 2) n1 (fun j => .long (m_rj S a j))).slots.size : Int); rw [arrV_size]; omega)
    (fun vm₁ _ i hi => by
      have e : (arrV (G.2.1 2) n0 (fun j => Value.long (m_rj S a0 j))).slots.getD (sp.toNatClampNeg + i) .null = .long (m_rj S a0 (sp.toNatClampNeg + i)) := by
        rw [Array.getD_eq_getD_getElem?, arrV_read _ _ (by omega)]
        rfl
      refine ⟨?_, ?_⟩
      · rw [e]; rfl
      · rw [e]; exact trivial)
    (g := F0 m pc ls (.int n :: .int dp :: .ref a :: .int sp :: .ref a0 :: rest)) rfl (by rw [hml]; exact hsz) (rest := rest) rfl (by rw [hb]; exact hdg) hframes (by show 2 * 0 + _ + _ ≤ _; omega)
  have e1 : copied (arrV (G.2.1 2) n0 (fun j => .long (m_rj S a0 j))) (arrV (G.2.1 2) n1 (fun j => .long (m_rj S a j))) sp dp n = arrV (G.2.1 2) n1 (fun j => .long (va_cpy (m_rj S a0) (m_rj S a) sp.toNatClampNeg dp.toNatClampNeg n.toNatClampNeg j)) := va_copied (fun z => .long z) _ _ _ _ h4
  rw [e1] at X' step
  have hl : a < H.size := (Array.getElem?_eq_some_iff.mp hc1).1
  have hheap : ((T.setVm vm').setCell a (arrV (G.2.1 2) n1 (fun j => .long (va_cpy (m_rj S a0) (m_rj S a) sp.toNatClampNeg dp.toNatClampNeg n.toNatClampNeg j)))).heap = H.setIfInBounds a (arrV (G.2.1 2) n1 (fun j => .long (va_cpy (m_rj S a0) (m_rj S a) sp.toNatClampNeg dp.toNatClampNeg n.toNatClampNeg j))) := by rw [← hT]; rfl
  have oq : ∀ q : Nat, q ≠ a → (H.setIfInBounds a (arrV (G.2.1 2) n1 (fun j => Value.long (va_cpy (m_rj S a0) (m_rj S a) sp.toNatClampNeg dp.toNatClampNeg n.toNatClampNeg j))))[q]? = H[q]? := fun q hq => by simp [Array.getElem?_setIfInBounds, Ne.symm hq]
  have hA : m_ge G.2.2 a := (hH.2.1.2 a (by rw [hk1]; simp only [m_ac]; omega)).1
  subst hm
  have hH1 : m_H G nx κ (m_cj S a (va_cpy (m_rj S a0) (m_rj S a) sp.toNatClampNeg dp.toNatClampNeg n.toNatClampNeg)) (H.setIfInBounds a (arrV (G.2.1 2) n1 (fun j => Value.long (va_cpy (m_rj S a0) (m_rj S a) sp.toNatClampNeg dp.toNatClampNeg n.toNatClampNeg j)))) := by
    refine hH.one (by simp) oq (fun _ _ => rfl) (fun q h => m_cj_ne h) (fun _ _ => rfl) (fun k hk' _ => ?_) (fun k i' hk' _ _ => ?_) (fun t' n' hk' ht' => ?_) (fun n' hk' => ?_) (fun t' n' hk' ht' => ?_)
    · rw [hk1] at hk'; simp only [m_ac] at hk'; omega
    · have := m_ac_inj (by omega) (by omega) (hk1.symm.trans hk'); omega
    · have := m_ac_inj (by omega) (by omega) (hk1.symm.trans hk'); omega
    · obtain ⟨-, rfl⟩ := m_ac_inj (by omega) (by omega) (hk1.symm.trans hk')
      rw [m_cj_eq]; simp [Array.getElem?_setIfInBounds, hl]
    · have := m_ac_inj (by omega) (by omega) (hk1.symm.trans hk'); omega
  obtain ⟨t, a1, b1⟩ := kk _ _ hH1 ⟨by simp; exact hS0.1, fun q g1 g2 => by
      rw [oq q (fun e => g2 (by rw [e]; exact hA))]
      exact hS0.2.1 q g1 g2, fun q hq => by
      rcases List.mem_append.mp hq with h | h
      · exact hS0.2.2 q h
      · obtain ⟨z, -, hz⟩ := List.mem_map.mp h
        rw [← hz]
        exact hA⟩ _ hheap X'
  exact ⟨t, step t a1, b1⟩
end MCopy
