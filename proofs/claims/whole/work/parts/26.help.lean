/-! what the constructors' walks use -/
theorem m_seg.grow {κ κ' : Nat → Nat} {a c nx : Nat} {l : List Nat} (hg : m_seg κ a l) (hnx : a + l.length = nx) (hq : ∀ q, q < nx → κ' q = κ q) (hk : κ' nx = c) : m_seg κ' a (l ++ [c]) := by
  subst hnx; exact (hg.kept hq).app (m_seg.one hk)
theorem m_seg.growS {κ κ' : Nat → Nat} {a b : Nat} {l lay : List Nat} (hg : m_seg κ a l) (hnx : a + l.length = b) (hq : ∀ q, q < b → κ' q = κ q) (hs : m_seg κ' b lay) : m_seg κ' a (l ++ lay) := by
  subst hnx; exact (hg.kept hq).app hs
theorem m_seg.swap {κ κ' : Nat → Nat} {a c0 c1 : Nat} {tl : List Nat} (hg : m_seg κ a (c0 :: tl)) (hq : ∀ q, q ≠ a → κ' q = κ q) (hk : κ' a = c1) : m_seg κ' a (c1 :: tl) := by
  intro i c hi
  cases i with
  | zero => cases hi; exact hk
  | succ i => rw [hq _ (by omega)]; exact hg (i + 1) c hi
theorem m_lt_nx {κ κ' κ0 : Nat → Nat} {a nx : Nat} (hq : ∀ q, q < a → κ q = κ0 q) (hle : a ≤ nx) (h1 : ∀ q, q < nx → κ' q = κ q) : ∀ q, q < a → κ' q = κ0 q := fun q h => (h1 q (by omega)).trans (hq q h)
theorem m_lt_ne {κ κ' κ0 : Nat → Nat} {a : Nat} (hq : ∀ q, q < a → κ q = κ0 q) (h1 : ∀ q, q ≠ a → κ' q = κ q) : ∀ q, q < a → κ' q = κ0 q := fun q h => (h1 q (by omega)).trans (hq q h)
theorem m_df {k N : Nat} {ty0 : Nat → FieldType} (h : ∀ j, j < N → (((m_tab k).getD j (0, 0, 0)).1 = 0 ∧ defaultValue (ty0 j) = .int 0) ∨ (((m_tab k).getD j (0, 0, 0)).1 = 1 ∧ defaultValue (ty0 j) = .long 0) ∨ (((m_tab k).getD j (0, 0, 0)).1 = 2 ∧ defaultValue (ty0 j) = .null)) :
    ∀ (S : m_M) (a j : Nat), j < N → m_ri S a = (fun _ => 0) → m_rj S a = (fun _ => 0) → defaultValue (ty0 j) = m_ow S a k 0 j := by
  intro S a j hj h1 h2
  rcases h j hj with ⟨t, d⟩ | ⟨t, d⟩ | ⟨t, d⟩
  · rw [d, m_ow_i t, h1]
  · rw [d, m_ow_j t, h2]
  · rw [d]; unfold m_ow; rw [t]; simp
theorem m_RAb (U : State) (cA : ClassId) : va_RA U cA .byte → U.vm.findClass ("[" ++ FieldType.byte.toString) = some cA := fun h => h
theorem m_RAi (U : State) (cA : ClassId) : va_RA U cA .int → U.vm.findClass ("[" ++ FieldType.int.toString) = some cA := fun h => h
theorem m_RAl (U : State) (cA : ClassId) : va_RA U cA .long → U.vm.findClass ("[" ++ FieldType.long.toString) = some cA := fun h => h
theorem m_RAz (U : State) (cA : ClassId) : va_RA U cA .boolean → U.vm.findClass ("[" ++ FieldType.boolean.toString) = some cA := fun h => h
theorem m_df0 : ∀ (S : m_M) (a j : Nat), j < 3 → m_ri S a = (fun _ => 0) → m_rj S a = (fun _ => 0) → defaultValue (tyX0 j) = m_ow S a 0 0 j := m_df (by decide +kernel)
theorem m_df1 : ∀ (S : m_M) (a j : Nat), j < 3 → m_ri S a = (fun _ => 0) → m_rj S a = (fun _ => 0) → defaultValue (tyX1 j) = m_ow S a 1 0 j := m_df (by decide +kernel)
theorem m_df2 : ∀ (S : m_M) (a j : Nat), j < 20 → m_ri S a = (fun _ => 0) → m_rj S a = (fun _ => 0) → defaultValue (tyX2 j) = m_ow S a 2 0 j := m_df (by decide +kernel)
theorem m_df3 : ∀ (S : m_M) (a j : Nat), j < 10 → m_ri S a = (fun _ => 0) → m_rj S a = (fun _ => 0) → defaultValue (tyX3 j) = m_ow S a 3 0 j := m_df (by decide +kernel)
theorem m_df4 : ∀ (S : m_M) (a j : Nat), j < 4 → m_ri S a = (fun _ => 0) → m_rj S a = (fun _ => 0) → defaultValue (tyX4 j) = m_ow S a 4 0 j := m_df (by decide +kernel)
theorem m_df5 : ∀ (S : m_M) (a j : Nat), j < 5 → m_ri S a = (fun _ => 0) → m_rj S a = (fun _ => 0) → defaultValue (tyX5 j) = m_ow S a 5 0 j := m_df (by decide +kernel)
theorem m_df6 : ∀ (S : m_M) (a j : Nat), j < 15 → m_ri S a = (fun _ => 0) → m_rj S a = (fun _ => 0) → defaultValue (tyX6 j) = m_ow S a 6 0 j := m_df (by decide +kernel)
theorem m_df7 : ∀ (S : m_M) (a j : Nat), j < 7 → m_ri S a = (fun _ => 0) → m_rj S a = (fun _ => 0) → defaultValue (tyX7 j) = m_ow S a 7 0 j := m_df (by decide +kernel)
theorem m_df8 : ∀ (S : m_M) (a j : Nat), j < 2 → m_ri S a = (fun _ => 0) → m_rj S a = (fun _ => 0) → defaultValue (tyX8 j) = m_ow S a 8 0 j := m_df (by decide +kernel)
theorem m_df9 : ∀ (S : m_M) (a j : Nat), j < 17 → m_ri S a = (fun _ => 0) → m_rj S a = (fun _ => 0) → defaultValue (tyX9 j) = m_ow S a 9 0 j := m_df (by decide +kernel)
theorem m_df10 : ∀ (S : m_M) (a j : Nat), j < 3 → m_ri S a = (fun _ => 0) → m_rj S a = (fun _ => 0) → defaultValue (tyX10 j) = m_ow S a 10 0 j := m_df (by decide +kernel)
theorem m_df11 : ∀ (S : m_M) (a j : Nat), j < 13 → m_ri S a = (fun _ => 0) → m_rj S a = (fun _ => 0) → defaultValue (tyX11 j) = m_ow S a 11 0 j := m_df (by decide +kernel)
theorem m_df12 : ∀ (S : m_M) (a j : Nat), j < 51 → m_ri S a = (fun _ => 0) → m_rj S a = (fun _ => 0) → defaultValue (tyX12 j) = m_ow S a 12 0 j := m_df (by decide +kernel)
