def rm_X12_value : Room := { frames := 2, cells := 0, slots := 0, locals := 44 }
def b_X12_value_54 (a : Nat)  (S : m_M) (t0 : Int32) : Option (Int32 × m_M) :=
    some (t0, S)
set_option maxHeartbeats 4000000 in
set_option maxRecDepth 100000 in
theorem k_X12_value_54 {p : Program} {l : Launch} {e : Env} {s : State} {m : MethodId} {args : Array Value} {below : List Frame} {meth : Method} {c : Code} {G : m_G} {nx : Nat} {κ : Nat → Nat} {res : (Int32 × m_M)} {a : Nat} (X : m_Cx p s m args meth c cX12_value 3 RX12 G) (hr : meth.sig.returnType = (some .int)) (hT : m_Str κ) (hk_a : κ a = 13)  : ∀ (S : m_M) (t0 : Int32) (H : Heap) (locs : List Loc) (ls : Array Slot), m_H G nx κ S H → m_S G s H locs → lv_has ls 3 [] → b_X12_value_54 a S t0 = some res → W p l e rm_X12_value s m args below meth c H locs 0 0 (m_Qi below args s G nx κ res) (F0 m 54 ls [.int t0]) := by
  have hx := X.1.1
  have hb := X.1.2.1
  intro S t0 H locs ls hH hS hl hm
  rw [b_X12_value_54] at hm
  exact r_iret X hr hH hS hm dX12_value_54
def b_X12_value_50 (a : Nat)  (S : m_M)  : Option (Int32 × m_M) :=
    m_call (f_X12_refuse a S) fun v2 S1 =>
    b_X12_value_54 a S1 v2
set_option maxHeartbeats 4000000 in
set_option maxRecDepth 100000 in
theorem k_X12_value_50 {p : Program} {l : Launch} {e : Env} {s : State} {m : MethodId} {args : Array Value} {below : List Frame} {meth : Method} {c : Code} {G : m_G} {nx : Nat} {κ : Nat → Nat} {res : (Int32 × m_M)} {a : Nat} (X : m_Cx p s m args meth c cX12_value 3 RX12 G) (hr : meth.sig.returnType = (some .int)) (hT : m_Str κ) (hk_a : κ a = 13)  : ∀ (S : m_M)  (H : Heap) (locs : List Loc) (ls : Array Slot), m_H G nx κ S H → m_S G s H locs → lv_has ls 3 [(0, .ref a)] → b_X12_value_50 a S  = some res → W p l e rm_X12_value s m args below meth c H locs 0 0 (m_Qi below args s G nx κ res) (F0 m 50 ls []) := by
  have hx := X.1.1
  have hb := X.1.2.1
  intro S H locs ls hH hS hl hm
  rw [b_X12_value_50] at hm
  refine lv_aload_n hx hb dX12_value_50 rfl (lv_at hl 0 rfl) ?_
  obtain ⟨v2, S1, e_S1, hm⟩ := m_call_of hm
  refine n_cVi X hH hS (k := 12) (c_X12_refuse (a := a) hT hk_a e_S1) mw_X12_refuse in_8_49 hk_a (by decide) rfl rfl rfl ⟨rfl, rfl⟩ ⟨by decide, by decide⟩ ⟨Nat.zero_le _, Nat.zero_le _⟩ hl.1 (Nat.le_of_ble_eq_true rfl) dX12_value_51 (fun H locs hH hS => ?_)
  exact k_X12_value_54 (a := a) X hr hT hk_a   S1 v2 _ _ _ hH hS (lv_sub hl [] rfl) hm
def f_X12_value (a : Nat) (S : m_M) (i1 : Int32) (i2 : Int32) : Option (Int32 × m_M) :=
    m_let (m_si S a 0 (0 : Int32)) fun S1 =>
    m_call (f_X12_isVar a S1 i1 i2) fun v3 S2 =>
    if v3 = 0 then (
    b_X12_value_50 a S2) else (
    m_call (f_X12_slot a S2 i1 i2) fun v6 S5 =>
    (m_ldi S5 (a + 2) 2647 ((245 : Int32) + v6)).bind fun v7 =>
    if v7 = 0 then (
    b_X12_value_50 a S5) else (
    m_call (f_X12_slot a S5 i1 i2) fun v10 S9 =>
    (m_ldi S9 (a + 2) 2647 ((569 : Int32) + v10)).bind fun v11 =>
    b_X12_value_54 a S9 v11))
set_option maxHeartbeats 4000000 in
set_option maxRecDepth 100000 in
theorem c_X12_value {l : Launch} {G : m_G} {nx : Nat} {κ : Nat → Nat} {a : Nat} {S : m_M} {i1 : Int32} {i2 : Int32} {res : (Int32 × m_M)} (hT : m_Str κ) (hk_a : κ a = 13) (hm : f_X12_value a S i1 i2 = some res) : m_Ci l yX12_value cX12_value 3 (some .int) rm_X12_value G nx κ [.ref a, .int i1, .int i2] S res := by
  refine m_Ci.of (by decide) (Nat.le_of_ble_eq_true rfl) ?_
  intro p e s m args below meth c ls X hr hH hl
  have hx := X.1.1
  have hb := X.1.2.1
  have hS : m_S G s s.heap [] := va_S.rf
  have hl : lv_has ls 3 [(0, .ref a), (1, .int i1), (2, .int i2)] := hl
  rw [f_X12_value] at hm
  refine lv_aload_n hx hb dX12_value_0 rfl (lv_at hl 0 rfl) ?_
  refine lv_iconst (v := (0 : Int32)) hx hb dX12_value_1 (by decide) ?_
  obtain ⟨S1, e_S1, hm⟩ := m_let_of hm
  refine n_puti X hH hS tyX12 (k := 12) (a := a) (j := 0) hk_a (by decide) rfl m_wi12 tyX12_ok nmX12 (by decide) in_7_19 rfl rfl rfl ⟨rfl, rfl⟩ e_S1 dX12_value_2 (fun H locs hH hS => ?_)
  refine lv_aload_n hx hb dX12_value_5 rfl (lv_at hl 0 rfl) ?_
  refine lv_iload_n hx hb dX12_value_6 rfl (lv_at hl 1 rfl) ?_
  refine lv_iload_n hx hb dX12_value_7 rfl (lv_at hl 2 rfl) ?_
  obtain ⟨v3, S2, e_S2, hm⟩ := m_call_of hm
  refine n_cVi X hH hS (k := 12) (c_X12_isVar (a := a) hT hk_a e_S2) mw_X12_isVar in_8_224 hk_a (by decide) rfl rfl rfl ⟨rfl, rfl⟩ ⟨by decide, by decide⟩ ⟨Nat.zero_le _, Nat.zero_le _⟩ hl.1 (Nat.le_of_ble_eq_true rfl) dX12_value_8 (fun H locs hH hS => ?_)
  refine lv_if_eq (tgt := 50) hx hb dX12_value_11 (by decide) (fun c4 => ?_) (fun c4 => ?_)
  · have hm := m_ite_t hm c4
    exact k_X12_value_50 (a := a) X hr hT hk_a   S2 _ _ _ hH hS (lv_sub hl [0] rfl) hm
  · have hm := m_ite_f hm c4
    refine lv_aload_n hx hb dX12_value_14 rfl (lv_at hl 0 rfl) ?_
    refine r_getp X hH (k := 12) (a := a) (j := 14) (b := (a + 2)) (A := 2) (B := 0) hk_a (by decide) rfl m_wi12 (by decide) in_7_33 rfl rfl rfl dX12_value_15 ?_
    refine lv_sipush (v := (245 : Int32)) hx hb dX12_value_18 (by decide) ?_
    refine lv_aload_n hx hb dX12_value_21 rfl (lv_at hl 0 rfl) ?_
    refine lv_iload_n hx hb dX12_value_22 rfl (lv_at hl 1 rfl) ?_
    refine lv_iload_n hx hb dX12_value_23 rfl (lv_at hl 2 rfl) ?_
    obtain ⟨v6, S5, e_S5, hm⟩ := m_call_of hm
    refine n_cVi X hH hS (k := 12) (c_X12_slot (a := a) hT hk_a e_S5) mw_X12_slot in_8_144 hk_a (by decide) rfl rfl rfl ⟨rfl, rfl⟩ ⟨by decide, by decide⟩ ⟨Nat.zero_le _, Nat.zero_le _⟩ hl.1 (Nat.le_of_ble_eq_true rfl) dX12_value_24 (fun H locs hH hS => ?_)
    refine lv_iadd hx hb dX12_value_27 ?_
    obtain ⟨v7, h_v7, e_v7, hm⟩ := n_ldi hm
    refine n_iald X hH (n := 2647) (m_lay_at hT hk_a (by decide) (i := 2) rfl) h_v7 e_v7 dX12_value_28 ?_
    refine lv_if_eq (tgt := 50) hx hb dX12_value_29 (by decide) (fun c8 => ?_) (fun c8 => ?_)
    · have hm := m_ite_t hm c8
      exact k_X12_value_50 (a := a) X hr hT hk_a   S5 _ _ _ hH hS (lv_sub hl [0] rfl) hm
    · have hm := m_ite_f hm c8
      refine lv_aload_n hx hb dX12_value_32 rfl (lv_at hl 0 rfl) ?_
      refine r_getp X hH (k := 12) (a := a) (j := 14) (b := (a + 2)) (A := 2) (B := 0) hk_a (by decide) rfl m_wi12 (by decide) in_7_33 rfl rfl rfl dX12_value_33 ?_
      refine lv_sipush (v := (569 : Int32)) hx hb dX12_value_36 (by decide) ?_
      refine lv_aload_n hx hb dX12_value_39 rfl (lv_at hl 0 rfl) ?_
      refine lv_iload_n hx hb dX12_value_40 rfl (lv_at hl 1 rfl) ?_
      refine lv_iload_n hx hb dX12_value_41 rfl (lv_at hl 2 rfl) ?_
      obtain ⟨v10, S9, e_S9, hm⟩ := m_call_of hm
      refine n_cVi X hH hS (k := 12) (c_X12_slot (a := a) hT hk_a e_S9) mw_X12_slot in_8_144 hk_a (by decide) rfl rfl rfl ⟨rfl, rfl⟩ ⟨by decide, by decide⟩ ⟨Nat.zero_le _, Nat.zero_le _⟩ hl.1 (Nat.le_of_ble_eq_true rfl) dX12_value_42 (fun H locs hH hS => ?_)
      refine lv_iadd hx hb dX12_value_45 ?_
      obtain ⟨v11, h_v11, e_v11, hm⟩ := n_ldi hm
      refine n_iald X hH (n := 2647) (m_lay_at hT hk_a (by decide) (i := 2) rfl) h_v11 e_v11 dX12_value_46 ?_
      refine lv_goto (tgt := 54) hx hb dX12_value_47 (by decide) ?_
      exact k_X12_value_54 (a := a) X hr hT hk_a   S9 v11 _ _ _ hH hS (lv_sub hl [] rfl) hm
def rm_X12_isCell : Room := { frames := 1, cells := 0, slots := 0, locals := 22 }
def b_X12_isCell_30 (a : Nat)  (S : m_M) (t0 : Int32) : Option (Int32 × m_M) :=
    if t0 = 0 ∨ t0 = 1 then some (t0, S) else none
set_option maxHeartbeats 4000000 in
set_option maxRecDepth 100000 in
theorem k_X12_isCell_30 {p : Program} {l : Launch} {e : Env} {s : State} {m : MethodId} {args : Array Value} {below : List Frame} {meth : Method} {c : Code} {G : m_G} {nx : Nat} {κ : Nat → Nat} {res : (Int32 × m_M)} {a : Nat} (X : m_Cx p s m args meth c cX12_isCell 2 RX12 G) (hr : meth.sig.returnType = (some .boolean)) (hT : m_Str κ) (hk_a : κ a = 13)  : ∀ (S : m_M) (t0 : Int32) (H : Heap) (locs : List Loc) (ls : Array Slot), m_H G nx κ S H → m_S G s H locs → lv_has ls 2 [] → b_X12_isCell_30 a S t0 = some res → W p l e rm_X12_isCell s m args below meth c H locs 0 0 (m_Qi below args s G nx κ res) (F0 m 30 ls [.int t0]) := by
  have hx := X.1.1
  have hb := X.1.2.1
  intro S t0 H locs ls hH hS hl hm
  rw [b_X12_isCell_30] at hm
  exact r_zret X hr hH hS hm dX12_isCell_30
def b_X12_isCell_29 (a : Nat)  (S : m_M)  : Option (Int32 × m_M) :=
    b_X12_isCell_30 a S (0 : Int32)
set_option maxHeartbeats 4000000 in
set_option maxRecDepth 100000 in
theorem k_X12_isCell_29 {p : Program} {l : Launch} {e : Env} {s : State} {m : MethodId} {args : Array Value} {below : List Frame} {meth : Method} {c : Code} {G : m_G} {nx : Nat} {κ : Nat → Nat} {res : (Int32 × m_M)} {a : Nat} (X : m_Cx p s m args meth c cX12_isCell 2 RX12 G) (hr : meth.sig.returnType = (some .boolean)) (hT : m_Str κ) (hk_a : κ a = 13)  : ∀ (S : m_M)  (H : Heap) (locs : List Loc) (ls : Array Slot), m_H G nx κ S H → m_S G s H locs → lv_has ls 2 [] → b_X12_isCell_29 a S  = some res → W p l e rm_X12_isCell s m args below meth c H locs 0 0 (m_Qi below args s G nx κ res) (F0 m 29 ls []) := by
  have hx := X.1.1
  have hb := X.1.2.1
  intro S H locs ls hH hS hl hm
  rw [b_X12_isCell_29] at hm
  refine lv_iconst (v := (0 : Int32)) hx hb dX12_isCell_29 (by decide) ?_
  exact k_X12_isCell_30 (a := a) X hr hT hk_a   S (0 : Int32) _ _ _ hH hS hl hm
def f_X12_isCell (a : Nat) (S : m_M) (i1 : Int32) : Option (Int32 × m_M) :=
    m_call (f_X12_isIn S i1 (0 : Int32) (199 : Int32)) fun v2 S1 =>
    if v2 = 0 then (
    b_X12_isCell_29 a S1) else (
    (m_ldi S1 (a + 2) 2647 ((893 : Int32) + i1)).bind fun v4 =>
    if v4 = (-1 : Int32) then (
    b_X12_isCell_29 a S1) else (
    b_X12_isCell_30 a S1 (1 : Int32)))
set_option maxHeartbeats 4000000 in
set_option maxRecDepth 100000 in
theorem c_X12_isCell {l : Launch} {G : m_G} {nx : Nat} {κ : Nat → Nat} {a : Nat} {S : m_M} {i1 : Int32} {res : (Int32 × m_M)} (hT : m_Str κ) (hk_a : κ a = 13) (hm : f_X12_isCell a S i1 = some res) : m_Ci l yX12_isCell cX12_isCell 2 (some .boolean) rm_X12_isCell G nx κ [.ref a, .int i1] S res := by
  refine m_Ci.of (by decide) (Nat.le_of_ble_eq_true rfl) ?_
  intro p e s m args below meth c ls X hr hH hl
  have hx := X.1.1
  have hb := X.1.2.1
  have hS : m_S G s s.heap [] := va_S.rf
  have hl : lv_has ls 2 [(0, .ref a), (1, .int i1)] := hl
  rw [f_X12_isCell] at hm
  refine lv_iload_n hx hb dX12_isCell_0 rfl (lv_at hl 1 rfl) ?_
  refine lv_iconst (v := (0 : Int32)) hx hb dX12_isCell_1 (by decide) ?_
  refine lv_sipush (v := (199 : Int32)) hx hb dX12_isCell_2 (by decide) ?_
  obtain ⟨v2, S1, e_S1, hm⟩ := m_call_of hm
  refine n_cSi X hH hS (c_X12_isIn  hT  e_S1) mw_X12_isIn in_8_46 rfl ⟨rfl, rfl⟩ ⟨by decide, by decide⟩ ⟨Nat.zero_le _, Nat.zero_le _⟩ hl.1 (Nat.le_of_ble_eq_true rfl) dX12_isCell_5 (fun H locs hH hS => ?_)
  refine lv_if_eq (tgt := 29) hx hb dX12_isCell_8 (by decide) (fun c3 => ?_) (fun c3 => ?_)
  · have hm := m_ite_t hm c3
    exact k_X12_isCell_29 (a := a) X hr hT hk_a   S1 _ _ _ hH hS (lv_sub hl [] rfl) hm
  · have hm := m_ite_f hm c3
    refine lv_aload_n hx hb dX12_isCell_11 rfl (lv_at hl 0 rfl) ?_
    refine r_getp X hH (k := 12) (a := a) (j := 14) (b := (a + 2)) (A := 2) (B := 0) hk_a (by decide) rfl m_wi12 (by decide) in_7_33 rfl rfl rfl dX12_isCell_12 ?_
    refine lv_sipush (v := (893 : Int32)) hx hb dX12_isCell_15 (by decide) ?_
    refine lv_iload_n hx hb dX12_isCell_18 rfl (lv_at hl 1 rfl) ?_
    refine lv_iadd hx hb dX12_isCell_19 ?_
    obtain ⟨v4, h_v4, e_v4, hm⟩ := n_ldi hm
    refine n_iald X hH (n := 2647) (m_lay_at hT hk_a (by decide) (i := 2) rfl) h_v4 e_v4 dX12_isCell_20 ?_
    refine lv_iconst (v := (-1 : Int32)) hx hb dX12_isCell_21 (by decide) ?_
    refine lv_icmp_eq (tgt := 29) hx hb dX12_isCell_22 (by decide) (fun c5 => ?_) (fun c5 => ?_)
    · have hm := m_ite_t hm c5
      exact k_X12_isCell_29 (a := a) X hr hT hk_a   S1 _ _ _ hH hS (lv_sub hl [] rfl) hm
    · have hm := m_ite_f hm c5
      refine lv_iconst (v := (1 : Int32)) hx hb dX12_isCell_25 (by decide) ?_
      refine lv_goto (tgt := 30) hx hb dX12_isCell_26 (by decide) ?_
      exact k_X12_isCell_30 (a := a) X hr hT hk_a   S1 (1 : Int32) _ _ _ hH hS (lv_sub hl [] rfl) hm
def rm_X12_cell : Room := { frames := 2, cells := 0, slots := 0, locals := 43 }
def b_X12_cell_55 (a : Nat)  (S : m_M) (l1 : Int32) (l2 : Int32) : Option (Int32 × m_M) :=
    (m_ldi S (a + 2) 2647 ((((1293 : Int32) + ((2 : Int32) * l1)) + l2) - (1 : Int32))).bind fun v1 =>
    some (v1, S)
set_option maxHeartbeats 4000000 in
set_option maxRecDepth 100000 in
theorem k_X12_cell_55 {p : Program} {l : Launch} {e : Env} {s : State} {m : MethodId} {args : Array Value} {below : List Frame} {meth : Method} {c : Code} {G : m_G} {nx : Nat} {κ : Nat → Nat} {res : (Int32 × m_M)} {a : Nat} (X : m_Cx p s m args meth c cX12_cell 3 RX12 G) (hr : meth.sig.returnType = (some .int)) (hT : m_Str κ) (hk_a : κ a = 13)  : ∀ (S : m_M) (l1 : Int32) (l2 : Int32) (H : Heap) (locs : List Loc) (ls : Array Slot), m_H G nx κ S H → m_S G s H locs → lv_has ls 3 [(0, .ref a), (1, .int l1), (2, .int l2)] → b_X12_cell_55 a S l1 l2 = some res → W p l e rm_X12_cell s m args below meth c H locs 0 0 (m_Qi below args s G nx κ res) (F0 m 55 ls []) := by
  have hx := X.1.1
  have hb := X.1.2.1
  intro S l1 l2 H locs ls hH hS hl hm
  rw [b_X12_cell_55] at hm
  refine lv_aload_n hx hb dX12_cell_55 rfl (lv_at hl 0 rfl) ?_
  refine r_getp X hH (k := 12) (a := a) (j := 14) (b := (a + 2)) (A := 2) (B := 0) hk_a (by decide) rfl m_wi12 (by decide) in_7_33 rfl rfl rfl dX12_cell_56 ?_
  refine lv_sipush (v := (1293 : Int32)) hx hb dX12_cell_59 (by decide) ?_
  refine lv_iconst (v := (2 : Int32)) hx hb dX12_cell_62 (by decide) ?_
  refine lv_iload_n hx hb dX12_cell_63 rfl (lv_at hl 1 rfl) ?_
  refine lv_imul hx hb dX12_cell_64 ?_
  refine lv_iadd hx hb dX12_cell_65 ?_
  refine lv_iload_n hx hb dX12_cell_66 rfl (lv_at hl 2 rfl) ?_
  refine lv_iadd hx hb dX12_cell_67 ?_
  refine lv_iconst (v := (1 : Int32)) hx hb dX12_cell_68 (by decide) ?_
  refine lv_isub hx hb dX12_cell_69 ?_
  obtain ⟨v1, h_v1, e_v1, hm⟩ := n_ldi hm
  refine n_iald X hH (n := 2647) (m_lay_at hT hk_a (by decide) (i := 2) rfl) h_v1 e_v1 dX12_cell_70 ?_
  exact r_iret X hr hH hS hm dX12_cell_71
def f_X12_cell (a : Nat) (S : m_M) (i1 : Int32) (i2 : Int32) : Option (Int32 × m_M) :=
    m_let (m_si S a 0 (0 : Int32)) fun S1 =>
    m_call (f_X12_isCell a S1 i1) fun v3 S2 =>
    if v3 = 0 then (
    some ((-1 : Int32), S2)) else (
    if i2 = (0 : Int32) then (
    (m_ldi S2 (a + 2) 2647 ((893 : Int32) + i1)).bind fun v6 =>
    some (v6, S2)) else (
    if i2 = (1 : Int32) then (
    b_X12_cell_55 a S2 i1 i2) else (
    if i2 = (2 : Int32) then (
    b_X12_cell_55 a S2 i1 i2) else (
    some ((-1 : Int32), S2)))))
set_option maxHeartbeats 4000000 in
set_option maxRecDepth 100000 in
theorem c_X12_cell {l : Launch} {G : m_G} {nx : Nat} {κ : Nat → Nat} {a : Nat} {S : m_M} {i1 : Int32} {i2 : Int32} {res : (Int32 × m_M)} (hT : m_Str κ) (hk_a : κ a = 13) (hm : f_X12_cell a S i1 i2 = some res) : m_Ci l yX12_cell cX12_cell 3 (some .int) rm_X12_cell G nx κ [.ref a, .int i1, .int i2] S res := by
  refine m_Ci.of (by decide) (Nat.le_of_ble_eq_true rfl) ?_
  intro p e s m args below meth c ls X hr hH hl
  have hx := X.1.1
  have hb := X.1.2.1
  have hS : m_S G s s.heap [] := va_S.rf
  have hl : lv_has ls 3 [(0, .ref a), (1, .int i1), (2, .int i2)] := hl
  rw [f_X12_cell] at hm
  refine lv_aload_n hx hb dX12_cell_0 rfl (lv_at hl 0 rfl) ?_
  refine lv_iconst (v := (0 : Int32)) hx hb dX12_cell_1 (by decide) ?_
  obtain ⟨S1, e_S1, hm⟩ := m_let_of hm
  refine n_puti X hH hS tyX12 (k := 12) (a := a) (j := 0) hk_a (by decide) rfl m_wi12 tyX12_ok nmX12 (by decide) in_7_19 rfl rfl rfl ⟨rfl, rfl⟩ e_S1 dX12_cell_2 (fun H locs hH hS => ?_)
  refine lv_aload_n hx hb dX12_cell_5 rfl (lv_at hl 0 rfl) ?_
  refine lv_iload_n hx hb dX12_cell_6 rfl (lv_at hl 1 rfl) ?_
  obtain ⟨v3, S2, e_S2, hm⟩ := m_call_of hm
  refine n_cVi X hH hS (k := 12) (c_X12_isCell (a := a) hT hk_a e_S2) mw_X12_isCell in_8_236 hk_a (by decide) rfl rfl rfl ⟨rfl, rfl⟩ ⟨by decide, by decide⟩ ⟨Nat.zero_le _, Nat.zero_le _⟩ hl.1 (Nat.le_of_ble_eq_true rfl) dX12_cell_7 (fun H locs hH hS => ?_)
  refine lv_if_ne (tgt := 15) hx hb dX12_cell_10 (by decide) (fun c4 => ?_) (fun c4 => ?_)
  · have hm := m_ite_f hm c4
    refine lv_iload_n hx hb dX12_cell_15 rfl (lv_at hl 2 rfl) ?_
    by_cases c5 : i2 = (0 : Int32)
    · have hm := m_ite_t hm c5
      refine lv_tableIn (off := 28) (tgt := 44) hx hb dX12_cell_16 (by rw [c5]; decide) (by rw [c5]; decide) (by rw [c5]; rfl) (by decide) ?_
      refine lv_aload_n hx hb dX12_cell_44 rfl (lv_at hl 0 rfl) ?_
      refine r_getp X hH (k := 12) (a := a) (j := 14) (b := (a + 2)) (A := 2) (B := 0) hk_a (by decide) rfl m_wi12 (by decide) in_7_33 rfl rfl rfl dX12_cell_45 ?_
      refine lv_sipush (v := (893 : Int32)) hx hb dX12_cell_48 (by decide) ?_
      refine lv_iload_n hx hb dX12_cell_51 rfl (lv_at hl 1 rfl) ?_
      refine lv_iadd hx hb dX12_cell_52 ?_
      obtain ⟨v6, h_v6, e_v6, hm⟩ := n_ldi hm
      refine n_iald X hH (n := 2647) (m_lay_at hT hk_a (by decide) (i := 2) rfl) h_v6 e_v6 dX12_cell_53 ?_
      exact r_iret X hr hH hS hm dX12_cell_54
    · have hm := m_ite_f hm c5
      by_cases c7 : i2 = (1 : Int32)
      · have hm := m_ite_t hm c7
        refine lv_tableIn (off := 39) (tgt := 55) hx hb dX12_cell_16 (by rw [c7]; decide) (by rw [c7]; decide) (by rw [c7]; rfl) (by decide) ?_
        exact k_X12_cell_55 (a := a) X hr hT hk_a   S2 i1 i2 _ _ _ hH hS hl hm
      · have hm := m_ite_f hm c7
        by_cases c8 : i2 = (2 : Int32)
        · have hm := m_ite_t hm c8
          refine lv_tableIn (off := 39) (tgt := 55) hx hb dX12_cell_16 (by rw [c8]; decide) (by rw [c8]; decide) (by rw [c8]; rfl) (by decide) ?_
          exact k_X12_cell_55 (a := a) X hr hT hk_a   S2 i1 i2 _ _ _ hH hS hl hm
        · have hm := m_ite_f hm c8
          refine lv_tableOut (tgt := 72) hx hb dX12_cell_16 (by have h_c5 := lv_neT (a := 0) c5 rfl; have h_c7 := lv_neT (a := 1) c7 rfl; have h_c8 := lv_neT (a := 2) c8 rfl; omega) (by decide) ?_
          refine lv_iconst (v := (-1 : Int32)) hx hb dX12_cell_72 (by decide) ?_
          exact r_iret X hr hH hS hm dX12_cell_73
  · have hm := m_ite_t hm c4
    refine lv_iconst (v := (-1 : Int32)) hx hb dX12_cell_13 (by decide) ?_
    exact r_iret X hr hH hS hm dX12_cell_14
def rm_X12_in : Room := { frames := 2, cells := 0, slots := 0, locals := 43 }
def b_X12_in_43 (a : Nat)  (S : m_M) (t0 : Int32) : Option (Int32 × m_M) :=
    some (t0, S)
set_option maxHeartbeats 4000000 in
set_option maxRecDepth 100000 in
theorem k_X12_in_43 {p : Program} {l : Launch} {e : Env} {s : State} {m : MethodId} {args : Array Value} {below : List Frame} {meth : Method} {c : Code} {G : m_G} {nx : Nat} {κ : Nat → Nat} {res : (Int32 × m_M)} {a : Nat} (X : m_Cx p s m args meth c cX12_in 3 RX12 G) (hr : meth.sig.returnType = (some .int)) (hT : m_Str κ) (hk_a : κ a = 13)  : ∀ (S : m_M) (t0 : Int32) (H : Heap) (locs : List Loc) (ls : Array Slot), m_H G nx κ S H → m_S G s H locs → lv_has ls 3 [] → b_X12_in_43 a S t0 = some res → W p l e rm_X12_in s m args below meth c H locs 0 0 (m_Qi below args s G nx κ res) (F0 m 43 ls [.int t0]) := by
  have hx := X.1.1
  have hb := X.1.2.1
  intro S t0 H locs ls hH hS hl hm
  rw [b_X12_in_43] at hm
  exact r_iret X hr hH hS hm dX12_in_43
def b_X12_in_39 (a : Nat)  (S : m_M)  : Option (Int32 × m_M) :=
    m_call (f_X12_refuse a S) fun v2 S1 =>
    b_X12_in_43 a S1 v2
set_option maxHeartbeats 4000000 in
set_option maxRecDepth 100000 in
theorem k_X12_in_39 {p : Program} {l : Launch} {e : Env} {s : State} {m : MethodId} {args : Array Value} {below : List Frame} {meth : Method} {c : Code} {G : m_G} {nx : Nat} {κ : Nat → Nat} {res : (Int32 × m_M)} {a : Nat} (X : m_Cx p s m args meth c cX12_in 3 RX12 G) (hr : meth.sig.returnType = (some .int)) (hT : m_Str κ) (hk_a : κ a = 13)  : ∀ (S : m_M)  (H : Heap) (locs : List Loc) (ls : Array Slot), m_H G nx κ S H → m_S G s H locs → lv_has ls 3 [(0, .ref a)] → b_X12_in_39 a S  = some res → W p l e rm_X12_in s m args below meth c H locs 0 0 (m_Qi below args s G nx κ res) (F0 m 39 ls []) := by
  have hx := X.1.1
  have hb := X.1.2.1
  intro S H locs ls hH hS hl hm
  rw [b_X12_in_39] at hm
  refine lv_aload_n hx hb dX12_in_39 rfl (lv_at hl 0 rfl) ?_
  obtain ⟨v2, S1, e_S1, hm⟩ := m_call_of hm
  refine n_cVi X hH hS (k := 12) (c_X12_refuse (a := a) hT hk_a e_S1) mw_X12_refuse in_8_49 hk_a (by decide) rfl rfl rfl ⟨rfl, rfl⟩ ⟨by decide, by decide⟩ ⟨Nat.zero_le _, Nat.zero_le _⟩ hl.1 (Nat.le_of_ble_eq_true rfl) dX12_in_40 (fun H locs hH hS => ?_)
  exact k_X12_in_43 (a := a) X hr hT hk_a   S1 v2 _ _ _ hH hS (lv_sub hl [] rfl) hm
def f_X12_in (a : Nat) (S : m_M) (i1 : Int32) (i2 : Int32) : Option (Int32 × m_M) :=
    m_let (m_si S a 0 (0 : Int32)) fun S1 =>
    m_call (f_X12_isCell a S1 i1) fun v3 S2 =>
    if v3 = 0 then (
    b_X12_in_39 a S2) else (
    m_call (f_X12_isIn S2 i2 (0 : Int32) (1 : Int32)) fun v6 S5 =>
    if v6 = 0 then (
    b_X12_in_39 a S5) else (
    (m_ldi S5 (a + 2) 2647 (((1693 : Int32) + ((2 : Int32) * i1)) + i2)).bind fun v8 =>
    b_X12_in_43 a S5 v8))
set_option maxHeartbeats 4000000 in
set_option maxRecDepth 100000 in
theorem c_X12_in {l : Launch} {G : m_G} {nx : Nat} {κ : Nat → Nat} {a : Nat} {S : m_M} {i1 : Int32} {i2 : Int32} {res : (Int32 × m_M)} (hT : m_Str κ) (hk_a : κ a = 13) (hm : f_X12_in a S i1 i2 = some res) : m_Ci l yX12_in cX12_in 3 (some .int) rm_X12_in G nx κ [.ref a, .int i1, .int i2] S res := by
  refine m_Ci.of (by decide) (Nat.le_of_ble_eq_true rfl) ?_
  intro p e s m args below meth c ls X hr hH hl
  have hx := X.1.1
  have hb := X.1.2.1
  have hS : m_S G s s.heap [] := va_S.rf
  have hl : lv_has ls 3 [(0, .ref a), (1, .int i1), (2, .int i2)] := hl
  rw [f_X12_in] at hm
  refine lv_aload_n hx hb dX12_in_0 rfl (lv_at hl 0 rfl) ?_
  refine lv_iconst (v := (0 : Int32)) hx hb dX12_in_1 (by decide) ?_
  obtain ⟨S1, e_S1, hm⟩ := m_let_of hm
  refine n_puti X hH hS tyX12 (k := 12) (a := a) (j := 0) hk_a (by decide) rfl m_wi12 tyX12_ok nmX12 (by decide) in_7_19 rfl rfl rfl ⟨rfl, rfl⟩ e_S1 dX12_in_2 (fun H locs hH hS => ?_)
  refine lv_aload_n hx hb dX12_in_5 rfl (lv_at hl 0 rfl) ?_
  refine lv_iload_n hx hb dX12_in_6 rfl (lv_at hl 1 rfl) ?_
  obtain ⟨v3, S2, e_S2, hm⟩ := m_call_of hm
  refine n_cVi X hH hS (k := 12) (c_X12_isCell (a := a) hT hk_a e_S2) mw_X12_isCell in_8_236 hk_a (by decide) rfl rfl rfl ⟨rfl, rfl⟩ ⟨by decide, by decide⟩ ⟨Nat.zero_le _, Nat.zero_le _⟩ hl.1 (Nat.le_of_ble_eq_true rfl) dX12_in_7 (fun H locs hH hS => ?_)
  refine lv_if_eq (tgt := 39) hx hb dX12_in_10 (by decide) (fun c4 => ?_) (fun c4 => ?_)
  · have hm := m_ite_t hm c4
    exact k_X12_in_39 (a := a) X hr hT hk_a   S2 _ _ _ hH hS (lv_sub hl [0] rfl) hm
  · have hm := m_ite_f hm c4
    refine lv_iload_n hx hb dX12_in_13 rfl (lv_at hl 2 rfl) ?_
    refine lv_iconst (v := (0 : Int32)) hx hb dX12_in_14 (by decide) ?_
    refine lv_iconst (v := (1 : Int32)) hx hb dX12_in_15 (by decide) ?_
    obtain ⟨v6, S5, e_S5, hm⟩ := m_call_of hm
    refine n_cSi X hH hS (c_X12_isIn  hT  e_S5) mw_X12_isIn in_8_46 rfl ⟨rfl, rfl⟩ ⟨by decide, by decide⟩ ⟨Nat.zero_le _, Nat.zero_le _⟩ hl.1 (Nat.le_of_ble_eq_true rfl) dX12_in_16 (fun H locs hH hS => ?_)
    refine lv_if_eq (tgt := 39) hx hb dX12_in_19 (by decide) (fun c7 => ?_) (fun c7 => ?_)
    · have hm := m_ite_t hm c7
      exact k_X12_in_39 (a := a) X hr hT hk_a   S5 _ _ _ hH hS (lv_sub hl [0] rfl) hm
    · have hm := m_ite_f hm c7
      refine lv_aload_n hx hb dX12_in_22 rfl (lv_at hl 0 rfl) ?_
      refine r_getp X hH (k := 12) (a := a) (j := 14) (b := (a + 2)) (A := 2) (B := 0) hk_a (by decide) rfl m_wi12 (by decide) in_7_33 rfl rfl rfl dX12_in_23 ?_
      refine lv_sipush (v := (1693 : Int32)) hx hb dX12_in_26 (by decide) ?_
      refine lv_iconst (v := (2 : Int32)) hx hb dX12_in_29 (by decide) ?_
      refine lv_iload_n hx hb dX12_in_30 rfl (lv_at hl 1 rfl) ?_
      refine lv_imul hx hb dX12_in_31 ?_
      refine lv_iadd hx hb dX12_in_32 ?_
      refine lv_iload_n hx hb dX12_in_33 rfl (lv_at hl 2 rfl) ?_
      refine lv_iadd hx hb dX12_in_34 ?_
      obtain ⟨v8, h_v8, e_v8, hm⟩ := n_ldi hm
      refine n_iald X hH (n := 2647) (m_lay_at hT hk_a (by decide) (i := 2) rfl) h_v8 e_v8 dX12_in_35 ?_
      refine lv_goto (tgt := 43) hx hb dX12_in_36 (by decide) ?_
      exact k_X12_in_43 (a := a) X hr hT hk_a   S5 v8 _ _ _ hH hS (lv_sub hl [] rfl) hm
def rm_X12_gave : Room := { frames := 0, cells := 0, slots := 0, locals := 0 }
def f_X12_gave (a : Nat) (S : m_M)  : Option (Int32 × m_M) :=
    m_let (m_si S a 0 (0 : Int32)) fun S1 =>
    (m_ldi S1 (a + 2) 2647 (219 : Int32)).bind fun v2 =>
    some (v2, S1)
set_option maxHeartbeats 4000000 in
set_option maxRecDepth 100000 in
theorem c_X12_gave {l : Launch} {G : m_G} {nx : Nat} {κ : Nat → Nat} {a : Nat} {S : m_M}  {res : (Int32 × m_M)} (hT : m_Str κ) (hk_a : κ a = 13) (hm : f_X12_gave a S = some res) : m_Ci l yX12_gave cX12_gave 1 (some .int) rm_X12_gave G nx κ [.ref a] S res := by
  refine m_Ci.of (by decide) (Nat.le_of_ble_eq_true rfl) ?_
  intro p e s m args below meth c ls X hr hH hl
  have hx := X.1.1
  have hb := X.1.2.1
  have hS : m_S G s s.heap [] := va_S.rf
  have hl : lv_has ls 1 [(0, .ref a)] := hl
  rw [f_X12_gave] at hm
  refine lv_aload_n hx hb dX12_gave_0 rfl (lv_at hl 0 rfl) ?_
  refine lv_iconst (v := (0 : Int32)) hx hb dX12_gave_1 (by decide) ?_
  obtain ⟨S1, e_S1, hm⟩ := m_let_of hm
  refine n_puti X hH hS tyX12 (k := 12) (a := a) (j := 0) hk_a (by decide) rfl m_wi12 tyX12_ok nmX12 (by decide) in_7_19 rfl rfl rfl ⟨rfl, rfl⟩ e_S1 dX12_gave_2 (fun H locs hH hS => ?_)
  refine lv_aload_n hx hb dX12_gave_5 rfl (lv_at hl 0 rfl) ?_
  refine r_getp X hH (k := 12) (a := a) (j := 14) (b := (a + 2)) (A := 2) (B := 0) hk_a (by decide) rfl m_wi12 (by decide) in_7_33 rfl rfl rfl dX12_gave_6 ?_
  refine lv_sipush (v := (219 : Int32)) hx hb dX12_gave_9 (by decide) ?_
  obtain ⟨v2, h_v2, e_v2, hm⟩ := n_ldi hm
  refine n_iald X hH (n := 2647) (m_lay_at hT hk_a (by decide) (i := 2) rfl) h_v2 e_v2 dX12_gave_12 ?_
  exact r_iret X hr hH hS hm dX12_gave_13
def rm_X12_result : Room := { frames := 1, cells := 0, slots := 0, locals := 20 }
def b_X12_result_32 (a : Nat)  (S : m_M) (t0 : Int32) : Option (Int32 × m_M) :=
    some (t0, S)
set_option maxHeartbeats 4000000 in
set_option maxRecDepth 100000 in
theorem k_X12_result_32 {p : Program} {l : Launch} {e : Env} {s : State} {m : MethodId} {args : Array Value} {below : List Frame} {meth : Method} {c : Code} {G : m_G} {nx : Nat} {κ : Nat → Nat} {res : (Int32 × m_M)} {a : Nat} (X : m_Cx p s m args meth c cX12_result 1 RX12 G) (hr : meth.sig.returnType = (some .int)) (hT : m_Str κ) (hk_a : κ a = 13)  : ∀ (S : m_M) (t0 : Int32) (H : Heap) (locs : List Loc) (ls : Array Slot), m_H G nx κ S H → m_S G s H locs → lv_has ls 1 [] → b_X12_result_32 a S t0 = some res → W p l e rm_X12_result s m args below meth c H locs 0 0 (m_Qi below args s G nx κ res) (F0 m 32 ls [.int t0]) := by
  have hx := X.1.1
  have hb := X.1.2.1
  intro S t0 H locs ls hH hS hl hm
  rw [b_X12_result_32] at hm
  exact r_iret X hr hH hS hm dX12_result_32
def f_X12_result (a : Nat) (S : m_M)  : Option (Int32 × m_M) :=
    m_let (m_si S a 0 (0 : Int32)) fun S1 =>
    (m_ldi S1 (a + 2) 2647 (210 : Int32)).bind fun v2 =>
    if v2 = (2 : Int32) then (
    (m_ldi S1 (a + 2) 2647 (220 : Int32)).bind fun v6 =>
    b_X12_result_32 a S1 v6) else (
    m_call (f_X12_refuse a S1) fun v5 S4 =>
    b_X12_result_32 a S4 v5)
set_option maxHeartbeats 4000000 in
set_option maxRecDepth 100000 in
theorem c_X12_result {l : Launch} {G : m_G} {nx : Nat} {κ : Nat → Nat} {a : Nat} {S : m_M}  {res : (Int32 × m_M)} (hT : m_Str κ) (hk_a : κ a = 13) (hm : f_X12_result a S = some res) : m_Ci l yX12_result cX12_result 1 (some .int) rm_X12_result G nx κ [.ref a] S res := by
  refine m_Ci.of (by decide) (Nat.le_of_ble_eq_true rfl) ?_
  intro p e s m args below meth c ls X hr hH hl
  have hx := X.1.1
  have hb := X.1.2.1
  have hS : m_S G s s.heap [] := va_S.rf
  have hl : lv_has ls 1 [(0, .ref a)] := hl
  rw [f_X12_result] at hm
  refine lv_aload_n hx hb dX12_result_0 rfl (lv_at hl 0 rfl) ?_
  refine lv_iconst (v := (0 : Int32)) hx hb dX12_result_1 (by decide) ?_
  obtain ⟨S1, e_S1, hm⟩ := m_let_of hm
  refine n_puti X hH hS tyX12 (k := 12) (a := a) (j := 0) hk_a (by decide) rfl m_wi12 tyX12_ok nmX12 (by decide) in_7_19 rfl rfl rfl ⟨rfl, rfl⟩ e_S1 dX12_result_2 (fun H locs hH hS => ?_)
  refine lv_aload_n hx hb dX12_result_5 rfl (lv_at hl 0 rfl) ?_
  refine r_getp X hH (k := 12) (a := a) (j := 14) (b := (a + 2)) (A := 2) (B := 0) hk_a (by decide) rfl m_wi12 (by decide) in_7_33 rfl rfl rfl dX12_result_6 ?_
  refine lv_sipush (v := (210 : Int32)) hx hb dX12_result_9 (by decide) ?_
  obtain ⟨v2, h_v2, e_v2, hm⟩ := n_ldi hm
  refine n_iald X hH (n := 2647) (m_lay_at hT hk_a (by decide) (i := 2) rfl) h_v2 e_v2 dX12_result_12 ?_
  refine lv_iconst (v := (2 : Int32)) hx hb dX12_result_13 (by decide) ?_
  refine lv_icmp_ne (tgt := 28) hx hb dX12_result_14 (by decide) (fun c3 => ?_) (fun c3 => ?_)
  · have hm := m_ite_f hm c3
    refine lv_aload_n hx hb dX12_result_28 rfl (lv_at hl 0 rfl) ?_
    obtain ⟨v5, S4, e_S4, hm⟩ := m_call_of hm
    refine n_cVi X hH hS (k := 12) (c_X12_refuse (a := a) hT hk_a e_S4) mw_X12_refuse in_8_49 hk_a (by decide) rfl rfl rfl ⟨rfl, rfl⟩ ⟨by decide, by decide⟩ ⟨Nat.zero_le _, Nat.zero_le _⟩ hl.1 (Nat.le_of_ble_eq_true rfl) dX12_result_29 (fun H locs hH hS => ?_)
    exact k_X12_result_32 (a := a) X hr hT hk_a   S4 v5 _ _ _ hH hS (lv_sub hl [] rfl) hm
  · have hm := m_ite_t hm c3
    refine lv_aload_n hx hb dX12_result_17 rfl (lv_at hl 0 rfl) ?_
    refine r_getp X hH (k := 12) (a := a) (j := 14) (b := (a + 2)) (A := 2) (B := 0) hk_a (by decide) rfl m_wi12 (by decide) in_7_33 rfl rfl rfl dX12_result_18 ?_
    refine lv_sipush (v := (220 : Int32)) hx hb dX12_result_21 (by decide) ?_
    obtain ⟨v6, h_v6, e_v6, hm⟩ := n_ldi hm
    refine n_iald X hH (n := 2647) (m_lay_at hT hk_a (by decide) (i := 2) rfl) h_v6 e_v6 dX12_result_24 ?_
    refine lv_goto (tgt := 32) hx hb dX12_result_25 (by decide) ?_
    exact k_X12_result_32 (a := a) X hr hT hk_a   S1 v6 _ _ _ hH hS (lv_sub hl [] rfl) hm
def rm_X12_room : Room := { frames := 1, cells := 0, slots := 0, locals := 22 }
def b_X12_room_37 (a : Nat)  (S : m_M) (t0 : Int32) : Option (Int32 × m_M) :=
    some (t0, S)
set_option maxHeartbeats 4000000 in
set_option maxRecDepth 100000 in
theorem k_X12_room_37 {p : Program} {l : Launch} {e : Env} {s : State} {m : MethodId} {args : Array Value} {below : List Frame} {meth : Method} {c : Code} {G : m_G} {nx : Nat} {κ : Nat → Nat} {res : (Int32 × m_M)} {a : Nat} (X : m_Cx p s m args meth c cX12_room 2 RX12 G) (hr : meth.sig.returnType = (some .int)) (hT : m_Str κ) (hk_a : κ a = 13)  : ∀ (S : m_M) (t0 : Int32) (H : Heap) (locs : List Loc) (ls : Array Slot), m_H G nx κ S H → m_S G s H locs → lv_has ls 2 [] → b_X12_room_37 a S t0 = some res → W p l e rm_X12_room s m args below meth c H locs 0 0 (m_Qi below args s G nx κ res) (F0 m 37 ls [.int t0]) := by
  have hx := X.1.1
  have hb := X.1.2.1
  intro S t0 H locs ls hH hS hl hm
  rw [b_X12_room_37] at hm
  exact r_iret X hr hH hS hm dX12_room_37
def f_X12_room (a : Nat) (S : m_M) (i1 : Int32) : Option (Int32 × m_M) :=
    m_let (m_si S a 0 (0 : Int32)) fun S1 =>
    (m_ldi S1 (a + 2) 2647 (214 : Int32)).bind fun v2 =>
    m_call (f_X12_isIn S1 i1 (0 : Int32) (v2 - (1 : Int32))) fun v4 S3 =>
    if v4 = 0 then (
    b_X12_room_37 a S3 (-1 : Int32)) else (
    (m_ldi S3 (a + 2) 2647 ((2093 : Int32) + i1)).bind fun v6 =>
    b_X12_room_37 a S3 v6)
set_option maxHeartbeats 4000000 in
set_option maxRecDepth 100000 in
theorem c_X12_room {l : Launch} {G : m_G} {nx : Nat} {κ : Nat → Nat} {a : Nat} {S : m_M} {i1 : Int32} {res : (Int32 × m_M)} (hT : m_Str κ) (hk_a : κ a = 13) (hm : f_X12_room a S i1 = some res) : m_Ci l yX12_room cX12_room 2 (some .int) rm_X12_room G nx κ [.ref a, .int i1] S res := by
  refine m_Ci.of (by decide) (Nat.le_of_ble_eq_true rfl) ?_
  intro p e s m args below meth c ls X hr hH hl
  have hx := X.1.1
  have hb := X.1.2.1
  have hS : m_S G s s.heap [] := va_S.rf
  have hl : lv_has ls 2 [(0, .ref a), (1, .int i1)] := hl
  rw [f_X12_room] at hm
  refine lv_aload_n hx hb dX12_room_0 rfl (lv_at hl 0 rfl) ?_
  refine lv_iconst (v := (0 : Int32)) hx hb dX12_room_1 (by decide) ?_
  obtain ⟨S1, e_S1, hm⟩ := m_let_of hm
  refine n_puti X hH hS tyX12 (k := 12) (a := a) (j := 0) hk_a (by decide) rfl m_wi12 tyX12_ok nmX12 (by decide) in_7_19 rfl rfl rfl ⟨rfl, rfl⟩ e_S1 dX12_room_2 (fun H locs hH hS => ?_)
  refine lv_iload_n hx hb dX12_room_5 rfl (lv_at hl 1 rfl) ?_
  refine lv_iconst (v := (0 : Int32)) hx hb dX12_room_6 (by decide) ?_
  refine lv_aload_n hx hb dX12_room_7 rfl (lv_at hl 0 rfl) ?_
  refine r_getp X hH (k := 12) (a := a) (j := 14) (b := (a + 2)) (A := 2) (B := 0) hk_a (by decide) rfl m_wi12 (by decide) in_7_33 rfl rfl rfl dX12_room_8 ?_
  refine lv_sipush (v := (214 : Int32)) hx hb dX12_room_11 (by decide) ?_
  obtain ⟨v2, h_v2, e_v2, hm⟩ := n_ldi hm
  refine n_iald X hH (n := 2647) (m_lay_at hT hk_a (by decide) (i := 2) rfl) h_v2 e_v2 dX12_room_14 ?_
  refine lv_iconst (v := (1 : Int32)) hx hb dX12_room_15 (by decide) ?_
  refine lv_isub hx hb dX12_room_16 ?_
  obtain ⟨v4, S3, e_S3, hm⟩ := m_call_of hm
  refine n_cSi X hH hS (c_X12_isIn  hT  e_S3) mw_X12_isIn in_8_46 rfl ⟨rfl, rfl⟩ ⟨by decide, by decide⟩ ⟨Nat.zero_le _, Nat.zero_le _⟩ hl.1 (Nat.le_of_ble_eq_true rfl) dX12_room_17 (fun H locs hH hS => ?_)
  refine lv_if_eq (tgt := 36) hx hb dX12_room_20 (by decide) (fun c5 => ?_) (fun c5 => ?_)
  · have hm := m_ite_t hm c5
    refine lv_iconst (v := (-1 : Int32)) hx hb dX12_room_36 (by decide) ?_
    exact k_X12_room_37 (a := a) X hr hT hk_a   S3 (-1 : Int32) _ _ _ hH hS (lv_sub hl [] rfl) hm
  · have hm := m_ite_f hm c5
    refine lv_aload_n hx hb dX12_room_23 rfl (lv_at hl 0 rfl) ?_
    refine r_getp X hH (k := 12) (a := a) (j := 14) (b := (a + 2)) (A := 2) (B := 0) hk_a (by decide) rfl m_wi12 (by decide) in_7_33 rfl rfl rfl dX12_room_24 ?_
    refine lv_sipush (v := (2093 : Int32)) hx hb dX12_room_27 (by decide) ?_
    refine lv_iload_n hx hb dX12_room_30 rfl (lv_at hl 1 rfl) ?_
    refine lv_iadd hx hb dX12_room_31 ?_
    obtain ⟨v6, h_v6, e_v6, hm⟩ := n_ldi hm
    refine n_iald X hH (n := 2647) (m_lay_at hT hk_a (by decide) (i := 2) rfl) h_v6 e_v6 dX12_room_32 ?_
    refine lv_goto (tgt := 37) hx hb dX12_room_33 (by decide) ?_
    exact k_X12_room_37 (a := a) X hr hT hk_a   S3 v6 _ _ _ hH hS (lv_sub hl [] rfl) hm
def rm_X12_roomful : Room := { frames := 2, cells := 0, slots := 0, locals := 43 }
def b_X12_roomful_61 (a : Nat) (K_29 : m_M → Int32 → Int32 → Int32 → Option (Int32 × m_M)) (S : m_M) (l1 : Int32) (l2 : Int32) (l3 : Int32) : Option (Int32 × m_M) :=
    m_let (l3 + (1 : Int32)) fun v1 =>
    K_29 S l1 l2 v1
set_option maxHeartbeats 4000000 in
set_option maxRecDepth 100000 in
theorem k_X12_roomful_61 {p : Program} {l : Launch} {e : Env} {s : State} {m : MethodId} {args : Array Value} {below : List Frame} {meth : Method} {c : Code} {G : m_G} {nx : Nat} {κ : Nat → Nat} {res : (Int32 × m_M)} {a : Nat} (X : m_Cx p s m args meth c cX12_roomful 4 RX12 G) (hr : meth.sig.returnType = (some .int)) (hT : m_Str κ) (hk_a : κ a = 13) (K_29 : m_M → Int32 → Int32 → Int32 → Option (Int32 × m_M)) (hK_29 : ∀ (S : m_M) (l1 : Int32) (l2 : Int32) (l3 : Int32) (H : Heap) (locs : List Loc) (ls : Array Slot), m_H G nx κ S H → m_S G s H locs → lv_has ls 4 [(0, .ref a), (1, .int l1), (2, .int l2), (3, .int l3)] → K_29 S l1 l2 l3 = some res → W p l e rm_X12_roomful s m args below meth c H locs 0 0 (m_Qi below args s G nx κ res) (F0 m 29 ls [])) : ∀ (S : m_M) (l1 : Int32) (l2 : Int32) (l3 : Int32) (H : Heap) (locs : List Loc) (ls : Array Slot), m_H G nx κ S H → m_S G s H locs → lv_has ls 4 [(0, .ref a), (1, .int l1), (2, .int l2), (3, .int l3)] → b_X12_roomful_61 a K_29 S l1 l2 l3 = some res → W p l e rm_X12_roomful s m args below meth c H locs 0 0 (m_Qi below args s G nx κ res) (F0 m 61 ls []) := by
  have hx := X.1.1
  have hb := X.1.2.1
  intro S l1 l2 l3 H locs ls hH hS hl hm
  rw [b_X12_roomful_61] at hm
  obtain ⟨v1, e_v1, hm⟩ := m_let_of hm
  refine lv_iinc (v := v1) (lv' := [(3, .int v1), (0, .ref a), (1, .int l1), (2, .int l2)]) hx hb dX12_roomful_61 hl (k := 3) rfl (by rw [← e_v1]; rfl) (by decide) rfl (fun ls hl => ?_)
  refine lv_goto (tgt := 29) hx hb dX12_roomful_64 (by decide) ?_
  exact hK_29 S l1 l2 v1 _ _ _ hH hS (lv_sub hl [1, 2, 3, 0] rfl) hm
def b_X12_roomful_29 (a : Nat)  : Nat → m_M → Int32 → Int32 → Int32 → Option (Int32 × m_M)
  | 0, _, _, _, _ => none
  | n + 1, S, l1, l2, l3 =>
    if (200 : Int32) ≤ l3 then (
    some (l2, S)) else (
    m_call (f_X12_isCell a S l3) fun v3 S2 =>
    if v3 = 0 then (
    b_X12_roomful_61 a (b_X12_roomful_29 a n) S2 l1 l2 l3) else (
    (m_ldi S2 (a + 2) 2647 ((1093 : Int32) + l3)).bind fun v5 =>
    if v5 = l1 then (
    m_let (l2 + (1 : Int32)) fun v7 =>
    b_X12_roomful_61 a (b_X12_roomful_29 a n) S2 l1 v7 l3) else (
    b_X12_roomful_61 a (b_X12_roomful_29 a n) S2 l1 l2 l3)))
set_option maxHeartbeats 4000000 in
set_option maxRecDepth 100000 in
theorem k_X12_roomful_29 {p : Program} {l : Launch} {e : Env} {s : State} {m : MethodId} {args : Array Value} {below : List Frame} {meth : Method} {c : Code} {G : m_G} {nx : Nat} {κ : Nat → Nat} {res : (Int32 × m_M)} {a : Nat} (X : m_Cx p s m args meth c cX12_roomful 4 RX12 G) (hr : meth.sig.returnType = (some .int)) (hT : m_Str κ) (hk_a : κ a = 13)  (n : Nat) : ∀ (S : m_M) (l1 : Int32) (l2 : Int32) (l3 : Int32) (H : Heap) (locs : List Loc) (ls : Array Slot), m_H G nx κ S H → m_S G s H locs → lv_has ls 4 [(0, .ref a), (1, .int l1), (2, .int l2), (3, .int l3)] → b_X12_roomful_29 a n S l1 l2 l3 = some res → W p l e rm_X12_roomful s m args below meth c H locs 0 0 (m_Qi below args s G nx κ res) (F0 m 29 ls []) := by
  have hx := X.1.1
  have hb := X.1.2.1
  induction n with
  | zero => intro S l1 l2 l3 H locs ls hH hS hl hm; have hm : (none : Option (Int32 × m_M)) = some res := hm; cases hm
  | succ n ih =>
    intro S l1 l2 l3 H locs ls hH hS hl hm
    rw [b_X12_roomful_29] at hm
    refine lv_iload_n hx hb dX12_roomful_29 rfl (lv_at hl 3 rfl) ?_
    refine lv_sipush (v := (200 : Int32)) hx hb dX12_roomful_30 (by decide) ?_
    refine lv_icmp_ge (tgt := 67) hx hb dX12_roomful_33 (by decide) (fun c1 => ?_) (fun c1 => ?_)
    · have hm := m_ite_t hm c1
      refine lv_iload_n hx hb dX12_roomful_67 rfl (lv_at hl 2 rfl) ?_
      exact r_iret X hr hH hS hm dX12_roomful_68
    · have hm := m_ite_f hm c1
      refine lv_aload_n hx hb dX12_roomful_36 rfl (lv_at hl 0 rfl) ?_
      refine lv_iload_n hx hb dX12_roomful_37 rfl (lv_at hl 3 rfl) ?_
      obtain ⟨v3, S2, e_S2, hm⟩ := m_call_of hm
      refine n_cVi X hH hS (k := 12) (c_X12_isCell (a := a) hT hk_a e_S2) mw_X12_isCell in_8_236 hk_a (by decide) rfl rfl rfl ⟨rfl, rfl⟩ ⟨by decide, by decide⟩ ⟨Nat.zero_le _, Nat.zero_le _⟩ hl.1 (Nat.le_of_ble_eq_true rfl) dX12_roomful_38 (fun H locs hH hS => ?_)
      refine lv_if_eq (tgt := 61) hx hb dX12_roomful_41 (by decide) (fun c4 => ?_) (fun c4 => ?_)
      · have hm := m_ite_t hm c4
        exact k_X12_roomful_61 (a := a) X hr hT hk_a (b_X12_roomful_29 a n) ih  S2 l1 l2 l3 _ _ _ hH hS hl hm
      · have hm := m_ite_f hm c4
        refine lv_aload_n hx hb dX12_roomful_44 rfl (lv_at hl 0 rfl) ?_
        refine r_getp X hH (k := 12) (a := a) (j := 14) (b := (a + 2)) (A := 2) (B := 0) hk_a (by decide) rfl m_wi12 (by decide) in_7_33 rfl rfl rfl dX12_roomful_45 ?_
        refine lv_sipush (v := (1093 : Int32)) hx hb dX12_roomful_48 (by decide) ?_
        refine lv_iload_n hx hb dX12_roomful_51 rfl (lv_at hl 3 rfl) ?_
        refine lv_iadd hx hb dX12_roomful_52 ?_
        obtain ⟨v5, h_v5, e_v5, hm⟩ := n_ldi hm
        refine n_iald X hH (n := 2647) (m_lay_at hT hk_a (by decide) (i := 2) rfl) h_v5 e_v5 dX12_roomful_53 ?_
        refine lv_iload_n hx hb dX12_roomful_54 rfl (lv_at hl 1 rfl) ?_
        refine lv_icmp_ne (tgt := 61) hx hb dX12_roomful_55 (by decide) (fun c6 => ?_) (fun c6 => ?_)
        · have hm := m_ite_f hm c6
          exact k_X12_roomful_61 (a := a) X hr hT hk_a (b_X12_roomful_29 a n) ih  S2 l1 l2 l3 _ _ _ hH hS hl hm
        · have hm := m_ite_t hm c6
          obtain ⟨v7, e_v7, hm⟩ := m_let_of hm
          refine lv_iinc (v := v7) (lv' := [(2, .int v7), (0, .ref a), (1, .int l1), (3, .int l3)]) hx hb dX12_roomful_58 hl (k := 2) rfl (by rw [← e_v7]; rfl) (by decide) rfl (fun ls hl => ?_)
          exact k_X12_roomful_61 (a := a) X hr hT hk_a (b_X12_roomful_29 a n) ih  S2 l1 v7 l3 _ _ _ hH hS (lv_sub hl [1, 2, 0, 3] rfl) hm
def f_X12_roomful (a : Nat) (S : m_M) (i1 : Int32) : Option (Int32 × m_M) :=
    m_let (m_si S a 0 (0 : Int32)) fun S1 =>
    (m_ldi S1 (a + 2) 2647 (214 : Int32)).bind fun v2 =>
    m_call (f_X12_isIn S1 i1 (0 : Int32) (v2 - (1 : Int32))) fun v4 S3 =>
    if v4 = 0 then (
    some ((-1 : Int32), S3)) else (
    b_X12_roomful_29 a m_fu S3 i1 (0 : Int32) (0 : Int32))
set_option maxHeartbeats 4000000 in
set_option maxRecDepth 100000 in
theorem c_X12_roomful {l : Launch} {G : m_G} {nx : Nat} {κ : Nat → Nat} {a : Nat} {S : m_M} {i1 : Int32} {res : (Int32 × m_M)} (hT : m_Str κ) (hk_a : κ a = 13) (hm : f_X12_roomful a S i1 = some res) : m_Ci l yX12_roomful cX12_roomful 4 (some .int) rm_X12_roomful G nx κ [.ref a, .int i1] S res := by
  refine m_Ci.of (by decide) (Nat.le_of_ble_eq_true rfl) ?_
  intro p e s m args below meth c ls X hr hH hl
  have hx := X.1.1
  have hb := X.1.2.1
  have hS : m_S G s s.heap [] := va_S.rf
  have hl : lv_has ls 4 [(0, .ref a), (1, .int i1)] := hl
  rw [f_X12_roomful] at hm
  refine lv_aload_n hx hb dX12_roomful_0 rfl (lv_at hl 0 rfl) ?_
  refine lv_iconst (v := (0 : Int32)) hx hb dX12_roomful_1 (by decide) ?_
  obtain ⟨S1, e_S1, hm⟩ := m_let_of hm
  refine n_puti X hH hS tyX12 (k := 12) (a := a) (j := 0) hk_a (by decide) rfl m_wi12 tyX12_ok nmX12 (by decide) in_7_19 rfl rfl rfl ⟨rfl, rfl⟩ e_S1 dX12_roomful_2 (fun H locs hH hS => ?_)
  refine lv_iload_n hx hb dX12_roomful_5 rfl (lv_at hl 1 rfl) ?_
  refine lv_iconst (v := (0 : Int32)) hx hb dX12_roomful_6 (by decide) ?_
  refine lv_aload_n hx hb dX12_roomful_7 rfl (lv_at hl 0 rfl) ?_
  refine r_getp X hH (k := 12) (a := a) (j := 14) (b := (a + 2)) (A := 2) (B := 0) hk_a (by decide) rfl m_wi12 (by decide) in_7_33 rfl rfl rfl dX12_roomful_8 ?_
  refine lv_sipush (v := (214 : Int32)) hx hb dX12_roomful_11 (by decide) ?_
  obtain ⟨v2, h_v2, e_v2, hm⟩ := n_ldi hm
  refine n_iald X hH (n := 2647) (m_lay_at hT hk_a (by decide) (i := 2) rfl) h_v2 e_v2 dX12_roomful_14 ?_
  refine lv_iconst (v := (1 : Int32)) hx hb dX12_roomful_15 (by decide) ?_
  refine lv_isub hx hb dX12_roomful_16 ?_
  obtain ⟨v4, S3, e_S3, hm⟩ := m_call_of hm
  refine n_cSi X hH hS (c_X12_isIn  hT  e_S3) mw_X12_isIn in_8_46 rfl ⟨rfl, rfl⟩ ⟨by decide, by decide⟩ ⟨Nat.zero_le _, Nat.zero_le _⟩ hl.1 (Nat.le_of_ble_eq_true rfl) dX12_roomful_17 (fun H locs hH hS => ?_)
  refine lv_if_ne (tgt := 25) hx hb dX12_roomful_20 (by decide) (fun c5 => ?_) (fun c5 => ?_)
  · have hm := m_ite_f hm c5
    refine lv_iconst (v := (0 : Int32)) hx hb dX12_roomful_25 (by decide) ?_
    refine lv_istore_n (lv' := [(2, .int (0 : Int32)), (0, .ref a), (1, .int i1)]) hx hb dX12_roomful_26 rfl hl (by decide) rfl (fun ls hl => ?_)
    refine lv_iconst (v := (0 : Int32)) hx hb dX12_roomful_27 (by decide) ?_
    refine lv_istore_n (lv' := [(3, .int (0 : Int32)), (2, .int (0 : Int32)), (0, .ref a), (1, .int i1)]) hx hb dX12_roomful_28 rfl hl (by decide) rfl (fun ls hl => ?_)
    exact k_X12_roomful_29 (a := a) X hr hT hk_a  m_fu S3 i1 (0 : Int32) (0 : Int32) _ _ _ hH hS (lv_sub hl [2, 3, 1, 0] rfl) hm
  · have hm := m_ite_t hm c5
    refine lv_iconst (v := (-1 : Int32)) hx hb dX12_roomful_23 (by decide) ?_
    exact r_iret X hr hH hS hm dX12_roomful_24
def rm_X12_comesTo : Room := { frames := 0, cells := 0, slots := 0, locals := 0 }
def b_X12_comesTo_14 (a : Nat)  (S : m_M)  : Option m_M :=
    some S
set_option maxHeartbeats 4000000 in
set_option maxRecDepth 100000 in
theorem k_X12_comesTo_14 {p : Program} {l : Launch} {e : Env} {s : State} {m : MethodId} {args : Array Value} {below : List Frame} {meth : Method} {c : Code} {G : m_G} {nx : Nat} {κ : Nat → Nat} {res : m_M} {a : Nat} (X : m_Cx p s m args meth c cX12_comesTo 3 RX12 G) (hr : meth.sig.returnType = none) (hT : m_Str κ) (hk_a : κ a = 13)  : ∀ (S : m_M)  (H : Heap) (locs : List Loc) (ls : Array Slot), m_H G nx κ S H → m_S G s H locs → lv_has ls 3 [] → b_X12_comesTo_14 a S  = some res → W p l e rm_X12_comesTo s m args below meth c H locs 0 0 (m_Qv below args s G nx κ res) (F0 m 14 ls []) := by
  have hx := X.1.1
  have hb := X.1.2.1
  intro S H locs ls hH hS hl hm
  rw [b_X12_comesTo_14] at hm
  exact r_vret X hr hH hS hm dX12_comesTo_14
def f_X12_comesTo (a : Nat) (S : m_M) (i1 : Int32) (i2 : Int32) : Option m_M :=
    if i1 = (2 : Int32) then (
    (m_ldi S (a + 25) 200 i2).bind fun v2 =>
    if v2 = 0 then (
    (m_sti S (a + 25) 200 i2 (vp_nar .boolean (1 : Int32))).bind fun S4 =>
    (m_sti S4 (a + 26) 200 (m_ri S4 a 41) i2).bind fun S5 =>
    m_let (m_si S5 a 41 ((m_ri S5 a 41) + (1 : Int32))) fun S6 =>
    some S6) else (
    b_X12_comesTo_14 a S)) else (
    b_X12_comesTo_14 a S)
set_option maxHeartbeats 4000000 in
set_option maxRecDepth 100000 in
theorem c_X12_comesTo {l : Launch} {G : m_G} {nx : Nat} {κ : Nat → Nat} {a : Nat} {S : m_M} {i1 : Int32} {i2 : Int32} {res : m_M} (hT : m_Str κ) (hk_a : κ a = 13) (hm : f_X12_comesTo a S i1 i2 = some res) : m_Cv l yX12_comesTo cX12_comesTo 3 rm_X12_comesTo G nx κ [.ref a, .int i1, .int i2] S res := by
  refine m_Cv.of (by decide) (Nat.le_of_ble_eq_true rfl) ?_
  intro p e s m args below meth c ls X hr hH hl
  have hx := X.1.1
  have hb := X.1.2.1
  have hS : m_S G s s.heap [] := va_S.rf
  have hl : lv_has ls 3 [(0, .ref a), (1, .int i1), (2, .int i2)] := hl
  rw [f_X12_comesTo] at hm
  refine lv_iload_n hx hb dX12_comesTo_0 rfl (lv_at hl 1 rfl) ?_
  refine lv_iconst (v := (2 : Int32)) hx hb dX12_comesTo_1 (by decide) ?_
  refine lv_icmp_ne (tgt := 14) hx hb dX12_comesTo_2 (by decide) (fun c1 => ?_) (fun c1 => ?_)
  · have hm := m_ite_f hm c1
    exact k_X12_comesTo_14 (a := a) X hr hT hk_a   S _ _ _ hH hS (lv_sub hl [] rfl) hm
  · have hm := m_ite_t hm c1
    refine lv_aload_n hx hb dX12_comesTo_5 rfl (lv_at hl 0 rfl) ?_
    refine r_getp X hH (k := 12) (a := a) (j := 39) (b := (a + 25)) (A := 25) (B := 0) hk_a (by decide) rfl m_wi12 (by decide) in_7_58 rfl rfl rfl dX12_comesTo_6 ?_
    refine lv_iload_n hx hb dX12_comesTo_9 rfl (lv_at hl 2 rfl) ?_
    obtain ⟨v2, h_v2, e_v2, hm⟩ := n_ldi hm
    refine n_zald X hH (n := 200) (m_lay_at hT hk_a (by decide) (i := 25) rfl) h_v2 e_v2 dX12_comesTo_10 ?_
    refine lv_if_eq (tgt := 15) hx hb dX12_comesTo_11 (by decide) (fun c3 => ?_) (fun c3 => ?_)
    · have hm := m_ite_t hm c3
      refine lv_aload_n hx hb dX12_comesTo_15 rfl (lv_at hl 0 rfl) ?_
      refine r_getp X hH (k := 12) (a := a) (j := 39) (b := (a + 25)) (A := 25) (B := 0) hk_a (by decide) rfl m_wi12 (by decide) in_7_58 rfl rfl rfl dX12_comesTo_16 ?_
      refine lv_iload_n hx hb dX12_comesTo_19 rfl (lv_at hl 2 rfl) ?_
      refine lv_iconst (v := (1 : Int32)) hx hb dX12_comesTo_20 (by decide) ?_
      obtain ⟨S4, h_S4, e_S4, hm⟩ := n_sti hm
      refine n_zast X hH hS (n := 200) (m_lay_at hT hk_a (by decide) (i := 25) rfl) h_S4 e_S4 dX12_comesTo_21 (fun H locs hH hS => ?_)
      refine lv_aload_n hx hb dX12_comesTo_22 rfl (lv_at hl 0 rfl) ?_
      refine r_getp X hH (k := 12) (a := a) (j := 40) (b := (a + 26)) (A := 26) (B := 0) hk_a (by decide) rfl m_wi12 (by decide) in_7_59 rfl rfl rfl dX12_comesTo_23 ?_
      refine lv_aload_n hx hb dX12_comesTo_26 rfl (lv_at hl 0 rfl) ?_
      refine r_geti X hH (k := 12) (a := a) (j := 41) hk_a (by decide) rfl m_wi12 (by decide) in_7_60 rfl rfl dX12_comesTo_27 ?_
      refine lv_iload_n hx hb dX12_comesTo_30 rfl (lv_at hl 2 rfl) ?_
      obtain ⟨S5, h_S5, e_S5, hm⟩ := n_sti hm
      refine n_iast X hH hS (n := 200) (m_lay_at hT hk_a (by decide) (i := 26) rfl) h_S5 e_S5 dX12_comesTo_31 (fun H locs hH hS => ?_)
      refine lv_aload_n hx hb dX12_comesTo_32 rfl (lv_at hl 0 rfl) ?_
      refine lv_dup hx hb dX12_comesTo_33 rfl ?_
      refine r_geti X hH (k := 12) (a := a) (j := 41) hk_a (by decide) rfl m_wi12 (by decide) in_7_60 rfl rfl dX12_comesTo_34 ?_
      refine lv_iconst (v := (1 : Int32)) hx hb dX12_comesTo_37 (by decide) ?_
      refine lv_iadd hx hb dX12_comesTo_38 ?_
      obtain ⟨S6, e_S6, hm⟩ := m_let_of hm
      refine n_puti X hH hS tyX12 (k := 12) (a := a) (j := 41) hk_a (by decide) rfl m_wi12 tyX12_ok nmX12 (by decide) in_7_60 rfl rfl rfl ⟨rfl, rfl⟩ e_S6 dX12_comesTo_39 (fun H locs hH hS => ?_)
      exact r_vret X hr hH hS hm dX12_comesTo_42
    · have hm := m_ite_f hm c3
      exact k_X12_comesTo_14 (a := a) X hr hT hk_a   S _ _ _ hH hS (lv_sub hl [] rfl) hm
def rm_X12_markReached : Room := { frames := 1, cells := 0, slots := 0, locals := 22 }
def b_X12_markReached_43 (a : Nat) (K_29 : m_M → Int32 → Option (Int32 × m_M)) : Nat → m_M → Int32 → Int32 → Option (Int32 × m_M)
  | 0, _, _, _ => none
  | n + 1, S, l1, l2 =>
    m_call (f_X12_funOf a S l1) fun v2 S1 =>
    m_call (f_X12_varsOf a (a + 2) 2647 S1 v2) fun v4 S3 =>
    if v4 ≤ l2 then (
    m_let (l1 + (1 : Int32)) fun v6 =>
    K_29 S3 v6) else (
    m_call (f_X12_slot a S3 l1 l2) fun v8 S7 =>
    (m_ldi S7 (a + 2) 2647 ((245 : Int32) + v8)).bind fun v9 =>
    m_call (f_X12_slot a S7 l1 l2) fun v11 S10 =>
    (m_ldi S10 (a + 2) 2647 ((569 : Int32) + v11)).bind fun v12 =>
    m_cal0 (f_X12_comesTo a S10 v9 v12) fun S13 =>
    m_let (l2 + (1 : Int32)) fun v14 =>
    b_X12_markReached_43 a K_29 n S13 l1 v14)
set_option maxHeartbeats 4000000 in
set_option maxRecDepth 100000 in
theorem k_X12_markReached_43 {p : Program} {l : Launch} {e : Env} {s : State} {m : MethodId} {args : Array Value} {below : List Frame} {meth : Method} {c : Code} {G : m_G} {nx : Nat} {κ : Nat → Nat} {res : (Int32 × m_M)} {a : Nat} (X : m_Cx p s m args meth c cX12_markReached 3 RX12 G) (hr : meth.sig.returnType = (some .int)) (hT : m_Str κ) (hk_a : κ a = 13) (K_29 : m_M → Int32 → Option (Int32 × m_M)) (hK_29 : ∀ (S : m_M) (l1 : Int32) (H : Heap) (locs : List Loc) (ls : Array Slot), m_H G nx κ S H → m_S G s H locs → lv_has ls 3 [(0, .ref a), (1, .int l1)] → K_29 S l1 = some res → W p l e rm_X12_markReached s m args below meth c H locs 0 0 (m_Qi below args s G nx κ res) (F0 m 29 ls [])) (n : Nat) : ∀ (S : m_M) (l1 : Int32) (l2 : Int32) (H : Heap) (locs : List Loc) (ls : Array Slot), m_H G nx κ S H → m_S G s H locs → lv_has ls 3 [(0, .ref a), (1, .int l1), (2, .int l2)] → b_X12_markReached_43 a K_29 n S l1 l2 = some res → W p l e rm_X12_markReached s m args below meth c H locs 0 0 (m_Qi below args s G nx κ res) (F0 m 43 ls []) := by
  have hx := X.1.1
  have hb := X.1.2.1
  induction n with
  | zero => intro S l1 l2 H locs ls hH hS hl hm; have hm : (none : Option (Int32 × m_M)) = some res := hm; cases hm
  | succ n ih =>
    intro S l1 l2 H locs ls hH hS hl hm
    rw [b_X12_markReached_43] at hm
    refine lv_iload_n hx hb dX12_markReached_43 rfl (lv_at hl 2 rfl) ?_
    refine lv_aload_n hx hb dX12_markReached_44 rfl (lv_at hl 0 rfl) ?_
    refine lv_aload_n hx hb dX12_markReached_45 rfl (lv_at hl 0 rfl) ?_
    refine r_getp X hH (k := 12) (a := a) (j := 14) (b := (a + 2)) (A := 2) (B := 0) hk_a (by decide) rfl m_wi12 (by decide) in_7_33 rfl rfl rfl dX12_markReached_46 ?_
    refine lv_aload_n hx hb dX12_markReached_49 rfl (lv_at hl 0 rfl) ?_
    refine lv_iload_n hx hb dX12_markReached_50 rfl (lv_at hl 1 rfl) ?_
    obtain ⟨v2, S1, e_S1, hm⟩ := m_call_of hm
    refine n_cVi X hH hS (k := 12) (c_X12_funOf (a := a) hT hk_a e_S1) mw_X12_funOf in_8_156 hk_a (by decide) rfl rfl rfl ⟨rfl, rfl⟩ ⟨by decide, by decide⟩ ⟨Nat.zero_le _, Nat.zero_le _⟩ hl.1 (Nat.le_of_ble_eq_true rfl) dX12_markReached_51 (fun H locs hH hS => ?_)
    obtain ⟨v4, S3, e_S3, hm⟩ := m_call_of hm
    refine n_cVi X hH hS (k := 12) (c_X12_varsOf (a := a) (o1 := (a + 2)) (n1 := 2647) hT hk_a (m_lay_at hT hk_a (by decide) (i := 2) rfl) e_S3) mw_X12_varsOf in_6_228 hk_a (by decide) rfl rfl rfl ⟨rfl, rfl⟩ ⟨by decide, by decide⟩ ⟨Nat.zero_le _, Nat.zero_le _⟩ hl.1 (Nat.le_of_ble_eq_true rfl) dX12_markReached_54 (fun H locs hH hS => ?_)
    refine lv_icmp_ge (tgt := 100) hx hb dX12_markReached_57 (by decide) (fun c5 => ?_) (fun c5 => ?_)
    · have hm := m_ite_t hm c5
      obtain ⟨v6, e_v6, hm⟩ := m_let_of hm
      refine lv_iinc (v := v6) (lv' := [(1, .int v6), (0, .ref a), (2, .int l2)]) hx hb dX12_markReached_100 hl (k := 1) rfl (by rw [← e_v6]; rfl) (by decide) rfl (fun ls hl => ?_)
      refine lv_goto (tgt := 29) hx hb dX12_markReached_103 (by decide) ?_
      exact hK_29 S3 v6 _ _ _ hH hS (lv_sub hl [1, 0] rfl) hm
    · have hm := m_ite_f hm c5
      refine lv_aload_n hx hb dX12_markReached_60 rfl (lv_at hl 0 rfl) ?_
      refine lv_aload_n hx hb dX12_markReached_61 rfl (lv_at hl 0 rfl) ?_
      refine r_getp X hH (k := 12) (a := a) (j := 14) (b := (a + 2)) (A := 2) (B := 0) hk_a (by decide) rfl m_wi12 (by decide) in_7_33 rfl rfl rfl dX12_markReached_62 ?_
      refine lv_sipush (v := (245 : Int32)) hx hb dX12_markReached_65 (by decide) ?_
      refine lv_aload_n hx hb dX12_markReached_68 rfl (lv_at hl 0 rfl) ?_
      refine lv_iload_n hx hb dX12_markReached_69 rfl (lv_at hl 1 rfl) ?_
      refine lv_iload_n hx hb dX12_markReached_70 rfl (lv_at hl 2 rfl) ?_
      obtain ⟨v8, S7, e_S7, hm⟩ := m_call_of hm
      refine n_cVi X hH hS (k := 12) (c_X12_slot (a := a) hT hk_a e_S7) mw_X12_slot in_8_144 hk_a (by decide) rfl rfl rfl ⟨rfl, rfl⟩ ⟨by decide, by decide⟩ ⟨Nat.zero_le _, Nat.zero_le _⟩ hl.1 (Nat.le_of_ble_eq_true rfl) dX12_markReached_71 (fun H locs hH hS => ?_)
      refine lv_iadd hx hb dX12_markReached_74 ?_
      obtain ⟨v9, h_v9, e_v9, hm⟩ := n_ldi hm
      refine n_iald X hH (n := 2647) (m_lay_at hT hk_a (by decide) (i := 2) rfl) h_v9 e_v9 dX12_markReached_75 ?_
      refine lv_aload_n hx hb dX12_markReached_76 rfl (lv_at hl 0 rfl) ?_
      refine r_getp X hH (k := 12) (a := a) (j := 14) (b := (a + 2)) (A := 2) (B := 0) hk_a (by decide) rfl m_wi12 (by decide) in_7_33 rfl rfl rfl dX12_markReached_77 ?_
      refine lv_sipush (v := (569 : Int32)) hx hb dX12_markReached_80 (by decide) ?_
      refine lv_aload_n hx hb dX12_markReached_83 rfl (lv_at hl 0 rfl) ?_
      refine lv_iload_n hx hb dX12_markReached_84 rfl (lv_at hl 1 rfl) ?_
      refine lv_iload_n hx hb dX12_markReached_85 rfl (lv_at hl 2 rfl) ?_
      obtain ⟨v11, S10, e_S10, hm⟩ := m_call_of hm
      refine n_cVi X hH hS (k := 12) (c_X12_slot (a := a) hT hk_a e_S10) mw_X12_slot in_8_144 hk_a (by decide) rfl rfl rfl ⟨rfl, rfl⟩ ⟨by decide, by decide⟩ ⟨Nat.zero_le _, Nat.zero_le _⟩ hl.1 (Nat.le_of_ble_eq_true rfl) dX12_markReached_86 (fun H locs hH hS => ?_)
      refine lv_iadd hx hb dX12_markReached_89 ?_
      obtain ⟨v12, h_v12, e_v12, hm⟩ := n_ldi hm
      refine n_iald X hH (n := 2647) (m_lay_at hT hk_a (by decide) (i := 2) rfl) h_v12 e_v12 dX12_markReached_90 ?_
      obtain ⟨S13, e_S13, hm⟩ := m_cal0_of hm
      refine r_cVv X hH hS (k := 12) (c_X12_comesTo (a := a) hT hk_a e_S13) mw_X12_comesTo in_9_28 hk_a (by decide) rfl rfl rfl ⟨rfl, rfl⟩ ⟨by decide, by decide⟩ ⟨Nat.zero_le _, Nat.zero_le _⟩ hl.1 (Nat.le_of_ble_eq_true rfl) dX12_markReached_91 (fun H locs hH hS => ?_)
      obtain ⟨v14, e_v14, hm⟩ := m_let_of hm
      refine lv_iinc (v := v14) (lv' := [(2, .int v14), (0, .ref a), (1, .int l1)]) hx hb dX12_markReached_94 hl (k := 2) rfl (by rw [← e_v14]; rfl) (by decide) rfl (fun ls hl => ?_)
      refine lv_goto (tgt := 43) hx hb dX12_markReached_97 (by decide) ?_
      exact ih S13 l1 v14 _ _ _ hH hS (lv_sub hl [1, 2, 0] rfl) hm
def b_X12_markReached_150 (a : Nat) (K_140 : m_M → Int32 → Option (Int32 × m_M)) : Nat → m_M → Int32 → Int32 → Option (Int32 × m_M)
  | 0, _, _, _ => none
  | n + 1, S, l1, l2 =>
    if (2 : Int32) ≤ l2 then (
    m_let (l1 + (1 : Int32)) fun v2 =>
    K_140 S v2) else (
    (m_ldi S (a + 26) 200 l1).bind fun v3 =>
    (m_ldi S (a + 2) 2647 (((1293 : Int32) + ((2 : Int32) * v3)) + l2)).bind fun v4 =>
    (m_ldi S (a + 26) 200 l1).bind fun v5 =>
    (m_ldi S (a + 2) 2647 (((1693 : Int32) + ((2 : Int32) * v5)) + l2)).bind fun v6 =>
    m_cal0 (f_X12_comesTo a S v4 v6) fun S7 =>
    m_let (l2 + (1 : Int32)) fun v8 =>
    b_X12_markReached_150 a K_140 n S7 l1 v8)
set_option maxHeartbeats 4000000 in
set_option maxRecDepth 100000 in
theorem k_X12_markReached_150 {p : Program} {l : Launch} {e : Env} {s : State} {m : MethodId} {args : Array Value} {below : List Frame} {meth : Method} {c : Code} {G : m_G} {nx : Nat} {κ : Nat → Nat} {res : (Int32 × m_M)} {a : Nat} (X : m_Cx p s m args meth c cX12_markReached 3 RX12 G) (hr : meth.sig.returnType = (some .int)) (hT : m_Str κ) (hk_a : κ a = 13) (K_140 : m_M → Int32 → Option (Int32 × m_M)) (hK_140 : ∀ (S : m_M) (l1 : Int32) (H : Heap) (locs : List Loc) (ls : Array Slot), m_H G nx κ S H → m_S G s H locs → lv_has ls 3 [(0, .ref a), (1, .int l1)] → K_140 S l1 = some res → W p l e rm_X12_markReached s m args below meth c H locs 0 0 (m_Qi below args s G nx κ res) (F0 m 140 ls [])) (n : Nat) : ∀ (S : m_M) (l1 : Int32) (l2 : Int32) (H : Heap) (locs : List Loc) (ls : Array Slot), m_H G nx κ S H → m_S G s H locs → lv_has ls 3 [(0, .ref a), (1, .int l1), (2, .int l2)] → b_X12_markReached_150 a K_140 n S l1 l2 = some res → W p l e rm_X12_markReached s m args below meth c H locs 0 0 (m_Qi below args s G nx κ res) (F0 m 150 ls []) := by
  have hx := X.1.1
  have hb := X.1.2.1
  induction n with
  | zero => intro S l1 l2 H locs ls hH hS hl hm; have hm : (none : Option (Int32 × m_M)) = some res := hm; cases hm
  | succ n ih =>
    intro S l1 l2 H locs ls hH hS hl hm
    rw [b_X12_markReached_150] at hm
    refine lv_iload_n hx hb dX12_markReached_150 rfl (lv_at hl 2 rfl) ?_
    refine lv_iconst (v := (2 : Int32)) hx hb dX12_markReached_151 (by decide) ?_
    refine lv_icmp_ge (tgt := 203) hx hb dX12_markReached_152 (by decide) (fun c1 => ?_) (fun c1 => ?_)
    · have hm := m_ite_t hm c1
      obtain ⟨v2, e_v2, hm⟩ := m_let_of hm
      refine lv_iinc (v := v2) (lv' := [(1, .int v2), (0, .ref a), (2, .int l2)]) hx hb dX12_markReached_203 hl (k := 1) rfl (by rw [← e_v2]; rfl) (by decide) rfl (fun ls hl => ?_)
      refine lv_goto (tgt := 140) hx hb dX12_markReached_206 (by decide) ?_
      exact hK_140 S v2 _ _ _ hH hS (lv_sub hl [1, 0] rfl) hm
    · have hm := m_ite_f hm c1
      refine lv_aload_n hx hb dX12_markReached_155 rfl (lv_at hl 0 rfl) ?_
      refine lv_aload_n hx hb dX12_markReached_156 rfl (lv_at hl 0 rfl) ?_
      refine r_getp X hH (k := 12) (a := a) (j := 14) (b := (a + 2)) (A := 2) (B := 0) hk_a (by decide) rfl m_wi12 (by decide) in_7_33 rfl rfl rfl dX12_markReached_157 ?_
      refine lv_sipush (v := (1293 : Int32)) hx hb dX12_markReached_160 (by decide) ?_
      refine lv_iconst (v := (2 : Int32)) hx hb dX12_markReached_163 (by decide) ?_
      refine lv_aload_n hx hb dX12_markReached_164 rfl (lv_at hl 0 rfl) ?_
      refine r_getp X hH (k := 12) (a := a) (j := 40) (b := (a + 26)) (A := 26) (B := 0) hk_a (by decide) rfl m_wi12 (by decide) in_7_59 rfl rfl rfl dX12_markReached_165 ?_
      refine lv_iload_n hx hb dX12_markReached_168 rfl (lv_at hl 1 rfl) ?_
      obtain ⟨v3, h_v3, e_v3, hm⟩ := n_ldi hm
      refine n_iald X hH (n := 200) (m_lay_at hT hk_a (by decide) (i := 26) rfl) h_v3 e_v3 dX12_markReached_169 ?_
      refine lv_imul hx hb dX12_markReached_170 ?_
      refine lv_iadd hx hb dX12_markReached_171 ?_
      refine lv_iload_n hx hb dX12_markReached_172 rfl (lv_at hl 2 rfl) ?_
      refine lv_iadd hx hb dX12_markReached_173 ?_
      obtain ⟨v4, h_v4, e_v4, hm⟩ := n_ldi hm
      refine n_iald X hH (n := 2647) (m_lay_at hT hk_a (by decide) (i := 2) rfl) h_v4 e_v4 dX12_markReached_174 ?_
      refine lv_aload_n hx hb dX12_markReached_175 rfl (lv_at hl 0 rfl) ?_
      refine r_getp X hH (k := 12) (a := a) (j := 14) (b := (a + 2)) (A := 2) (B := 0) hk_a (by decide) rfl m_wi12 (by decide) in_7_33 rfl rfl rfl dX12_markReached_176 ?_
      refine lv_sipush (v := (1693 : Int32)) hx hb dX12_markReached_179 (by decide) ?_
      refine lv_iconst (v := (2 : Int32)) hx hb dX12_markReached_182 (by decide) ?_
      refine lv_aload_n hx hb dX12_markReached_183 rfl (lv_at hl 0 rfl) ?_
      refine r_getp X hH (k := 12) (a := a) (j := 40) (b := (a + 26)) (A := 26) (B := 0) hk_a (by decide) rfl m_wi12 (by decide) in_7_59 rfl rfl rfl dX12_markReached_184 ?_
      refine lv_iload_n hx hb dX12_markReached_187 rfl (lv_at hl 1 rfl) ?_
      obtain ⟨v5, h_v5, e_v5, hm⟩ := n_ldi hm
      refine n_iald X hH (n := 200) (m_lay_at hT hk_a (by decide) (i := 26) rfl) h_v5 e_v5 dX12_markReached_188 ?_
      refine lv_imul hx hb dX12_markReached_189 ?_
      refine lv_iadd hx hb dX12_markReached_190 ?_
      refine lv_iload_n hx hb dX12_markReached_191 rfl (lv_at hl 2 rfl) ?_
      refine lv_iadd hx hb dX12_markReached_192 ?_
      obtain ⟨v6, h_v6, e_v6, hm⟩ := n_ldi hm
      refine n_iald X hH (n := 2647) (m_lay_at hT hk_a (by decide) (i := 2) rfl) h_v6 e_v6 dX12_markReached_193 ?_
      obtain ⟨S7, e_S7, hm⟩ := m_cal0_of hm
      refine r_cVv X hH hS (k := 12) (c_X12_comesTo (a := a) hT hk_a e_S7) mw_X12_comesTo in_9_28 hk_a (by decide) rfl rfl rfl ⟨rfl, rfl⟩ ⟨by decide, by decide⟩ ⟨Nat.zero_le _, Nat.zero_le _⟩ hl.1 (Nat.le_of_ble_eq_true rfl) dX12_markReached_194 (fun H locs hH hS => ?_)
      obtain ⟨v8, e_v8, hm⟩ := m_let_of hm
      refine lv_iinc (v := v8) (lv' := [(2, .int v8), (0, .ref a), (1, .int l1)]) hx hb dX12_markReached_197 hl (k := 2) rfl (by rw [← e_v8]; rfl) (by decide) rfl (fun ls hl => ?_)
      refine lv_goto (tgt := 150) hx hb dX12_markReached_200 (by decide) ?_
      exact ih S7 l1 v8 _ _ _ hH hS (lv_sub hl [1, 2, 0] rfl) hm
def b_X12_markReached_140 (a : Nat)  : Nat → m_M → Int32 → Option (Int32 × m_M)
  | 0, _, _ => none
  | n + 1, S, l1 =>
    if (m_ri S a 41) ≤ l1 then (
    some ((m_ri S a 41), S)) else (
    b_X12_markReached_150 a (b_X12_markReached_140 a n) m_fu S l1 (0 : Int32))
set_option maxHeartbeats 4000000 in
set_option maxRecDepth 100000 in
theorem k_X12_markReached_140 {p : Program} {l : Launch} {e : Env} {s : State} {m : MethodId} {args : Array Value} {below : List Frame} {meth : Method} {c : Code} {G : m_G} {nx : Nat} {κ : Nat → Nat} {res : (Int32 × m_M)} {a : Nat} (X : m_Cx p s m args meth c cX12_markReached 3 RX12 G) (hr : meth.sig.returnType = (some .int)) (hT : m_Str κ) (hk_a : κ a = 13)  (n : Nat) : ∀ (S : m_M) (l1 : Int32) (H : Heap) (locs : List Loc) (ls : Array Slot), m_H G nx κ S H → m_S G s H locs → lv_has ls 3 [(0, .ref a), (1, .int l1)] → b_X12_markReached_140 a n S l1 = some res → W p l e rm_X12_markReached s m args below meth c H locs 0 0 (m_Qi below args s G nx κ res) (F0 m 140 ls []) := by
  have hx := X.1.1
  have hb := X.1.2.1
  induction n with
  | zero => intro S l1 H locs ls hH hS hl hm; have hm : (none : Option (Int32 × m_M)) = some res := hm; cases hm
  | succ n ih =>
    intro S l1 H locs ls hH hS hl hm
    rw [b_X12_markReached_140] at hm
    refine lv_iload_n hx hb dX12_markReached_140 rfl (lv_at hl 1 rfl) ?_
    refine lv_aload_n hx hb dX12_markReached_141 rfl (lv_at hl 0 rfl) ?_
    refine r_geti X hH (k := 12) (a := a) (j := 41) hk_a (by decide) rfl m_wi12 (by decide) in_7_60 rfl rfl dX12_markReached_142 ?_
    refine lv_icmp_ge (tgt := 209) hx hb dX12_markReached_145 (by decide) (fun c1 => ?_) (fun c1 => ?_)
    · have hm := m_ite_t hm c1
      refine lv_aload_n hx hb dX12_markReached_209 rfl (lv_at hl 0 rfl) ?_
      refine r_geti X hH (k := 12) (a := a) (j := 41) hk_a (by decide) rfl m_wi12 (by decide) in_7_60 rfl rfl dX12_markReached_210 ?_
      exact r_iret X hr hH hS hm dX12_markReached_213
    · have hm := m_ite_f hm c1
      refine lv_iconst (v := (0 : Int32)) hx hb dX12_markReached_148 (by decide) ?_
      refine lv_istore_n (lv' := [(2, .int (0 : Int32)), (0, .ref a), (1, .int l1)]) hx hb dX12_markReached_149 rfl hl (by decide) rfl (fun ls hl => ?_)
      exact k_X12_markReached_150 (a := a) X hr hT hk_a (b_X12_markReached_140 a n) ih m_fu S l1 (0 : Int32) _ _ _ hH hS (lv_sub hl [1, 2, 0] rfl) hm
def b_X12_markReached_138 (a : Nat)  (S : m_M)  : Option (Int32 × m_M) :=
    b_X12_markReached_140 a m_fu S (0 : Int32)
set_option maxHeartbeats 4000000 in
set_option maxRecDepth 100000 in
theorem k_X12_markReached_138 {p : Program} {l : Launch} {e : Env} {s : State} {m : MethodId} {args : Array Value} {below : List Frame} {meth : Method} {c : Code} {G : m_G} {nx : Nat} {κ : Nat → Nat} {res : (Int32 × m_M)} {a : Nat} (X : m_Cx p s m args meth c cX12_markReached 3 RX12 G) (hr : meth.sig.returnType = (some .int)) (hT : m_Str κ) (hk_a : κ a = 13)  : ∀ (S : m_M)  (H : Heap) (locs : List Loc) (ls : Array Slot), m_H G nx κ S H → m_S G s H locs → lv_has ls 3 [(0, .ref a)] → b_X12_markReached_138 a S  = some res → W p l e rm_X12_markReached s m args below meth c H locs 0 0 (m_Qi below args s G nx κ res) (F0 m 138 ls []) := by
  have hx := X.1.1
  have hb := X.1.2.1
  intro S H locs ls hH hS hl hm
  rw [b_X12_markReached_138] at hm
  refine lv_iconst (v := (0 : Int32)) hx hb dX12_markReached_138 (by decide) ?_
  refine lv_istore_n (lv' := [(1, .int (0 : Int32)), (0, .ref a)]) hx hb dX12_markReached_139 rfl hl (by decide) rfl (fun ls hl => ?_)
  exact k_X12_markReached_140 (a := a) X hr hT hk_a  m_fu S (0 : Int32) _ _ _ hH hS (lv_sub hl [1, 0] rfl) hm
def b_X12_markReached_29 (a : Nat)  : Nat → m_M → Int32 → Option (Int32 × m_M)
  | 0, _, _ => none
  | n + 1, S, l1 =>
    (m_ldi S (a + 2) 2647 (212 : Int32)).bind fun v1 =>
    if v1 ≤ l1 then (
    (m_ldi S (a + 2) 2647 (210 : Int32)).bind fun v3 =>
    if v3 = (2 : Int32) then (
    (m_ldi S (a + 2) 2647 (219 : Int32)).bind fun v5 =>
    (m_ldi S (a + 2) 2647 (220 : Int32)).bind fun v6 =>
    m_cal0 (f_X12_comesTo a S v5 v6) fun S7 =>
    b_X12_markReached_138 a S7) else (
    b_X12_markReached_138 a S)) else (
    b_X12_markReached_43 a (b_X12_markReached_29 a n) m_fu S l1 (0 : Int32))
set_option maxHeartbeats 4000000 in
set_option maxRecDepth 100000 in
theorem k_X12_markReached_29 {p : Program} {l : Launch} {e : Env} {s : State} {m : MethodId} {args : Array Value} {below : List Frame} {meth : Method} {c : Code} {G : m_G} {nx : Nat} {κ : Nat → Nat} {res : (Int32 × m_M)} {a : Nat} (X : m_Cx p s m args meth c cX12_markReached 3 RX12 G) (hr : meth.sig.returnType = (some .int)) (hT : m_Str κ) (hk_a : κ a = 13)  (n : Nat) : ∀ (S : m_M) (l1 : Int32) (H : Heap) (locs : List Loc) (ls : Array Slot), m_H G nx κ S H → m_S G s H locs → lv_has ls 3 [(0, .ref a), (1, .int l1)] → b_X12_markReached_29 a n S l1 = some res → W p l e rm_X12_markReached s m args below meth c H locs 0 0 (m_Qi below args s G nx κ res) (F0 m 29 ls []) := by
  have hx := X.1.1
  have hb := X.1.2.1
  induction n with
  | zero => intro S l1 H locs ls hH hS hl hm; have hm : (none : Option (Int32 × m_M)) = some res := hm; cases hm
  | succ n ih =>
    intro S l1 H locs ls hH hS hl hm
    rw [b_X12_markReached_29] at hm
    refine lv_iload_n hx hb dX12_markReached_29 rfl (lv_at hl 1 rfl) ?_
    refine lv_aload_n hx hb dX12_markReached_30 rfl (lv_at hl 0 rfl) ?_
    refine r_getp X hH (k := 12) (a := a) (j := 14) (b := (a + 2)) (A := 2) (B := 0) hk_a (by decide) rfl m_wi12 (by decide) in_7_33 rfl rfl rfl dX12_markReached_31 ?_
    refine lv_sipush (v := (212 : Int32)) hx hb dX12_markReached_34 (by decide) ?_
    obtain ⟨v1, h_v1, e_v1, hm⟩ := n_ldi hm
    refine n_iald X hH (n := 2647) (m_lay_at hT hk_a (by decide) (i := 2) rfl) h_v1 e_v1 dX12_markReached_37 ?_
    refine lv_icmp_ge (tgt := 106) hx hb dX12_markReached_38 (by decide) (fun c2 => ?_) (fun c2 => ?_)
    · have hm := m_ite_t hm c2
      refine lv_aload_n hx hb dX12_markReached_106 rfl (lv_at hl 0 rfl) ?_
      refine r_getp X hH (k := 12) (a := a) (j := 14) (b := (a + 2)) (A := 2) (B := 0) hk_a (by decide) rfl m_wi12 (by decide) in_7_33 rfl rfl rfl dX12_markReached_107 ?_
      refine lv_sipush (v := (210 : Int32)) hx hb dX12_markReached_110 (by decide) ?_
      obtain ⟨v3, h_v3, e_v3, hm⟩ := n_ldi hm
      refine n_iald X hH (n := 2647) (m_lay_at hT hk_a (by decide) (i := 2) rfl) h_v3 e_v3 dX12_markReached_113 ?_
      refine lv_iconst (v := (2 : Int32)) hx hb dX12_markReached_114 (by decide) ?_
      refine lv_icmp_ne (tgt := 138) hx hb dX12_markReached_115 (by decide) (fun c4 => ?_) (fun c4 => ?_)
      · have hm := m_ite_f hm c4
        exact k_X12_markReached_138 (a := a) X hr hT hk_a   S _ _ _ hH hS (lv_sub hl [0] rfl) hm
      · have hm := m_ite_t hm c4
        refine lv_aload_n hx hb dX12_markReached_118 rfl (lv_at hl 0 rfl) ?_
        refine lv_aload_n hx hb dX12_markReached_119 rfl (lv_at hl 0 rfl) ?_
        refine r_getp X hH (k := 12) (a := a) (j := 14) (b := (a + 2)) (A := 2) (B := 0) hk_a (by decide) rfl m_wi12 (by decide) in_7_33 rfl rfl rfl dX12_markReached_120 ?_
        refine lv_sipush (v := (219 : Int32)) hx hb dX12_markReached_123 (by decide) ?_
        obtain ⟨v5, h_v5, e_v5, hm⟩ := n_ldi hm
        refine n_iald X hH (n := 2647) (m_lay_at hT hk_a (by decide) (i := 2) rfl) h_v5 e_v5 dX12_markReached_126 ?_
        refine lv_aload_n hx hb dX12_markReached_127 rfl (lv_at hl 0 rfl) ?_
        refine r_getp X hH (k := 12) (a := a) (j := 14) (b := (a + 2)) (A := 2) (B := 0) hk_a (by decide) rfl m_wi12 (by decide) in_7_33 rfl rfl rfl dX12_markReached_128 ?_
        refine lv_sipush (v := (220 : Int32)) hx hb dX12_markReached_131 (by decide) ?_
        obtain ⟨v6, h_v6, e_v6, hm⟩ := n_ldi hm
        refine n_iald X hH (n := 2647) (m_lay_at hT hk_a (by decide) (i := 2) rfl) h_v6 e_v6 dX12_markReached_134 ?_
        obtain ⟨S7, e_S7, hm⟩ := m_cal0_of hm
        refine r_cVv X hH hS (k := 12) (c_X12_comesTo (a := a) hT hk_a e_S7) mw_X12_comesTo in_9_28 hk_a (by decide) rfl rfl rfl ⟨rfl, rfl⟩ ⟨by decide, by decide⟩ ⟨Nat.zero_le _, Nat.zero_le _⟩ hl.1 (Nat.le_of_ble_eq_true rfl) dX12_markReached_135 (fun H locs hH hS => ?_)
        exact k_X12_markReached_138 (a := a) X hr hT hk_a   S7 _ _ _ hH hS (lv_sub hl [0] rfl) hm
    · have hm := m_ite_f hm c2
      refine lv_iconst (v := (0 : Int32)) hx hb dX12_markReached_41 (by decide) ?_
      refine lv_istore_n (lv' := [(2, .int (0 : Int32)), (0, .ref a), (1, .int l1)]) hx hb dX12_markReached_42 rfl hl (by decide) rfl (fun ls hl => ?_)
      exact k_X12_markReached_43 (a := a) X hr hT hk_a (b_X12_markReached_29 a n) ih m_fu S l1 (0 : Int32) _ _ _ hH hS (lv_sub hl [1, 2, 0] rfl) hm
def b_X12_markReached_2 (a : Nat)  : Nat → m_M → Int32 → Option (Int32 × m_M)
  | 0, _, _ => none
  | n + 1, S, l1 =>
    if (200 : Int32) ≤ l1 then (
    m_let (m_si S a 41 (0 : Int32)) fun S2 =>
    b_X12_markReached_29 a m_fu S2 (0 : Int32)) else (
    (m_sti S (a + 25) 200 l1 (vp_nar .boolean (0 : Int32))).bind fun S3 =>
    m_let (l1 + (1 : Int32)) fun v4 =>
    b_X12_markReached_2 a n S3 v4)
set_option maxHeartbeats 4000000 in
set_option maxRecDepth 100000 in
theorem k_X12_markReached_2 {p : Program} {l : Launch} {e : Env} {s : State} {m : MethodId} {args : Array Value} {below : List Frame} {meth : Method} {c : Code} {G : m_G} {nx : Nat} {κ : Nat → Nat} {res : (Int32 × m_M)} {a : Nat} (X : m_Cx p s m args meth c cX12_markReached 3 RX12 G) (hr : meth.sig.returnType = (some .int)) (hT : m_Str κ) (hk_a : κ a = 13)  (n : Nat) : ∀ (S : m_M) (l1 : Int32) (H : Heap) (locs : List Loc) (ls : Array Slot), m_H G nx κ S H → m_S G s H locs → lv_has ls 3 [(0, .ref a), (1, .int l1)] → b_X12_markReached_2 a n S l1 = some res → W p l e rm_X12_markReached s m args below meth c H locs 0 0 (m_Qi below args s G nx κ res) (F0 m 2 ls []) := by
  have hx := X.1.1
  have hb := X.1.2.1
  induction n with
  | zero => intro S l1 H locs ls hH hS hl hm; have hm : (none : Option (Int32 × m_M)) = some res := hm; cases hm
  | succ n ih =>
    intro S l1 H locs ls hH hS hl hm
    rw [b_X12_markReached_2] at hm
    refine lv_iload_n hx hb dX12_markReached_2 rfl (lv_at hl 1 rfl) ?_
    refine lv_sipush (v := (200 : Int32)) hx hb dX12_markReached_3 (by decide) ?_
    refine lv_icmp_ge (tgt := 22) hx hb dX12_markReached_6 (by decide) (fun c1 => ?_) (fun c1 => ?_)
    · have hm := m_ite_t hm c1
      refine lv_aload_n hx hb dX12_markReached_22 rfl (lv_at hl 0 rfl) ?_
      refine lv_iconst (v := (0 : Int32)) hx hb dX12_markReached_23 (by decide) ?_
      obtain ⟨S2, e_S2, hm⟩ := m_let_of hm
      refine n_puti X hH hS tyX12 (k := 12) (a := a) (j := 41) hk_a (by decide) rfl m_wi12 tyX12_ok nmX12 (by decide) in_7_60 rfl rfl rfl ⟨rfl, rfl⟩ e_S2 dX12_markReached_24 (fun H locs hH hS => ?_)
      refine lv_iconst (v := (0 : Int32)) hx hb dX12_markReached_27 (by decide) ?_
      refine lv_istore_n (lv' := [(1, .int (0 : Int32)), (0, .ref a)]) hx hb dX12_markReached_28 rfl hl (by decide) rfl (fun ls hl => ?_)
      exact k_X12_markReached_29 (a := a) X hr hT hk_a  m_fu S2 (0 : Int32) _ _ _ hH hS (lv_sub hl [1, 0] rfl) hm
    · have hm := m_ite_f hm c1
      refine lv_aload_n hx hb dX12_markReached_9 rfl (lv_at hl 0 rfl) ?_
      refine r_getp X hH (k := 12) (a := a) (j := 39) (b := (a + 25)) (A := 25) (B := 0) hk_a (by decide) rfl m_wi12 (by decide) in_7_58 rfl rfl rfl dX12_markReached_10 ?_
      refine lv_iload_n hx hb dX12_markReached_13 rfl (lv_at hl 1 rfl) ?_
      refine lv_iconst (v := (0 : Int32)) hx hb dX12_markReached_14 (by decide) ?_
      obtain ⟨S3, h_S3, e_S3, hm⟩ := n_sti hm
      refine n_zast X hH hS (n := 200) (m_lay_at hT hk_a (by decide) (i := 25) rfl) h_S3 e_S3 dX12_markReached_15 (fun H locs hH hS => ?_)
      obtain ⟨v4, e_v4, hm⟩ := m_let_of hm
      refine lv_iinc (v := v4) (lv' := [(1, .int v4), (0, .ref a)]) hx hb dX12_markReached_16 hl (k := 1) rfl (by rw [← e_v4]; rfl) (by decide) rfl (fun ls hl => ?_)
      refine lv_goto (tgt := 2) hx hb dX12_markReached_19 (by decide) ?_
      exact ih S3 v4 _ _ _ hH hS (lv_sub hl [1, 0] rfl) hm
def f_X12_markReached (a : Nat) (S : m_M)  : Option (Int32 × m_M) :=
    b_X12_markReached_2 a m_fu S (0 : Int32)
set_option maxHeartbeats 4000000 in
set_option maxRecDepth 100000 in
theorem c_X12_markReached {l : Launch} {G : m_G} {nx : Nat} {κ : Nat → Nat} {a : Nat} {S : m_M}  {res : (Int32 × m_M)} (hT : m_Str κ) (hk_a : κ a = 13) (hm : f_X12_markReached a S = some res) : m_Ci l yX12_markReached cX12_markReached 3 (some .int) rm_X12_markReached G nx κ [.ref a] S res := by
  refine m_Ci.of (by decide) (Nat.le_of_ble_eq_true rfl) ?_
  intro p e s m args below meth c ls X hr hH hl
  have hx := X.1.1
  have hb := X.1.2.1
  have hS : m_S G s s.heap [] := va_S.rf
  have hl : lv_has ls 3 [(0, .ref a)] := hl
  rw [f_X12_markReached] at hm
  refine lv_iconst (v := (0 : Int32)) hx hb dX12_markReached_0 (by decide) ?_
  refine lv_istore_n (lv' := [(1, .int (0 : Int32)), (0, .ref a)]) hx hb dX12_markReached_1 rfl hl (by decide) rfl (fun ls hl => ?_)
  exact k_X12_markReached_2 (a := a) X hr hT hk_a  m_fu S (0 : Int32) _ _ _ hH hS (lv_sub hl [1, 0] rfl) hm
def rm_X12_reached : Room := { frames := 2, cells := 0, slots := 0, locals := 44 }
def f_X12_reached (a : Nat) (S : m_M)  : Option (Int32 × m_M) :=
    m_let (m_si S a 0 (0 : Int32)) fun S1 =>
    m_call (f_X12_markReached a S1) fun v3 S2 =>
    some (v3, S2)
set_option maxHeartbeats 4000000 in
set_option maxRecDepth 100000 in
theorem c_X12_reached {l : Launch} {G : m_G} {nx : Nat} {κ : Nat → Nat} {a : Nat} {S : m_M}  {res : (Int32 × m_M)} (hT : m_Str κ) (hk_a : κ a = 13) (hm : f_X12_reached a S = some res) : m_Ci l yX12_reached cX12_reached 1 (some .int) rm_X12_reached G nx κ [.ref a] S res := by
  refine m_Ci.of (by decide) (Nat.le_of_ble_eq_true rfl) ?_
  intro p e s m args below meth c ls X hr hH hl
  have hx := X.1.1
  have hb := X.1.2.1
  have hS : m_S G s s.heap [] := va_S.rf
  have hl : lv_has ls 1 [(0, .ref a)] := hl
  rw [f_X12_reached] at hm
  refine lv_aload_n hx hb dX12_reached_0 rfl (lv_at hl 0 rfl) ?_
  refine lv_iconst (v := (0 : Int32)) hx hb dX12_reached_1 (by decide) ?_
  obtain ⟨S1, e_S1, hm⟩ := m_let_of hm
  refine n_puti X hH hS tyX12 (k := 12) (a := a) (j := 0) hk_a (by decide) rfl m_wi12 tyX12_ok nmX12 (by decide) in_7_19 rfl rfl rfl ⟨rfl, rfl⟩ e_S1 dX12_reached_2 (fun H locs hH hS => ?_)
  refine lv_aload_n hx hb dX12_reached_5 rfl (lv_at hl 0 rfl) ?_
  obtain ⟨v3, S2, e_S2, hm⟩ := m_call_of hm
  refine n_cVi X hH hS (k := 12) (c_X12_markReached (a := a) hT hk_a e_S2) mw_X12_markReached in_9_24 hk_a (by decide) rfl rfl rfl ⟨rfl, rfl⟩ ⟨by decide, by decide⟩ ⟨Nat.zero_le _, Nat.zero_le _⟩ hl.1 (Nat.le_of_ble_eq_true rfl) dX12_reached_6 (fun H locs hH hS => ?_)
  exact r_iret X hr hH hS hm dX12_reached_9
def rm_X12_isReached : Room := { frames := 2, cells := 0, slots := 0, locals := 44 }
def b_X12_isReached_34 (a : Nat)  (S : m_M) (t0 : Int32) : Option (Int32 × m_M) :=
    some (t0, S)
set_option maxHeartbeats 4000000 in
set_option maxRecDepth 100000 in
theorem k_X12_isReached_34 {p : Program} {l : Launch} {e : Env} {s : State} {m : MethodId} {args : Array Value} {below : List Frame} {meth : Method} {c : Code} {G : m_G} {nx : Nat} {κ : Nat → Nat} {res : (Int32 × m_M)} {a : Nat} (X : m_Cx p s m args meth c cX12_isReached 2 RX12 G) (hr : meth.sig.returnType = (some .int)) (hT : m_Str κ) (hk_a : κ a = 13)  : ∀ (S : m_M) (t0 : Int32) (H : Heap) (locs : List Loc) (ls : Array Slot), m_H G nx κ S H → m_S G s H locs → lv_has ls 2 [] → b_X12_isReached_34 a S t0 = some res → W p l e rm_X12_isReached s m args below meth c H locs 0 0 (m_Qi below args s G nx κ res) (F0 m 34 ls [.int t0]) := by
  have hx := X.1.1
  have hb := X.1.2.1
  intro S t0 H locs ls hH hS hl hm
  rw [b_X12_isReached_34] at hm
  exact r_iret X hr hH hS hm dX12_isReached_34
def f_X12_isReached (a : Nat) (S : m_M) (i1 : Int32) : Option (Int32 × m_M) :=
    m_let (m_si S a 0 (0 : Int32)) fun S1 =>
    m_call (f_X12_isCell a S1 i1) fun v3 S2 =>
    if v3 = 0 then (
    some ((-1 : Int32), S2)) else (
    m_call (f_X12_markReached a S2) fun v6 S5 =>
    (m_ldi S5 (a + 25) 200 i1).bind fun v7 =>
    if v7 = 0 then (
    b_X12_isReached_34 a S5 (0 : Int32)) else (
    b_X12_isReached_34 a S5 (1 : Int32)))
set_option maxHeartbeats 4000000 in
set_option maxRecDepth 100000 in
theorem c_X12_isReached {l : Launch} {G : m_G} {nx : Nat} {κ : Nat → Nat} {a : Nat} {S : m_M} {i1 : Int32} {res : (Int32 × m_M)} (hT : m_Str κ) (hk_a : κ a = 13) (hm : f_X12_isReached a S i1 = some res) : m_Ci l yX12_isReached cX12_isReached 2 (some .int) rm_X12_isReached G nx κ [.ref a, .int i1] S res := by
  refine m_Ci.of (by decide) (Nat.le_of_ble_eq_true rfl) ?_
  intro p e s m args below meth c ls X hr hH hl
  have hx := X.1.1
  have hb := X.1.2.1
  have hS : m_S G s s.heap [] := va_S.rf
  have hl : lv_has ls 2 [(0, .ref a), (1, .int i1)] := hl
  rw [f_X12_isReached] at hm
  refine lv_aload_n hx hb dX12_isReached_0 rfl (lv_at hl 0 rfl) ?_
  refine lv_iconst (v := (0 : Int32)) hx hb dX12_isReached_1 (by decide) ?_
  obtain ⟨S1, e_S1, hm⟩ := m_let_of hm
  refine n_puti X hH hS tyX12 (k := 12) (a := a) (j := 0) hk_a (by decide) rfl m_wi12 tyX12_ok nmX12 (by decide) in_7_19 rfl rfl rfl ⟨rfl, rfl⟩ e_S1 dX12_isReached_2 (fun H locs hH hS => ?_)
  refine lv_aload_n hx hb dX12_isReached_5 rfl (lv_at hl 0 rfl) ?_
  refine lv_iload_n hx hb dX12_isReached_6 rfl (lv_at hl 1 rfl) ?_
  obtain ⟨v3, S2, e_S2, hm⟩ := m_call_of hm
  refine n_cVi X hH hS (k := 12) (c_X12_isCell (a := a) hT hk_a e_S2) mw_X12_isCell in_8_236 hk_a (by decide) rfl rfl rfl ⟨rfl, rfl⟩ ⟨by decide, by decide⟩ ⟨Nat.zero_le _, Nat.zero_le _⟩ hl.1 (Nat.le_of_ble_eq_true rfl) dX12_isReached_7 (fun H locs hH hS => ?_)
  refine lv_if_ne (tgt := 15) hx hb dX12_isReached_10 (by decide) (fun c4 => ?_) (fun c4 => ?_)
  · have hm := m_ite_f hm c4
    refine lv_aload_n hx hb dX12_isReached_15 rfl (lv_at hl 0 rfl) ?_
    obtain ⟨v6, S5, e_S5, hm⟩ := m_call_of hm
    refine n_cVi X hH hS (k := 12) (c_X12_markReached (a := a) hT hk_a e_S5) mw_X12_markReached in_9_24 hk_a (by decide) rfl rfl rfl ⟨rfl, rfl⟩ ⟨by decide, by decide⟩ ⟨Nat.zero_le _, Nat.zero_le _⟩ hl.1 (Nat.le_of_ble_eq_true rfl) dX12_isReached_16 (fun H locs hH hS => ?_)
    refine lv_pop hx hb dX12_isReached_19 rfl ?_
    refine lv_aload_n hx hb dX12_isReached_20 rfl (lv_at hl 0 rfl) ?_
    refine r_getp X hH (k := 12) (a := a) (j := 39) (b := (a + 25)) (A := 25) (B := 0) hk_a (by decide) rfl m_wi12 (by decide) in_7_58 rfl rfl rfl dX12_isReached_21 ?_
    refine lv_iload_n hx hb dX12_isReached_24 rfl (lv_at hl 1 rfl) ?_
    obtain ⟨v7, h_v7, e_v7, hm⟩ := n_ldi hm
    refine n_zald X hH (n := 200) (m_lay_at hT hk_a (by decide) (i := 25) rfl) h_v7 e_v7 dX12_isReached_25 ?_
    refine lv_if_eq (tgt := 33) hx hb dX12_isReached_26 (by decide) (fun c8 => ?_) (fun c8 => ?_)
    · have hm := m_ite_t hm c8
      refine lv_iconst (v := (0 : Int32)) hx hb dX12_isReached_33 (by decide) ?_
      exact k_X12_isReached_34 (a := a) X hr hT hk_a   S5 (0 : Int32) _ _ _ hH hS (lv_sub hl [] rfl) hm
    · have hm := m_ite_f hm c8
      refine lv_iconst (v := (1 : Int32)) hx hb dX12_isReached_29 (by decide) ?_
      refine lv_goto (tgt := 34) hx hb dX12_isReached_30 (by decide) ?_
      exact k_X12_isReached_34 (a := a) X hr hT hk_a   S5 (1 : Int32) _ _ _ hH hS (lv_sub hl [] rfl) hm
  · have hm := m_ite_t hm c4
    refine lv_iconst (v := (-1 : Int32)) hx hb dX12_isReached_13 (by decide) ?_
    exact r_iret X hr hH hS hm dX12_isReached_14
def rm_X12_dragNow : Room := { frames := 2, cells := 0, slots := 0, locals := 44 }
def f_X12_dragNow (a : Nat) (S : m_M)  : Option (Int32 × m_M) :=
    (m_ldi S (a + 2) 2647 (213 : Int32)).bind fun v1 =>
    m_call (f_X12_markReached a S) fun v3 S2 =>
    some ((v1 - v3), S2)
set_option maxHeartbeats 4000000 in
set_option maxRecDepth 100000 in
theorem c_X12_dragNow {l : Launch} {G : m_G} {nx : Nat} {κ : Nat → Nat} {a : Nat} {S : m_M}  {res : (Int32 × m_M)} (hT : m_Str κ) (hk_a : κ a = 13) (hm : f_X12_dragNow a S = some res) : m_Ci l yX12_dragNow cX12_dragNow 1 (some .int) rm_X12_dragNow G nx κ [.ref a] S res := by
  refine m_Ci.of (by decide) (Nat.le_of_ble_eq_true rfl) ?_
  intro p e s m args below meth c ls X hr hH hl
  have hx := X.1.1
  have hb := X.1.2.1
  have hS : m_S G s s.heap [] := va_S.rf
  have hl : lv_has ls 1 [(0, .ref a)] := hl
  rw [f_X12_dragNow] at hm
  refine lv_aload_n hx hb dX12_dragNow_0 rfl (lv_at hl 0 rfl) ?_
  refine r_getp X hH (k := 12) (a := a) (j := 14) (b := (a + 2)) (A := 2) (B := 0) hk_a (by decide) rfl m_wi12 (by decide) in_7_33 rfl rfl rfl dX12_dragNow_1 ?_
  refine lv_sipush (v := (213 : Int32)) hx hb dX12_dragNow_4 (by decide) ?_
  obtain ⟨v1, h_v1, e_v1, hm⟩ := n_ldi hm
  refine n_iald X hH (n := 2647) (m_lay_at hT hk_a (by decide) (i := 2) rfl) h_v1 e_v1 dX12_dragNow_7 ?_
  refine lv_aload_n hx hb dX12_dragNow_8 rfl (lv_at hl 0 rfl) ?_
  obtain ⟨v3, S2, e_S2, hm⟩ := m_call_of hm
  refine n_cVi X hH hS (k := 12) (c_X12_markReached (a := a) hT hk_a e_S2) mw_X12_markReached in_9_24 hk_a (by decide) rfl rfl rfl ⟨rfl, rfl⟩ ⟨by decide, by decide⟩ ⟨Nat.zero_le _, Nat.zero_le _⟩ hl.1 (Nat.le_of_ble_eq_true rfl) dX12_dragNow_9 (fun H locs hH hS => ?_)
  refine lv_isub hx hb dX12_dragNow_12 ?_
  exact r_iret X hr hH hS hm dX12_dragNow_13
def rm_X12_drag : Room := { frames := 3, cells := 0, slots := 0, locals := 64 }
def f_X12_drag (a : Nat) (S : m_M)  : Option (Int32 × m_M) :=
    m_let (m_si S a 0 (0 : Int32)) fun S1 =>
    m_call (f_X12_dragNow a S1) fun v3 S2 =>
    some (v3, S2)
set_option maxHeartbeats 4000000 in
set_option maxRecDepth 100000 in
theorem c_X12_drag {l : Launch} {G : m_G} {nx : Nat} {κ : Nat → Nat} {a : Nat} {S : m_M}  {res : (Int32 × m_M)} (hT : m_Str κ) (hk_a : κ a = 13) (hm : f_X12_drag a S = some res) : m_Ci l yX12_drag cX12_drag 1 (some .int) rm_X12_drag G nx κ [.ref a] S res := by
  refine m_Ci.of (by decide) (Nat.le_of_ble_eq_true rfl) ?_
  intro p e s m args below meth c ls X hr hH hl
  have hx := X.1.1
  have hb := X.1.2.1
  have hS : m_S G s s.heap [] := va_S.rf
  have hl : lv_has ls 1 [(0, .ref a)] := hl
  rw [f_X12_drag] at hm
  refine lv_aload_n hx hb dX12_drag_0 rfl (lv_at hl 0 rfl) ?_
  refine lv_iconst (v := (0 : Int32)) hx hb dX12_drag_1 (by decide) ?_
  obtain ⟨S1, e_S1, hm⟩ := m_let_of hm
  refine n_puti X hH hS tyX12 (k := 12) (a := a) (j := 0) hk_a (by decide) rfl m_wi12 tyX12_ok nmX12 (by decide) in_7_19 rfl rfl rfl ⟨rfl, rfl⟩ e_S1 dX12_drag_2 (fun H locs hH hS => ?_)
  refine lv_aload_n hx hb dX12_drag_5 rfl (lv_at hl 0 rfl) ?_
  obtain ⟨v3, S2, e_S2, hm⟩ := m_call_of hm
  refine n_cVi X hH hS (k := 12) (c_X12_dragNow (a := a) hT hk_a e_S2) mw_X12_dragNow in_9_40 hk_a (by decide) rfl rfl rfl ⟨rfl, rfl⟩ ⟨by decide, by decide⟩ ⟨Nat.zero_le _, Nat.zero_le _⟩ hl.1 (Nat.le_of_ble_eq_true rfl) dX12_drag_6 (fun H locs hH hS => ?_)
  exact r_iret X hr hH hS hm dX12_drag_9
def rm_X12_run : Room := { frames := 7, cells := 0, slots := 0, locals := 165 }
def b_X12_run_192 (a : Nat)  (S : m_M) (l1 : Int32) (l2 : Int32) (t1 : Int32) (t2 : Int32) : Option (Int32 × m_M) :=
    (m_sti S (a + 27) 8 t1 t2).bind fun S1 =>
    (m_sti S1 (a + 27) 8 (7 : Int32) l1).bind fun S2 =>
    m_let (m_si S2 a 44 (1 : Int32)) fun S3 =>
    m_cal0 (f_X12_comeBack a (a + 6) 2195 S3 (0 : Int32)) fun S4 =>
    some (l2, S4)
set_option maxHeartbeats 4000000 in
set_option maxRecDepth 100000 in
theorem k_X12_run_192 {p : Program} {l : Launch} {e : Env} {s : State} {m : MethodId} {args : Array Value} {below : List Frame} {meth : Method} {c : Code} {G : m_G} {nx : Nat} {κ : Nat → Nat} {res : (Int32 × m_M)} {a : Nat} (X : m_Cx p s m args meth c cX12_run 3 RX12 G) (hr : meth.sig.returnType = (some .int)) (hT : m_Str κ) (hk_a : κ a = 13)  : ∀ (S : m_M) (l1 : Int32) (l2 : Int32) (t1 : Int32) (t2 : Int32) (H : Heap) (locs : List Loc) (ls : Array Slot), m_H G nx κ S H → m_S G s H locs → lv_has ls 3 [(0, .ref a), (1, .int l1), (2, .int l2)] → b_X12_run_192 a S l1 l2 t1 t2 = some res → W p l e rm_X12_run s m args below meth c H locs 0 0 (m_Qi below args s G nx κ res) (F0 m 192 ls [.int t2, .int t1, .ref (a + 27)]) := by
  have hx := X.1.1
  have hb := X.1.2.1
  intro S l1 l2 t1 t2 H locs ls hH hS hl hm
  rw [b_X12_run_192] at hm
  obtain ⟨S1, h_S1, e_S1, hm⟩ := n_sti hm
  refine n_iast X hH hS (n := 8) (m_lay_at hT hk_a (by decide) (i := 27) rfl) h_S1 e_S1 dX12_run_192 (fun H locs hH hS => ?_)
  refine lv_aload_n hx hb dX12_run_193 rfl (lv_at hl 0 rfl) ?_
  refine r_getp X hH (k := 12) (a := a) (j := 42) (b := (a + 27)) (A := 27) (B := 0) hk_a (by decide) rfl m_wi12 (by decide) in_7_61 rfl rfl rfl dX12_run_194 ?_
  refine lv_bipush (v := (7 : Int32)) hx hb dX12_run_197 (by decide) ?_
  refine lv_iload_n hx hb dX12_run_199 rfl (lv_at hl 1 rfl) ?_
  obtain ⟨S2, h_S2, e_S2, hm⟩ := n_sti hm
  refine n_iast X hH hS (n := 8) (m_lay_at hT hk_a (by decide) (i := 27) rfl) h_S2 e_S2 dX12_run_200 (fun H locs hH hS => ?_)
  refine lv_aload_n hx hb dX12_run_201 rfl (lv_at hl 0 rfl) ?_
  refine lv_iconst (v := (1 : Int32)) hx hb dX12_run_202 (by decide) ?_
  obtain ⟨S3, e_S3, hm⟩ := m_let_of hm
  refine n_puti X hH hS tyX12 (k := 12) (a := a) (j := 44) hk_a (by decide) rfl m_wi12 tyX12_ok nmX12 (by decide) in_7_63 rfl rfl rfl (m_nz (by decide)) e_S3 dX12_run_203 (fun H locs hH hS => ?_)
  refine lv_aload_n hx hb dX12_run_206 rfl (lv_at hl 0 rfl) ?_
  refine lv_aload_n hx hb dX12_run_207 rfl (lv_at hl 0 rfl) ?_
  refine r_getp X hH (k := 12) (a := a) (j := 18) (b := (a + 6)) (A := 6) (B := 0) hk_a (by decide) rfl m_wi12 (by decide) in_7_37 rfl rfl rfl dX12_run_208 ?_
  refine lv_iconst (v := (0 : Int32)) hx hb dX12_run_211 (by decide) ?_
  obtain ⟨S4, e_S4, hm⟩ := m_cal0_of hm
  refine r_cVv X hH hS (k := 12) (c_X12_comeBack (a := a) (o1 := (a + 6)) (n1 := 2195) hT hk_a (m_lay_at hT hk_a (by decide) (i := 6) rfl) e_S4) mw_X12_comeBack in_8_108 hk_a (by decide) rfl rfl rfl ⟨rfl, rfl⟩ ⟨by decide, by decide⟩ ⟨Nat.zero_le _, Nat.zero_le _⟩ hl.1 (Nat.le_of_ble_eq_true rfl) dX12_run_212 (fun H locs hH hS => ?_)
  refine lv_iload_n hx hb dX12_run_215 rfl (lv_at hl 2 rfl) ?_
  exact r_iret X hr hH hS hm dX12_run_216
def b_X12_run_37 (a : Nat)  : Nat → m_M → Int32 → Option (Int32 × m_M)
  | 0, _, _ => none
  | n + 1, S, l1 =>
    (m_ldi S (a + 2) 2647 (210 : Int32)).bind fun v1 =>
    if v1 = (1 : Int32) then (
    m_cal0 (f_X12_oneStep a S) fun S19 =>
    m_call (f_X12_dragNow a S19) fun v21 S20 =>
    if v21 ≤ l1 then (
    b_X12_run_37 a n S20 l1) else (
    m_call (f_X12_dragNow a S20) fun v24 S23 =>
    b_X12_run_37 a n S23 v24)) else (
    (m_ldi S (a + 2) 2647 (210 : Int32)).bind fun v3 =>
    (m_ldi S (a + 2) 2647 (216 : Int32)).bind fun v4 =>
    (m_sti S (a + 27) 8 (0 : Int32) v4).bind fun S5 =>
    (m_ldi S5 (a + 2) 2647 (215 : Int32)).bind fun v6 =>
    (m_sti S5 (a + 27) 8 (1 : Int32) v6).bind fun S7 =>
    (m_ldi S7 (a + 2) 2647 (213 : Int32)).bind fun v8 =>
    (m_sti S7 (a + 27) 8 (2 : Int32) v8).bind fun S9 =>
    (m_ldi S9 (a + 2) 2647 (217 : Int32)).bind fun v10 =>
    (m_sti S9 (a + 27) 8 (3 : Int32) v10).bind fun S11 =>
    (m_ldi S11 (a + 2) 2647 (211 : Int32)).bind fun v12 =>
    (m_sti S11 (a + 27) 8 (4 : Int32) v12).bind fun S13 =>
    (m_ldi S13 (a + 2) 2647 (219 : Int32)).bind fun v14 =>
    (m_sti S13 (a + 27) 8 (5 : Int32) v14).bind fun S15 =>
    (m_ldi S15 (a + 2) 2647 (219 : Int32)).bind fun v16 =>
    if v16 = (1 : Int32) then (
    (m_ldi S15 (a + 2) 2647 (220 : Int32)).bind fun v18 =>
    b_X12_run_192 a S15 l1 v3 (6 : Int32) v18) else (
    b_X12_run_192 a S15 l1 v3 (6 : Int32) (0 : Int32)))
set_option maxHeartbeats 4000000 in
set_option maxRecDepth 100000 in
theorem k_X12_run_37 {p : Program} {l : Launch} {e : Env} {s : State} {m : MethodId} {args : Array Value} {below : List Frame} {meth : Method} {c : Code} {G : m_G} {nx : Nat} {κ : Nat → Nat} {res : (Int32 × m_M)} {a : Nat} (X : m_Cx p s m args meth c cX12_run 3 RX12 G) (hr : meth.sig.returnType = (some .int)) (hT : m_Str κ) (hk_a : κ a = 13)  (n : Nat) : ∀ (S : m_M) (l1 : Int32) (H : Heap) (locs : List Loc) (ls : Array Slot), m_H G nx κ S H → m_S G s H locs → lv_has ls 3 [(0, .ref a), (1, .int l1)] → b_X12_run_37 a n S l1 = some res → W p l e rm_X12_run s m args below meth c H locs 0 0 (m_Qi below args s G nx κ res) (F0 m 37 ls []) := by
  have hx := X.1.1
  have hb := X.1.2.1
  induction n with
  | zero => intro S l1 H locs ls hH hS hl hm; have hm : (none : Option (Int32 × m_M)) = some res := hm; cases hm
  | succ n ih =>
    intro S l1 H locs ls hH hS hl hm
    rw [b_X12_run_37] at hm
    refine lv_aload_n hx hb dX12_run_37 rfl (lv_at hl 0 rfl) ?_
    refine r_getp X hH (k := 12) (a := a) (j := 14) (b := (a + 2)) (A := 2) (B := 0) hk_a (by decide) rfl m_wi12 (by decide) in_7_33 rfl rfl rfl dX12_run_38 ?_
    refine lv_sipush (v := (210 : Int32)) hx hb dX12_run_41 (by decide) ?_
    obtain ⟨v1, h_v1, e_v1, hm⟩ := n_ldi hm
    refine n_iald X hH (n := 2647) (m_lay_at hT hk_a (by decide) (i := 2) rfl) h_v1 e_v1 dX12_run_44 ?_
    refine lv_iconst (v := (1 : Int32)) hx hb dX12_run_45 (by decide) ?_
    refine lv_icmp_ne (tgt := 69) hx hb dX12_run_46 (by decide) (fun c2 => ?_) (fun c2 => ?_)
    · have hm := m_ite_f hm c2
      refine lv_aload_n hx hb dX12_run_69 rfl (lv_at hl 0 rfl) ?_
      refine r_getp X hH (k := 12) (a := a) (j := 14) (b := (a + 2)) (A := 2) (B := 0) hk_a (by decide) rfl m_wi12 (by decide) in_7_33 rfl rfl rfl dX12_run_70 ?_
      refine lv_sipush (v := (210 : Int32)) hx hb dX12_run_73 (by decide) ?_
      obtain ⟨v3, h_v3, e_v3, hm⟩ := n_ldi hm
      refine n_iald X hH (n := 2647) (m_lay_at hT hk_a (by decide) (i := 2) rfl) h_v3 e_v3 dX12_run_76 ?_
      refine lv_istore_n (lv' := [(2, .int v3), (0, .ref a), (1, .int l1)]) hx hb dX12_run_77 rfl hl (by decide) rfl (fun ls hl => ?_)
      refine lv_aload_n hx hb dX12_run_78 rfl (lv_at hl 1 rfl) ?_
      refine r_getp X hH (k := 12) (a := a) (j := 42) (b := (a + 27)) (A := 27) (B := 0) hk_a (by decide) rfl m_wi12 (by decide) in_7_61 rfl rfl rfl dX12_run_79 ?_
      refine lv_iconst (v := (0 : Int32)) hx hb dX12_run_82 (by decide) ?_
      refine lv_aload_n hx hb dX12_run_83 rfl (lv_at hl 1 rfl) ?_
      refine r_getp X hH (k := 12) (a := a) (j := 14) (b := (a + 2)) (A := 2) (B := 0) hk_a (by decide) rfl m_wi12 (by decide) in_7_33 rfl rfl rfl dX12_run_84 ?_
      refine lv_sipush (v := (216 : Int32)) hx hb dX12_run_87 (by decide) ?_
      obtain ⟨v4, h_v4, e_v4, hm⟩ := n_ldi hm
      refine n_iald X hH (n := 2647) (m_lay_at hT hk_a (by decide) (i := 2) rfl) h_v4 e_v4 dX12_run_90 ?_
      obtain ⟨S5, h_S5, e_S5, hm⟩ := n_sti hm
      refine n_iast X hH hS (n := 8) (m_lay_at hT hk_a (by decide) (i := 27) rfl) h_S5 e_S5 dX12_run_91 (fun H locs hH hS => ?_)
      refine lv_aload_n hx hb dX12_run_92 rfl (lv_at hl 1 rfl) ?_
      refine r_getp X hH (k := 12) (a := a) (j := 42) (b := (a + 27)) (A := 27) (B := 0) hk_a (by decide) rfl m_wi12 (by decide) in_7_61 rfl rfl rfl dX12_run_93 ?_
      refine lv_iconst (v := (1 : Int32)) hx hb dX12_run_96 (by decide) ?_
      refine lv_aload_n hx hb dX12_run_97 rfl (lv_at hl 1 rfl) ?_
      refine r_getp X hH (k := 12) (a := a) (j := 14) (b := (a + 2)) (A := 2) (B := 0) hk_a (by decide) rfl m_wi12 (by decide) in_7_33 rfl rfl rfl dX12_run_98 ?_
      refine lv_sipush (v := (215 : Int32)) hx hb dX12_run_101 (by decide) ?_
      obtain ⟨v6, h_v6, e_v6, hm⟩ := n_ldi hm
      refine n_iald X hH (n := 2647) (m_lay_at hT hk_a (by decide) (i := 2) rfl) h_v6 e_v6 dX12_run_104 ?_
      obtain ⟨S7, h_S7, e_S7, hm⟩ := n_sti hm
      refine n_iast X hH hS (n := 8) (m_lay_at hT hk_a (by decide) (i := 27) rfl) h_S7 e_S7 dX12_run_105 (fun H locs hH hS => ?_)
      refine lv_aload_n hx hb dX12_run_106 rfl (lv_at hl 1 rfl) ?_
      refine r_getp X hH (k := 12) (a := a) (j := 42) (b := (a + 27)) (A := 27) (B := 0) hk_a (by decide) rfl m_wi12 (by decide) in_7_61 rfl rfl rfl dX12_run_107 ?_
      refine lv_iconst (v := (2 : Int32)) hx hb dX12_run_110 (by decide) ?_
      refine lv_aload_n hx hb dX12_run_111 rfl (lv_at hl 1 rfl) ?_
      refine r_getp X hH (k := 12) (a := a) (j := 14) (b := (a + 2)) (A := 2) (B := 0) hk_a (by decide) rfl m_wi12 (by decide) in_7_33 rfl rfl rfl dX12_run_112 ?_
      refine lv_sipush (v := (213 : Int32)) hx hb dX12_run_115 (by decide) ?_
      obtain ⟨v8, h_v8, e_v8, hm⟩ := n_ldi hm
      refine n_iald X hH (n := 2647) (m_lay_at hT hk_a (by decide) (i := 2) rfl) h_v8 e_v8 dX12_run_118 ?_
      obtain ⟨S9, h_S9, e_S9, hm⟩ := n_sti hm
      refine n_iast X hH hS (n := 8) (m_lay_at hT hk_a (by decide) (i := 27) rfl) h_S9 e_S9 dX12_run_119 (fun H locs hH hS => ?_)
      refine lv_aload_n hx hb dX12_run_120 rfl (lv_at hl 1 rfl) ?_
      refine r_getp X hH (k := 12) (a := a) (j := 42) (b := (a + 27)) (A := 27) (B := 0) hk_a (by decide) rfl m_wi12 (by decide) in_7_61 rfl rfl rfl dX12_run_121 ?_
      refine lv_iconst (v := (3 : Int32)) hx hb dX12_run_124 (by decide) ?_
      refine lv_aload_n hx hb dX12_run_125 rfl (lv_at hl 1 rfl) ?_
      refine r_getp X hH (k := 12) (a := a) (j := 14) (b := (a + 2)) (A := 2) (B := 0) hk_a (by decide) rfl m_wi12 (by decide) in_7_33 rfl rfl rfl dX12_run_126 ?_
      refine lv_sipush (v := (217 : Int32)) hx hb dX12_run_129 (by decide) ?_
      obtain ⟨v10, h_v10, e_v10, hm⟩ := n_ldi hm
      refine n_iald X hH (n := 2647) (m_lay_at hT hk_a (by decide) (i := 2) rfl) h_v10 e_v10 dX12_run_132 ?_
      obtain ⟨S11, h_S11, e_S11, hm⟩ := n_sti hm
      refine n_iast X hH hS (n := 8) (m_lay_at hT hk_a (by decide) (i := 27) rfl) h_S11 e_S11 dX12_run_133 (fun H locs hH hS => ?_)
      refine lv_aload_n hx hb dX12_run_134 rfl (lv_at hl 1 rfl) ?_
      refine r_getp X hH (k := 12) (a := a) (j := 42) (b := (a + 27)) (A := 27) (B := 0) hk_a (by decide) rfl m_wi12 (by decide) in_7_61 rfl rfl rfl dX12_run_135 ?_
      refine lv_iconst (v := (4 : Int32)) hx hb dX12_run_138 (by decide) ?_
      refine lv_aload_n hx hb dX12_run_139 rfl (lv_at hl 1 rfl) ?_
      refine r_getp X hH (k := 12) (a := a) (j := 14) (b := (a + 2)) (A := 2) (B := 0) hk_a (by decide) rfl m_wi12 (by decide) in_7_33 rfl rfl rfl dX12_run_140 ?_
      refine lv_sipush (v := (211 : Int32)) hx hb dX12_run_143 (by decide) ?_
      obtain ⟨v12, h_v12, e_v12, hm⟩ := n_ldi hm
      refine n_iald X hH (n := 2647) (m_lay_at hT hk_a (by decide) (i := 2) rfl) h_v12 e_v12 dX12_run_146 ?_
      obtain ⟨S13, h_S13, e_S13, hm⟩ := n_sti hm
      refine n_iast X hH hS (n := 8) (m_lay_at hT hk_a (by decide) (i := 27) rfl) h_S13 e_S13 dX12_run_147 (fun H locs hH hS => ?_)
      refine lv_aload_n hx hb dX12_run_148 rfl (lv_at hl 1 rfl) ?_
      refine r_getp X hH (k := 12) (a := a) (j := 42) (b := (a + 27)) (A := 27) (B := 0) hk_a (by decide) rfl m_wi12 (by decide) in_7_61 rfl rfl rfl dX12_run_149 ?_
      refine lv_iconst (v := (5 : Int32)) hx hb dX12_run_152 (by decide) ?_
      refine lv_aload_n hx hb dX12_run_153 rfl (lv_at hl 1 rfl) ?_
      refine r_getp X hH (k := 12) (a := a) (j := 14) (b := (a + 2)) (A := 2) (B := 0) hk_a (by decide) rfl m_wi12 (by decide) in_7_33 rfl rfl rfl dX12_run_154 ?_
      refine lv_sipush (v := (219 : Int32)) hx hb dX12_run_157 (by decide) ?_
      obtain ⟨v14, h_v14, e_v14, hm⟩ := n_ldi hm
      refine n_iald X hH (n := 2647) (m_lay_at hT hk_a (by decide) (i := 2) rfl) h_v14 e_v14 dX12_run_160 ?_
      obtain ⟨S15, h_S15, e_S15, hm⟩ := n_sti hm
      refine n_iast X hH hS (n := 8) (m_lay_at hT hk_a (by decide) (i := 27) rfl) h_S15 e_S15 dX12_run_161 (fun H locs hH hS => ?_)
      refine lv_aload_n hx hb dX12_run_162 rfl (lv_at hl 1 rfl) ?_
      refine r_getp X hH (k := 12) (a := a) (j := 42) (b := (a + 27)) (A := 27) (B := 0) hk_a (by decide) rfl m_wi12 (by decide) in_7_61 rfl rfl rfl dX12_run_163 ?_
      refine lv_bipush (v := (6 : Int32)) hx hb dX12_run_166 (by decide) ?_
      refine lv_aload_n hx hb dX12_run_168 rfl (lv_at hl 1 rfl) ?_
      refine r_getp X hH (k := 12) (a := a) (j := 14) (b := (a + 2)) (A := 2) (B := 0) hk_a (by decide) rfl m_wi12 (by decide) in_7_33 rfl rfl rfl dX12_run_169 ?_
      refine lv_sipush (v := (219 : Int32)) hx hb dX12_run_172 (by decide) ?_
      obtain ⟨v16, h_v16, e_v16, hm⟩ := n_ldi hm
      refine n_iald X hH (n := 2647) (m_lay_at hT hk_a (by decide) (i := 2) rfl) h_v16 e_v16 dX12_run_175 ?_
      refine lv_iconst (v := (1 : Int32)) hx hb dX12_run_176 (by decide) ?_
      refine lv_icmp_ne (tgt := 191) hx hb dX12_run_177 (by decide) (fun c17 => ?_) (fun c17 => ?_)
      · have hm := m_ite_f hm c17
        refine lv_iconst (v := (0 : Int32)) hx hb dX12_run_191 (by decide) ?_
        exact k_X12_run_192 (a := a) X hr hT hk_a   S15 l1 v3 (6 : Int32) (0 : Int32) _ _ _ hH hS (lv_sub hl [1, 2, 0] rfl) hm
      · have hm := m_ite_t hm c17
        refine lv_aload_n hx hb dX12_run_180 rfl (lv_at hl 1 rfl) ?_
        refine r_getp X hH (k := 12) (a := a) (j := 14) (b := (a + 2)) (A := 2) (B := 0) hk_a (by decide) rfl m_wi12 (by decide) in_7_33 rfl rfl rfl dX12_run_181 ?_
        refine lv_sipush (v := (220 : Int32)) hx hb dX12_run_184 (by decide) ?_
        obtain ⟨v18, h_v18, e_v18, hm⟩ := n_ldi hm
        refine n_iald X hH (n := 2647) (m_lay_at hT hk_a (by decide) (i := 2) rfl) h_v18 e_v18 dX12_run_187 ?_
        refine lv_goto (tgt := 192) hx hb dX12_run_188 (by decide) ?_
        exact k_X12_run_192 (a := a) X hr hT hk_a   S15 l1 v3 (6 : Int32) v18 _ _ _ hH hS (lv_sub hl [1, 2, 0] rfl) hm
    · have hm := m_ite_t hm c2
      refine lv_aload_n hx hb dX12_run_49 rfl (lv_at hl 0 rfl) ?_
      obtain ⟨S19, e_S19, hm⟩ := m_cal0_of hm
      refine r_cVv X hH hS (k := 12) (c_X12_oneStep (a := a) hT hk_a e_S19) mw_X12_oneStep in_8_152 hk_a (by decide) rfl rfl rfl ⟨rfl, rfl⟩ ⟨by decide, by decide⟩ ⟨Nat.zero_le _, Nat.zero_le _⟩ hl.1 (Nat.le_of_ble_eq_true rfl) dX12_run_50 (fun H locs hH hS => ?_)
      refine lv_aload_n hx hb dX12_run_53 rfl (lv_at hl 0 rfl) ?_
      obtain ⟨v21, S20, e_S20, hm⟩ := m_call_of hm
      refine n_cVi X hH hS (k := 12) (c_X12_dragNow (a := a) hT hk_a e_S20) mw_X12_dragNow in_9_40 hk_a (by decide) rfl rfl rfl ⟨rfl, rfl⟩ ⟨by decide, by decide⟩ ⟨Nat.zero_le _, Nat.zero_le _⟩ hl.1 (Nat.le_of_ble_eq_true rfl) dX12_run_54 (fun H locs hH hS => ?_)
      refine lv_iload_n hx hb dX12_run_57 rfl (lv_at hl 1 rfl) ?_
      refine lv_icmp_le (tgt := 37) hx hb dX12_run_58 (by decide) (fun c22 => ?_) (fun c22 => ?_)
      · have hm := m_ite_t hm c22
        exact ih S20 l1 _ _ _ hH hS hl hm
      · have hm := m_ite_f hm c22
        refine lv_aload_n hx hb dX12_run_61 rfl (lv_at hl 0 rfl) ?_
        obtain ⟨v24, S23, e_S23, hm⟩ := m_call_of hm
        refine n_cVi X hH hS (k := 12) (c_X12_dragNow (a := a) hT hk_a e_S23) mw_X12_dragNow in_9_40 hk_a (by decide) rfl rfl rfl ⟨rfl, rfl⟩ ⟨by decide, by decide⟩ ⟨Nat.zero_le _, Nat.zero_le _⟩ hl.1 (Nat.le_of_ble_eq_true rfl) dX12_run_62 (fun H locs hH hS => ?_)
        refine lv_istore_n (lv' := [(1, .int v24), (0, .ref a)]) hx hb dX12_run_65 rfl hl (by decide) rfl (fun ls hl => ?_)
        refine lv_goto (tgt := 37) hx hb dX12_run_66 (by decide) ?_
        exact ih S23 v24 _ _ _ hH hS (lv_sub hl [1, 0] rfl) hm
def f_X12_run (a : Nat) (S : m_M)  : Option (Int32 × m_M) :=
    m_let (m_si S a 0 (0 : Int32)) fun S1 =>
    m_call (f_X12_take a S1) fun v3 S2 =>
    m_call (f_X12_canLoad a S2 v3) fun v5 S4 =>
    if v5 = 0 then (
    some ((-1 : Int32), S4)) else (
    m_cal0 (f_X12_save a (a + 6) 2195 S4 (0 : Int32)) fun S7 =>
    m_cal0 (f_X12_loads a (a + 1) 940 S7) fun S8 =>
    b_X12_run_37 a m_fu S8 (0 : Int32))
set_option maxHeartbeats 4000000 in
set_option maxRecDepth 100000 in
theorem c_X12_run {l : Launch} {G : m_G} {nx : Nat} {κ : Nat → Nat} {a : Nat} {S : m_M}  {res : (Int32 × m_M)} (hT : m_Str κ) (hk_a : κ a = 13) (hm : f_X12_run a S = some res) : m_Ci l yX12_run cX12_run 3 (some .int) rm_X12_run G nx κ [.ref a] S res := by
  refine m_Ci.of (by decide) (Nat.le_of_ble_eq_true rfl) ?_
  intro p e s m args below meth c ls X hr hH hl
  have hx := X.1.1
  have hb := X.1.2.1
  have hS : m_S G s s.heap [] := va_S.rf
  have hl : lv_has ls 3 [(0, .ref a)] := hl
  rw [f_X12_run] at hm
  refine lv_aload_n hx hb dX12_run_0 rfl (lv_at hl 0 rfl) ?_
  refine lv_iconst (v := (0 : Int32)) hx hb dX12_run_1 (by decide) ?_
  obtain ⟨S1, e_S1, hm⟩ := m_let_of hm
  refine n_puti X hH hS tyX12 (k := 12) (a := a) (j := 0) hk_a (by decide) rfl m_wi12 tyX12_ok nmX12 (by decide) in_7_19 rfl rfl rfl ⟨rfl, rfl⟩ e_S1 dX12_run_2 (fun H locs hH hS => ?_)
  refine lv_aload_n hx hb dX12_run_5 rfl (lv_at hl 0 rfl) ?_
  refine lv_aload_n hx hb dX12_run_6 rfl (lv_at hl 0 rfl) ?_
  obtain ⟨v3, S2, e_S2, hm⟩ := m_call_of hm
  refine n_cVi X hH hS (k := 12) (c_X12_take (a := a) hT hk_a e_S2) mw_X12_take in_7_181 hk_a (by decide) rfl rfl rfl ⟨rfl, rfl⟩ ⟨by decide, by decide⟩ ⟨Nat.zero_le _, Nat.zero_le _⟩ hl.1 (Nat.le_of_ble_eq_true rfl) dX12_run_7 (fun H locs hH hS => ?_)
  obtain ⟨v5, S4, e_S4, hm⟩ := m_call_of hm
  refine n_cVi X hH hS (k := 12) (c_X12_canLoad (a := a) hT hk_a e_S4) mw_X12_canLoad in_8_116 hk_a (by decide) rfl rfl rfl ⟨rfl, rfl⟩ ⟨by decide, by decide⟩ ⟨Nat.zero_le _, Nat.zero_le _⟩ hl.1 (Nat.le_of_ble_eq_true rfl) dX12_run_10 (fun H locs hH hS => ?_)
  refine lv_if_ne (tgt := 18) hx hb dX12_run_13 (by decide) (fun c6 => ?_) (fun c6 => ?_)
  · have hm := m_ite_f hm c6
    refine lv_aload_n hx hb dX12_run_18 rfl (lv_at hl 0 rfl) ?_
    refine lv_aload_n hx hb dX12_run_19 rfl (lv_at hl 0 rfl) ?_
    refine r_getp X hH (k := 12) (a := a) (j := 18) (b := (a + 6)) (A := 6) (B := 0) hk_a (by decide) rfl m_wi12 (by decide) in_7_37 rfl rfl rfl dX12_run_20 ?_
    refine lv_iconst (v := (0 : Int32)) hx hb dX12_run_23 (by decide) ?_
    obtain ⟨S7, e_S7, hm⟩ := m_cal0_of hm
    refine r_cVv X hH hS (k := 12) (c_X12_save (a := a) (o1 := (a + 6)) (n1 := 2195) hT hk_a (m_lay_at hT hk_a (by decide) (i := 6) rfl) e_S7) mw_X12_save in_8_124 hk_a (by decide) rfl rfl rfl ⟨rfl, rfl⟩ ⟨by decide, by decide⟩ ⟨Nat.zero_le _, Nat.zero_le _⟩ hl.1 (Nat.le_of_ble_eq_true rfl) dX12_run_24 (fun H locs hH hS => ?_)
    refine lv_aload_n hx hb dX12_run_27 rfl (lv_at hl 0 rfl) ?_
    refine lv_aload_n hx hb dX12_run_28 rfl (lv_at hl 0 rfl) ?_
    refine r_getp X hH (k := 12) (a := a) (j := 1) (b := (a + 1)) (A := 1) (B := 0) hk_a (by decide) rfl m_wi12 (by decide) in_7_20 rfl rfl rfl dX12_run_29 ?_
    obtain ⟨S8, e_S8, hm⟩ := m_cal0_of hm
    refine r_cVv X hH hS (k := 12) (c_X12_loads (a := a) (o1 := (a + 1)) (n1 := 940) hT hk_a (m_lay_at hT hk_a (by decide) (i := 1) rfl) e_S8) mw_X12_loads in_8_128 hk_a (by decide) rfl rfl rfl ⟨rfl, rfl⟩ ⟨by decide, by decide⟩ ⟨Nat.zero_le _, Nat.zero_le _⟩ hl.1 (Nat.le_of_ble_eq_true rfl) dX12_run_32 (fun H locs hH hS => ?_)
    refine lv_iconst (v := (0 : Int32)) hx hb dX12_run_35 (by decide) ?_
    refine lv_istore_n (lv' := [(1, .int (0 : Int32)), (0, .ref a)]) hx hb dX12_run_36 rfl hl (by decide) rfl (fun ls hl => ?_)
    exact k_X12_run_37 (a := a) X hr hT hk_a  m_fu S8 (0 : Int32) _ _ _ hH hS (lv_sub hl [1, 0] rfl) hm
  · have hm := m_ite_t hm c6
    refine lv_iconst (v := (-1 : Int32)) hx hb dX12_run_16 (by decide) ?_
    exact r_iret X hr hH hS hm dX12_run_17
def rm_X12_ran : Room := { frames := 1, cells := 0, slots := 0, locals := 22 }
def b_X12_ran_32 (a : Nat)  (S : m_M) (t0 : Int32) : Option (Int32 × m_M) :=
    some (t0, S)
set_option maxHeartbeats 4000000 in
set_option maxRecDepth 100000 in
theorem k_X12_ran_32 {p : Program} {l : Launch} {e : Env} {s : State} {m : MethodId} {args : Array Value} {below : List Frame} {meth : Method} {c : Code} {G : m_G} {nx : Nat} {κ : Nat → Nat} {res : (Int32 × m_M)} {a : Nat} (X : m_Cx p s m args meth c cX12_ran 2 RX12 G) (hr : meth.sig.returnType = (some .int)) (hT : m_Str κ) (hk_a : κ a = 13)  : ∀ (S : m_M) (t0 : Int32) (H : Heap) (locs : List Loc) (ls : Array Slot), m_H G nx κ S H → m_S G s H locs → lv_has ls 2 [] → b_X12_ran_32 a S t0 = some res → W p l e rm_X12_ran s m args below meth c H locs 0 0 (m_Qi below args s G nx κ res) (F0 m 32 ls [.int t0]) := by
  have hx := X.1.1
  have hb := X.1.2.1
  intro S t0 H locs ls hH hS hl hm
  rw [b_X12_ran_32] at hm
  exact r_iret X hr hH hS hm dX12_ran_32
def b_X12_ran_31 (a : Nat)  (S : m_M)  : Option (Int32 × m_M) :=
    b_X12_ran_32 a S (-1 : Int32)
set_option maxHeartbeats 4000000 in
set_option maxRecDepth 100000 in
theorem k_X12_ran_31 {p : Program} {l : Launch} {e : Env} {s : State} {m : MethodId} {args : Array Value} {below : List Frame} {meth : Method} {c : Code} {G : m_G} {nx : Nat} {κ : Nat → Nat} {res : (Int32 × m_M)} {a : Nat} (X : m_Cx p s m args meth c cX12_ran 2 RX12 G) (hr : meth.sig.returnType = (some .int)) (hT : m_Str κ) (hk_a : κ a = 13)  : ∀ (S : m_M)  (H : Heap) (locs : List Loc) (ls : Array Slot), m_H G nx κ S H → m_S G s H locs → lv_has ls 2 [] → b_X12_ran_31 a S  = some res → W p l e rm_X12_ran s m args below meth c H locs 0 0 (m_Qi below args s G nx κ res) (F0 m 31 ls []) := by
  have hx := X.1.1
  have hb := X.1.2.1
  intro S H locs ls hH hS hl hm
  rw [b_X12_ran_31] at hm
  refine lv_iconst (v := (-1 : Int32)) hx hb dX12_ran_31 (by decide) ?_
  exact k_X12_ran_32 (a := a) X hr hT hk_a   S (-1 : Int32) _ _ _ hH hS hl hm
def f_X12_ran (a : Nat) (S : m_M) (i1 : Int32) : Option (Int32 × m_M) :=
    m_let (m_si S a 0 (0 : Int32)) fun S1 =>
    if (m_ri S1 a 44) = 0 then (
    b_X12_ran_31 a S1) else (
    m_call (f_X12_isIn S1 i1 (0 : Int32) (7 : Int32)) fun v4 S3 =>
    if v4 = 0 then (
    b_X12_ran_31 a S3) else (
    (m_ldi S3 (a + 27) 8 i1).bind fun v6 =>
    b_X12_ran_32 a S3 v6))
set_option maxHeartbeats 4000000 in
set_option maxRecDepth 100000 in
theorem c_X12_ran {l : Launch} {G : m_G} {nx : Nat} {κ : Nat → Nat} {a : Nat} {S : m_M} {i1 : Int32} {res : (Int32 × m_M)} (hT : m_Str κ) (hk_a : κ a = 13) (hm : f_X12_ran a S i1 = some res) : m_Ci l yX12_ran cX12_ran 2 (some .int) rm_X12_ran G nx κ [.ref a, .int i1] S res := by
  refine m_Ci.of (by decide) (Nat.le_of_ble_eq_true rfl) ?_
  intro p e s m args below meth c ls X hr hH hl
  have hx := X.1.1
  have hb := X.1.2.1
  have hS : m_S G s s.heap [] := va_S.rf
  have hl : lv_has ls 2 [(0, .ref a), (1, .int i1)] := hl
  rw [f_X12_ran] at hm
  refine lv_aload_n hx hb dX12_ran_0 rfl (lv_at hl 0 rfl) ?_
  refine lv_iconst (v := (0 : Int32)) hx hb dX12_ran_1 (by decide) ?_
  obtain ⟨S1, e_S1, hm⟩ := m_let_of hm
  refine n_puti X hH hS tyX12 (k := 12) (a := a) (j := 0) hk_a (by decide) rfl m_wi12 tyX12_ok nmX12 (by decide) in_7_19 rfl rfl rfl ⟨rfl, rfl⟩ e_S1 dX12_ran_2 (fun H locs hH hS => ?_)
  refine lv_aload_n hx hb dX12_ran_5 rfl (lv_at hl 0 rfl) ?_
  refine r_geti X hH (k := 12) (a := a) (j := 44) hk_a (by decide) rfl m_wi12 (by decide) in_7_63 rfl rfl dX12_ran_6 ?_
  refine lv_if_eq (tgt := 31) hx hb dX12_ran_9 (by decide) (fun c2 => ?_) (fun c2 => ?_)
  · have hm := m_ite_t hm c2
    exact k_X12_ran_31 (a := a) X hr hT hk_a   S1 _ _ _ hH hS (lv_sub hl [] rfl) hm
  · have hm := m_ite_f hm c2
    refine lv_iload_n hx hb dX12_ran_12 rfl (lv_at hl 1 rfl) ?_
    refine lv_iconst (v := (0 : Int32)) hx hb dX12_ran_13 (by decide) ?_
    refine lv_bipush (v := (7 : Int32)) hx hb dX12_ran_14 (by decide) ?_
    obtain ⟨v4, S3, e_S3, hm⟩ := m_call_of hm
    refine n_cSi X hH hS (c_X12_isIn  hT  e_S3) mw_X12_isIn in_8_46 rfl ⟨rfl, rfl⟩ ⟨by decide, by decide⟩ ⟨Nat.zero_le _, Nat.zero_le _⟩ hl.1 (Nat.le_of_ble_eq_true rfl) dX12_ran_16 (fun H locs hH hS => ?_)
    refine lv_if_eq (tgt := 31) hx hb dX12_ran_19 (by decide) (fun c5 => ?_) (fun c5 => ?_)
    · have hm := m_ite_t hm c5
      exact k_X12_ran_31 (a := a) X hr hT hk_a   S3 _ _ _ hH hS (lv_sub hl [] rfl) hm
    · have hm := m_ite_f hm c5
      refine lv_aload_n hx hb dX12_ran_22 rfl (lv_at hl 0 rfl) ?_
      refine r_getp X hH (k := 12) (a := a) (j := 42) (b := (a + 27)) (A := 27) (B := 0) hk_a (by decide) rfl m_wi12 (by decide) in_7_61 rfl rfl rfl dX12_ran_23 ?_
      refine lv_iload_n hx hb dX12_ran_26 rfl (lv_at hl 1 rfl) ?_
      obtain ⟨v6, h_v6, e_v6, hm⟩ := n_ldi hm
      refine n_iald X hH (n := 8) (m_lay_at hT hk_a (by decide) (i := 27) rfl) h_v6 e_v6 dX12_ran_27 ?_
      refine lv_goto (tgt := 32) hx hb dX12_ran_28 (by decide) ?_
      exact k_X12_ran_32 (a := a) X hr hT hk_a   S3 v6 _ _ _ hH hS (lv_sub hl [] rfl) hm
def rm_X12_draw : Room := { frames := 0, cells := 0, slots := 0, locals := 0 }
def f_X12_draw (a : Nat) (S : m_M) (i1 : Int32) : Option (Int32 × m_M) :=
    m_let (m_si S a 45 (((m_ri S a 45) * (1103515245 : Int32)) + (12345 : Int32))) fun S1 =>
    if i1 = 0 then none else
    some ((((m_ri S1 a 45).toUInt32 >>> ((8 : Int32).toUInt32 &&& Int32.toUInt32 31)).toInt32 - ((m_ri S1 a 45).toUInt32 >>> ((8 : Int32).toUInt32 &&& Int32.toUInt32 31)).toInt32 / i1 * i1), S1)
set_option maxHeartbeats 4000000 in
set_option maxRecDepth 100000 in
theorem c_X12_draw {l : Launch} {G : m_G} {nx : Nat} {κ : Nat → Nat} {a : Nat} {S : m_M} {i1 : Int32} {res : (Int32 × m_M)} (hT : m_Str κ) (hk_a : κ a = 13) (hm : f_X12_draw a S i1 = some res) : m_Ci l yX12_draw cX12_draw 2 (some .int) rm_X12_draw G nx κ [.ref a, .int i1] S res := by
  refine m_Ci.of (by decide) (Nat.le_of_ble_eq_true rfl) ?_
  intro p e s m args below meth c ls X hr hH hl
  have hx := X.1.1
  have hb := X.1.2.1
  have hS : m_S G s s.heap [] := va_S.rf
  have hl : lv_has ls 2 [(0, .ref a), (1, .int i1)] := hl
  rw [f_X12_draw] at hm
  refine lv_aload_n hx hb dX12_draw_0 rfl (lv_at hl 0 rfl) ?_
  refine lv_aload_n hx hb dX12_draw_1 rfl (lv_at hl 0 rfl) ?_
  refine r_geti X hH (k := 12) (a := a) (j := 45) hk_a (by decide) rfl m_wi12 (by decide) in_7_64 rfl rfl dX12_draw_2 ?_
  refine lv_ldcw hx hb X.1.2.2.2.1 (m_w X in_9_64) dX12_draw_5 ?_
  refine lv_imul hx hb dX12_draw_8 ?_
  refine lv_sipush (v := (12345 : Int32)) hx hb dX12_draw_9 (by decide) ?_
  refine lv_iadd hx hb dX12_draw_12 ?_
  obtain ⟨S1, e_S1, hm⟩ := m_let_of hm
  refine n_puti X hH hS tyX12 (k := 12) (a := a) (j := 45) hk_a (by decide) rfl m_wi12 tyX12_ok nmX12 (by decide) in_7_64 rfl rfl rfl ⟨rfl, rfl⟩ e_S1 dX12_draw_13 (fun H locs hH hS => ?_)
  refine lv_aload_n hx hb dX12_draw_16 rfl (lv_at hl 0 rfl) ?_
  refine r_geti X hH (k := 12) (a := a) (j := 45) hk_a (by decide) rfl m_wi12 (by decide) in_7_64 rfl rfl dX12_draw_17 ?_
  refine lv_bipush (v := (8 : Int32)) hx hb dX12_draw_20 (by decide) ?_
  refine lv_iushr hx hb dX12_draw_22 rfl ?_
  refine lv_iload_n hx hb dX12_draw_23 rfl (lv_at hl 1 rfl) ?_
  obtain ⟨z2, hm⟩ := m_ifn_of hm
  refine lv_irem hx hb dX12_draw_24 z2 ?_
  exact r_iret X hr hH hS hm dX12_draw_25
def rm_X12_ends : Room := { frames := 7, cells := 0, slots := 0, locals := 165 }
def b_X12_ends_84 (a : Nat)  (S : m_M) (t0 : Int32) : Option (Int32 × m_M) :=
    if t0 = 0 ∨ t0 = 1 then some (t0, S) else none
set_option maxHeartbeats 4000000 in
set_option maxRecDepth 100000 in
theorem k_X12_ends_84 {p : Program} {l : Launch} {e : Env} {s : State} {m : MethodId} {args : Array Value} {below : List Frame} {meth : Method} {c : Code} {G : m_G} {nx : Nat} {κ : Nat → Nat} {res : (Int32 × m_M)} {a : Nat} (X : m_Cx p s m args meth c cX12_ends 3 RX12 G) (hr : meth.sig.returnType = (some .boolean)) (hT : m_Str κ) (hk_a : κ a = 13)  : ∀ (S : m_M) (t0 : Int32) (H : Heap) (locs : List Loc) (ls : Array Slot), m_H G nx κ S H → m_S G s H locs → lv_has ls 3 [] → b_X12_ends_84 a S t0 = some res → W p l e rm_X12_ends s m args below meth c H locs 0 0 (m_Qi below args s G nx κ res) (F0 m 84 ls [.int t0]) := by
  have hx := X.1.1
  have hb := X.1.2.1
  intro S t0 H locs ls hH hS hl hm
  rw [b_X12_ends_84] at hm
  exact r_zret X hr hH hS hm dX12_ends_84
def b_X12_ends_48 (a : Nat)  : Nat → m_M → Option (Int32 × m_M)
  | 0, _ => none
  | n + 1, S =>
    (m_ldi S (a + 2) 2647 (210 : Int32)).bind fun v1 =>
    if v1 = (1 : Int32) then (
    m_cal0 (f_X12_oneStep a S) fun S5 =>
    b_X12_ends_48 a n S5) else (
    (m_ldi S (a + 2) 2647 (210 : Int32)).bind fun v3 =>
    if v3 = (2 : Int32) then (
    b_X12_ends_84 a S (1 : Int32)) else (
    b_X12_ends_84 a S (0 : Int32)))
set_option maxHeartbeats 4000000 in
set_option maxRecDepth 100000 in
theorem k_X12_ends_48 {p : Program} {l : Launch} {e : Env} {s : State} {m : MethodId} {args : Array Value} {below : List Frame} {meth : Method} {c : Code} {G : m_G} {nx : Nat} {κ : Nat → Nat} {res : (Int32 × m_M)} {a : Nat} (X : m_Cx p s m args meth c cX12_ends 3 RX12 G) (hr : meth.sig.returnType = (some .boolean)) (hT : m_Str κ) (hk_a : κ a = 13)  (n : Nat) : ∀ (S : m_M)  (H : Heap) (locs : List Loc) (ls : Array Slot), m_H G nx κ S H → m_S G s H locs → lv_has ls 3 [(0, .ref a)] → b_X12_ends_48 a n S  = some res → W p l e rm_X12_ends s m args below meth c H locs 0 0 (m_Qi below args s G nx κ res) (F0 m 48 ls []) := by
  have hx := X.1.1
  have hb := X.1.2.1
  induction n with
  | zero => intro S H locs ls hH hS hl hm; have hm : (none : Option (Int32 × m_M)) = some res := hm; cases hm
  | succ n ih =>
    intro S H locs ls hH hS hl hm
    rw [b_X12_ends_48] at hm
    refine lv_aload_n hx hb dX12_ends_48 rfl (lv_at hl 0 rfl) ?_
    refine r_getp X hH (k := 12) (a := a) (j := 14) (b := (a + 2)) (A := 2) (B := 0) hk_a (by decide) rfl m_wi12 (by decide) in_7_33 rfl rfl rfl dX12_ends_49 ?_
    refine lv_sipush (v := (210 : Int32)) hx hb dX12_ends_52 (by decide) ?_
    obtain ⟨v1, h_v1, e_v1, hm⟩ := n_ldi hm
    refine n_iald X hH (n := 2647) (m_lay_at hT hk_a (by decide) (i := 2) rfl) h_v1 e_v1 dX12_ends_55 ?_
    refine lv_iconst (v := (1 : Int32)) hx hb dX12_ends_56 (by decide) ?_
    refine lv_icmp_ne (tgt := 67) hx hb dX12_ends_57 (by decide) (fun c2 => ?_) (fun c2 => ?_)
    · have hm := m_ite_f hm c2
      refine lv_aload_n hx hb dX12_ends_67 rfl (lv_at hl 0 rfl) ?_
      refine r_getp X hH (k := 12) (a := a) (j := 14) (b := (a + 2)) (A := 2) (B := 0) hk_a (by decide) rfl m_wi12 (by decide) in_7_33 rfl rfl rfl dX12_ends_68 ?_
      refine lv_sipush (v := (210 : Int32)) hx hb dX12_ends_71 (by decide) ?_
      obtain ⟨v3, h_v3, e_v3, hm⟩ := n_ldi hm
      refine n_iald X hH (n := 2647) (m_lay_at hT hk_a (by decide) (i := 2) rfl) h_v3 e_v3 dX12_ends_74 ?_
      refine lv_iconst (v := (2 : Int32)) hx hb dX12_ends_75 (by decide) ?_
      refine lv_icmp_ne (tgt := 83) hx hb dX12_ends_76 (by decide) (fun c4 => ?_) (fun c4 => ?_)
      · have hm := m_ite_f hm c4
        refine lv_iconst (v := (0 : Int32)) hx hb dX12_ends_83 (by decide) ?_
        exact k_X12_ends_84 (a := a) X hr hT hk_a   S (0 : Int32) _ _ _ hH hS (lv_sub hl [] rfl) hm
      · have hm := m_ite_t hm c4
        refine lv_iconst (v := (1 : Int32)) hx hb dX12_ends_79 (by decide) ?_
        refine lv_goto (tgt := 84) hx hb dX12_ends_80 (by decide) ?_
        exact k_X12_ends_84 (a := a) X hr hT hk_a   S (1 : Int32) _ _ _ hH hS (lv_sub hl [] rfl) hm
    · have hm := m_ite_t hm c2
      refine lv_aload_n hx hb dX12_ends_60 rfl (lv_at hl 0 rfl) ?_
      obtain ⟨S5, e_S5, hm⟩ := m_cal0_of hm
      refine r_cVv X hH hS (k := 12) (c_X12_oneStep (a := a) hT hk_a e_S5) mw_X12_oneStep in_8_152 hk_a (by decide) rfl rfl rfl ⟨rfl, rfl⟩ ⟨by decide, by decide⟩ ⟨Nat.zero_le _, Nat.zero_le _⟩ hl.1 (Nat.le_of_ble_eq_true rfl) dX12_ends_61 (fun H locs hH hS => ?_)
      refine lv_goto (tgt := 48) hx hb dX12_ends_64 (by decide) ?_
      exact ih S5 _ _ _ hH hS hl hm
def b_X12_ends_7 (a : Nat)  : Nat → m_M → Int32 → Option (Int32 × m_M)
  | 0, _, _ => none
  | n + 1, S, l2 =>
    m_call (f_X12_mainFun a S) fun v2 S1 =>
    (m_ldi S1 (a + 2) 2647 ((3 : Int32) + v2)).bind fun v3 =>
    if v3 ≤ l2 then (
    m_cal0 (f_X12_loads a (a + 28) 3 S1) fun S5 =>
    b_X12_ends_48 a m_fu S5) else (
    m_call (f_X12_draw a S1 (10 : Int32)) fun v7 S6 =>
    (m_sti S6 (a + 28) 3 l2 v7).bind fun S8 =>
    m_let (l2 + (1 : Int32)) fun v9 =>
    b_X12_ends_7 a n S8 v9)
set_option maxHeartbeats 4000000 in
set_option maxRecDepth 100000 in
theorem k_X12_ends_7 {p : Program} {l : Launch} {e : Env} {s : State} {m : MethodId} {args : Array Value} {below : List Frame} {meth : Method} {c : Code} {G : m_G} {nx : Nat} {κ : Nat → Nat} {res : (Int32 × m_M)} {a : Nat} (X : m_Cx p s m args meth c cX12_ends 3 RX12 G) (hr : meth.sig.returnType = (some .boolean)) (hT : m_Str κ) (hk_a : κ a = 13)  (n : Nat) : ∀ (S : m_M) (l2 : Int32) (H : Heap) (locs : List Loc) (ls : Array Slot), m_H G nx κ S H → m_S G s H locs → lv_has ls 3 [(0, .ref a), (2, .int l2)] → b_X12_ends_7 a n S l2 = some res → W p l e rm_X12_ends s m args below meth c H locs 0 0 (m_Qi below args s G nx κ res) (F0 m 7 ls []) := by
  have hx := X.1.1
  have hb := X.1.2.1
  induction n with
  | zero => intro S l2 H locs ls hH hS hl hm; have hm : (none : Option (Int32 × m_M)) = some res := hm; cases hm
  | succ n ih =>
    intro S l2 H locs ls hH hS hl hm
    rw [b_X12_ends_7] at hm
    refine lv_iload_n hx hb dX12_ends_7 rfl (lv_at hl 1 rfl) ?_
    refine lv_aload_n hx hb dX12_ends_8 rfl (lv_at hl 0 rfl) ?_
    refine r_getp X hH (k := 12) (a := a) (j := 14) (b := (a + 2)) (A := 2) (B := 0) hk_a (by decide) rfl m_wi12 (by decide) in_7_33 rfl rfl rfl dX12_ends_9 ?_
    refine lv_iconst (v := (3 : Int32)) hx hb dX12_ends_12 (by decide) ?_
    refine lv_aload_n hx hb dX12_ends_13 rfl (lv_at hl 0 rfl) ?_
    obtain ⟨v2, S1, e_S1, hm⟩ := m_call_of hm
    refine n_cVi X hH hS (k := 12) (c_X12_mainFun (a := a) hT hk_a e_S1) mw_X12_mainFun in_8_85 hk_a (by decide) rfl rfl rfl ⟨rfl, rfl⟩ ⟨by decide, by decide⟩ ⟨Nat.zero_le _, Nat.zero_le _⟩ hl.1 (Nat.le_of_ble_eq_true rfl) dX12_ends_14 (fun H locs hH hS => ?_)
    refine lv_iadd hx hb dX12_ends_17 ?_
    obtain ⟨v3, h_v3, e_v3, hm⟩ := n_ldi hm
    refine n_iald X hH (n := 2647) (m_lay_at hT hk_a (by decide) (i := 2) rfl) h_v3 e_v3 dX12_ends_18 ?_
    refine lv_icmp_ge (tgt := 40) hx hb dX12_ends_19 (by decide) (fun c4 => ?_) (fun c4 => ?_)
    · have hm := m_ite_t hm c4
      refine lv_aload_n hx hb dX12_ends_40 rfl (lv_at hl 0 rfl) ?_
      refine lv_aload_n hx hb dX12_ends_41 rfl (lv_at hl 0 rfl) ?_
      refine r_getp X hH (k := 12) (a := a) (j := 43) (b := (a + 28)) (A := 28) (B := 0) hk_a (by decide) rfl m_wi12 (by decide) in_7_62 rfl rfl rfl dX12_ends_42 ?_
      obtain ⟨S5, e_S5, hm⟩ := m_cal0_of hm
      refine r_cVv X hH hS (k := 12) (c_X12_loads (a := a) (o1 := (a + 28)) (n1 := 3) hT hk_a (m_lay_at hT hk_a (by decide) (i := 28) rfl) e_S5) mw_X12_loads in_8_128 hk_a (by decide) rfl rfl rfl ⟨rfl, rfl⟩ ⟨by decide, by decide⟩ ⟨Nat.zero_le _, Nat.zero_le _⟩ hl.1 (Nat.le_of_ble_eq_true rfl) dX12_ends_45 (fun H locs hH hS => ?_)
      exact k_X12_ends_48 (a := a) X hr hT hk_a  m_fu S5 _ _ _ hH hS (lv_sub hl [0] rfl) hm
    · have hm := m_ite_f hm c4
      refine lv_aload_n hx hb dX12_ends_22 rfl (lv_at hl 0 rfl) ?_
      refine r_getp X hH (k := 12) (a := a) (j := 43) (b := (a + 28)) (A := 28) (B := 0) hk_a (by decide) rfl m_wi12 (by decide) in_7_62 rfl rfl rfl dX12_ends_23 ?_
      refine lv_iload_n hx hb dX12_ends_26 rfl (lv_at hl 1 rfl) ?_
      refine lv_aload_n hx hb dX12_ends_27 rfl (lv_at hl 0 rfl) ?_
      refine lv_bipush (v := (10 : Int32)) hx hb dX12_ends_28 (by decide) ?_
      obtain ⟨v7, S6, e_S6, hm⟩ := m_call_of hm
      refine n_cVi X hH hS (k := 12) (c_X12_draw (a := a) hT hk_a e_S6) mw_X12_draw in_9_60 hk_a (by decide) rfl rfl rfl ⟨rfl, rfl⟩ ⟨by decide, by decide⟩ ⟨Nat.zero_le _, Nat.zero_le _⟩ hl.1 (Nat.le_of_ble_eq_true rfl) dX12_ends_30 (fun H locs hH hS => ?_)
      obtain ⟨S8, h_S8, e_S8, hm⟩ := n_sti hm
      refine n_iast X hH hS (n := 3) (m_lay_at hT hk_a (by decide) (i := 28) rfl) h_S8 e_S8 dX12_ends_33 (fun H locs hH hS => ?_)
      obtain ⟨v9, e_v9, hm⟩ := m_let_of hm
      refine lv_iinc (v := v9) (lv' := [(2, .int v9), (0, .ref a)]) hx hb dX12_ends_34 hl (k := 1) rfl (by rw [← e_v9]; rfl) (by decide) rfl (fun ls hl => ?_)
      refine lv_goto (tgt := 7) hx hb dX12_ends_37 (by decide) ?_
      exact ih S8 v9 _ _ _ hH hS (lv_sub hl [1, 0] rfl) hm
def f_X12_ends (a : Nat) (S : m_M) (i1 : Int32) : Option (Int32 × m_M) :=
    m_let (m_si S a 45 i1) fun S1 =>
    b_X12_ends_7 a m_fu S1 (0 : Int32)
set_option maxHeartbeats 4000000 in
set_option maxRecDepth 100000 in
theorem c_X12_ends {l : Launch} {G : m_G} {nx : Nat} {κ : Nat → Nat} {a : Nat} {S : m_M} {i1 : Int32} {res : (Int32 × m_M)} (hT : m_Str κ) (hk_a : κ a = 13) (hm : f_X12_ends a S i1 = some res) : m_Ci l yX12_ends cX12_ends 3 (some .boolean) rm_X12_ends G nx κ [.ref a, .int i1] S res := by
  refine m_Ci.of (by decide) (Nat.le_of_ble_eq_true rfl) ?_
  intro p e s m args below meth c ls X hr hH hl
  have hx := X.1.1
  have hb := X.1.2.1
  have hS : m_S G s s.heap [] := va_S.rf
  have hl : lv_has ls 3 [(0, .ref a), (1, .int i1)] := hl
  rw [f_X12_ends] at hm
  refine lv_aload_n hx hb dX12_ends_0 rfl (lv_at hl 0 rfl) ?_
  refine lv_iload_n hx hb dX12_ends_1 rfl (lv_at hl 1 rfl) ?_
  obtain ⟨S1, e_S1, hm⟩ := m_let_of hm
  refine n_puti X hH hS tyX12 (k := 12) (a := a) (j := 45) hk_a (by decide) rfl m_wi12 tyX12_ok nmX12 (by decide) in_7_64 rfl rfl rfl ⟨rfl, rfl⟩ e_S1 dX12_ends_2 (fun H locs hH hS => ?_)
  refine lv_iconst (v := (0 : Int32)) hx hb dX12_ends_5 (by decide) ?_
  refine lv_istore_n (lv' := [(2, .int (0 : Int32)), (0, .ref a), (1, .int i1)]) hx hb dX12_ends_6 rfl hl (by decide) rfl (fun ls hl => ?_)
  exact k_X12_ends_7 (a := a) X hr hT hk_a  m_fu S1 (0 : Int32) _ _ _ hH hS (lv_sub hl [1, 0] rfl) hm
def rm_X12_odds : Room := { frames := 8, cells := 0, slots := 0, locals := 187 }
def b_X12_odds_24 (a : Nat)  (S : m_M)  : Option (Int32 × m_M) :=
    some ((-1 : Int32), S)
set_option maxHeartbeats 4000000 in
set_option maxRecDepth 100000 in
theorem k_X12_odds_24 {p : Program} {l : Launch} {e : Env} {s : State} {m : MethodId} {args : Array Value} {below : List Frame} {meth : Method} {c : Code} {G : m_G} {nx : Nat} {κ : Nat → Nat} {res : (Int32 × m_M)} {a : Nat} (X : m_Cx p s m args meth c cX12_odds 5 RX12 G) (hr : meth.sig.returnType = (some .int)) (hT : m_Str κ) (hk_a : κ a = 13)  : ∀ (S : m_M)  (H : Heap) (locs : List Loc) (ls : Array Slot), m_H G nx κ S H → m_S G s H locs → lv_has ls 5 [] → b_X12_odds_24 a S  = some res → W p l e rm_X12_odds s m args below meth c H locs 0 0 (m_Qi below args s G nx κ res) (F0 m 24 ls []) := by
  have hx := X.1.1
  have hb := X.1.2.1
  intro S H locs ls hH hS hl hm
  rw [b_X12_odds_24] at hm
  refine lv_iconst (v := (-1 : Int32)) hx hb dX12_odds_24 (by decide) ?_
  exact r_iret X hr hH hS hm dX12_odds_25
def b_X12_odds_60 (a : Nat) (K_40 : m_M → Int32 → Int32 → Int32 → Int32 → Option (Int32 × m_M)) (S : m_M) (l1 : Int32) (l2 : Int32) (l3 : Int32) (l4 : Int32) : Option (Int32 × m_M) :=
    m_let (l4 + (1 : Int32)) fun v1 =>
    K_40 S l1 l2 l3 v1
set_option maxHeartbeats 4000000 in
set_option maxRecDepth 100000 in
theorem k_X12_odds_60 {p : Program} {l : Launch} {e : Env} {s : State} {m : MethodId} {args : Array Value} {below : List Frame} {meth : Method} {c : Code} {G : m_G} {nx : Nat} {κ : Nat → Nat} {res : (Int32 × m_M)} {a : Nat} (X : m_Cx p s m args meth c cX12_odds 5 RX12 G) (hr : meth.sig.returnType = (some .int)) (hT : m_Str κ) (hk_a : κ a = 13) (K_40 : m_M → Int32 → Int32 → Int32 → Int32 → Option (Int32 × m_M)) (hK_40 : ∀ (S : m_M) (l1 : Int32) (l2 : Int32) (l3 : Int32) (l4 : Int32) (H : Heap) (locs : List Loc) (ls : Array Slot), m_H G nx κ S H → m_S G s H locs → lv_has ls 5 [(0, .ref a), (1, .int l1), (2, .int l2), (3, .int l3), (4, .int l4)] → K_40 S l1 l2 l3 l4 = some res → W p l e rm_X12_odds s m args below meth c H locs 0 0 (m_Qi below args s G nx κ res) (F0 m 40 ls [])) : ∀ (S : m_M) (l1 : Int32) (l2 : Int32) (l3 : Int32) (l4 : Int32) (H : Heap) (locs : List Loc) (ls : Array Slot), m_H G nx κ S H → m_S G s H locs → lv_has ls 5 [(0, .ref a), (1, .int l1), (2, .int l2), (3, .int l3), (4, .int l4)] → b_X12_odds_60 a K_40 S l1 l2 l3 l4 = some res → W p l e rm_X12_odds s m args below meth c H locs 0 0 (m_Qi below args s G nx κ res) (F0 m 60 ls []) := by
  have hx := X.1.1
  have hb := X.1.2.1
  intro S l1 l2 l3 l4 H locs ls hH hS hl hm
  rw [b_X12_odds_60] at hm
  obtain ⟨v1, e_v1, hm⟩ := m_let_of hm
  refine lv_iinc (v := v1) (lv' := [(4, .int v1), (0, .ref a), (1, .int l1), (2, .int l2), (3, .int l3)]) hx hb dX12_odds_60 hl (k := 4) rfl (by rw [← e_v1]; rfl) (by decide) rfl (fun ls hl => ?_)
  refine lv_goto (tgt := 40) hx hb dX12_odds_63 (by decide) ?_
  exact hK_40 S l1 l2 l3 v1 _ _ _ hH hS (lv_sub hl [1, 2, 3, 4, 0] rfl) hm
def b_X12_odds_40 (a : Nat)  : Nat → m_M → Int32 → Int32 → Int32 → Int32 → Option (Int32 × m_M)
  | 0, _, _, _, _, _ => none
  | n + 1, S, l1, l2, l3, l4 =>
    if l1 ≤ l4 then (
    m_cal0 (f_X12_comeBack a (a + 6) 2195 S (0 : Int32)) fun S2 =>
    some (l3, S2)) else (
    m_call (f_X12_ends a S (l2 + l4)) fun v4 S3 =>
    if v4 = 0 then (
    b_X12_odds_60 a (b_X12_odds_40 a n) S3 l1 l2 l3 l4) else (
    m_let (l3 + (1 : Int32)) fun v6 =>
    b_X12_odds_60 a (b_X12_odds_40 a n) S3 l1 l2 v6 l4))
set_option maxHeartbeats 4000000 in
set_option maxRecDepth 100000 in
theorem k_X12_odds_40 {p : Program} {l : Launch} {e : Env} {s : State} {m : MethodId} {args : Array Value} {below : List Frame} {meth : Method} {c : Code} {G : m_G} {nx : Nat} {κ : Nat → Nat} {res : (Int32 × m_M)} {a : Nat} (X : m_Cx p s m args meth c cX12_odds 5 RX12 G) (hr : meth.sig.returnType = (some .int)) (hT : m_Str κ) (hk_a : κ a = 13)  (n : Nat) : ∀ (S : m_M) (l1 : Int32) (l2 : Int32) (l3 : Int32) (l4 : Int32) (H : Heap) (locs : List Loc) (ls : Array Slot), m_H G nx κ S H → m_S G s H locs → lv_has ls 5 [(0, .ref a), (1, .int l1), (2, .int l2), (3, .int l3), (4, .int l4)] → b_X12_odds_40 a n S l1 l2 l3 l4 = some res → W p l e rm_X12_odds s m args below meth c H locs 0 0 (m_Qi below args s G nx κ res) (F0 m 40 ls []) := by
  have hx := X.1.1
  have hb := X.1.2.1
  induction n with
  | zero => intro S l1 l2 l3 l4 H locs ls hH hS hl hm; have hm : (none : Option (Int32 × m_M)) = some res := hm; cases hm
  | succ n ih =>
    intro S l1 l2 l3 l4 H locs ls hH hS hl hm
    rw [b_X12_odds_40] at hm
    refine lv_iload hx hb dX12_odds_40 (lv_at hl 4 rfl) ?_
    refine lv_iload_n hx hb dX12_odds_42 rfl (lv_at hl 1 rfl) ?_
    refine lv_icmp_ge (tgt := 66) hx hb dX12_odds_43 (by decide) (fun c1 => ?_) (fun c1 => ?_)
    · have hm := m_ite_t hm c1
      refine lv_aload_n hx hb dX12_odds_66 rfl (lv_at hl 0 rfl) ?_
      refine lv_aload_n hx hb dX12_odds_67 rfl (lv_at hl 0 rfl) ?_
      refine r_getp X hH (k := 12) (a := a) (j := 18) (b := (a + 6)) (A := 6) (B := 0) hk_a (by decide) rfl m_wi12 (by decide) in_7_37 rfl rfl rfl dX12_odds_68 ?_
      refine lv_iconst (v := (0 : Int32)) hx hb dX12_odds_71 (by decide) ?_
      obtain ⟨S2, e_S2, hm⟩ := m_cal0_of hm
      refine r_cVv X hH hS (k := 12) (c_X12_comeBack (a := a) (o1 := (a + 6)) (n1 := 2195) hT hk_a (m_lay_at hT hk_a (by decide) (i := 6) rfl) e_S2) mw_X12_comeBack in_8_108 hk_a (by decide) rfl rfl rfl ⟨rfl, rfl⟩ ⟨by decide, by decide⟩ ⟨Nat.zero_le _, Nat.zero_le _⟩ hl.1 (Nat.le_of_ble_eq_true rfl) dX12_odds_72 (fun H locs hH hS => ?_)
      refine lv_iload_n hx hb dX12_odds_75 rfl (lv_at hl 3 rfl) ?_
      exact r_iret X hr hH hS hm dX12_odds_76
    · have hm := m_ite_f hm c1
      refine lv_aload_n hx hb dX12_odds_46 rfl (lv_at hl 0 rfl) ?_
      refine lv_iload_n hx hb dX12_odds_47 rfl (lv_at hl 2 rfl) ?_
      refine lv_iload hx hb dX12_odds_48 (lv_at hl 4 rfl) ?_
      refine lv_iadd hx hb dX12_odds_50 ?_
      obtain ⟨v4, S3, e_S3, hm⟩ := m_call_of hm
      refine n_cVi X hH hS (k := 12) (c_X12_ends (a := a) hT hk_a e_S3) mw_X12_ends in_9_56 hk_a (by decide) rfl rfl rfl ⟨rfl, rfl⟩ ⟨by decide, by decide⟩ ⟨Nat.zero_le _, Nat.zero_le _⟩ hl.1 (Nat.le_of_ble_eq_true rfl) dX12_odds_51 (fun H locs hH hS => ?_)
      refine lv_if_eq (tgt := 60) hx hb dX12_odds_54 (by decide) (fun c5 => ?_) (fun c5 => ?_)
      · have hm := m_ite_t hm c5
        exact k_X12_odds_60 (a := a) X hr hT hk_a (b_X12_odds_40 a n) ih  S3 l1 l2 l3 l4 _ _ _ hH hS hl hm
      · have hm := m_ite_f hm c5
        obtain ⟨v6, e_v6, hm⟩ := m_let_of hm
        refine lv_iinc (v := v6) (lv' := [(3, .int v6), (0, .ref a), (1, .int l1), (2, .int l2), (4, .int l4)]) hx hb dX12_odds_57 hl (k := 3) rfl (by rw [← e_v6]; rfl) (by decide) rfl (fun ls hl => ?_)
        exact k_X12_odds_60 (a := a) X hr hT hk_a (b_X12_odds_40 a n) ih  S3 l1 l2 v6 l4 _ _ _ hH hS (lv_sub hl [1, 2, 3, 0, 4] rfl) hm
def f_X12_odds (a : Nat) (S : m_M) (i1 : Int32) (i2 : Int32) : Option (Int32 × m_M) :=
    m_let (m_si S a 0 (0 : Int32)) fun S1 =>
    (m_ldi S1 (a + 2) 2647 (0 : Int32)).bind fun v2 =>
    if v2 = 0 then (
    b_X12_odds_24 a S1) else (
    m_call (f_X12_isIn S1 i1 (1 : Int32) (20 : Int32)) fun v5 S4 =>
    if v5 = 0 then (
    b_X12_odds_24 a S4) else (
    m_cal0 (f_X12_save a (a + 6) 2195 S4 (0 : Int32)) fun S7 =>
    b_X12_odds_40 a m_fu S7 i1 i2 (0 : Int32) (0 : Int32)))
set_option maxHeartbeats 4000000 in
set_option maxRecDepth 100000 in
theorem c_X12_odds {l : Launch} {G : m_G} {nx : Nat} {κ : Nat → Nat} {a : Nat} {S : m_M} {i1 : Int32} {i2 : Int32} {res : (Int32 × m_M)} (hT : m_Str κ) (hk_a : κ a = 13) (hm : f_X12_odds a S i1 i2 = some res) : m_Ci l yX12_odds cX12_odds 5 (some .int) rm_X12_odds G nx κ [.ref a, .int i1, .int i2] S res := by
  refine m_Ci.of (by decide) (Nat.le_of_ble_eq_true rfl) ?_
  intro p e s m args below meth c ls X hr hH hl
  have hx := X.1.1
  have hb := X.1.2.1
  have hS : m_S G s s.heap [] := va_S.rf
  have hl : lv_has ls 5 [(0, .ref a), (1, .int i1), (2, .int i2)] := hl
  rw [f_X12_odds] at hm
  refine lv_aload_n hx hb dX12_odds_0 rfl (lv_at hl 0 rfl) ?_
  refine lv_iconst (v := (0 : Int32)) hx hb dX12_odds_1 (by decide) ?_
  obtain ⟨S1, e_S1, hm⟩ := m_let_of hm
  refine n_puti X hH hS tyX12 (k := 12) (a := a) (j := 0) hk_a (by decide) rfl m_wi12 tyX12_ok nmX12 (by decide) in_7_19 rfl rfl rfl ⟨rfl, rfl⟩ e_S1 dX12_odds_2 (fun H locs hH hS => ?_)
  refine lv_aload_n hx hb dX12_odds_5 rfl (lv_at hl 0 rfl) ?_
  refine r_getp X hH (k := 12) (a := a) (j := 14) (b := (a + 2)) (A := 2) (B := 0) hk_a (by decide) rfl m_wi12 (by decide) in_7_33 rfl rfl rfl dX12_odds_6 ?_
  refine lv_iconst (v := (0 : Int32)) hx hb dX12_odds_9 (by decide) ?_
  obtain ⟨v2, h_v2, e_v2, hm⟩ := n_ldi hm
  refine n_iald X hH (n := 2647) (m_lay_at hT hk_a (by decide) (i := 2) rfl) h_v2 e_v2 dX12_odds_10 ?_
  refine lv_if_eq (tgt := 24) hx hb dX12_odds_11 (by decide) (fun c3 => ?_) (fun c3 => ?_)
  · have hm := m_ite_t hm c3
    exact k_X12_odds_24 (a := a) X hr hT hk_a   S1 _ _ _ hH hS (lv_sub hl [] rfl) hm
  · have hm := m_ite_f hm c3
    refine lv_iload_n hx hb dX12_odds_14 rfl (lv_at hl 1 rfl) ?_
    refine lv_iconst (v := (1 : Int32)) hx hb dX12_odds_15 (by decide) ?_
    refine lv_bipush (v := (20 : Int32)) hx hb dX12_odds_16 (by decide) ?_
    obtain ⟨v5, S4, e_S4, hm⟩ := m_call_of hm
    refine n_cSi X hH hS (c_X12_isIn  hT  e_S4) mw_X12_isIn in_8_46 rfl ⟨rfl, rfl⟩ ⟨by decide, by decide⟩ ⟨Nat.zero_le _, Nat.zero_le _⟩ hl.1 (Nat.le_of_ble_eq_true rfl) dX12_odds_18 (fun H locs hH hS => ?_)
    refine lv_if_ne (tgt := 26) hx hb dX12_odds_21 (by decide) (fun c6 => ?_) (fun c6 => ?_)
    · have hm := m_ite_f hm c6
      refine lv_aload_n hx hb dX12_odds_26 rfl (lv_at hl 0 rfl) ?_
      refine lv_aload_n hx hb dX12_odds_27 rfl (lv_at hl 0 rfl) ?_
      refine r_getp X hH (k := 12) (a := a) (j := 18) (b := (a + 6)) (A := 6) (B := 0) hk_a (by decide) rfl m_wi12 (by decide) in_7_37 rfl rfl rfl dX12_odds_28 ?_
      refine lv_iconst (v := (0 : Int32)) hx hb dX12_odds_31 (by decide) ?_
      obtain ⟨S7, e_S7, hm⟩ := m_cal0_of hm
      refine r_cVv X hH hS (k := 12) (c_X12_save (a := a) (o1 := (a + 6)) (n1 := 2195) hT hk_a (m_lay_at hT hk_a (by decide) (i := 6) rfl) e_S7) mw_X12_save in_8_124 hk_a (by decide) rfl rfl rfl ⟨rfl, rfl⟩ ⟨by decide, by decide⟩ ⟨Nat.zero_le _, Nat.zero_le _⟩ hl.1 (Nat.le_of_ble_eq_true rfl) dX12_odds_32 (fun H locs hH hS => ?_)
      refine lv_iconst (v := (0 : Int32)) hx hb dX12_odds_35 (by decide) ?_
      refine lv_istore_n (lv' := [(3, .int (0 : Int32)), (0, .ref a), (1, .int i1), (2, .int i2)]) hx hb dX12_odds_36 rfl hl (by decide) rfl (fun ls hl => ?_)
      refine lv_iconst (v := (0 : Int32)) hx hb dX12_odds_37 (by decide) ?_
      refine lv_istore (lv' := [(4, .int (0 : Int32)), (3, .int (0 : Int32)), (0, .ref a), (1, .int i1), (2, .int i2)]) hx hb dX12_odds_38 hl (by decide) rfl (fun ls hl => ?_)
      exact k_X12_odds_40 (a := a) X hr hT hk_a  m_fu S7 i1 i2 (0 : Int32) (0 : Int32) _ _ _ hH hS (lv_sub hl [2, 3, 4, 1, 0] rfl) hm
    · have hm := m_ite_t hm c6
      exact k_X12_odds_24 (a := a) X hr hT hk_a   S4 _ _ _ hH hS (lv_sub hl [] rfl) hm
def rm_X12_finiteMany : Room := { frames := 3, cells := 0, slots := 0, locals := 65 }
def b_X12_finiteMany_25 (a : Nat) (K_4 : m_M → Int32 → Int32 → Option (Int32 × m_M)) (S : m_M) (l1 : Int32) (l2 : Int32) : Option (Int32 × m_M) :=
    m_let (l2 + (1 : Int32)) fun v1 =>
    K_4 S l1 v1
set_option maxHeartbeats 4000000 in
set_option maxRecDepth 100000 in
theorem k_X12_finiteMany_25 {p : Program} {l : Launch} {e : Env} {s : State} {m : MethodId} {args : Array Value} {below : List Frame} {meth : Method} {c : Code} {G : m_G} {nx : Nat} {κ : Nat → Nat} {res : (Int32 × m_M)} {a : Nat} (X : m_Cx p s m args meth c cX12_finiteMany 3 RX12 G) (hr : meth.sig.returnType = (some .int)) (hT : m_Str κ) (hk_a : κ a = 13) (K_4 : m_M → Int32 → Int32 → Option (Int32 × m_M)) (hK_4 : ∀ (S : m_M) (l1 : Int32) (l2 : Int32) (H : Heap) (locs : List Loc) (ls : Array Slot), m_H G nx κ S H → m_S G s H locs → lv_has ls 3 [(0, .ref a), (1, .int l1), (2, .int l2)] → K_4 S l1 l2 = some res → W p l e rm_X12_finiteMany s m args below meth c H locs 0 0 (m_Qi below args s G nx κ res) (F0 m 4 ls [])) : ∀ (S : m_M) (l1 : Int32) (l2 : Int32) (H : Heap) (locs : List Loc) (ls : Array Slot), m_H G nx κ S H → m_S G s H locs → lv_has ls 3 [(0, .ref a), (1, .int l1), (2, .int l2)] → b_X12_finiteMany_25 a K_4 S l1 l2 = some res → W p l e rm_X12_finiteMany s m args below meth c H locs 0 0 (m_Qi below args s G nx κ res) (F0 m 25 ls []) := by
  have hx := X.1.1
  have hb := X.1.2.1
  intro S l1 l2 H locs ls hH hS hl hm
  rw [b_X12_finiteMany_25] at hm
  obtain ⟨v1, e_v1, hm⟩ := m_let_of hm
  refine lv_iinc (v := v1) (lv' := [(2, .int v1), (0, .ref a), (1, .int l1)]) hx hb dX12_finiteMany_25 hl (k := 2) rfl (by rw [← e_v1]; rfl) (by decide) rfl (fun ls hl => ?_)
  refine lv_goto (tgt := 4) hx hb dX12_finiteMany_28 (by decide) ?_
  exact hK_4 S l1 v1 _ _ _ hH hS (lv_sub hl [1, 2, 0] rfl) hm
def b_X12_finiteMany_4 (a : Nat)  : Nat → m_M → Int32 → Int32 → Option (Int32 × m_M)
  | 0, _, _, _ => none
  | n + 1, S, l1, l2 =>
    (m_ldi S (a + 2) 2647 (2 : Int32)).bind fun v1 =>
    if v1 ≤ l2 then (
    some (l1, S)) else (
    m_call (f_X12_isFinite a S l2) fun v4 S3 =>
    if v4 = 0 then (
    b_X12_finiteMany_25 a (b_X12_finiteMany_4 a n) S3 l1 l2) else (
    m_let (l1 + (1 : Int32)) fun v6 =>
    b_X12_finiteMany_25 a (b_X12_finiteMany_4 a n) S3 v6 l2))
set_option maxHeartbeats 4000000 in
set_option maxRecDepth 100000 in
theorem k_X12_finiteMany_4 {p : Program} {l : Launch} {e : Env} {s : State} {m : MethodId} {args : Array Value} {below : List Frame} {meth : Method} {c : Code} {G : m_G} {nx : Nat} {κ : Nat → Nat} {res : (Int32 × m_M)} {a : Nat} (X : m_Cx p s m args meth c cX12_finiteMany 3 RX12 G) (hr : meth.sig.returnType = (some .int)) (hT : m_Str κ) (hk_a : κ a = 13)  (n : Nat) : ∀ (S : m_M) (l1 : Int32) (l2 : Int32) (H : Heap) (locs : List Loc) (ls : Array Slot), m_H G nx κ S H → m_S G s H locs → lv_has ls 3 [(0, .ref a), (1, .int l1), (2, .int l2)] → b_X12_finiteMany_4 a n S l1 l2 = some res → W p l e rm_X12_finiteMany s m args below meth c H locs 0 0 (m_Qi below args s G nx κ res) (F0 m 4 ls []) := by
  have hx := X.1.1
  have hb := X.1.2.1
  induction n with
  | zero => intro S l1 l2 H locs ls hH hS hl hm; have hm : (none : Option (Int32 × m_M)) = some res := hm; cases hm
  | succ n ih =>
    intro S l1 l2 H locs ls hH hS hl hm
    rw [b_X12_finiteMany_4] at hm
    refine lv_iload_n hx hb dX12_finiteMany_4 rfl (lv_at hl 2 rfl) ?_
    refine lv_aload_n hx hb dX12_finiteMany_5 rfl (lv_at hl 0 rfl) ?_
    refine r_getp X hH (k := 12) (a := a) (j := 14) (b := (a + 2)) (A := 2) (B := 0) hk_a (by decide) rfl m_wi12 (by decide) in_7_33 rfl rfl rfl dX12_finiteMany_6 ?_
    refine lv_iconst (v := (2 : Int32)) hx hb dX12_finiteMany_9 (by decide) ?_
    obtain ⟨v1, h_v1, e_v1, hm⟩ := n_ldi hm
    refine n_iald X hH (n := 2647) (m_lay_at hT hk_a (by decide) (i := 2) rfl) h_v1 e_v1 dX12_finiteMany_10 ?_
    refine lv_icmp_ge (tgt := 31) hx hb dX12_finiteMany_11 (by decide) (fun c2 => ?_) (fun c2 => ?_)
    · have hm := m_ite_t hm c2
      refine lv_iload_n hx hb dX12_finiteMany_31 rfl (lv_at hl 1 rfl) ?_
      exact r_iret X hr hH hS hm dX12_finiteMany_32
    · have hm := m_ite_f hm c2
      refine lv_aload_n hx hb dX12_finiteMany_14 rfl (lv_at hl 0 rfl) ?_
      refine lv_iload_n hx hb dX12_finiteMany_15 rfl (lv_at hl 2 rfl) ?_
      obtain ⟨v4, S3, e_S3, hm⟩ := m_call_of hm
      refine n_cVi X hH hS (k := 12) (c_X12_isFinite (a := a) hT hk_a e_S3) mw_X12_isFinite in_8_77 hk_a (by decide) rfl rfl rfl ⟨rfl, rfl⟩ ⟨by decide, by decide⟩ ⟨Nat.zero_le _, Nat.zero_le _⟩ hl.1 (Nat.le_of_ble_eq_true rfl) dX12_finiteMany_16 (fun H locs hH hS => ?_)
      refine lv_if_eq (tgt := 25) hx hb dX12_finiteMany_19 (by decide) (fun c5 => ?_) (fun c5 => ?_)
      · have hm := m_ite_t hm c5
        exact k_X12_finiteMany_25 (a := a) X hr hT hk_a (b_X12_finiteMany_4 a n) ih  S3 l1 l2 _ _ _ hH hS hl hm
      · have hm := m_ite_f hm c5
        obtain ⟨v6, e_v6, hm⟩ := m_let_of hm
        refine lv_iinc (v := v6) (lv' := [(1, .int v6), (0, .ref a), (2, .int l2)]) hx hb dX12_finiteMany_22 hl (k := 1) rfl (by rw [← e_v6]; rfl) (by decide) rfl (fun ls hl => ?_)
        exact k_X12_finiteMany_25 (a := a) X hr hT hk_a (b_X12_finiteMany_4 a n) ih  S3 v6 l2 _ _ _ hH hS (lv_sub hl [1, 0, 2] rfl) hm
def f_X12_finiteMany (a : Nat) (S : m_M)  : Option (Int32 × m_M) :=
    b_X12_finiteMany_4 a m_fu S (0 : Int32) (0 : Int32)
set_option maxHeartbeats 4000000 in
set_option maxRecDepth 100000 in
theorem c_X12_finiteMany {l : Launch} {G : m_G} {nx : Nat} {κ : Nat → Nat} {a : Nat} {S : m_M}  {res : (Int32 × m_M)} (hT : m_Str κ) (hk_a : κ a = 13) (hm : f_X12_finiteMany a S = some res) : m_Ci l yX12_finiteMany cX12_finiteMany 3 (some .int) rm_X12_finiteMany G nx κ [.ref a] S res := by
  refine m_Ci.of (by decide) (Nat.le_of_ble_eq_true rfl) ?_
  intro p e s m args below meth c ls X hr hH hl
  have hx := X.1.1
  have hb := X.1.2.1
  have hS : m_S G s s.heap [] := va_S.rf
  have hl : lv_has ls 3 [(0, .ref a)] := hl
  rw [f_X12_finiteMany] at hm
  refine lv_iconst (v := (0 : Int32)) hx hb dX12_finiteMany_0 (by decide) ?_
  refine lv_istore_n (lv' := [(1, .int (0 : Int32)), (0, .ref a)]) hx hb dX12_finiteMany_1 rfl hl (by decide) rfl (fun ls hl => ?_)
  refine lv_iconst (v := (0 : Int32)) hx hb dX12_finiteMany_2 (by decide) ?_
  refine lv_istore_n (lv' := [(2, .int (0 : Int32)), (1, .int (0 : Int32)), (0, .ref a)]) hx hb dX12_finiteMany_3 rfl hl (by decide) rfl (fun ls hl => ?_)
  exact k_X12_finiteMany_4 (a := a) X hr hT hk_a  m_fu S (0 : Int32) (0 : Int32) _ _ _ hH hS (lv_sub hl [2, 1, 0] rfl) hm
def rm_X12_readFunName : Room := { frames := 3, cells := 0, slots := 0, locals := 68 }
def f_X12_readFunName (a : Nat) (S : m_M)  : Option (Int32 × m_M) :=
    m_call (f_X12_isName a S) fun v2 S1 =>
    if v2 = 0 then (
    m_call (f_X12_bad a S1 (1 : Int32)) fun v13 S12 =>
    if v13 = 0 ∨ v13 = 1 then some (v13, S12) else none) else (
    (m_ldi S1 (a + 2) 2647 (0 : Int32)).bind fun v4 =>
    m_call (f_X12_findIn (a + 7) 5 S1 (0 : Int32) v4 (m_rj S1 a 12)) fun v6 S5 =>
    m_let (m_si S5 a 13 v6) fun S7 =>
    if (m_ri S7 a 13) = (-1 : Int32) then (
    m_call (f_X12_bad a S7 (3 : Int32)) fun v11 S10 =>
    if v11 = 0 ∨ v11 = 1 then some (v11, S10) else none) else (
    m_cal0 (f_X12_go a S7) fun S9 =>
    if (1 : Int32) = 0 ∨ (1 : Int32) = 1 then some ((1 : Int32), S9) else none))
set_option maxHeartbeats 4000000 in
set_option maxRecDepth 100000 in
theorem c_X12_readFunName {l : Launch} {G : m_G} {nx : Nat} {κ : Nat → Nat} {a : Nat} {S : m_M}  {res : (Int32 × m_M)} (hT : m_Str κ) (hk_a : κ a = 13) (hm : f_X12_readFunName a S = some res) : m_Ci l yX12_readFunName cX12_readFunName 1 (some .boolean) rm_X12_readFunName G nx κ [.ref a] S res := by
  refine m_Ci.of (by decide) (Nat.le_of_ble_eq_true rfl) ?_
  intro p e s m args below meth c ls X hr hH hl
  have hx := X.1.1
  have hb := X.1.2.1
  have hS : m_S G s s.heap [] := va_S.rf
  have hl : lv_has ls 1 [(0, .ref a)] := hl
  rw [f_X12_readFunName] at hm
  refine lv_aload_n hx hb dX12_readFunName_0 rfl (lv_at hl 0 rfl) ?_
  obtain ⟨v2, S1, e_S1, hm⟩ := m_call_of hm
  refine n_cVi X hH hS (k := 12) (c_X12_isName (a := a) hT hk_a e_S1) mw_X12_isName in_7_227 hk_a (by decide) rfl rfl rfl ⟨rfl, rfl⟩ ⟨by decide, by decide⟩ ⟨Nat.zero_le _, Nat.zero_le _⟩ hl.1 (Nat.le_of_ble_eq_true rfl) dX12_readFunName_1 (fun H locs hH hS => ?_)
  refine lv_if_ne (tgt := 13) hx hb dX12_readFunName_4 (by decide) (fun c3 => ?_) (fun c3 => ?_)
  · have hm := m_ite_f hm c3
    refine lv_aload_n hx hb dX12_readFunName_13 rfl (lv_at hl 0 rfl) ?_
    refine lv_aload_n hx hb dX12_readFunName_14 rfl (lv_at hl 0 rfl) ?_
    refine r_getp X hH (k := 12) (a := a) (j := 19) (b := (a + 7)) (A := 7) (B := 0) hk_a (by decide) rfl m_wi12 (by decide) in_7_38 rfl rfl rfl dX12_readFunName_15 ?_
    refine lv_iconst (v := (0 : Int32)) hx hb dX12_readFunName_18 (by decide) ?_
    refine lv_aload_n hx hb dX12_readFunName_19 rfl (lv_at hl 0 rfl) ?_
    refine r_getp X hH (k := 12) (a := a) (j := 14) (b := (a + 2)) (A := 2) (B := 0) hk_a (by decide) rfl m_wi12 (by decide) in_7_33 rfl rfl rfl dX12_readFunName_20 ?_
    refine lv_iconst (v := (0 : Int32)) hx hb dX12_readFunName_23 (by decide) ?_
    obtain ⟨v4, h_v4, e_v4, hm⟩ := n_ldi hm
    refine n_iald X hH (n := 2647) (m_lay_at hT hk_a (by decide) (i := 2) rfl) h_v4 e_v4 dX12_readFunName_24 ?_
    refine lv_aload_n hx hb dX12_readFunName_25 rfl (lv_at hl 0 rfl) ?_
    refine r_getj X hH (k := 12) (a := a) (j := 12) hk_a (by decide) rfl m_wi12 (by decide) in_7_31 rfl rfl dX12_readFunName_26 ?_
    obtain ⟨v6, S5, e_S5, hm⟩ := m_call_of hm
    refine n_cSi X hH hS (c_X12_findIn (o0 := (a + 7)) (n0 := 5) hT (m_lay_at hT hk_a (by decide) (i := 7) rfl) e_S5) mw_X12_findIn in_7_231 rfl ⟨rfl, rfl⟩ ⟨by decide, by decide⟩ ⟨Nat.zero_le _, Nat.zero_le _⟩ hl.1 (Nat.le_of_ble_eq_true rfl) dX12_readFunName_29 (fun H locs hH hS => ?_)
    obtain ⟨S7, e_S7, hm⟩ := m_let_of hm
    refine n_puti X hH hS tyX12 (k := 12) (a := a) (j := 13) hk_a (by decide) rfl m_wi12 tyX12_ok nmX12 (by decide) in_7_32 rfl rfl rfl ⟨rfl, rfl⟩ e_S7 dX12_readFunName_32 (fun H locs hH hS => ?_)
    refine lv_aload_n hx hb dX12_readFunName_35 rfl (lv_at hl 0 rfl) ?_
    refine r_geti X hH (k := 12) (a := a) (j := 13) hk_a (by decide) rfl m_wi12 (by decide) in_7_32 rfl rfl dX12_readFunName_36 ?_
    refine lv_iconst (v := (-1 : Int32)) hx hb dX12_readFunName_39 (by decide) ?_
    refine lv_icmp_ne (tgt := 49) hx hb dX12_readFunName_40 (by decide) (fun c8 => ?_) (fun c8 => ?_)
    · have hm := m_ite_f hm c8
      refine lv_aload_n hx hb dX12_readFunName_49 rfl (lv_at hl 0 rfl) ?_
      obtain ⟨S9, e_S9, hm⟩ := m_cal0_of hm
      refine r_cVv X hH hS (k := 12) (c_X12_go (a := a) hT hk_a e_S9) mw_X12_go in_7_185 hk_a (by decide) rfl rfl rfl ⟨rfl, rfl⟩ ⟨by decide, by decide⟩ ⟨Nat.zero_le _, Nat.zero_le _⟩ hl.1 (Nat.le_of_ble_eq_true rfl) dX12_readFunName_50 (fun H locs hH hS => ?_)
      refine lv_iconst (v := (1 : Int32)) hx hb dX12_readFunName_53 (by decide) ?_
      exact r_zret X hr hH hS hm dX12_readFunName_54
    · have hm := m_ite_t hm c8
      refine lv_aload_n hx hb dX12_readFunName_43 rfl (lv_at hl 0 rfl) ?_
      refine lv_iconst (v := (3 : Int32)) hx hb dX12_readFunName_44 (by decide) ?_
      obtain ⟨v11, S10, e_S10, hm⟩ := m_call_of hm
      refine n_cVi X hH hS (k := 12) (c_X12_bad (a := a) hT hk_a e_S10) mw_X12_bad in_7_223 hk_a (by decide) rfl rfl rfl ⟨rfl, rfl⟩ ⟨by decide, by decide⟩ ⟨Nat.zero_le _, Nat.zero_le _⟩ hl.1 (Nat.le_of_ble_eq_true rfl) dX12_readFunName_45 (fun H locs hH hS => ?_)
      exact r_zret X hr hH hS hm dX12_readFunName_48
  · have hm := m_ite_t hm c3
    refine lv_aload_n hx hb dX12_readFunName_7 rfl (lv_at hl 0 rfl) ?_
    refine lv_iconst (v := (1 : Int32)) hx hb dX12_readFunName_8 (by decide) ?_
    obtain ⟨v13, S12, e_S12, hm⟩ := m_call_of hm
    refine n_cVi X hH hS (k := 12) (c_X12_bad (a := a) hT hk_a e_S12) mw_X12_bad in_7_223 hk_a (by decide) rfl rfl rfl ⟨rfl, rfl⟩ ⟨by decide, by decide⟩ ⟨Nat.zero_le _, Nat.zero_le _⟩ hl.1 (Nat.le_of_ble_eq_true rfl) dX12_readFunName_9 (fun H locs hH hS => ?_)
    exact r_zret X hr hH hS hm dX12_readFunName_12
def rm_X12_saysOne : Room := { frames := 0, cells := 0, slots := 0, locals := 0 }
def f_X12_saysOne (a : Nat) (S : m_M) (i1 : Int32) (i2 : Int32) (i3 : Int32) (i4 : Int32) : Option (Int32 × m_M) :=
    m_let ((4 : Int32) * (m_ri S a 47)) fun v1 =>
    (m_sti S (a + 29) 240 v1 i1).bind fun S2 =>
    (m_sti S2 (a + 29) 240 (v1 + (1 : Int32)) i2).bind fun S3 =>
    (m_sti S3 (a + 29) 240 (v1 + (2 : Int32)) i3).bind fun S4 =>
    (m_sti S4 (a + 29) 240 (v1 + (3 : Int32)) i4).bind fun S5 =>
    m_let (m_si S5 a 47 ((m_ri S5 a 47) + (1 : Int32))) fun S6 =>
    some (((m_ri S6 a 47) - (1 : Int32)), S6)
set_option maxHeartbeats 4000000 in
set_option maxRecDepth 100000 in
theorem c_X12_saysOne {l : Launch} {G : m_G} {nx : Nat} {κ : Nat → Nat} {a : Nat} {S : m_M} {i1 : Int32} {i2 : Int32} {i3 : Int32} {i4 : Int32} {res : (Int32 × m_M)} (hT : m_Str κ) (hk_a : κ a = 13) (hm : f_X12_saysOne a S i1 i2 i3 i4 = some res) : m_Ci l yX12_saysOne cX12_saysOne 6 (some .int) rm_X12_saysOne G nx κ [.ref a, .int i1, .int i2, .int i3, .int i4] S res := by
  refine m_Ci.of (by decide) (Nat.le_of_ble_eq_true rfl) ?_
  intro p e s m args below meth c ls X hr hH hl
  have hx := X.1.1
  have hb := X.1.2.1
  have hS : m_S G s s.heap [] := va_S.rf
  have hl : lv_has ls 6 [(0, .ref a), (1, .int i1), (2, .int i2), (3, .int i3), (4, .int i4)] := hl
  rw [f_X12_saysOne] at hm
  refine lv_iconst (v := (4 : Int32)) hx hb dX12_saysOne_0 (by decide) ?_
  refine lv_aload_n hx hb dX12_saysOne_1 rfl (lv_at hl 0 rfl) ?_
  refine r_geti X hH (k := 12) (a := a) (j := 47) hk_a (by decide) rfl m_wi12 (by decide) in_7_66 rfl rfl dX12_saysOne_2 ?_
  refine lv_imul hx hb dX12_saysOne_5 ?_
  obtain ⟨v1, e_v1, hm⟩ := m_let_of hm
  refine n_topi e_v1 ?_
  refine lv_istore (lv' := [(5, .int v1), (0, .ref a), (1, .int i1), (2, .int i2), (3, .int i3), (4, .int i4)]) hx hb dX12_saysOne_6 hl (by decide) rfl (fun ls hl => ?_)
  refine lv_aload_n hx hb dX12_saysOne_8 rfl (lv_at hl 1 rfl) ?_
  refine r_getp X hH (k := 12) (a := a) (j := 46) (b := (a + 29)) (A := 29) (B := 0) hk_a (by decide) rfl m_wi12 (by decide) in_7_65 rfl rfl rfl dX12_saysOne_9 ?_
  refine lv_iload hx hb dX12_saysOne_12 (lv_at hl 0 rfl) ?_
  refine lv_iload_n hx hb dX12_saysOne_14 rfl (lv_at hl 2 rfl) ?_
  obtain ⟨S2, h_S2, e_S2, hm⟩ := n_sti hm
  refine n_iast X hH hS (n := 240) (m_lay_at hT hk_a (by decide) (i := 29) rfl) h_S2 e_S2 dX12_saysOne_15 (fun H locs hH hS => ?_)
  refine lv_aload_n hx hb dX12_saysOne_16 rfl (lv_at hl 1 rfl) ?_
  refine r_getp X hH (k := 12) (a := a) (j := 46) (b := (a + 29)) (A := 29) (B := 0) hk_a (by decide) rfl m_wi12 (by decide) in_7_65 rfl rfl rfl dX12_saysOne_17 ?_
  refine lv_iload hx hb dX12_saysOne_20 (lv_at hl 0 rfl) ?_
  refine lv_iconst (v := (1 : Int32)) hx hb dX12_saysOne_22 (by decide) ?_
  refine lv_iadd hx hb dX12_saysOne_23 ?_
  refine lv_iload_n hx hb dX12_saysOne_24 rfl (lv_at hl 3 rfl) ?_
  obtain ⟨S3, h_S3, e_S3, hm⟩ := n_sti hm
  refine n_iast X hH hS (n := 240) (m_lay_at hT hk_a (by decide) (i := 29) rfl) h_S3 e_S3 dX12_saysOne_25 (fun H locs hH hS => ?_)
  refine lv_aload_n hx hb dX12_saysOne_26 rfl (lv_at hl 1 rfl) ?_
  refine r_getp X hH (k := 12) (a := a) (j := 46) (b := (a + 29)) (A := 29) (B := 0) hk_a (by decide) rfl m_wi12 (by decide) in_7_65 rfl rfl rfl dX12_saysOne_27 ?_
  refine lv_iload hx hb dX12_saysOne_30 (lv_at hl 0 rfl) ?_
  refine lv_iconst (v := (2 : Int32)) hx hb dX12_saysOne_32 (by decide) ?_
  refine lv_iadd hx hb dX12_saysOne_33 ?_
  refine lv_iload_n hx hb dX12_saysOne_34 rfl (lv_at hl 4 rfl) ?_
  obtain ⟨S4, h_S4, e_S4, hm⟩ := n_sti hm
  refine n_iast X hH hS (n := 240) (m_lay_at hT hk_a (by decide) (i := 29) rfl) h_S4 e_S4 dX12_saysOne_35 (fun H locs hH hS => ?_)
  refine lv_aload_n hx hb dX12_saysOne_36 rfl (lv_at hl 1 rfl) ?_
  refine r_getp X hH (k := 12) (a := a) (j := 46) (b := (a + 29)) (A := 29) (B := 0) hk_a (by decide) rfl m_wi12 (by decide) in_7_65 rfl rfl rfl dX12_saysOne_37 ?_
  refine lv_iload hx hb dX12_saysOne_40 (lv_at hl 0 rfl) ?_
  refine lv_iconst (v := (3 : Int32)) hx hb dX12_saysOne_42 (by decide) ?_
  refine lv_iadd hx hb dX12_saysOne_43 ?_
  refine lv_iload hx hb dX12_saysOne_44 (lv_at hl 5 rfl) ?_
  obtain ⟨S5, h_S5, e_S5, hm⟩ := n_sti hm
  refine n_iast X hH hS (n := 240) (m_lay_at hT hk_a (by decide) (i := 29) rfl) h_S5 e_S5 dX12_saysOne_46 (fun H locs hH hS => ?_)
  refine lv_aload_n hx hb dX12_saysOne_47 rfl (lv_at hl 1 rfl) ?_
  refine lv_dup hx hb dX12_saysOne_48 rfl ?_
  refine r_geti X hH (k := 12) (a := a) (j := 47) hk_a (by decide) rfl m_wi12 (by decide) in_7_66 rfl rfl dX12_saysOne_49 ?_
  refine lv_iconst (v := (1 : Int32)) hx hb dX12_saysOne_52 (by decide) ?_
  refine lv_iadd hx hb dX12_saysOne_53 ?_
  obtain ⟨S6, e_S6, hm⟩ := m_let_of hm
  refine n_puti X hH hS tyX12 (k := 12) (a := a) (j := 47) hk_a (by decide) rfl m_wi12 tyX12_ok nmX12 (by decide) in_7_66 rfl rfl rfl ⟨rfl, rfl⟩ e_S6 dX12_saysOne_54 (fun H locs hH hS => ?_)
  refine lv_aload_n hx hb dX12_saysOne_57 rfl (lv_at hl 1 rfl) ?_
  refine r_geti X hH (k := 12) (a := a) (j := 47) hk_a (by decide) rfl m_wi12 (by decide) in_7_66 rfl rfl dX12_saysOne_58 ?_
  refine lv_iconst (v := (1 : Int32)) hx hb dX12_saysOne_61 (by decide) ?_
  refine lv_isub hx hb dX12_saysOne_62 ?_
  exact r_iret X hr hH hS hm dX12_saysOne_63
def rm_X12_readOf : Room := { frames := 4, cells := 0, slots := 0, locals := 88 }
def f_X12_readOf (a : Nat) (S : m_M) (i1 : Int32) : Option (Int32 × m_M) :=
    m_call (f_X12_readFunName a S) fun v2 S1 =>
    if v2 = 0 then (
    if (0 : Int32) = 0 ∨ (0 : Int32) = 1 then some ((0 : Int32), S1) else none) else (
    m_call (f_X12_saysOne a S1 ((50 : Int32) + i1) (m_ri S1 a 13) (0 : Int32) (0 : Int32)) fun v5 S4 =>
    m_let (m_si S4 a 50 v5) fun S6 =>
    if (1 : Int32) = 0 ∨ (1 : Int32) = 1 then some ((1 : Int32), S6) else none)
set_option maxHeartbeats 4000000 in
set_option maxRecDepth 100000 in
theorem c_X12_readOf {l : Launch} {G : m_G} {nx : Nat} {κ : Nat → Nat} {a : Nat} {S : m_M} {i1 : Int32} {res : (Int32 × m_M)} (hT : m_Str κ) (hk_a : κ a = 13) (hm : f_X12_readOf a S i1 = some res) : m_Ci l yX12_readOf cX12_readOf 2 (some .boolean) rm_X12_readOf G nx κ [.ref a, .int i1] S res := by
  refine m_Ci.of (by decide) (Nat.le_of_ble_eq_true rfl) ?_
  intro p e s m args below meth c ls X hr hH hl
  have hx := X.1.1
  have hb := X.1.2.1
  have hS : m_S G s s.heap [] := va_S.rf
  have hl : lv_has ls 2 [(0, .ref a), (1, .int i1)] := hl
  rw [f_X12_readOf] at hm
  refine lv_aload_n hx hb dX12_readOf_0 rfl (lv_at hl 0 rfl) ?_
  obtain ⟨v2, S1, e_S1, hm⟩ := m_call_of hm
  refine n_cVi X hH hS (k := 12) (c_X12_readFunName (a := a) hT hk_a e_S1) mw_X12_readFunName in_9_97 hk_a (by decide) rfl rfl rfl ⟨rfl, rfl⟩ ⟨by decide, by decide⟩ ⟨Nat.zero_le _, Nat.zero_le _⟩ hl.1 (Nat.le_of_ble_eq_true rfl) dX12_readOf_1 (fun H locs hH hS => ?_)
  refine lv_if_ne (tgt := 9) hx hb dX12_readOf_4 (by decide) (fun c3 => ?_) (fun c3 => ?_)
  · have hm := m_ite_f hm c3
    refine lv_aload_n hx hb dX12_readOf_9 rfl (lv_at hl 0 rfl) ?_
    refine lv_aload_n hx hb dX12_readOf_10 rfl (lv_at hl 0 rfl) ?_
    refine lv_bipush (v := (50 : Int32)) hx hb dX12_readOf_11 (by decide) ?_
    refine lv_iload_n hx hb dX12_readOf_13 rfl (lv_at hl 1 rfl) ?_
    refine lv_iadd hx hb dX12_readOf_14 ?_
    refine lv_aload_n hx hb dX12_readOf_15 rfl (lv_at hl 0 rfl) ?_
    refine r_geti X hH (k := 12) (a := a) (j := 13) hk_a (by decide) rfl m_wi12 (by decide) in_7_32 rfl rfl dX12_readOf_16 ?_
    refine lv_iconst (v := (0 : Int32)) hx hb dX12_readOf_19 (by decide) ?_
    refine lv_iconst (v := (0 : Int32)) hx hb dX12_readOf_20 (by decide) ?_
    obtain ⟨v5, S4, e_S4, hm⟩ := m_call_of hm
    refine n_cVi X hH hS (k := 12) (c_X12_saysOne (a := a) hT hk_a e_S4) mw_X12_saysOne in_9_89 hk_a (by decide) rfl rfl rfl ⟨rfl, rfl⟩ ⟨by decide, by decide⟩ ⟨Nat.zero_le _, Nat.zero_le _⟩ hl.1 (Nat.le_of_ble_eq_true rfl) dX12_readOf_21 (fun H locs hH hS => ?_)
    obtain ⟨S6, e_S6, hm⟩ := m_let_of hm
    refine n_puti X hH hS tyX12 (k := 12) (a := a) (j := 50) hk_a (by decide) rfl m_wi12 tyX12_ok nmX12 (by decide) in_7_69 rfl rfl rfl ⟨rfl, rfl⟩ e_S6 dX12_readOf_24 (fun H locs hH hS => ?_)
    refine lv_iconst (v := (1 : Int32)) hx hb dX12_readOf_27 (by decide) ?_
    exact r_zret X hr hH hS hm dX12_readOf_28
  · have hm := m_ite_t hm c3
    refine lv_iconst (v := (0 : Int32)) hx hb dX12_readOf_7 (by decide) ?_
    exact r_zret X hr hH hS hm dX12_readOf_8
def rm_X12_readCompare : Room := { frames := 3, cells := 0, slots := 0, locals := 67 }
def b_X12_readCompare_33 (a : Nat)  (S : m_M) (l1 : Int32) : Option (Int32 × m_M) :=
    m_let (m_ri S a 9) fun v1 =>
    m_cal0 (f_X12_go a S) fun S2 =>
    m_call (f_X12_readNumber a S2 (0 : Int32) (999 : Int32)) fun v4 S3 =>
    if v4 = 0 then (
    if (0 : Int32) = 0 ∨ (0 : Int32) = 1 then some ((0 : Int32), S3) else none) else (
    m_call (f_X12_saysOne a S3 ((50 : Int32) + l1) (0 : Int32) (m_ri S3 a 13) v1) fun v7 S6 =>
    m_let (m_si S6 a 50 v7) fun S8 =>
    if (1 : Int32) = 0 ∨ (1 : Int32) = 1 then some ((1 : Int32), S8) else none)
set_option maxHeartbeats 4000000 in
set_option maxRecDepth 100000 in
theorem k_X12_readCompare_33 {p : Program} {l : Launch} {e : Env} {s : State} {m : MethodId} {args : Array Value} {below : List Frame} {meth : Method} {c : Code} {G : m_G} {nx : Nat} {κ : Nat → Nat} {res : (Int32 × m_M)} {a : Nat} (X : m_Cx p s m args meth c cX12_readCompare 3 RX12 G) (hr : meth.sig.returnType = (some .boolean)) (hT : m_Str κ) (hk_a : κ a = 13)  : ∀ (S : m_M) (l1 : Int32) (H : Heap) (locs : List Loc) (ls : Array Slot), m_H G nx κ S H → m_S G s H locs → lv_has ls 3 [(0, .ref a), (1, .int l1)] → b_X12_readCompare_33 a S l1 = some res → W p l e rm_X12_readCompare s m args below meth c H locs 0 0 (m_Qi below args s G nx κ res) (F0 m 33 ls []) := by
  have hx := X.1.1
  have hb := X.1.2.1
  intro S l1 H locs ls hH hS hl hm
  rw [b_X12_readCompare_33] at hm
  refine lv_aload_n hx hb dX12_readCompare_33 rfl (lv_at hl 0 rfl) ?_
  refine r_geti X hH (k := 12) (a := a) (j := 9) hk_a (by decide) rfl m_wi12 (by decide) in_7_28 rfl rfl dX12_readCompare_34 ?_
  obtain ⟨v1, e_v1, hm⟩ := m_let_of hm
  refine n_topi e_v1 ?_
  refine lv_istore_n (lv' := [(2, .int v1), (0, .ref a), (1, .int l1)]) hx hb dX12_readCompare_37 rfl hl (by decide) rfl (fun ls hl => ?_)
  refine lv_aload_n hx hb dX12_readCompare_38 rfl (lv_at hl 1 rfl) ?_
  obtain ⟨S2, e_S2, hm⟩ := m_cal0_of hm
  refine r_cVv X hH hS (k := 12) (c_X12_go (a := a) hT hk_a e_S2) mw_X12_go in_7_185 hk_a (by decide) rfl rfl rfl ⟨rfl, rfl⟩ ⟨by decide, by decide⟩ ⟨Nat.zero_le _, Nat.zero_le _⟩ hl.1 (Nat.le_of_ble_eq_true rfl) dX12_readCompare_39 (fun H locs hH hS => ?_)
  refine lv_aload_n hx hb dX12_readCompare_42 rfl (lv_at hl 1 rfl) ?_
  refine lv_iconst (v := (0 : Int32)) hx hb dX12_readCompare_43 (by decide) ?_
  refine lv_sipush (v := (999 : Int32)) hx hb dX12_readCompare_44 (by decide) ?_
  obtain ⟨v4, S3, e_S3, hm⟩ := m_call_of hm
  refine n_cVi X hH hS (k := 12) (c_X12_readNumber (a := a) hT hk_a e_S3) mw_X12_readNumber in_9_105 hk_a (by decide) rfl rfl rfl ⟨rfl, rfl⟩ ⟨by decide, by decide⟩ ⟨Nat.zero_le _, Nat.zero_le _⟩ hl.1 (Nat.le_of_ble_eq_true rfl) dX12_readCompare_47 (fun H locs hH hS => ?_)
  refine lv_if_ne (tgt := 55) hx hb dX12_readCompare_50 (by decide) (fun c5 => ?_) (fun c5 => ?_)
  · have hm := m_ite_f hm c5
    refine lv_aload_n hx hb dX12_readCompare_55 rfl (lv_at hl 1 rfl) ?_
    refine lv_aload_n hx hb dX12_readCompare_56 rfl (lv_at hl 1 rfl) ?_
    refine lv_bipush (v := (50 : Int32)) hx hb dX12_readCompare_57 (by decide) ?_
    refine lv_iload_n hx hb dX12_readCompare_59 rfl (lv_at hl 2 rfl) ?_
    refine lv_iadd hx hb dX12_readCompare_60 ?_
    refine lv_iconst (v := (0 : Int32)) hx hb dX12_readCompare_61 (by decide) ?_
    refine lv_aload_n hx hb dX12_readCompare_62 rfl (lv_at hl 1 rfl) ?_
    refine r_geti X hH (k := 12) (a := a) (j := 13) hk_a (by decide) rfl m_wi12 (by decide) in_7_32 rfl rfl dX12_readCompare_63 ?_
    refine lv_iload_n hx hb dX12_readCompare_66 rfl (lv_at hl 0 rfl) ?_
    obtain ⟨v7, S6, e_S6, hm⟩ := m_call_of hm
    refine n_cVi X hH hS (k := 12) (c_X12_saysOne (a := a) hT hk_a e_S6) mw_X12_saysOne in_9_89 hk_a (by decide) rfl rfl rfl ⟨rfl, rfl⟩ ⟨by decide, by decide⟩ ⟨Nat.zero_le _, Nat.zero_le _⟩ hl.1 (Nat.le_of_ble_eq_true rfl) dX12_readCompare_67 (fun H locs hH hS => ?_)
    obtain ⟨S8, e_S8, hm⟩ := m_let_of hm
    refine n_puti X hH hS tyX12 (k := 12) (a := a) (j := 50) hk_a (by decide) rfl m_wi12 tyX12_ok nmX12 (by decide) in_7_69 rfl rfl rfl ⟨rfl, rfl⟩ e_S8 dX12_readCompare_70 (fun H locs hH hS => ?_)
    refine lv_iconst (v := (1 : Int32)) hx hb dX12_readCompare_73 (by decide) ?_
    exact r_zret X hr hH hS hm dX12_readCompare_74
  · have hm := m_ite_t hm c5
    refine lv_iconst (v := (0 : Int32)) hx hb dX12_readCompare_53 (by decide) ?_
    exact r_zret X hr hH hS hm dX12_readCompare_54
def f_X12_readCompare (a : Nat) (S : m_M) (i1 : Int32) : Option (Int32 × m_M) :=
    m_call (f_X12_isSign a S (60 : Int32)) fun v2 S1 =>
    if v2 = 0 then (
    m_call (f_X12_isSign a S1 (61 : Int32)) fun v5 S4 =>
    if v5 = 0 then (
    m_call (f_X12_isSign a S4 (62 : Int32)) fun v8 S7 =>
    if v8 = 0 then (
    m_call (f_X12_bad a S7 (1 : Int32)) fun v11 S10 =>
    if v11 = 0 ∨ v11 = 1 then some (v11, S10) else none) else (
    b_X12_readCompare_33 a S7 i1)) else (
    b_X12_readCompare_33 a S4 i1)) else (
    b_X12_readCompare_33 a S1 i1)
set_option maxHeartbeats 4000000 in
set_option maxRecDepth 100000 in
theorem c_X12_readCompare {l : Launch} {G : m_G} {nx : Nat} {κ : Nat → Nat} {a : Nat} {S : m_M} {i1 : Int32} {res : (Int32 × m_M)} (hT : m_Str κ) (hk_a : κ a = 13) (hm : f_X12_readCompare a S i1 = some res) : m_Ci l yX12_readCompare cX12_readCompare 3 (some .boolean) rm_X12_readCompare G nx κ [.ref a, .int i1] S res := by
  refine m_Ci.of (by decide) (Nat.le_of_ble_eq_true rfl) ?_
  intro p e s m args below meth c ls X hr hH hl
  have hx := X.1.1
  have hb := X.1.2.1
  have hS : m_S G s s.heap [] := va_S.rf
  have hl : lv_has ls 3 [(0, .ref a), (1, .int i1)] := hl
  rw [f_X12_readCompare] at hm
  refine lv_aload_n hx hb dX12_readCompare_0 rfl (lv_at hl 0 rfl) ?_
  refine lv_bipush (v := (60 : Int32)) hx hb dX12_readCompare_1 (by decide) ?_
  obtain ⟨v2, S1, e_S1, hm⟩ := m_call_of hm
  refine n_cVi X hH hS (k := 12) (c_X12_isSign (a := a) hT hk_a e_S1) mw_X12_isSign in_8_30 hk_a (by decide) rfl rfl rfl ⟨rfl, rfl⟩ ⟨by decide, by decide⟩ ⟨Nat.zero_le _, Nat.zero_le _⟩ hl.1 (Nat.le_of_ble_eq_true rfl) dX12_readCompare_3 (fun H locs hH hS => ?_)
  refine lv_if_ne (tgt := 33) hx hb dX12_readCompare_6 (by decide) (fun c3 => ?_) (fun c3 => ?_)
  · have hm := m_ite_f hm c3
    exact k_X12_readCompare_33 (a := a) X hr hT hk_a   S1 i1 _ _ _ hH hS hl hm
  · have hm := m_ite_t hm c3
    refine lv_aload_n hx hb dX12_readCompare_9 rfl (lv_at hl 0 rfl) ?_
    refine lv_bipush (v := (61 : Int32)) hx hb dX12_readCompare_10 (by decide) ?_
    obtain ⟨v5, S4, e_S4, hm⟩ := m_call_of hm
    refine n_cVi X hH hS (k := 12) (c_X12_isSign (a := a) hT hk_a e_S4) mw_X12_isSign in_8_30 hk_a (by decide) rfl rfl rfl ⟨rfl, rfl⟩ ⟨by decide, by decide⟩ ⟨Nat.zero_le _, Nat.zero_le _⟩ hl.1 (Nat.le_of_ble_eq_true rfl) dX12_readCompare_12 (fun H locs hH hS => ?_)
    refine lv_if_ne (tgt := 33) hx hb dX12_readCompare_15 (by decide) (fun c6 => ?_) (fun c6 => ?_)
    · have hm := m_ite_f hm c6
      exact k_X12_readCompare_33 (a := a) X hr hT hk_a   S4 i1 _ _ _ hH hS hl hm
    · have hm := m_ite_t hm c6
      refine lv_aload_n hx hb dX12_readCompare_18 rfl (lv_at hl 0 rfl) ?_
      refine lv_bipush (v := (62 : Int32)) hx hb dX12_readCompare_19 (by decide) ?_
      obtain ⟨v8, S7, e_S7, hm⟩ := m_call_of hm
      refine n_cVi X hH hS (k := 12) (c_X12_isSign (a := a) hT hk_a e_S7) mw_X12_isSign in_8_30 hk_a (by decide) rfl rfl rfl ⟨rfl, rfl⟩ ⟨by decide, by decide⟩ ⟨Nat.zero_le _, Nat.zero_le _⟩ hl.1 (Nat.le_of_ble_eq_true rfl) dX12_readCompare_21 (fun H locs hH hS => ?_)
      refine lv_if_ne (tgt := 33) hx hb dX12_readCompare_24 (by decide) (fun c9 => ?_) (fun c9 => ?_)
      · have hm := m_ite_f hm c9
        exact k_X12_readCompare_33 (a := a) X hr hT hk_a   S7 i1 _ _ _ hH hS hl hm
      · have hm := m_ite_t hm c9
        refine lv_aload_n hx hb dX12_readCompare_27 rfl (lv_at hl 0 rfl) ?_
        refine lv_iconst (v := (1 : Int32)) hx hb dX12_readCompare_28 (by decide) ?_
        obtain ⟨v11, S10, e_S10, hm⟩ := m_call_of hm
        refine n_cVi X hH hS (k := 12) (c_X12_bad (a := a) hT hk_a e_S10) mw_X12_bad in_7_223 hk_a (by decide) rfl rfl rfl ⟨rfl, rfl⟩ ⟨by decide, by decide⟩ ⟨Nat.zero_le _, Nat.zero_le _⟩ hl.1 (Nat.le_of_ble_eq_true rfl) dX12_readCompare_29 (fun H locs hH hS => ?_)
        exact r_zret X hr hH hS hm dX12_readCompare_32
def rm_X12_image : Room := { frames := 1, cells := 0, slots := 0, locals := 22 }
def b_X12_image_51 (a : Nat)  : Nat → m_M → Int32 → Int32 → Option (Int32 × m_M)
  | 0, _, _, _ => none
  | n + 1, S, l1, l2 =>
    if (5 : Int32) ≤ l2 then (
    (m_sti S (a + 11) 2 l1 (vp_nar .boolean (1 : Int32))).bind fun S2 =>
    if (1 : Int32) = 0 ∨ (1 : Int32) = 1 then some ((1 : Int32), S2) else none) else (
    (m_ldj S (a + 7) 5 l2).bind fun v3 =>
    (m_stj S (a + 9) 10 (((5 : Int32) * l1) + l2) v3).bind fun S4 =>
    m_let (l2 + (1 : Int32)) fun v5 =>
    b_X12_image_51 a n S4 l1 v5)
set_option maxHeartbeats 4000000 in
set_option maxRecDepth 100000 in
theorem k_X12_image_51 {p : Program} {l : Launch} {e : Env} {s : State} {m : MethodId} {args : Array Value} {below : List Frame} {meth : Method} {c : Code} {G : m_G} {nx : Nat} {κ : Nat → Nat} {res : (Int32 × m_M)} {a : Nat} (X : m_Cx p s m args meth c cX12_image 3 RX12 G) (hr : meth.sig.returnType = (some .boolean)) (hT : m_Str κ) (hk_a : κ a = 13)  (n : Nat) : ∀ (S : m_M) (l1 : Int32) (l2 : Int32) (H : Heap) (locs : List Loc) (ls : Array Slot), m_H G nx κ S H → m_S G s H locs → lv_has ls 3 [(0, .ref a), (1, .int l1), (2, .int l2)] → b_X12_image_51 a n S l1 l2 = some res → W p l e rm_X12_image s m args below meth c H locs 0 0 (m_Qi below args s G nx κ res) (F0 m 51 ls []) := by
  have hx := X.1.1
  have hb := X.1.2.1
  induction n with
  | zero => intro S l1 l2 H locs ls hH hS hl hm; have hm : (none : Option (Int32 × m_M)) = some res := hm; cases hm
  | succ n ih =>
    intro S l1 l2 H locs ls hH hS hl hm
    rw [b_X12_image_51] at hm
    refine lv_iload_n hx hb dX12_image_51 rfl (lv_at hl 2 rfl) ?_
    refine lv_iconst (v := (5 : Int32)) hx hb dX12_image_52 (by decide) ?_
    refine lv_icmp_ge (tgt := 78) hx hb dX12_image_53 (by decide) (fun c1 => ?_) (fun c1 => ?_)
    · have hm := m_ite_t hm c1
      refine lv_aload_n hx hb dX12_image_78 rfl (lv_at hl 0 rfl) ?_
      refine r_getp X hH (k := 12) (a := a) (j := 23) (b := (a + 11)) (A := 11) (B := 0) hk_a (by decide) rfl m_wi12 (by decide) in_7_42 rfl rfl rfl dX12_image_79 ?_
      refine lv_iload_n hx hb dX12_image_82 rfl (lv_at hl 1 rfl) ?_
      refine lv_iconst (v := (1 : Int32)) hx hb dX12_image_83 (by decide) ?_
      obtain ⟨S2, h_S2, e_S2, hm⟩ := n_sti hm
      refine n_zast X hH hS (n := 2) (m_lay_at hT hk_a (by decide) (i := 11) rfl) h_S2 e_S2 dX12_image_84 (fun H locs hH hS => ?_)
      refine lv_iconst (v := (1 : Int32)) hx hb dX12_image_85 (by decide) ?_
      exact r_zret X hr hH hS hm dX12_image_86
    · have hm := m_ite_f hm c1
      refine lv_aload_n hx hb dX12_image_56 rfl (lv_at hl 0 rfl) ?_
      refine r_getp X hH (k := 12) (a := a) (j := 21) (b := (a + 9)) (A := 9) (B := 0) hk_a (by decide) rfl m_wi12 (by decide) in_7_40 rfl rfl rfl dX12_image_57 ?_
      refine lv_iconst (v := (5 : Int32)) hx hb dX12_image_60 (by decide) ?_
      refine lv_iload_n hx hb dX12_image_61 rfl (lv_at hl 1 rfl) ?_
      refine lv_imul hx hb dX12_image_62 ?_
      refine lv_iload_n hx hb dX12_image_63 rfl (lv_at hl 2 rfl) ?_
      refine lv_iadd hx hb dX12_image_64 ?_
      refine lv_aload_n hx hb dX12_image_65 rfl (lv_at hl 0 rfl) ?_
      refine r_getp X hH (k := 12) (a := a) (j := 19) (b := (a + 7)) (A := 7) (B := 0) hk_a (by decide) rfl m_wi12 (by decide) in_7_38 rfl rfl rfl dX12_image_66 ?_
      refine lv_iload_n hx hb dX12_image_69 rfl (lv_at hl 2 rfl) ?_
      obtain ⟨v3, h_v3, e_v3, hm⟩ := n_ldj hm
      refine n_lald X hH (n := 5) (m_lay_at hT hk_a (by decide) (i := 7) rfl) h_v3 e_v3 dX12_image_70 ?_
      obtain ⟨S4, h_S4, e_S4, hm⟩ := n_stj hm
      refine n_last X hH hS (n := 10) (m_lay_at hT hk_a (by decide) (i := 9) rfl) h_S4 e_S4 dX12_image_71 (fun H locs hH hS => ?_)
      obtain ⟨v5, e_v5, hm⟩ := m_let_of hm
      refine lv_iinc (v := v5) (lv' := [(2, .int v5), (0, .ref a), (1, .int l1)]) hx hb dX12_image_72 hl (k := 2) rfl (by rw [← e_v5]; rfl) (by decide) rfl (fun ls hl => ?_)
      refine lv_goto (tgt := 51) hx hb dX12_image_75 (by decide) ?_
      exact ih S4 l1 v5 _ _ _ hH hS (lv_sub hl [1, 2, 0] rfl) hm
def b_X12_image_18 (a : Nat)  : Nat → m_M → Int32 → Int32 → Option (Int32 × m_M)
  | 0, _, _, _ => none
  | n + 1, S, l1, l2 =>
    if (2647 : Int32) ≤ l2 then (
    b_X12_image_51 a m_fu S l1 (0 : Int32)) else (
    (m_ldi S (a + 2) 2647 l2).bind fun v2 =>
    (m_sti S (a + 4) 5294 (((2647 : Int32) * l1) + l2) v2).bind fun S3 =>
    m_let (l2 + (1 : Int32)) fun v4 =>
    b_X12_image_18 a n S3 l1 v4)
set_option maxHeartbeats 4000000 in
set_option maxRecDepth 100000 in
theorem k_X12_image_18 {p : Program} {l : Launch} {e : Env} {s : State} {m : MethodId} {args : Array Value} {below : List Frame} {meth : Method} {c : Code} {G : m_G} {nx : Nat} {κ : Nat → Nat} {res : (Int32 × m_M)} {a : Nat} (X : m_Cx p s m args meth c cX12_image 3 RX12 G) (hr : meth.sig.returnType = (some .boolean)) (hT : m_Str κ) (hk_a : κ a = 13)  (n : Nat) : ∀ (S : m_M) (l1 : Int32) (l2 : Int32) (H : Heap) (locs : List Loc) (ls : Array Slot), m_H G nx κ S H → m_S G s H locs → lv_has ls 3 [(0, .ref a), (1, .int l1), (2, .int l2)] → b_X12_image_18 a n S l1 l2 = some res → W p l e rm_X12_image s m args below meth c H locs 0 0 (m_Qi below args s G nx κ res) (F0 m 18 ls []) := by
  have hx := X.1.1
  have hb := X.1.2.1
  induction n with
  | zero => intro S l1 l2 H locs ls hH hS hl hm; have hm : (none : Option (Int32 × m_M)) = some res := hm; cases hm
  | succ n ih =>
    intro S l1 l2 H locs ls hH hS hl hm
    rw [b_X12_image_18] at hm
    refine lv_iload_n hx hb dX12_image_18 rfl (lv_at hl 2 rfl) ?_
    refine lv_sipush (v := (2647 : Int32)) hx hb dX12_image_19 (by decide) ?_
    refine lv_icmp_ge (tgt := 49) hx hb dX12_image_22 (by decide) (fun c1 => ?_) (fun c1 => ?_)
    · have hm := m_ite_t hm c1
      refine lv_iconst (v := (0 : Int32)) hx hb dX12_image_49 (by decide) ?_
      refine lv_istore_n (lv' := [(2, .int (0 : Int32)), (0, .ref a), (1, .int l1)]) hx hb dX12_image_50 rfl hl (by decide) rfl (fun ls hl => ?_)
      exact k_X12_image_51 (a := a) X hr hT hk_a  m_fu S l1 (0 : Int32) _ _ _ hH hS (lv_sub hl [1, 2, 0] rfl) hm
    · have hm := m_ite_f hm c1
      refine lv_aload_n hx hb dX12_image_25 rfl (lv_at hl 0 rfl) ?_
      refine r_getp X hH (k := 12) (a := a) (j := 16) (b := (a + 4)) (A := 4) (B := 0) hk_a (by decide) rfl m_wi12 (by decide) in_7_35 rfl rfl rfl dX12_image_26 ?_
      refine lv_sipush (v := (2647 : Int32)) hx hb dX12_image_29 (by decide) ?_
      refine lv_iload_n hx hb dX12_image_32 rfl (lv_at hl 1 rfl) ?_
      refine lv_imul hx hb dX12_image_33 ?_
      refine lv_iload_n hx hb dX12_image_34 rfl (lv_at hl 2 rfl) ?_
      refine lv_iadd hx hb dX12_image_35 ?_
      refine lv_aload_n hx hb dX12_image_36 rfl (lv_at hl 0 rfl) ?_
      refine r_getp X hH (k := 12) (a := a) (j := 14) (b := (a + 2)) (A := 2) (B := 0) hk_a (by decide) rfl m_wi12 (by decide) in_7_33 rfl rfl rfl dX12_image_37 ?_
      refine lv_iload_n hx hb dX12_image_40 rfl (lv_at hl 2 rfl) ?_
      obtain ⟨v2, h_v2, e_v2, hm⟩ := n_ldi hm
      refine n_iald X hH (n := 2647) (m_lay_at hT hk_a (by decide) (i := 2) rfl) h_v2 e_v2 dX12_image_41 ?_
      obtain ⟨S3, h_S3, e_S3, hm⟩ := n_sti hm
      refine n_iast X hH hS (n := 5294) (m_lay_at hT hk_a (by decide) (i := 4) rfl) h_S3 e_S3 dX12_image_42 (fun H locs hH hS => ?_)
      obtain ⟨v4, e_v4, hm⟩ := m_let_of hm
      refine lv_iinc (v := v4) (lv' := [(2, .int v4), (0, .ref a), (1, .int l1)]) hx hb dX12_image_43 hl (k := 2) rfl (by rw [← e_v4]; rfl) (by decide) rfl (fun ls hl => ?_)
      refine lv_goto (tgt := 18) hx hb dX12_image_46 (by decide) ?_
      exact ih S3 l1 v4 _ _ _ hH hS (lv_sub hl [1, 2, 0] rfl) hm
def f_X12_image (a : Nat) (S : m_M) (i1 : Int32) : Option (Int32 × m_M) :=
    m_let (m_si S a 0 (0 : Int32)) fun S1 =>
    m_call (f_X12_isIn S1 i1 (0 : Int32) (1 : Int32)) fun v3 S2 =>
    if v3 = 0 then (
    if (0 : Int32) = 0 ∨ (0 : Int32) = 1 then some ((0 : Int32), S2) else none) else (
    b_X12_image_18 a m_fu S2 i1 (0 : Int32))
set_option maxHeartbeats 4000000 in
set_option maxRecDepth 100000 in
theorem c_X12_image {l : Launch} {G : m_G} {nx : Nat} {κ : Nat → Nat} {a : Nat} {S : m_M} {i1 : Int32} {res : (Int32 × m_M)} (hT : m_Str κ) (hk_a : κ a = 13) (hm : f_X12_image a S i1 = some res) : m_Ci l yX12_image cX12_image 3 (some .boolean) rm_X12_image G nx κ [.ref a, .int i1] S res := by
  refine m_Ci.of (by decide) (Nat.le_of_ble_eq_true rfl) ?_
  intro p e s m args below meth c ls X hr hH hl
  have hx := X.1.1
  have hb := X.1.2.1
  have hS : m_S G s s.heap [] := va_S.rf
  have hl : lv_has ls 3 [(0, .ref a), (1, .int i1)] := hl
  rw [f_X12_image] at hm
  refine lv_aload_n hx hb dX12_image_0 rfl (lv_at hl 0 rfl) ?_
  refine lv_iconst (v := (0 : Int32)) hx hb dX12_image_1 (by decide) ?_
  obtain ⟨S1, e_S1, hm⟩ := m_let_of hm
  refine n_puti X hH hS tyX12 (k := 12) (a := a) (j := 0) hk_a (by decide) rfl m_wi12 tyX12_ok nmX12 (by decide) in_7_19 rfl rfl rfl ⟨rfl, rfl⟩ e_S1 dX12_image_2 (fun H locs hH hS => ?_)
  refine lv_iload_n hx hb dX12_image_5 rfl (lv_at hl 1 rfl) ?_
  refine lv_iconst (v := (0 : Int32)) hx hb dX12_image_6 (by decide) ?_
  refine lv_iconst (v := (1 : Int32)) hx hb dX12_image_7 (by decide) ?_
  obtain ⟨v3, S2, e_S2, hm⟩ := m_call_of hm
  refine n_cSi X hH hS (c_X12_isIn  hT  e_S2) mw_X12_isIn in_8_46 rfl ⟨rfl, rfl⟩ ⟨by decide, by decide⟩ ⟨Nat.zero_le _, Nat.zero_le _⟩ hl.1 (Nat.le_of_ble_eq_true rfl) dX12_image_8 (fun H locs hH hS => ?_)
  refine lv_if_ne (tgt := 16) hx hb dX12_image_11 (by decide) (fun c4 => ?_) (fun c4 => ?_)
  · have hm := m_ite_f hm c4
    refine lv_iconst (v := (0 : Int32)) hx hb dX12_image_16 (by decide) ?_
    refine lv_istore_n (lv' := [(2, .int (0 : Int32)), (0, .ref a), (1, .int i1)]) hx hb dX12_image_17 rfl hl (by decide) rfl (fun ls hl => ?_)
    exact k_X12_image_18 (a := a) X hr hT hk_a  m_fu S2 i1 (0 : Int32) _ _ _ hH hS (lv_sub hl [1, 2, 0] rfl) hm
  · have hm := m_ite_t hm c4
    refine lv_iconst (v := (0 : Int32)) hx hb dX12_image_14 (by decide) ?_
    exact r_zret X hr hH hS hm dX12_image_15
def rm_X12_count : Room := { frames := 4, cells := 0, slots := 0, locals := 87 }
def f_X12_count (a : Nat) (S : m_M) (i1 : Int32) : Option (Int32 × m_M) :=
    m_let (m_si S a 0 (0 : Int32)) fun S1 =>
    if i1 = (0 : Int32) then (
    (m_ldi S1 (a + 2) 2647 (0 : Int32)).bind fun v3 =>
    some (v3, S1)) else (
    if i1 = (1 : Int32) then (
    (m_ldi S1 (a + 2) 2647 (1 : Int32)).bind fun v5 =>
    some (v5, S1)) else (
    if i1 = (2 : Int32) then (
    (m_ldi S1 (a + 2) 2647 (2 : Int32)).bind fun v7 =>
    some (v7, S1)) else (
    if i1 = (3 : Int32) then (
    m_call (f_X12_finiteMany a S1) fun v10 S9 =>
    some (v10, S9)) else (
    if i1 = (4 : Int32) then (
    some ((m_ri S1 a 2), S1)) else (
    some ((-1 : Int32), S1))))))
set_option maxHeartbeats 4000000 in
set_option maxRecDepth 100000 in
theorem c_X12_count {l : Launch} {G : m_G} {nx : Nat} {κ : Nat → Nat} {a : Nat} {S : m_M} {i1 : Int32} {res : (Int32 × m_M)} (hT : m_Str κ) (hk_a : κ a = 13) (hm : f_X12_count a S i1 = some res) : m_Ci l yX12_count cX12_count 2 (some .int) rm_X12_count G nx κ [.ref a, .int i1] S res := by
  refine m_Ci.of (by decide) (Nat.le_of_ble_eq_true rfl) ?_
  intro p e s m args below meth c ls X hr hH hl
  have hx := X.1.1
  have hb := X.1.2.1
  have hS : m_S G s s.heap [] := va_S.rf
  have hl : lv_has ls 2 [(0, .ref a), (1, .int i1)] := hl
  rw [f_X12_count] at hm
  refine lv_aload_n hx hb dX12_count_0 rfl (lv_at hl 0 rfl) ?_
  refine lv_iconst (v := (0 : Int32)) hx hb dX12_count_1 (by decide) ?_
  obtain ⟨S1, e_S1, hm⟩ := m_let_of hm
  refine n_puti X hH hS tyX12 (k := 12) (a := a) (j := 0) hk_a (by decide) rfl m_wi12 tyX12_ok nmX12 (by decide) in_7_19 rfl rfl rfl ⟨rfl, rfl⟩ e_S1 dX12_count_2 (fun H locs hH hS => ?_)
  refine lv_iload_n hx hb dX12_count_5 rfl (lv_at hl 1 rfl) ?_
  by_cases c2 : i1 = (0 : Int32)
  · have hm := m_ite_t hm c2
    refine lv_tableIn (off := 34) (tgt := 40) hx hb dX12_count_6 (by rw [c2]; decide) (by rw [c2]; decide) (by rw [c2]; rfl) (by decide) ?_
    refine lv_aload_n hx hb dX12_count_40 rfl (lv_at hl 0 rfl) ?_
    refine r_getp X hH (k := 12) (a := a) (j := 14) (b := (a + 2)) (A := 2) (B := 0) hk_a (by decide) rfl m_wi12 (by decide) in_7_33 rfl rfl rfl dX12_count_41 ?_
    refine lv_iconst (v := (0 : Int32)) hx hb dX12_count_44 (by decide) ?_
    obtain ⟨v3, h_v3, e_v3, hm⟩ := n_ldi hm
    refine n_iald X hH (n := 2647) (m_lay_at hT hk_a (by decide) (i := 2) rfl) h_v3 e_v3 dX12_count_45 ?_
    exact r_iret X hr hH hS hm dX12_count_46
  · have hm := m_ite_f hm c2
    by_cases c4 : i1 = (1 : Int32)
    · have hm := m_ite_t hm c4
      refine lv_tableIn (off := 41) (tgt := 47) hx hb dX12_count_6 (by rw [c4]; decide) (by rw [c4]; decide) (by rw [c4]; rfl) (by decide) ?_
      refine lv_aload_n hx hb dX12_count_47 rfl (lv_at hl 0 rfl) ?_
      refine r_getp X hH (k := 12) (a := a) (j := 14) (b := (a + 2)) (A := 2) (B := 0) hk_a (by decide) rfl m_wi12 (by decide) in_7_33 rfl rfl rfl dX12_count_48 ?_
      refine lv_iconst (v := (1 : Int32)) hx hb dX12_count_51 (by decide) ?_
      obtain ⟨v5, h_v5, e_v5, hm⟩ := n_ldi hm
      refine n_iald X hH (n := 2647) (m_lay_at hT hk_a (by decide) (i := 2) rfl) h_v5 e_v5 dX12_count_52 ?_
      exact r_iret X hr hH hS hm dX12_count_53
    · have hm := m_ite_f hm c4
      by_cases c6 : i1 = (2 : Int32)
      · have hm := m_ite_t hm c6
        refine lv_tableIn (off := 48) (tgt := 54) hx hb dX12_count_6 (by rw [c6]; decide) (by rw [c6]; decide) (by rw [c6]; rfl) (by decide) ?_
        refine lv_aload_n hx hb dX12_count_54 rfl (lv_at hl 0 rfl) ?_
        refine r_getp X hH (k := 12) (a := a) (j := 14) (b := (a + 2)) (A := 2) (B := 0) hk_a (by decide) rfl m_wi12 (by decide) in_7_33 rfl rfl rfl dX12_count_55 ?_
        refine lv_iconst (v := (2 : Int32)) hx hb dX12_count_58 (by decide) ?_
        obtain ⟨v7, h_v7, e_v7, hm⟩ := n_ldi hm
        refine n_iald X hH (n := 2647) (m_lay_at hT hk_a (by decide) (i := 2) rfl) h_v7 e_v7 dX12_count_59 ?_
        exact r_iret X hr hH hS hm dX12_count_60
      · have hm := m_ite_f hm c6
        by_cases c8 : i1 = (3 : Int32)
        · have hm := m_ite_t hm c8
          refine lv_tableIn (off := 55) (tgt := 61) hx hb dX12_count_6 (by rw [c8]; decide) (by rw [c8]; decide) (by rw [c8]; rfl) (by decide) ?_
          refine lv_aload_n hx hb dX12_count_61 rfl (lv_at hl 0 rfl) ?_
          obtain ⟨v10, S9, e_S9, hm⟩ := m_call_of hm
          refine n_cVi X hH hS (k := 12) (c_X12_finiteMany (a := a) hT hk_a e_S9) mw_X12_finiteMany in_9_129 hk_a (by decide) rfl rfl rfl ⟨rfl, rfl⟩ ⟨by decide, by decide⟩ ⟨Nat.zero_le _, Nat.zero_le _⟩ hl.1 (Nat.le_of_ble_eq_true rfl) dX12_count_62 (fun H locs hH hS => ?_)
          exact r_iret X hr hH hS hm dX12_count_65
        · have hm := m_ite_f hm c8
          by_cases c11 : i1 = (4 : Int32)
          · have hm := m_ite_t hm c11
            refine lv_tableIn (off := 60) (tgt := 66) hx hb dX12_count_6 (by rw [c11]; decide) (by rw [c11]; decide) (by rw [c11]; rfl) (by decide) ?_
            refine lv_aload_n hx hb dX12_count_66 rfl (lv_at hl 0 rfl) ?_
            refine r_geti X hH (k := 12) (a := a) (j := 2) hk_a (by decide) rfl m_wi12 (by decide) in_7_21 rfl rfl dX12_count_67 ?_
            exact r_iret X hr hH hS hm dX12_count_70
          · have hm := m_ite_f hm c11
            refine lv_tableOut (tgt := 71) hx hb dX12_count_6 (by have h_c2 := lv_neT (a := 0) c2 rfl; have h_c4 := lv_neT (a := 1) c4 rfl; have h_c6 := lv_neT (a := 2) c6 rfl; have h_c8 := lv_neT (a := 3) c8 rfl; have h_c11 := lv_neT (a := 4) c11 rfl; omega) (by decide) ?_
            refine lv_iconst (v := (-1 : Int32)) hx hb dX12_count_71 (by decide) ?_
            exact r_iret X hr hH hS hm dX12_count_72
