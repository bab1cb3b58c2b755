def rm_X12_frees : Room := { frames := 2, cells := 0, slots := 0, locals := 46 }
def b_X12_frees_99 (a : Nat) (K_8 : m_M → Int32 → Int32 → Int32 → Option m_M) (K_57 : m_M → Int32 → Int32 → Int32 → Int32 → Option m_M) (S : m_M) (l1 : Int32) (l2 : Int32) (l3 : Int32) (l4 : Int32) : Option m_M :=
    m_let (l4 + (1 : Int32)) fun v1 =>
    K_57 S l1 l2 l3 v1
set_option maxHeartbeats 4000000 in
set_option maxRecDepth 100000 in
theorem k_X12_frees_99 {p : Program} {l : Launch} {e : Env} {s : State} {m : MethodId} {args : Array Value} {below : List Frame} {meth : Method} {c : Code} {G : m_G} {nx : Nat} {κ : Nat → Nat} {res : m_M} {a : Nat} (X : m_Cx p s m args meth c cX12_frees 5 RX12 G) (hr : meth.sig.returnType = none) (hT : m_Str κ) (hk_a : κ a = 13) (K_8 : m_M → Int32 → Int32 → Int32 → Option m_M) (hK_8 : ∀ (S : m_M) (l1 : Int32) (l2 : Int32) (l3 : Int32) (H : Heap) (locs : List Loc) (ls : Array Slot), m_H G nx κ S H → m_S G s H locs → lv_has ls 5 [(0, .ref a), (1, .int l1), (2, .int l2), (3, .int l3)] → K_8 S l1 l2 l3 = some res → W p l e rm_X12_frees s m args below meth c H locs 0 0 (m_Qv below args s G nx κ res) (F0 m 8 ls [])) (K_57 : m_M → Int32 → Int32 → Int32 → Int32 → Option m_M) (hK_57 : ∀ (S : m_M) (l1 : Int32) (l2 : Int32) (l3 : Int32) (l4 : Int32) (H : Heap) (locs : List Loc) (ls : Array Slot), m_H G nx κ S H → m_S G s H locs → lv_has ls 5 [(0, .ref a), (1, .int l1), (2, .int l2), (3, .int l3), (4, .int l4)] → K_57 S l1 l2 l3 l4 = some res → W p l e rm_X12_frees s m args below meth c H locs 0 0 (m_Qv below args s G nx κ res) (F0 m 57 ls [])) : ∀ (S : m_M) (l1 : Int32) (l2 : Int32) (l3 : Int32) (l4 : Int32) (H : Heap) (locs : List Loc) (ls : Array Slot), m_H G nx κ S H → m_S G s H locs → lv_has ls 5 [(0, .ref a), (1, .int l1), (2, .int l2), (3, .int l3), (4, .int l4)] → b_X12_frees_99 a K_8 K_57 S l1 l2 l3 l4 = some res → W p l e rm_X12_frees s m args below meth c H locs 0 0 (m_Qv below args s G nx κ res) (F0 m 99 ls []) := by
  have hx := X.1.1
  have hb := X.1.2.1
  intro S l1 l2 l3 l4 H locs ls hH hS hl hm
  rw [b_X12_frees_99] at hm
  obtain ⟨v1, e_v1, hm⟩ := m_let_of hm
  refine lv_iinc (v := v1) (lv' := [(4, .int v1), (0, .ref a), (1, .int l1), (2, .int l2), (3, .int l3)]) hx hb dX12_frees_99 hl (k := 4) rfl (by rw [← e_v1]; rfl) (by decide) rfl (fun ls hl => ?_)
  refine lv_goto (tgt := 57) hx hb dX12_frees_102 (by decide) ?_
  exact hK_57 S l1 l2 l3 v1 _ _ _ hH hS (lv_sub hl [1, 2, 3, 4, 0] rfl) hm
def b_X12_frees_105 (a : Nat) (K_8 : m_M → Int32 → Int32 → Int32 → Option m_M) (S : m_M) (l1 : Int32) (l2 : Int32) (l3 : Int32) : Option m_M :=
    m_let (l3 + (1 : Int32)) fun v1 =>
    K_8 S l1 l2 v1
set_option maxHeartbeats 4000000 in
set_option maxRecDepth 100000 in
theorem k_X12_frees_105 {p : Program} {l : Launch} {e : Env} {s : State} {m : MethodId} {args : Array Value} {below : List Frame} {meth : Method} {c : Code} {G : m_G} {nx : Nat} {κ : Nat → Nat} {res : m_M} {a : Nat} (X : m_Cx p s m args meth c cX12_frees 5 RX12 G) (hr : meth.sig.returnType = none) (hT : m_Str κ) (hk_a : κ a = 13) (K_8 : m_M → Int32 → Int32 → Int32 → Option m_M) (hK_8 : ∀ (S : m_M) (l1 : Int32) (l2 : Int32) (l3 : Int32) (H : Heap) (locs : List Loc) (ls : Array Slot), m_H G nx κ S H → m_S G s H locs → lv_has ls 5 [(0, .ref a), (1, .int l1), (2, .int l2), (3, .int l3)] → K_8 S l1 l2 l3 = some res → W p l e rm_X12_frees s m args below meth c H locs 0 0 (m_Qv below args s G nx κ res) (F0 m 8 ls [])) : ∀ (S : m_M) (l1 : Int32) (l2 : Int32) (l3 : Int32) (H : Heap) (locs : List Loc) (ls : Array Slot), m_H G nx κ S H → m_S G s H locs → lv_has ls 5 [(0, .ref a), (1, .int l1), (2, .int l2), (3, .int l3)] → b_X12_frees_105 a K_8 S l1 l2 l3 = some res → W p l e rm_X12_frees s m args below meth c H locs 0 0 (m_Qv below args s G nx κ res) (F0 m 105 ls []) := by
  have hx := X.1.1
  have hb := X.1.2.1
  intro S l1 l2 l3 H locs ls hH hS hl hm
  rw [b_X12_frees_105] at hm
  obtain ⟨v1, e_v1, hm⟩ := m_let_of hm
  refine lv_iinc (v := v1) (lv' := [(3, .int v1), (0, .ref a), (1, .int l1), (2, .int l2)]) hx hb dX12_frees_105 hl (k := 3) rfl (by rw [← e_v1]; rfl) (by decide) rfl (fun ls hl => ?_)
  refine lv_goto (tgt := 8) hx hb dX12_frees_108 (by decide) ?_
  exact hK_8 S l1 l2 v1 _ _ _ hH hS (lv_sub hl [1, 2, 3, 0] rfl) hm
def b_X12_frees_57 (a : Nat) (K_8 : m_M → Int32 → Int32 → Int32 → Option m_M) : Nat → m_M → Int32 → Int32 → Int32 → Int32 → Option m_M
  | 0, _, _, _, _, _ => none
  | n + 1, S, l1, l2, l3, l4 =>
    m_call (f_X12_varsOf a (a + 2) 2647 S l2) fun v2 S1 =>
    if v2 ≤ l4 then (
    b_X12_frees_105 a K_8 S1 l1 l2 l3) else (
    m_call (f_X12_node a S1 l2 l4) fun v5 S4 =>
    (m_ldi S4 (a + 16) 135 v5).bind fun v6 =>
    m_call (f_X12_has S4 v6 l3) fun v8 S7 =>
    if v8 = 0 then (
    b_X12_frees_99 a K_8 (b_X12_frees_57 a K_8 n) S7 l1 l2 l3 l4) else (
    m_cal0 (f_X12_setVar a S7 l1 l4 (0 : Int32) (0 : Int32)) fun S10 =>
    b_X12_frees_99 a K_8 (b_X12_frees_57 a K_8 n) S10 l1 l2 l3 l4))
set_option maxHeartbeats 4000000 in
set_option maxRecDepth 100000 in
theorem k_X12_frees_57 {p : Program} {l : Launch} {e : Env} {s : State} {m : MethodId} {args : Array Value} {below : List Frame} {meth : Method} {c : Code} {G : m_G} {nx : Nat} {κ : Nat → Nat} {res : m_M} {a : Nat} (X : m_Cx p s m args meth c cX12_frees 5 RX12 G) (hr : meth.sig.returnType = none) (hT : m_Str κ) (hk_a : κ a = 13) (K_8 : m_M → Int32 → Int32 → Int32 → Option m_M) (hK_8 : ∀ (S : m_M) (l1 : Int32) (l2 : Int32) (l3 : Int32) (H : Heap) (locs : List Loc) (ls : Array Slot), m_H G nx κ S H → m_S G s H locs → lv_has ls 5 [(0, .ref a), (1, .int l1), (2, .int l2), (3, .int l3)] → K_8 S l1 l2 l3 = some res → W p l e rm_X12_frees s m args below meth c H locs 0 0 (m_Qv below args s G nx κ res) (F0 m 8 ls [])) (n : Nat) : ∀ (S : m_M) (l1 : Int32) (l2 : Int32) (l3 : Int32) (l4 : Int32) (H : Heap) (locs : List Loc) (ls : Array Slot), m_H G nx κ S H → m_S G s H locs → lv_has ls 5 [(0, .ref a), (1, .int l1), (2, .int l2), (3, .int l3), (4, .int l4)] → b_X12_frees_57 a K_8 n S l1 l2 l3 l4 = some res → W p l e rm_X12_frees s m args below meth c H locs 0 0 (m_Qv below args s G nx κ res) (F0 m 57 ls []) := by
  have hx := X.1.1
  have hb := X.1.2.1
  induction n with
  | zero => intro S l1 l2 l3 l4 H locs ls hH hS hl hm; have hm : (none : Option m_M) = some res := hm; cases hm
  | succ n ih =>
    intro S l1 l2 l3 l4 H locs ls hH hS hl hm
    rw [b_X12_frees_57] at hm
    refine lv_iload hx hb dX12_frees_57 (lv_at hl 4 rfl) ?_
    refine lv_aload_n hx hb dX12_frees_59 rfl (lv_at hl 0 rfl) ?_
    refine lv_aload_n hx hb dX12_frees_60 rfl (lv_at hl 0 rfl) ?_
    refine r_getp X hH (k := 12) (a := a) (j := 14) (b := (a + 2)) (A := 2) (B := 0) hk_a (by decide) rfl m_wi12 (by decide) in_7_29 rfl rfl rfl dX12_frees_61 ?_
    refine lv_iload_n hx hb dX12_frees_64 rfl (lv_at hl 2 rfl) ?_
    obtain ⟨v2, S1, e_S1, hm⟩ := m_call_of hm
    refine n_cVi X hH hS (k := 12) (c_X12_varsOf (a := a) (o1 := (a + 2)) (n1 := 2647) hT hk_a (m_lay_at hT hk_a (by decide) (i := 2) rfl) e_S1) mw_X12_varsOf in_6_224 hk_a (by decide) rfl rfl rfl ⟨rfl, rfl⟩ ⟨Nat.le_of_ble_eq_true rfl, Nat.le_of_ble_eq_true rfl⟩ ⟨Nat.zero_le _, Nat.zero_le _⟩ hl.1 (Nat.le_of_ble_eq_true rfl) dX12_frees_65 (fun H locs hH hS => ?_)
    refine lv_icmp_ge (tgt := 105) hx hb dX12_frees_68 (by decide) (fun c3 => ?_) (fun c3 => ?_)
    · have hm := m_ite_t hm c3
      exact k_X12_frees_105 (a := a) X hr hT hk_a K_8 hK_8  S1 l1 l2 l3 _ _ _ hH hS (lv_sub hl [0, 1, 2, 3] rfl) hm
    · have hm := m_ite_f hm c3
      refine lv_aload_n hx hb dX12_frees_71 rfl (lv_at hl 0 rfl) ?_
      refine r_getp X hH (k := 12) (a := a) (j := 29) (b := (a + 16)) (A := 16) (B := 0) hk_a (by decide) rfl m_wi12 (by decide) in_7_44 rfl rfl rfl dX12_frees_72 ?_
      refine lv_aload_n hx hb dX12_frees_75 rfl (lv_at hl 0 rfl) ?_
      refine lv_iload_n hx hb dX12_frees_76 rfl (lv_at hl 2 rfl) ?_
      refine lv_iload hx hb dX12_frees_77 (lv_at hl 4 rfl) ?_
      obtain ⟨v5, S4, e_S4, hm⟩ := m_call_of hm
      refine n_cVi X hH hS (k := 12) (c_X12_node (a := a) hT hk_a e_S4) mw_X12_node in_6_200 hk_a (by decide) rfl rfl rfl ⟨rfl, rfl⟩ ⟨Nat.le_of_ble_eq_true rfl, Nat.le_of_ble_eq_true rfl⟩ ⟨Nat.zero_le _, Nat.zero_le _⟩ hl.1 (Nat.le_of_ble_eq_true rfl) dX12_frees_79 (fun H locs hH hS => ?_)
      obtain ⟨v6, h_v6, e_v6, hm⟩ := n_ldi hm
      refine n_iald X hH (n := 135) (m_lay_at hT hk_a (by decide) (i := 16) rfl) h_v6 e_v6 dX12_frees_82 ?_
      refine lv_iload_n hx hb dX12_frees_83 rfl (lv_at hl 3 rfl) ?_
      obtain ⟨v8, S7, e_S7, hm⟩ := m_call_of hm
      refine n_cSi X hH hS (c_X12_has  hT  e_S7) mw_X12_has in_7_0 rfl ⟨rfl, rfl⟩ ⟨Nat.le_of_ble_eq_true rfl, Nat.le_of_ble_eq_true rfl⟩ ⟨Nat.zero_le _, Nat.zero_le _⟩ hl.1 (Nat.le_of_ble_eq_true rfl) dX12_frees_84 (fun H locs hH hS => ?_)
      refine lv_if_eq (tgt := 99) hx hb dX12_frees_87 (by decide) (fun c9 => ?_) (fun c9 => ?_)
      · have hm := m_ite_t hm c9
        exact k_X12_frees_99 (a := a) X hr hT hk_a K_8 hK_8 (b_X12_frees_57 a K_8 n) ih  S7 l1 l2 l3 l4 _ _ _ hH hS hl hm
      · have hm := m_ite_f hm c9
        refine lv_aload_n hx hb dX12_frees_90 rfl (lv_at hl 0 rfl) ?_
        refine lv_iload_n hx hb dX12_frees_91 rfl (lv_at hl 1 rfl) ?_
        refine lv_iload hx hb dX12_frees_92 (lv_at hl 4 rfl) ?_
        refine lv_iconst (v := (0 : Int32)) hx hb dX12_frees_94 (by decide) ?_
        refine lv_iconst (v := (0 : Int32)) hx hb dX12_frees_95 (by decide) ?_
        obtain ⟨S10, e_S10, hm⟩ := m_cal0_of hm
        refine r_cVv X hH hS (k := 12) (c_X12_setVar (a := a) hT hk_a e_S10) mw_X12_setVar in_8_136 hk_a (by decide) rfl rfl rfl ⟨rfl, rfl⟩ ⟨Nat.le_of_ble_eq_true rfl, Nat.le_of_ble_eq_true rfl⟩ ⟨Nat.zero_le _, Nat.zero_le _⟩ hl.1 (Nat.le_of_ble_eq_true rfl) dX12_frees_96 (fun H locs hH hS => ?_)
        exact k_X12_frees_99 (a := a) X hr hT hk_a K_8 hK_8 (b_X12_frees_57 a K_8 n) ih  S10 l1 l2 l3 l4 _ _ _ hH hS hl hm
def b_X12_frees_8 (a : Nat)  : Nat → m_M → Int32 → Int32 → Int32 → Option m_M
  | 0, _, _, _, _ => none
  | n + 1, S, l1, l2, l3 =>
    (m_ldi S (a + 2) 2647 (2 : Int32)).bind fun v1 =>
    if v1 ≤ l3 then (
    some S) else (
    (m_ldi S (a + 21) 120 (((24 : Int32) * l2) + l3)).bind fun v3 =>
    (m_ldi S (a + 2) 2647 ((233 : Int32) + l1)).bind fun v4 =>
    if v3 = v4 then (
    m_call (f_X12_latestRoom a S l3) fun v7 S6 =>
    m_cal0 (f_X12_freeRoom a S6 v7) fun S8 =>
    b_X12_frees_57 a (b_X12_frees_8 a n) m_fu S8 l1 l2 l3 (0 : Int32)) else (
    b_X12_frees_105 a (b_X12_frees_8 a n) S l1 l2 l3))
set_option maxHeartbeats 4000000 in
set_option maxRecDepth 100000 in
theorem k_X12_frees_8 {p : Program} {l : Launch} {e : Env} {s : State} {m : MethodId} {args : Array Value} {below : List Frame} {meth : Method} {c : Code} {G : m_G} {nx : Nat} {κ : Nat → Nat} {res : m_M} {a : Nat} (X : m_Cx p s m args meth c cX12_frees 5 RX12 G) (hr : meth.sig.returnType = none) (hT : m_Str κ) (hk_a : κ a = 13)  (n : Nat) : ∀ (S : m_M) (l1 : Int32) (l2 : Int32) (l3 : Int32) (H : Heap) (locs : List Loc) (ls : Array Slot), m_H G nx κ S H → m_S G s H locs → lv_has ls 5 [(0, .ref a), (1, .int l1), (2, .int l2), (3, .int l3)] → b_X12_frees_8 a n S l1 l2 l3 = some res → W p l e rm_X12_frees s m args below meth c H locs 0 0 (m_Qv below args s G nx κ res) (F0 m 8 ls []) := by
  have hx := X.1.1
  have hb := X.1.2.1
  induction n with
  | zero => intro S l1 l2 l3 H locs ls hH hS hl hm; have hm : (none : Option m_M) = some res := hm; cases hm
  | succ n ih =>
    intro S l1 l2 l3 H locs ls hH hS hl hm
    rw [b_X12_frees_8] at hm
    refine lv_iload_n hx hb dX12_frees_8 rfl (lv_at hl 3 rfl) ?_
    refine lv_aload_n hx hb dX12_frees_9 rfl (lv_at hl 0 rfl) ?_
    refine r_getp X hH (k := 12) (a := a) (j := 14) (b := (a + 2)) (A := 2) (B := 0) hk_a (by decide) rfl m_wi12 (by decide) in_7_29 rfl rfl rfl dX12_frees_10 ?_
    refine lv_iconst (v := (2 : Int32)) hx hb dX12_frees_13 (by decide) ?_
    obtain ⟨v1, h_v1, e_v1, hm⟩ := n_ldi hm
    refine n_iald X hH (n := 2647) (m_lay_at hT hk_a (by decide) (i := 2) rfl) h_v1 e_v1 dX12_frees_14 ?_
    refine lv_icmp_ge (tgt := 111) hx hb dX12_frees_15 (by decide) (fun c2 => ?_) (fun c2 => ?_)
    · have hm := m_ite_t hm c2
      exact r_vret X hr hH hS hm dX12_frees_111
    · have hm := m_ite_f hm c2
      refine lv_aload_n hx hb dX12_frees_18 rfl (lv_at hl 0 rfl) ?_
      refine r_getp X hH (k := 12) (a := a) (j := 34) (b := (a + 21)) (A := 21) (B := 0) hk_a (by decide) rfl m_wi12 (by decide) in_7_49 rfl rfl rfl dX12_frees_19 ?_
      refine lv_bipush (v := (24 : Int32)) hx hb dX12_frees_22 (by decide) ?_
      refine lv_iload_n hx hb dX12_frees_24 rfl (lv_at hl 2 rfl) ?_
      refine lv_imul hx hb dX12_frees_25 ?_
      refine lv_iload_n hx hb dX12_frees_26 rfl (lv_at hl 3 rfl) ?_
      refine lv_iadd hx hb dX12_frees_27 ?_
      obtain ⟨v3, h_v3, e_v3, hm⟩ := n_ldi hm
      refine n_iald X hH (n := 120) (m_lay_at hT hk_a (by decide) (i := 21) rfl) h_v3 e_v3 dX12_frees_28 ?_
      refine lv_aload_n hx hb dX12_frees_29 rfl (lv_at hl 0 rfl) ?_
      refine r_getp X hH (k := 12) (a := a) (j := 14) (b := (a + 2)) (A := 2) (B := 0) hk_a (by decide) rfl m_wi12 (by decide) in_7_29 rfl rfl rfl dX12_frees_30 ?_
      refine lv_sipush (v := (233 : Int32)) hx hb dX12_frees_33 (by decide) ?_
      refine lv_iload_n hx hb dX12_frees_36 rfl (lv_at hl 1 rfl) ?_
      refine lv_iadd hx hb dX12_frees_37 ?_
      obtain ⟨v4, h_v4, e_v4, hm⟩ := n_ldi hm
      refine n_iald X hH (n := 2647) (m_lay_at hT hk_a (by decide) (i := 2) rfl) h_v4 e_v4 dX12_frees_38 ?_
      refine lv_icmp_eq (tgt := 45) hx hb dX12_frees_39 (by decide) (fun c5 => ?_) (fun c5 => ?_)
      · have hm := m_ite_t hm c5
        refine lv_aload_n hx hb dX12_frees_45 rfl (lv_at hl 0 rfl) ?_
        refine lv_aload_n hx hb dX12_frees_46 rfl (lv_at hl 0 rfl) ?_
        refine lv_iload_n hx hb dX12_frees_47 rfl (lv_at hl 3 rfl) ?_
        obtain ⟨v7, S6, e_S6, hm⟩ := m_call_of hm
        refine n_cVi X hH hS (k := 12) (c_X12_latestRoom (a := a) hT hk_a e_S6) mw_X12_latestRoom in_8_192 hk_a (by decide) rfl rfl rfl ⟨rfl, rfl⟩ ⟨Nat.le_of_ble_eq_true rfl, Nat.le_of_ble_eq_true rfl⟩ ⟨Nat.zero_le _, Nat.zero_le _⟩ hl.1 (Nat.le_of_ble_eq_true rfl) dX12_frees_48 (fun H locs hH hS => ?_)
        obtain ⟨S8, e_S8, hm⟩ := m_cal0_of hm
        refine r_cVv X hH hS (k := 12) (c_X12_freeRoom (a := a) hT hk_a e_S8) mw_X12_freeRoom in_8_196 hk_a (by decide) rfl rfl rfl ⟨rfl, rfl⟩ ⟨Nat.le_of_ble_eq_true rfl, Nat.le_of_ble_eq_true rfl⟩ ⟨Nat.zero_le _, Nat.zero_le _⟩ hl.1 (Nat.le_of_ble_eq_true rfl) dX12_frees_51 (fun H locs hH hS => ?_)
        refine lv_iconst (v := (0 : Int32)) hx hb dX12_frees_54 (by decide) ?_
        refine lv_istore (lv' := [(4, .int (0 : Int32)), (0, .ref a), (1, .int l1), (2, .int l2), (3, .int l3)]) hx hb dX12_frees_55 hl (by decide) rfl (fun ls hl => ?_)
        exact k_X12_frees_57 (a := a) X hr hT hk_a (b_X12_frees_8 a n) ih m_fu S8 l1 l2 l3 (0 : Int32) _ _ _ hH hS (lv_sub hl [1, 2, 3, 4, 0] rfl) hm
      · have hm := m_ite_f hm c5
        refine lv_goto (tgt := 105) hx hb dX12_frees_42 (by decide) ?_
        exact k_X12_frees_105 (a := a) X hr hT hk_a (b_X12_frees_8 a n) ih  S l1 l2 l3 _ _ _ hH hS hl hm
def f_X12_frees (a : Nat) (S : m_M) (i1 : Int32) : Option m_M :=
    m_call (f_X12_funOf a S i1) fun v2 S1 =>
    b_X12_frees_8 a m_fu S1 i1 v2 (0 : Int32)
set_option maxHeartbeats 4000000 in
set_option maxRecDepth 100000 in
theorem c_X12_frees {l : Launch} {G : m_G} {nx : Nat} {κ : Nat → Nat} {a : Nat} {S : m_M} {i1 : Int32} {res : m_M} (hT : m_Str κ) (hk_a : κ a = 13) (hm : f_X12_frees a S i1 = some res) : m_Cv l yX12_frees cX12_frees 5 rm_X12_frees G nx κ [.ref a, .int i1] S res := by
  refine m_Cv.of (by decide) (Nat.le_of_ble_eq_true rfl) ?_
  intro p e s m args below meth c ls X hr hH hl
  have hx := X.1.1
  have hb := X.1.2.1
  have hS : m_S G s s.heap [] := va_S.rf
  have hl : lv_has ls 5 [(0, .ref a), (1, .int i1)] := hl
  rw [f_X12_frees] at hm
  refine lv_aload_n hx hb dX12_frees_0 rfl (lv_at hl 0 rfl) ?_
  refine lv_iload_n hx hb dX12_frees_1 rfl (lv_at hl 1 rfl) ?_
  obtain ⟨v2, S1, e_S1, hm⟩ := m_call_of hm
  refine n_cVi X hH hS (k := 12) (c_X12_funOf (a := a) hT hk_a e_S1) mw_X12_funOf in_8_152 hk_a (by decide) rfl rfl rfl ⟨rfl, rfl⟩ ⟨Nat.le_of_ble_eq_true rfl, Nat.le_of_ble_eq_true rfl⟩ ⟨Nat.zero_le _, Nat.zero_le _⟩ hl.1 (Nat.le_of_ble_eq_true rfl) dX12_frees_2 (fun H locs hH hS => ?_)
  refine lv_istore_n (lv' := [(2, .int v2), (0, .ref a), (1, .int i1)]) hx hb dX12_frees_5 rfl hl (by decide) rfl (fun ls hl => ?_)
  refine lv_iconst (v := (0 : Int32)) hx hb dX12_frees_6 (by decide) ?_
  refine lv_istore_n (lv' := [(3, .int (0 : Int32)), (2, .int v2), (0, .ref a), (1, .int i1)]) hx hb dX12_frees_7 rfl hl (by decide) rfl (fun ls hl => ?_)
  exact k_X12_frees_8 (a := a) X hr hT hk_a  m_fu S1 i1 v2 (0 : Int32) _ _ _ hH hS (lv_sub hl [2, 3, 1, 0] rfl) hm
def rm_X12_gives : Room := { frames := 3, cells := 0, slots := 0, locals := 70 }
def b_X12_gives_5 (a : Nat)  : Nat → m_M → Int32 → Int32 → Option m_M
  | 0, _, _, _ => none
  | n + 1, S, l3, l4 =>
    (m_ldi S (a + 2) 2647 (212 : Int32)).bind fun v1 =>
    m_let (v1 - (1 : Int32)) fun v2 =>
    m_call (f_X12_funOf a S v2) fun v4 S3 =>
    m_call (f_X12_lineOf a S3 v2) fun v6 S5 =>
    m_call (f_X12_madeBy a S5 v4 v6) fun v8 S7 =>
    m_cal0 (f_X12_setVar a S7 v2 v8 l3 l4) fun S9 =>
    m_cal0 (f_X12_frees a S9 v2) fun S10 =>
    (m_ldi S10 (a + 2) 2647 ((233 : Int32) + v2)).bind fun v11 =>
    (m_sti S10 (a + 2) 2647 ((233 : Int32) + v2) (v11 + (1 : Int32))).bind fun S12 =>
    (m_ldi S12 (a + 2) 2647 ((233 : Int32) + v2)).bind fun v13 =>
    (m_ldi S12 (a + 2) 2647 ((13 : Int32) + v4)).bind fun v14 =>
    if v14 ≤ v13 then (
    m_call (f_X12_varsOf a (a + 2) 2647 S12 v4) fun v17 S16 =>
    m_call (f_X12_slot a S16 v2 (v17 - (1 : Int32))) fun v19 S18 =>
    (m_ldi S18 (a + 2) 2647 ((245 : Int32) + v19)).bind fun v20 =>
    (m_ldi S18 (a + 2) 2647 ((569 : Int32) + v19)).bind fun v21 =>
    (m_ldi S18 (a + 2) 2647 (212 : Int32)).bind fun v22 =>
    (m_sti S18 (a + 2) 2647 (212 : Int32) (v22 - (1 : Int32))).bind fun S23 =>
    (m_ldi S23 (a + 2) 2647 (212 : Int32)).bind fun v24 =>
    if v24 ≤ 0 then (
    (m_sti S23 (a + 2) 2647 (210 : Int32) (2 : Int32)).bind fun S26 =>
    (m_sti S26 (a + 2) 2647 (219 : Int32) v20).bind fun S27 =>
    (m_sti S27 (a + 2) 2647 (220 : Int32) v21).bind fun S28 =>
    some S28) else (
    b_X12_gives_5 a n S23 v20 v21)) else (
    some S12)
set_option maxHeartbeats 4000000 in
set_option maxRecDepth 100000 in
theorem k_X12_gives_5 {p : Program} {l : Launch} {e : Env} {s : State} {m : MethodId} {args : Array Value} {below : List Frame} {meth : Method} {c : Code} {G : m_G} {nx : Nat} {κ : Nat → Nat} {res : m_M} {a : Nat} (X : m_Cx p s m args meth c cX12_gives 8 RX12 G) (hr : meth.sig.returnType = none) (hT : m_Str κ) (hk_a : κ a = 13)  (n : Nat) : ∀ (S : m_M) (l3 : Int32) (l4 : Int32) (H : Heap) (locs : List Loc) (ls : Array Slot), m_H G nx κ S H → m_S G s H locs → lv_has ls 8 [(0, .ref a), (3, .int l3), (4, .int l4)] → b_X12_gives_5 a n S l3 l4 = some res → W p l e rm_X12_gives s m args below meth c H locs 0 0 (m_Qv below args s G nx κ res) (F0 m 5 ls []) := by
  have hx := X.1.1
  have hb := X.1.2.1
  induction n with
  | zero => intro S l3 l4 H locs ls hH hS hl hm; have hm : (none : Option m_M) = some res := hm; cases hm
  | succ n ih =>
    intro S l3 l4 H locs ls hH hS hl hm
    rw [b_X12_gives_5] at hm
    refine lv_aload_n hx hb dX12_gives_5 rfl (lv_at hl 0 rfl) ?_
    refine r_getp X hH (k := 12) (a := a) (j := 14) (b := (a + 2)) (A := 2) (B := 0) hk_a (by decide) rfl m_wi12 (by decide) in_7_29 rfl rfl rfl dX12_gives_6 ?_
    refine lv_sipush (v := (212 : Int32)) hx hb dX12_gives_9 (by decide) ?_
    obtain ⟨v1, h_v1, e_v1, hm⟩ := n_ldi hm
    refine n_iald X hH (n := 2647) (m_lay_at hT hk_a (by decide) (i := 2) rfl) h_v1 e_v1 dX12_gives_12 ?_
    refine lv_iconst (v := (1 : Int32)) hx hb dX12_gives_13 (by decide) ?_
    refine lv_isub hx hb dX12_gives_14 ?_
    obtain ⟨v2, e_v2, hm⟩ := m_let_of hm
    refine n_topi e_v2 ?_
    refine lv_istore (lv' := [(5, .int v2), (0, .ref a), (3, .int l3), (4, .int l4)]) hx hb dX12_gives_15 hl (by decide) rfl (fun ls hl => ?_)
    refine lv_aload_n hx hb dX12_gives_17 rfl (lv_at hl 1 rfl) ?_
    refine lv_iload hx hb dX12_gives_18 (lv_at hl 0 rfl) ?_
    obtain ⟨v4, S3, e_S3, hm⟩ := m_call_of hm
    refine n_cVi X hH hS (k := 12) (c_X12_funOf (a := a) hT hk_a e_S3) mw_X12_funOf in_8_152 hk_a (by decide) rfl rfl rfl ⟨rfl, rfl⟩ ⟨Nat.le_of_ble_eq_true rfl, Nat.le_of_ble_eq_true rfl⟩ ⟨Nat.zero_le _, Nat.zero_le _⟩ hl.1 (Nat.le_of_ble_eq_true rfl) dX12_gives_20 (fun H locs hH hS => ?_)
    refine lv_istore (lv' := [(6, .int v4), (5, .int v2), (0, .ref a), (3, .int l3), (4, .int l4)]) hx hb dX12_gives_23 hl (by decide) rfl (fun ls hl => ?_)
    refine lv_aload_n hx hb dX12_gives_25 rfl (lv_at hl 2 rfl) ?_
    refine lv_iload hx hb dX12_gives_26 (lv_at hl 1 rfl) ?_
    refine lv_aload_n hx hb dX12_gives_28 rfl (lv_at hl 2 rfl) ?_
    refine lv_iload hx hb dX12_gives_29 (lv_at hl 0 rfl) ?_
    refine lv_aload_n hx hb dX12_gives_31 rfl (lv_at hl 2 rfl) ?_
    refine lv_iload hx hb dX12_gives_32 (lv_at hl 1 rfl) ?_
    obtain ⟨v6, S5, e_S5, hm⟩ := m_call_of hm
    refine n_cVi X hH hS (k := 12) (c_X12_lineOf (a := a) hT hk_a e_S5) mw_X12_lineOf in_8_160 hk_a (by decide) rfl rfl rfl ⟨rfl, rfl⟩ ⟨Nat.le_of_ble_eq_true rfl, Nat.le_of_ble_eq_true rfl⟩ ⟨Nat.zero_le _, Nat.zero_le _⟩ hl.1 (Nat.le_of_ble_eq_true rfl) dX12_gives_34 (fun H locs hH hS => ?_)
    obtain ⟨v8, S7, e_S7, hm⟩ := m_call_of hm
    refine n_cVi X hH hS (k := 12) (c_X12_madeBy (a := a) hT hk_a e_S7) mw_X12_madeBy in_6_196 hk_a (by decide) rfl rfl rfl ⟨rfl, rfl⟩ ⟨Nat.le_of_ble_eq_true rfl, Nat.le_of_ble_eq_true rfl⟩ ⟨Nat.zero_le _, Nat.zero_le _⟩ hl.1 (Nat.le_of_ble_eq_true rfl) dX12_gives_37 (fun H locs hH hS => ?_)
    refine lv_iload_n hx hb dX12_gives_40 rfl (lv_at hl 3 rfl) ?_
    refine lv_iload hx hb dX12_gives_41 (lv_at hl 4 rfl) ?_
    obtain ⟨S9, e_S9, hm⟩ := m_cal0_of hm
    refine r_cVv X hH hS (k := 12) (c_X12_setVar (a := a) hT hk_a e_S9) mw_X12_setVar in_8_136 hk_a (by decide) rfl rfl rfl ⟨rfl, rfl⟩ ⟨Nat.le_of_ble_eq_true rfl, Nat.le_of_ble_eq_true rfl⟩ ⟨Nat.zero_le _, Nat.zero_le _⟩ hl.1 (Nat.le_of_ble_eq_true rfl) dX12_gives_43 (fun H locs hH hS => ?_)
    refine lv_aload_n hx hb dX12_gives_46 rfl (lv_at hl 2 rfl) ?_
    refine lv_iload hx hb dX12_gives_47 (lv_at hl 1 rfl) ?_
    obtain ⟨S10, e_S10, hm⟩ := m_cal0_of hm
    refine r_cVv X hH hS (k := 12) (c_X12_frees (a := a) hT hk_a e_S10) mw_X12_frees in_8_188 hk_a (by decide) rfl rfl rfl ⟨rfl, rfl⟩ ⟨Nat.le_of_ble_eq_true rfl, Nat.le_of_ble_eq_true rfl⟩ ⟨Nat.zero_le _, Nat.zero_le _⟩ hl.1 (Nat.le_of_ble_eq_true rfl) dX12_gives_49 (fun H locs hH hS => ?_)
    refine lv_aload_n hx hb dX12_gives_52 rfl (lv_at hl 2 rfl) ?_
    refine r_getp X hH (k := 12) (a := a) (j := 14) (b := (a + 2)) (A := 2) (B := 0) hk_a (by decide) rfl m_wi12 (by decide) in_7_29 rfl rfl rfl dX12_gives_53 ?_
    refine lv_sipush (v := (233 : Int32)) hx hb dX12_gives_56 (by decide) ?_
    refine lv_iload hx hb dX12_gives_59 (lv_at hl 1 rfl) ?_
    refine lv_iadd hx hb dX12_gives_61 ?_
    refine lv_dup2_11 hx hb dX12_gives_62 rfl rfl ?_
    obtain ⟨v11, h_v11, e_v11, hm⟩ := n_ldi hm
    refine n_iald X hH (n := 2647) (m_lay_at hT hk_a (by decide) (i := 2) rfl) h_v11 e_v11 dX12_gives_63 ?_
    refine lv_iconst (v := (1 : Int32)) hx hb dX12_gives_64 (by decide) ?_
    refine lv_iadd hx hb dX12_gives_65 ?_
    obtain ⟨S12, h_S12, e_S12, hm⟩ := n_sti hm
    refine n_iast X hH hS (n := 2647) (m_lay_at hT hk_a (by decide) (i := 2) rfl) h_S12 e_S12 dX12_gives_66 (fun H locs hH hS => ?_)
    refine lv_aload_n hx hb dX12_gives_67 rfl (lv_at hl 2 rfl) ?_
    refine r_getp X hH (k := 12) (a := a) (j := 14) (b := (a + 2)) (A := 2) (B := 0) hk_a (by decide) rfl m_wi12 (by decide) in_7_29 rfl rfl rfl dX12_gives_68 ?_
    refine lv_sipush (v := (233 : Int32)) hx hb dX12_gives_71 (by decide) ?_
    refine lv_iload hx hb dX12_gives_74 (lv_at hl 1 rfl) ?_
    refine lv_iadd hx hb dX12_gives_76 ?_
    obtain ⟨v13, h_v13, e_v13, hm⟩ := n_ldi hm
    refine n_iald X hH (n := 2647) (m_lay_at hT hk_a (by decide) (i := 2) rfl) h_v13 e_v13 dX12_gives_77 ?_
    refine lv_aload_n hx hb dX12_gives_78 rfl (lv_at hl 2 rfl) ?_
    refine r_getp X hH (k := 12) (a := a) (j := 14) (b := (a + 2)) (A := 2) (B := 0) hk_a (by decide) rfl m_wi12 (by decide) in_7_29 rfl rfl rfl dX12_gives_79 ?_
    refine lv_bipush (v := (13 : Int32)) hx hb dX12_gives_82 (by decide) ?_
    refine lv_iload hx hb dX12_gives_84 (lv_at hl 0 rfl) ?_
    refine lv_iadd hx hb dX12_gives_86 ?_
    obtain ⟨v14, h_v14, e_v14, hm⟩ := n_ldi hm
    refine n_iald X hH (n := 2647) (m_lay_at hT hk_a (by decide) (i := 2) rfl) h_v14 e_v14 dX12_gives_87 ?_
    refine lv_icmp_ge (tgt := 92) hx hb dX12_gives_88 (by decide) (fun c15 => ?_) (fun c15 => ?_)
    · have hm := m_ite_t hm c15
      refine lv_aload_n hx hb dX12_gives_92 rfl (lv_at hl 2 rfl) ?_
      refine lv_iload hx hb dX12_gives_93 (lv_at hl 1 rfl) ?_
      refine lv_aload_n hx hb dX12_gives_95 rfl (lv_at hl 2 rfl) ?_
      refine lv_aload_n hx hb dX12_gives_96 rfl (lv_at hl 2 rfl) ?_
      refine r_getp X hH (k := 12) (a := a) (j := 14) (b := (a + 2)) (A := 2) (B := 0) hk_a (by decide) rfl m_wi12 (by decide) in_7_29 rfl rfl rfl dX12_gives_97 ?_
      refine lv_iload hx hb dX12_gives_100 (lv_at hl 0 rfl) ?_
      obtain ⟨v17, S16, e_S16, hm⟩ := m_call_of hm
      refine n_cVi X hH hS (k := 12) (c_X12_varsOf (a := a) (o1 := (a + 2)) (n1 := 2647) hT hk_a (m_lay_at hT hk_a (by decide) (i := 2) rfl) e_S16) mw_X12_varsOf in_6_224 hk_a (by decide) rfl rfl rfl ⟨rfl, rfl⟩ ⟨Nat.le_of_ble_eq_true rfl, Nat.le_of_ble_eq_true rfl⟩ ⟨Nat.zero_le _, Nat.zero_le _⟩ hl.1 (Nat.le_of_ble_eq_true rfl) dX12_gives_102 (fun H locs hH hS => ?_)
      refine lv_iconst (v := (1 : Int32)) hx hb dX12_gives_105 (by decide) ?_
      refine lv_isub hx hb dX12_gives_106 ?_
      obtain ⟨v19, S18, e_S18, hm⟩ := m_call_of hm
      refine n_cVi X hH hS (k := 12) (c_X12_slot (a := a) hT hk_a e_S18) mw_X12_slot in_8_140 hk_a (by decide) rfl rfl rfl ⟨rfl, rfl⟩ ⟨Nat.le_of_ble_eq_true rfl, Nat.le_of_ble_eq_true rfl⟩ ⟨Nat.zero_le _, Nat.zero_le _⟩ hl.1 (Nat.le_of_ble_eq_true rfl) dX12_gives_107 (fun H locs hH hS => ?_)
      refine lv_istore (lv' := [(7, .int v19), (6, .int v4), (5, .int v2), (0, .ref a), (3, .int l3), (4, .int l4)]) hx hb dX12_gives_110 hl (by decide) rfl (fun ls hl => ?_)
      refine lv_aload_n hx hb dX12_gives_112 rfl (lv_at hl 3 rfl) ?_
      refine r_getp X hH (k := 12) (a := a) (j := 14) (b := (a + 2)) (A := 2) (B := 0) hk_a (by decide) rfl m_wi12 (by decide) in_7_29 rfl rfl rfl dX12_gives_113 ?_
      refine lv_sipush (v := (245 : Int32)) hx hb dX12_gives_116 (by decide) ?_
      refine lv_iload hx hb dX12_gives_119 (lv_at hl 0 rfl) ?_
      refine lv_iadd hx hb dX12_gives_121 ?_
      obtain ⟨v20, h_v20, e_v20, hm⟩ := n_ldi hm
      refine n_iald X hH (n := 2647) (m_lay_at hT hk_a (by decide) (i := 2) rfl) h_v20 e_v20 dX12_gives_122 ?_
      refine lv_istore_n (lv' := [(3, .int v20), (7, .int v19), (6, .int v4), (5, .int v2), (0, .ref a), (4, .int l4)]) hx hb dX12_gives_123 rfl hl (by decide) rfl (fun ls hl => ?_)
      refine lv_aload_n hx hb dX12_gives_124 rfl (lv_at hl 4 rfl) ?_
      refine r_getp X hH (k := 12) (a := a) (j := 14) (b := (a + 2)) (A := 2) (B := 0) hk_a (by decide) rfl m_wi12 (by decide) in_7_29 rfl rfl rfl dX12_gives_125 ?_
      refine lv_sipush (v := (569 : Int32)) hx hb dX12_gives_128 (by decide) ?_
      refine lv_iload hx hb dX12_gives_131 (lv_at hl 1 rfl) ?_
      refine lv_iadd hx hb dX12_gives_133 ?_
      obtain ⟨v21, h_v21, e_v21, hm⟩ := n_ldi hm
      refine n_iald X hH (n := 2647) (m_lay_at hT hk_a (by decide) (i := 2) rfl) h_v21 e_v21 dX12_gives_134 ?_
      refine lv_istore (lv' := [(4, .int v21), (3, .int v20), (7, .int v19), (6, .int v4), (5, .int v2), (0, .ref a)]) hx hb dX12_gives_135 hl (by decide) rfl (fun ls hl => ?_)
      refine lv_aload_n hx hb dX12_gives_137 rfl (lv_at hl 5 rfl) ?_
      refine r_getp X hH (k := 12) (a := a) (j := 14) (b := (a + 2)) (A := 2) (B := 0) hk_a (by decide) rfl m_wi12 (by decide) in_7_29 rfl rfl rfl dX12_gives_138 ?_
      refine lv_sipush (v := (212 : Int32)) hx hb dX12_gives_141 (by decide) ?_
      refine lv_dup2_11 hx hb dX12_gives_144 rfl rfl ?_
      obtain ⟨v22, h_v22, e_v22, hm⟩ := n_ldi hm
      refine n_iald X hH (n := 2647) (m_lay_at hT hk_a (by decide) (i := 2) rfl) h_v22 e_v22 dX12_gives_145 ?_
      refine lv_iconst (v := (1 : Int32)) hx hb dX12_gives_146 (by decide) ?_
      refine lv_isub hx hb dX12_gives_147 ?_
      obtain ⟨S23, h_S23, e_S23, hm⟩ := n_sti hm
      refine n_iast X hH hS (n := 2647) (m_lay_at hT hk_a (by decide) (i := 2) rfl) h_S23 e_S23 dX12_gives_148 (fun H locs hH hS => ?_)
      refine lv_aload_n hx hb dX12_gives_149 rfl (lv_at hl 5 rfl) ?_
      refine r_getp X hH (k := 12) (a := a) (j := 14) (b := (a + 2)) (A := 2) (B := 0) hk_a (by decide) rfl m_wi12 (by decide) in_7_29 rfl rfl rfl dX12_gives_150 ?_
      refine lv_sipush (v := (212 : Int32)) hx hb dX12_gives_153 (by decide) ?_
      obtain ⟨v24, h_v24, e_v24, hm⟩ := n_ldi hm
      refine n_iald X hH (n := 2647) (m_lay_at hT hk_a (by decide) (i := 2) rfl) h_v24 e_v24 dX12_gives_156 ?_
      refine lv_if_le (tgt := 163) hx hb dX12_gives_157 (by decide) (fun c25 => ?_) (fun c25 => ?_)
      · have hm := m_ite_t hm c25
        refine lv_aload_n hx hb dX12_gives_163 rfl (lv_at hl 5 rfl) ?_
        refine r_getp X hH (k := 12) (a := a) (j := 14) (b := (a + 2)) (A := 2) (B := 0) hk_a (by decide) rfl m_wi12 (by decide) in_7_29 rfl rfl rfl dX12_gives_164 ?_
        refine lv_sipush (v := (210 : Int32)) hx hb dX12_gives_167 (by decide) ?_
        refine lv_iconst (v := (2 : Int32)) hx hb dX12_gives_170 (by decide) ?_
        obtain ⟨S26, h_S26, e_S26, hm⟩ := n_sti hm
        refine n_iast X hH hS (n := 2647) (m_lay_at hT hk_a (by decide) (i := 2) rfl) h_S26 e_S26 dX12_gives_171 (fun H locs hH hS => ?_)
        refine lv_aload_n hx hb dX12_gives_172 rfl (lv_at hl 5 rfl) ?_
        refine r_getp X hH (k := 12) (a := a) (j := 14) (b := (a + 2)) (A := 2) (B := 0) hk_a (by decide) rfl m_wi12 (by decide) in_7_29 rfl rfl rfl dX12_gives_173 ?_
        refine lv_sipush (v := (219 : Int32)) hx hb dX12_gives_176 (by decide) ?_
        refine lv_iload_n hx hb dX12_gives_179 rfl (lv_at hl 1 rfl) ?_
        obtain ⟨S27, h_S27, e_S27, hm⟩ := n_sti hm
        refine n_iast X hH hS (n := 2647) (m_lay_at hT hk_a (by decide) (i := 2) rfl) h_S27 e_S27 dX12_gives_180 (fun H locs hH hS => ?_)
        refine lv_aload_n hx hb dX12_gives_181 rfl (lv_at hl 5 rfl) ?_
        refine r_getp X hH (k := 12) (a := a) (j := 14) (b := (a + 2)) (A := 2) (B := 0) hk_a (by decide) rfl m_wi12 (by decide) in_7_29 rfl rfl rfl dX12_gives_182 ?_
        refine lv_sipush (v := (220 : Int32)) hx hb dX12_gives_185 (by decide) ?_
        refine lv_iload hx hb dX12_gives_188 (lv_at hl 0 rfl) ?_
        obtain ⟨S28, h_S28, e_S28, hm⟩ := n_sti hm
        refine n_iast X hH hS (n := 2647) (m_lay_at hT hk_a (by decide) (i := 2) rfl) h_S28 e_S28 dX12_gives_190 (fun H locs hH hS => ?_)
        exact r_vret X hr hH hS hm dX12_gives_191
      · have hm := m_ite_f hm c25
        refine lv_goto (tgt := 5) hx hb dX12_gives_160 (by decide) ?_
        exact ih S23 v20 v21 _ _ _ hH hS (lv_sub hl [5, 1, 0] rfl) hm
    · have hm := m_ite_f hm c15
      exact r_vret X hr hH hS hm dX12_gives_91
def f_X12_gives (a : Nat) (S : m_M) (i1 : Int32) (i2 : Int32) : Option m_M :=
    b_X12_gives_5 a m_fu S i1 i2
set_option maxHeartbeats 4000000 in
set_option maxRecDepth 100000 in
theorem c_X12_gives {l : Launch} {G : m_G} {nx : Nat} {κ : Nat → Nat} {a : Nat} {S : m_M} {i1 : Int32} {i2 : Int32} {res : m_M} (hT : m_Str κ) (hk_a : κ a = 13) (hm : f_X12_gives a S i1 i2 = some res) : m_Cv l yX12_gives cX12_gives 8 rm_X12_gives G nx κ [.ref a, .int i1, .int i2] S res := by
  refine m_Cv.of (by decide) (Nat.le_of_ble_eq_true rfl) ?_
  intro p e s m args below meth c ls X hr hH hl
  have hx := X.1.1
  have hb := X.1.2.1
  have hS : m_S G s s.heap [] := va_S.rf
  have hl : lv_has ls 8 [(0, .ref a), (1, .int i1), (2, .int i2)] := hl
  rw [f_X12_gives] at hm
  refine lv_iload_n hx hb dX12_gives_0 rfl (lv_at hl 1 rfl) ?_
  refine lv_istore_n (lv' := [(3, .int i1), (0, .ref a), (1, .int i1), (2, .int i2)]) hx hb dX12_gives_1 rfl hl (by decide) rfl (fun ls hl => ?_)
  refine lv_iload_n hx hb dX12_gives_2 rfl (lv_at hl 3 rfl) ?_
  refine lv_istore (lv' := [(4, .int i2), (3, .int i1), (0, .ref a), (1, .int i1), (2, .int i2)]) hx hb dX12_gives_3 hl (by decide) rfl (fun ls hl => ?_)
  exact k_X12_gives_5 (a := a) X hr hT hk_a  m_fu S i1 i2 _ _ _ hH hS (lv_sub hl [2, 1, 0] rfl) hm
def rm_X12_callsFun : Room := { frames := 3, cells := 0, slots := 0, locals := 69 }
def b_X12_callsFun_133 (a : Nat)  : Nat → m_M → Int32 → Int32 → Option m_M
  | 0, _, _, _ => none
  | n + 1, S, l3, l5 =>
    (m_ldi S (a + 2) 2647 ((3 : Int32) + l3)).bind fun v1 =>
    if v1 ≤ l5 then (
    some S) else (
    (m_ldi S (a + 2) 2647 (212 : Int32)).bind fun v3 =>
    (m_ldi S (a + 23) 3 l5).bind fun v4 =>
    (m_ldi S (a + 24) 3 l5).bind fun v5 =>
    m_cal0 (f_X12_setVar a S (v3 - (1 : Int32)) l5 v4 v5) fun S6 =>
    m_let (l5 + (1 : Int32)) fun v7 =>
    b_X12_callsFun_133 a n S6 l3 v7)
set_option maxHeartbeats 4000000 in
set_option maxRecDepth 100000 in
theorem k_X12_callsFun_133 {p : Program} {l : Launch} {e : Env} {s : State} {m : MethodId} {args : Array Value} {below : List Frame} {meth : Method} {c : Code} {G : m_G} {nx : Nat} {κ : Nat → Nat} {res : m_M} {a : Nat} (X : m_Cx p s m args meth c cX12_callsFun 6 RX12 G) (hr : meth.sig.returnType = none) (hT : m_Str κ) (hk_a : κ a = 13)  (n : Nat) : ∀ (S : m_M) (l3 : Int32) (l5 : Int32) (H : Heap) (locs : List Loc) (ls : Array Slot), m_H G nx κ S H → m_S G s H locs → lv_has ls 6 [(0, .ref a), (3, .int l3), (5, .int l5)] → b_X12_callsFun_133 a n S l3 l5 = some res → W p l e rm_X12_callsFun s m args below meth c H locs 0 0 (m_Qv below args s G nx κ res) (F0 m 133 ls []) := by
  have hx := X.1.1
  have hb := X.1.2.1
  induction n with
  | zero => intro S l3 l5 H locs ls hH hS hl hm; have hm : (none : Option m_M) = some res := hm; cases hm
  | succ n ih =>
    intro S l3 l5 H locs ls hH hS hl hm
    rw [b_X12_callsFun_133] at hm
    refine lv_iload hx hb dX12_callsFun_133 (lv_at hl 2 rfl) ?_
    refine lv_aload_n hx hb dX12_callsFun_135 rfl (lv_at hl 0 rfl) ?_
    refine r_getp X hH (k := 12) (a := a) (j := 14) (b := (a + 2)) (A := 2) (B := 0) hk_a (by decide) rfl m_wi12 (by decide) in_7_29 rfl rfl rfl dX12_callsFun_136 ?_
    refine lv_iconst (v := (3 : Int32)) hx hb dX12_callsFun_139 (by decide) ?_
    refine lv_iload_n hx hb dX12_callsFun_140 rfl (lv_at hl 1 rfl) ?_
    refine lv_iadd hx hb dX12_callsFun_141 ?_
    obtain ⟨v1, h_v1, e_v1, hm⟩ := n_ldi hm
    refine n_iald X hH (n := 2647) (m_lay_at hT hk_a (by decide) (i := 2) rfl) h_v1 e_v1 dX12_callsFun_142 ?_
    refine lv_icmp_ge (tgt := 182) hx hb dX12_callsFun_143 (by decide) (fun c2 => ?_) (fun c2 => ?_)
    · have hm := m_ite_t hm c2
      exact r_vret X hr hH hS hm dX12_callsFun_182
    · have hm := m_ite_f hm c2
      refine lv_aload_n hx hb dX12_callsFun_146 rfl (lv_at hl 0 rfl) ?_
      refine lv_aload_n hx hb dX12_callsFun_147 rfl (lv_at hl 0 rfl) ?_
      refine r_getp X hH (k := 12) (a := a) (j := 14) (b := (a + 2)) (A := 2) (B := 0) hk_a (by decide) rfl m_wi12 (by decide) in_7_29 rfl rfl rfl dX12_callsFun_148 ?_
      refine lv_sipush (v := (212 : Int32)) hx hb dX12_callsFun_151 (by decide) ?_
      obtain ⟨v3, h_v3, e_v3, hm⟩ := n_ldi hm
      refine n_iald X hH (n := 2647) (m_lay_at hT hk_a (by decide) (i := 2) rfl) h_v3 e_v3 dX12_callsFun_154 ?_
      refine lv_iconst (v := (1 : Int32)) hx hb dX12_callsFun_155 (by decide) ?_
      refine lv_isub hx hb dX12_callsFun_156 ?_
      refine lv_iload hx hb dX12_callsFun_157 (lv_at hl 2 rfl) ?_
      refine lv_aload_n hx hb dX12_callsFun_159 rfl (lv_at hl 0 rfl) ?_
      refine r_getp X hH (k := 12) (a := a) (j := 37) (b := (a + 23)) (A := 23) (B := 0) hk_a (by decide) rfl m_wi12 (by decide) in_7_52 rfl rfl rfl dX12_callsFun_160 ?_
      refine lv_iload hx hb dX12_callsFun_163 (lv_at hl 2 rfl) ?_
      obtain ⟨v4, h_v4, e_v4, hm⟩ := n_ldi hm
      refine n_iald X hH (n := 3) (m_lay_at hT hk_a (by decide) (i := 23) rfl) h_v4 e_v4 dX12_callsFun_165 ?_
      refine lv_aload_n hx hb dX12_callsFun_166 rfl (lv_at hl 0 rfl) ?_
      refine r_getp X hH (k := 12) (a := a) (j := 38) (b := (a + 24)) (A := 24) (B := 0) hk_a (by decide) rfl m_wi12 (by decide) in_7_53 rfl rfl rfl dX12_callsFun_167 ?_
      refine lv_iload hx hb dX12_callsFun_170 (lv_at hl 2 rfl) ?_
      obtain ⟨v5, h_v5, e_v5, hm⟩ := n_ldi hm
      refine n_iald X hH (n := 3) (m_lay_at hT hk_a (by decide) (i := 24) rfl) h_v5 e_v5 dX12_callsFun_172 ?_
      obtain ⟨S6, e_S6, hm⟩ := m_cal0_of hm
      refine r_cVv X hH hS (k := 12) (c_X12_setVar (a := a) hT hk_a e_S6) mw_X12_setVar in_8_136 hk_a (by decide) rfl rfl rfl ⟨rfl, rfl⟩ ⟨Nat.le_of_ble_eq_true rfl, Nat.le_of_ble_eq_true rfl⟩ ⟨Nat.zero_le _, Nat.zero_le _⟩ hl.1 (Nat.le_of_ble_eq_true rfl) dX12_callsFun_173 (fun H locs hH hS => ?_)
      obtain ⟨v7, e_v7, hm⟩ := m_let_of hm
      refine lv_iinc (v := v7) (lv' := [(5, .int v7), (0, .ref a), (3, .int l3)]) hx hb dX12_callsFun_176 hl (k := 2) rfl (by rw [← e_v7]; rfl) (by decide) rfl (fun ls hl => ?_)
      refine lv_goto (tgt := 133) hx hb dX12_callsFun_179 (by decide) ?_
      exact ih S6 l3 v7 _ _ _ hH hS (lv_sub hl [1, 2, 0] rfl) hm
def b_X12_callsFun_125 (a : Nat)  (S : m_M) (l3 : Int32) : Option m_M :=
    m_cal0 (f_X12_pushFrame a S l3) fun S1 =>
    b_X12_callsFun_133 a m_fu S1 l3 (0 : Int32)
set_option maxHeartbeats 4000000 in
set_option maxRecDepth 100000 in
theorem k_X12_callsFun_125 {p : Program} {l : Launch} {e : Env} {s : State} {m : MethodId} {args : Array Value} {below : List Frame} {meth : Method} {c : Code} {G : m_G} {nx : Nat} {κ : Nat → Nat} {res : m_M} {a : Nat} (X : m_Cx p s m args meth c cX12_callsFun 6 RX12 G) (hr : meth.sig.returnType = none) (hT : m_Str κ) (hk_a : κ a = 13)  : ∀ (S : m_M) (l3 : Int32) (H : Heap) (locs : List Loc) (ls : Array Slot), m_H G nx κ S H → m_S G s H locs → lv_has ls 6 [(0, .ref a), (3, .int l3)] → b_X12_callsFun_125 a S l3 = some res → W p l e rm_X12_callsFun s m args below meth c H locs 0 0 (m_Qv below args s G nx κ res) (F0 m 125 ls []) := by
  have hx := X.1.1
  have hb := X.1.2.1
  intro S l3 H locs ls hH hS hl hm
  rw [b_X12_callsFun_125] at hm
  refine lv_aload_n hx hb dX12_callsFun_125 rfl (lv_at hl 0 rfl) ?_
  refine lv_iload_n hx hb dX12_callsFun_126 rfl (lv_at hl 1 rfl) ?_
  obtain ⟨S1, e_S1, hm⟩ := m_cal0_of hm
  refine r_cVv X hH hS (k := 12) (c_X12_pushFrame (a := a) hT hk_a e_S1) mw_X12_pushFrame in_8_132 hk_a (by decide) rfl rfl rfl ⟨rfl, rfl⟩ ⟨Nat.le_of_ble_eq_true rfl, Nat.le_of_ble_eq_true rfl⟩ ⟨Nat.zero_le _, Nat.zero_le _⟩ hl.1 (Nat.le_of_ble_eq_true rfl) dX12_callsFun_127 (fun H locs hH hS => ?_)
  refine lv_iconst (v := (0 : Int32)) hx hb dX12_callsFun_130 (by decide) ?_
  refine lv_istore (lv' := [(5, .int (0 : Int32)), (0, .ref a), (3, .int l3)]) hx hb dX12_callsFun_131 hl (by decide) rfl (fun ls hl => ?_)
  exact k_X12_callsFun_133 (a := a) X hr hT hk_a  m_fu S1 l3 (0 : Int32) _ _ _ hH hS (lv_sub hl [1, 2, 0] rfl) hm
def b_X12_callsFun_40 (a : Nat)  : Nat → m_M → Int32 → Int32 → Int32 → Int32 → Option m_M
  | 0, _, _, _, _, _ => none
  | n + 1, S, l1, l3, l4, l5 =>
    (m_ldi S (a + 2) 2647 ((3 : Int32) + l3)).bind fun v1 =>
    if v1 ≤ l5 then (
    m_call (f_X12_goesAhead a S l1) fun v4 S3 =>
    if v4 = 0 then (
    b_X12_callsFun_125 a S3 l3) else (
    (m_ldi S3 (a + 2) 2647 (212 : Int32)).bind fun v6 =>
    (m_sti S3 (a + 2) 2647 (212 : Int32) (v6 - (1 : Int32))).bind fun S7 =>
    (m_ldi S7 (a + 2) 2647 (218 : Int32)).bind fun v8 =>
    (m_sti S7 (a + 2) 2647 (218 : Int32) (v8 + (1 : Int32))).bind fun S9 =>
    b_X12_callsFun_125 a S9 l3)) else (
    m_call (f_X12_kindAt a S l1 (l4 + l5)) fun v11 S10 =>
    (m_sti S10 (a + 23) 3 l5 v11).bind fun S12 =>
    m_call (f_X12_valueAt a S12 l1 (l4 + l5)) fun v14 S13 =>
    (m_sti S13 (a + 24) 3 l5 v14).bind fun S15 =>
    m_let (l5 + (1 : Int32)) fun v16 =>
    b_X12_callsFun_40 a n S15 l1 l3 l4 v16)
set_option maxHeartbeats 4000000 in
set_option maxRecDepth 100000 in
theorem k_X12_callsFun_40 {p : Program} {l : Launch} {e : Env} {s : State} {m : MethodId} {args : Array Value} {below : List Frame} {meth : Method} {c : Code} {G : m_G} {nx : Nat} {κ : Nat → Nat} {res : m_M} {a : Nat} (X : m_Cx p s m args meth c cX12_callsFun 6 RX12 G) (hr : meth.sig.returnType = none) (hT : m_Str κ) (hk_a : κ a = 13)  (n : Nat) : ∀ (S : m_M) (l1 : Int32) (l3 : Int32) (l4 : Int32) (l5 : Int32) (H : Heap) (locs : List Loc) (ls : Array Slot), m_H G nx κ S H → m_S G s H locs → lv_has ls 6 [(0, .ref a), (1, .int l1), (3, .int l3), (4, .int l4), (5, .int l5)] → b_X12_callsFun_40 a n S l1 l3 l4 l5 = some res → W p l e rm_X12_callsFun s m args below meth c H locs 0 0 (m_Qv below args s G nx κ res) (F0 m 40 ls []) := by
  have hx := X.1.1
  have hb := X.1.2.1
  induction n with
  | zero => intro S l1 l3 l4 l5 H locs ls hH hS hl hm; have hm : (none : Option m_M) = some res := hm; cases hm
  | succ n ih =>
    intro S l1 l3 l4 l5 H locs ls hH hS hl hm
    rw [b_X12_callsFun_40] at hm
    refine lv_iload hx hb dX12_callsFun_40 (lv_at hl 4 rfl) ?_
    refine lv_aload_n hx hb dX12_callsFun_42 rfl (lv_at hl 0 rfl) ?_
    refine r_getp X hH (k := 12) (a := a) (j := 14) (b := (a + 2)) (A := 2) (B := 0) hk_a (by decide) rfl m_wi12 (by decide) in_7_29 rfl rfl rfl dX12_callsFun_43 ?_
    refine lv_iconst (v := (3 : Int32)) hx hb dX12_callsFun_46 (by decide) ?_
    refine lv_iload_n hx hb dX12_callsFun_47 rfl (lv_at hl 2 rfl) ?_
    refine lv_iadd hx hb dX12_callsFun_48 ?_
    obtain ⟨v1, h_v1, e_v1, hm⟩ := n_ldi hm
    refine n_iald X hH (n := 2647) (m_lay_at hT hk_a (by decide) (i := 2) rfl) h_v1 e_v1 dX12_callsFun_49 ?_
    refine lv_icmp_ge (tgt := 93) hx hb dX12_callsFun_50 (by decide) (fun c2 => ?_) (fun c2 => ?_)
    · have hm := m_ite_t hm c2
      refine lv_aload_n hx hb dX12_callsFun_93 rfl (lv_at hl 0 rfl) ?_
      refine lv_iload_n hx hb dX12_callsFun_94 rfl (lv_at hl 1 rfl) ?_
      obtain ⟨v4, S3, e_S3, hm⟩ := m_call_of hm
      refine n_cVi X hH hS (k := 12) (c_X12_goesAhead (a := a) hT hk_a e_S3) mw_X12_goesAhead in_8_176 hk_a (by decide) rfl rfl rfl ⟨rfl, rfl⟩ ⟨Nat.le_of_ble_eq_true rfl, Nat.le_of_ble_eq_true rfl⟩ ⟨Nat.zero_le _, Nat.zero_le _⟩ hl.1 (Nat.le_of_ble_eq_true rfl) dX12_callsFun_95 (fun H locs hH hS => ?_)
      refine lv_if_eq (tgt := 125) hx hb dX12_callsFun_98 (by decide) (fun c5 => ?_) (fun c5 => ?_)
      · have hm := m_ite_t hm c5
        exact k_X12_callsFun_125 (a := a) X hr hT hk_a   S3 l3 _ _ _ hH hS (lv_sub hl [0, 2] rfl) hm
      · have hm := m_ite_f hm c5
        refine lv_aload_n hx hb dX12_callsFun_101 rfl (lv_at hl 0 rfl) ?_
        refine r_getp X hH (k := 12) (a := a) (j := 14) (b := (a + 2)) (A := 2) (B := 0) hk_a (by decide) rfl m_wi12 (by decide) in_7_29 rfl rfl rfl dX12_callsFun_102 ?_
        refine lv_sipush (v := (212 : Int32)) hx hb dX12_callsFun_105 (by decide) ?_
        refine lv_dup2_11 hx hb dX12_callsFun_108 rfl rfl ?_
        obtain ⟨v6, h_v6, e_v6, hm⟩ := n_ldi hm
        refine n_iald X hH (n := 2647) (m_lay_at hT hk_a (by decide) (i := 2) rfl) h_v6 e_v6 dX12_callsFun_109 ?_
        refine lv_iconst (v := (1 : Int32)) hx hb dX12_callsFun_110 (by decide) ?_
        refine lv_isub hx hb dX12_callsFun_111 ?_
        obtain ⟨S7, h_S7, e_S7, hm⟩ := n_sti hm
        refine n_iast X hH hS (n := 2647) (m_lay_at hT hk_a (by decide) (i := 2) rfl) h_S7 e_S7 dX12_callsFun_112 (fun H locs hH hS => ?_)
        refine lv_aload_n hx hb dX12_callsFun_113 rfl (lv_at hl 0 rfl) ?_
        refine r_getp X hH (k := 12) (a := a) (j := 14) (b := (a + 2)) (A := 2) (B := 0) hk_a (by decide) rfl m_wi12 (by decide) in_7_29 rfl rfl rfl dX12_callsFun_114 ?_
        refine lv_sipush (v := (218 : Int32)) hx hb dX12_callsFun_117 (by decide) ?_
        refine lv_dup2_11 hx hb dX12_callsFun_120 rfl rfl ?_
        obtain ⟨v8, h_v8, e_v8, hm⟩ := n_ldi hm
        refine n_iald X hH (n := 2647) (m_lay_at hT hk_a (by decide) (i := 2) rfl) h_v8 e_v8 dX12_callsFun_121 ?_
        refine lv_iconst (v := (1 : Int32)) hx hb dX12_callsFun_122 (by decide) ?_
        refine lv_iadd hx hb dX12_callsFun_123 ?_
        obtain ⟨S9, h_S9, e_S9, hm⟩ := n_sti hm
        refine n_iast X hH hS (n := 2647) (m_lay_at hT hk_a (by decide) (i := 2) rfl) h_S9 e_S9 dX12_callsFun_124 (fun H locs hH hS => ?_)
        exact k_X12_callsFun_125 (a := a) X hr hT hk_a   S9 l3 _ _ _ hH hS (lv_sub hl [0, 2] rfl) hm
    · have hm := m_ite_f hm c2
      refine lv_aload_n hx hb dX12_callsFun_53 rfl (lv_at hl 0 rfl) ?_
      refine r_getp X hH (k := 12) (a := a) (j := 37) (b := (a + 23)) (A := 23) (B := 0) hk_a (by decide) rfl m_wi12 (by decide) in_7_52 rfl rfl rfl dX12_callsFun_54 ?_
      refine lv_iload hx hb dX12_callsFun_57 (lv_at hl 4 rfl) ?_
      refine lv_aload_n hx hb dX12_callsFun_59 rfl (lv_at hl 0 rfl) ?_
      refine lv_iload_n hx hb dX12_callsFun_60 rfl (lv_at hl 1 rfl) ?_
      refine lv_iload hx hb dX12_callsFun_61 (lv_at hl 3 rfl) ?_
      refine lv_iload hx hb dX12_callsFun_63 (lv_at hl 4 rfl) ?_
      refine lv_iadd hx hb dX12_callsFun_65 ?_
      obtain ⟨v11, S10, e_S10, hm⟩ := m_call_of hm
      refine n_cVi X hH hS (k := 12) (c_X12_kindAt (a := a) hT hk_a e_S10) mw_X12_kindAt in_8_164 hk_a (by decide) rfl rfl rfl ⟨rfl, rfl⟩ ⟨Nat.le_of_ble_eq_true rfl, Nat.le_of_ble_eq_true rfl⟩ ⟨Nat.zero_le _, Nat.zero_le _⟩ hl.1 (Nat.le_of_ble_eq_true rfl) dX12_callsFun_66 (fun H locs hH hS => ?_)
      obtain ⟨S12, h_S12, e_S12, hm⟩ := n_sti hm
      refine n_iast X hH hS (n := 3) (m_lay_at hT hk_a (by decide) (i := 23) rfl) h_S12 e_S12 dX12_callsFun_69 (fun H locs hH hS => ?_)
      refine lv_aload_n hx hb dX12_callsFun_70 rfl (lv_at hl 0 rfl) ?_
      refine r_getp X hH (k := 12) (a := a) (j := 38) (b := (a + 24)) (A := 24) (B := 0) hk_a (by decide) rfl m_wi12 (by decide) in_7_53 rfl rfl rfl dX12_callsFun_71 ?_
      refine lv_iload hx hb dX12_callsFun_74 (lv_at hl 4 rfl) ?_
      refine lv_aload_n hx hb dX12_callsFun_76 rfl (lv_at hl 0 rfl) ?_
      refine lv_iload_n hx hb dX12_callsFun_77 rfl (lv_at hl 1 rfl) ?_
      refine lv_iload hx hb dX12_callsFun_78 (lv_at hl 3 rfl) ?_
      refine lv_iload hx hb dX12_callsFun_80 (lv_at hl 4 rfl) ?_
      refine lv_iadd hx hb dX12_callsFun_82 ?_
      obtain ⟨v14, S13, e_S13, hm⟩ := m_call_of hm
      refine n_cVi X hH hS (k := 12) (c_X12_valueAt (a := a) hT hk_a e_S13) mw_X12_valueAt in_8_172 hk_a (by decide) rfl rfl rfl ⟨rfl, rfl⟩ ⟨Nat.le_of_ble_eq_true rfl, Nat.le_of_ble_eq_true rfl⟩ ⟨Nat.zero_le _, Nat.zero_le _⟩ hl.1 (Nat.le_of_ble_eq_true rfl) dX12_callsFun_83 (fun H locs hH hS => ?_)
      obtain ⟨S15, h_S15, e_S15, hm⟩ := n_sti hm
      refine n_iast X hH hS (n := 3) (m_lay_at hT hk_a (by decide) (i := 24) rfl) h_S15 e_S15 dX12_callsFun_86 (fun H locs hH hS => ?_)
      obtain ⟨v16, e_v16, hm⟩ := m_let_of hm
      refine lv_iinc (v := v16) (lv' := [(5, .int v16), (0, .ref a), (1, .int l1), (3, .int l3), (4, .int l4)]) hx hb dX12_callsFun_87 hl (k := 4) rfl (by rw [← e_v16]; rfl) (by decide) rfl (fun ls hl => ?_)
      refine lv_goto (tgt := 40) hx hb dX12_callsFun_90 (by decide) ?_
      exact ih S15 l1 l3 l4 v16 _ _ _ hH hS (lv_sub hl [1, 2, 3, 4, 0] rfl) hm
def b_X12_callsFun_35 (a : Nat)  (S : m_M) (l1 : Int32) (l3 : Int32) (t0 : Int32) : Option m_M :=
    b_X12_callsFun_40 a m_fu S l1 l3 t0 (0 : Int32)
set_option maxHeartbeats 4000000 in
set_option maxRecDepth 100000 in
theorem k_X12_callsFun_35 {p : Program} {l : Launch} {e : Env} {s : State} {m : MethodId} {args : Array Value} {below : List Frame} {meth : Method} {c : Code} {G : m_G} {nx : Nat} {κ : Nat → Nat} {res : m_M} {a : Nat} (X : m_Cx p s m args meth c cX12_callsFun 6 RX12 G) (hr : meth.sig.returnType = none) (hT : m_Str κ) (hk_a : κ a = 13)  : ∀ (S : m_M) (l1 : Int32) (l3 : Int32) (t0 : Int32) (H : Heap) (locs : List Loc) (ls : Array Slot), m_H G nx κ S H → m_S G s H locs → lv_has ls 6 [(0, .ref a), (1, .int l1), (3, .int l3)] → b_X12_callsFun_35 a S l1 l3 t0 = some res → W p l e rm_X12_callsFun s m args below meth c H locs 0 0 (m_Qv below args s G nx κ res) (F0 m 35 ls [.int t0]) := by
  have hx := X.1.1
  have hb := X.1.2.1
  intro S l1 l3 t0 H locs ls hH hS hl hm
  rw [b_X12_callsFun_35] at hm
  refine lv_istore (lv' := [(4, .int t0), (0, .ref a), (1, .int l1), (3, .int l3)]) hx hb dX12_callsFun_35 hl (by decide) rfl (fun ls hl => ?_)
  refine lv_iconst (v := (0 : Int32)) hx hb dX12_callsFun_37 (by decide) ?_
  refine lv_istore (lv' := [(5, .int (0 : Int32)), (4, .int t0), (0, .ref a), (1, .int l1), (3, .int l3)]) hx hb dX12_callsFun_38 hl (by decide) rfl (fun ls hl => ?_)
  exact k_X12_callsFun_40 (a := a) X hr hT hk_a  m_fu S l1 l3 t0 (0 : Int32) _ _ _ hH hS (lv_sub hl [2, 3, 4, 1, 0] rfl) hm
def f_X12_callsFun (a : Nat) (S : m_M) (i1 : Int32) : Option m_M :=
    m_call (f_X12_lineOf a S i1) fun v2 S1 =>
    (m_ldi S1 (a + 2) 2647 ((42 : Int32) + v2)).bind fun v3 =>
    (m_ldi S1 (a + 2) 2647 ((18 : Int32) + v2)).bind fun v4 =>
    if v4 = (8 : Int32) then (
    b_X12_callsFun_35 a S1 i1 v3 (0 : Int32)) else (
    b_X12_callsFun_35 a S1 i1 v3 (1 : Int32))
set_option maxHeartbeats 4000000 in
set_option maxRecDepth 100000 in
theorem c_X12_callsFun {l : Launch} {G : m_G} {nx : Nat} {κ : Nat → Nat} {a : Nat} {S : m_M} {i1 : Int32} {res : m_M} (hT : m_Str κ) (hk_a : κ a = 13) (hm : f_X12_callsFun a S i1 = some res) : m_Cv l yX12_callsFun cX12_callsFun 6 rm_X12_callsFun G nx κ [.ref a, .int i1] S res := by
  refine m_Cv.of (by decide) (Nat.le_of_ble_eq_true rfl) ?_
  intro p e s m args below meth c ls X hr hH hl
  have hx := X.1.1
  have hb := X.1.2.1
  have hS : m_S G s s.heap [] := va_S.rf
  have hl : lv_has ls 6 [(0, .ref a), (1, .int i1)] := hl
  rw [f_X12_callsFun] at hm
  refine lv_aload_n hx hb dX12_callsFun_0 rfl (lv_at hl 0 rfl) ?_
  refine lv_iload_n hx hb dX12_callsFun_1 rfl (lv_at hl 1 rfl) ?_
  obtain ⟨v2, S1, e_S1, hm⟩ := m_call_of hm
  refine n_cVi X hH hS (k := 12) (c_X12_lineOf (a := a) hT hk_a e_S1) mw_X12_lineOf in_8_160 hk_a (by decide) rfl rfl rfl ⟨rfl, rfl⟩ ⟨Nat.le_of_ble_eq_true rfl, Nat.le_of_ble_eq_true rfl⟩ ⟨Nat.zero_le _, Nat.zero_le _⟩ hl.1 (Nat.le_of_ble_eq_true rfl) dX12_callsFun_2 (fun H locs hH hS => ?_)
  refine lv_istore_n (lv' := [(2, .int v2), (0, .ref a), (1, .int i1)]) hx hb dX12_callsFun_5 rfl hl (by decide) rfl (fun ls hl => ?_)
  refine lv_aload_n hx hb dX12_callsFun_6 rfl (lv_at hl 1 rfl) ?_
  refine r_getp X hH (k := 12) (a := a) (j := 14) (b := (a + 2)) (A := 2) (B := 0) hk_a (by decide) rfl m_wi12 (by decide) in_7_29 rfl rfl rfl dX12_callsFun_7 ?_
  refine lv_bipush (v := (42 : Int32)) hx hb dX12_callsFun_10 (by decide) ?_
  refine lv_iload_n hx hb dX12_callsFun_12 rfl (lv_at hl 0 rfl) ?_
  refine lv_iadd hx hb dX12_callsFun_13 ?_
  obtain ⟨v3, h_v3, e_v3, hm⟩ := n_ldi hm
  refine n_iald X hH (n := 2647) (m_lay_at hT hk_a (by decide) (i := 2) rfl) h_v3 e_v3 dX12_callsFun_14 ?_
  refine lv_istore_n (lv' := [(3, .int v3), (2, .int v2), (0, .ref a), (1, .int i1)]) hx hb dX12_callsFun_15 rfl hl (by decide) rfl (fun ls hl => ?_)
  refine lv_aload_n hx hb dX12_callsFun_16 rfl (lv_at hl 2 rfl) ?_
  refine r_getp X hH (k := 12) (a := a) (j := 14) (b := (a + 2)) (A := 2) (B := 0) hk_a (by decide) rfl m_wi12 (by decide) in_7_29 rfl rfl rfl dX12_callsFun_17 ?_
  refine lv_bipush (v := (18 : Int32)) hx hb dX12_callsFun_20 (by decide) ?_
  refine lv_iload_n hx hb dX12_callsFun_22 rfl (lv_at hl 1 rfl) ?_
  refine lv_iadd hx hb dX12_callsFun_23 ?_
  obtain ⟨v4, h_v4, e_v4, hm⟩ := n_ldi hm
  refine n_iald X hH (n := 2647) (m_lay_at hT hk_a (by decide) (i := 2) rfl) h_v4 e_v4 dX12_callsFun_24 ?_
  refine lv_bipush (v := (8 : Int32)) hx hb dX12_callsFun_25 (by decide) ?_
  refine lv_icmp_ne (tgt := 34) hx hb dX12_callsFun_27 (by decide) (fun c5 => ?_) (fun c5 => ?_)
  · have hm := m_ite_f hm c5
    refine lv_iconst (v := (1 : Int32)) hx hb dX12_callsFun_34 (by decide) ?_
    exact k_X12_callsFun_35 (a := a) X hr hT hk_a   S1 i1 v3 (1 : Int32) _ _ _ hH hS (lv_sub hl [2, 3, 0] rfl) hm
  · have hm := m_ite_t hm c5
    refine lv_iconst (v := (0 : Int32)) hx hb dX12_callsFun_30 (by decide) ?_
    refine lv_goto (tgt := 35) hx hb dX12_callsFun_31 (by decide) ?_
    exact k_X12_callsFun_35 (a := a) X hr hT hk_a   S1 i1 v3 (0 : Int32) _ _ _ hH hS (lv_sub hl [2, 3, 0] rfl) hm
def rm_X12_givesAt : Room := { frames := 4, cells := 0, slots := 0, locals := 97 }
def f_X12_givesAt (a : Nat) (S : m_M) (i1 : Int32) (i2 : Int32) : Option m_M :=
    m_call (f_X12_kindAt a S i1 i2) fun v2 S1 =>
    m_call (f_X12_valueAt a S1 i1 i2) fun v4 S3 =>
    m_cal0 (f_X12_gives a S3 v2 v4) fun S5 =>
    some S5
set_option maxHeartbeats 4000000 in
set_option maxRecDepth 100000 in
theorem c_X12_givesAt {l : Launch} {G : m_G} {nx : Nat} {κ : Nat → Nat} {a : Nat} {S : m_M} {i1 : Int32} {i2 : Int32} {res : m_M} (hT : m_Str κ) (hk_a : κ a = 13) (hm : f_X12_givesAt a S i1 i2 = some res) : m_Cv l yX12_givesAt cX12_givesAt 3 rm_X12_givesAt G nx κ [.ref a, .int i1, .int i2] S res := by
  refine m_Cv.of (by decide) (Nat.le_of_ble_eq_true rfl) ?_
  intro p e s m args below meth c ls X hr hH hl
  have hx := X.1.1
  have hb := X.1.2.1
  have hS : m_S G s s.heap [] := va_S.rf
  have hl : lv_has ls 3 [(0, .ref a), (1, .int i1), (2, .int i2)] := hl
  rw [f_X12_givesAt] at hm
  refine lv_aload_n hx hb dX12_givesAt_0 rfl (lv_at hl 0 rfl) ?_
  refine lv_aload_n hx hb dX12_givesAt_1 rfl (lv_at hl 0 rfl) ?_
  refine lv_iload_n hx hb dX12_givesAt_2 rfl (lv_at hl 1 rfl) ?_
  refine lv_iload_n hx hb dX12_givesAt_3 rfl (lv_at hl 2 rfl) ?_
  obtain ⟨v2, S1, e_S1, hm⟩ := m_call_of hm
  refine n_cVi X hH hS (k := 12) (c_X12_kindAt (a := a) hT hk_a e_S1) mw_X12_kindAt in_8_164 hk_a (by decide) rfl rfl rfl ⟨rfl, rfl⟩ ⟨Nat.le_of_ble_eq_true rfl, Nat.le_of_ble_eq_true rfl⟩ ⟨Nat.zero_le _, Nat.zero_le _⟩ hl.1 (Nat.le_of_ble_eq_true rfl) dX12_givesAt_4 (fun H locs hH hS => ?_)
  refine lv_aload_n hx hb dX12_givesAt_7 rfl (lv_at hl 0 rfl) ?_
  refine lv_iload_n hx hb dX12_givesAt_8 rfl (lv_at hl 1 rfl) ?_
  refine lv_iload_n hx hb dX12_givesAt_9 rfl (lv_at hl 2 rfl) ?_
  obtain ⟨v4, S3, e_S3, hm⟩ := m_call_of hm
  refine n_cVi X hH hS (k := 12) (c_X12_valueAt (a := a) hT hk_a e_S3) mw_X12_valueAt in_8_172 hk_a (by decide) rfl rfl rfl ⟨rfl, rfl⟩ ⟨Nat.le_of_ble_eq_true rfl, Nat.le_of_ble_eq_true rfl⟩ ⟨Nat.zero_le _, Nat.zero_le _⟩ hl.1 (Nat.le_of_ble_eq_true rfl) dX12_givesAt_10 (fun H locs hH hS => ?_)
  obtain ⟨S5, e_S5, hm⟩ := m_cal0_of hm
  refine r_cVv X hH hS (k := 12) (c_X12_gives (a := a) hT hk_a e_S5) mw_X12_gives in_8_184 hk_a (by decide) rfl rfl rfl ⟨rfl, rfl⟩ ⟨Nat.le_of_ble_eq_true rfl, Nat.le_of_ble_eq_true rfl⟩ ⟨Nat.zero_le _, Nat.zero_le _⟩ hl.1 (Nat.le_of_ble_eq_true rfl) dX12_givesAt_13 (fun H locs hH hS => ?_)
  exact r_vret X hr hH hS hm dX12_givesAt_16
def rm_X12_does : Room := { frames := 5, cells := 0, slots := 0, locals := 119 }
def b_X12_does_94 (a : Nat)  (S : m_M) (l1 : Int32) (l2 : Int32) : Option m_M :=
    m_call (f_X12_valueAt a S l1 (0 : Int32)) fun v2 S1 =>
    (m_ldi S1 (a + 2) 2647 ((18 : Int32) + l2)).bind fun v3 =>
    m_let ((((2 : Int32) * v2) + v3) - (3 : Int32)) fun v4 =>
    (m_ldi S1 (a + 2) 2647 ((1293 : Int32) + v4)).bind fun v5 =>
    (m_ldi S1 (a + 2) 2647 ((1693 : Int32) + v4)).bind fun v6 =>
    m_cal0 (f_X12_gives a S1 v5 v6) fun S7 =>
    some S7
set_option maxHeartbeats 4000000 in
set_option maxRecDepth 100000 in
theorem k_X12_does_94 {p : Program} {l : Launch} {e : Env} {s : State} {m : MethodId} {args : Array Value} {below : List Frame} {meth : Method} {c : Code} {G : m_G} {nx : Nat} {κ : Nat → Nat} {res : m_M} {a : Nat} (X : m_Cx p s m args meth c cX12_does 4 RX12 G) (hr : meth.sig.returnType = none) (hT : m_Str κ) (hk_a : κ a = 13)  : ∀ (S : m_M) (l1 : Int32) (l2 : Int32) (H : Heap) (locs : List Loc) (ls : Array Slot), m_H G nx κ S H → m_S G s H locs → lv_has ls 4 [(0, .ref a), (1, .int l1), (2, .int l2)] → b_X12_does_94 a S l1 l2 = some res → W p l e rm_X12_does s m args below meth c H locs 0 0 (m_Qv below args s G nx κ res) (F0 m 94 ls []) := by
  have hx := X.1.1
  have hb := X.1.2.1
  intro S l1 l2 H locs ls hH hS hl hm
  rw [b_X12_does_94] at hm
  refine lv_iconst (v := (2 : Int32)) hx hb dX12_does_94 (by decide) ?_
  refine lv_aload_n hx hb dX12_does_95 rfl (lv_at hl 0 rfl) ?_
  refine lv_iload_n hx hb dX12_does_96 rfl (lv_at hl 1 rfl) ?_
  refine lv_iconst (v := (0 : Int32)) hx hb dX12_does_97 (by decide) ?_
  obtain ⟨v2, S1, e_S1, hm⟩ := m_call_of hm
  refine n_cVi X hH hS (k := 12) (c_X12_valueAt (a := a) hT hk_a e_S1) mw_X12_valueAt in_8_172 hk_a (by decide) rfl rfl rfl ⟨rfl, rfl⟩ ⟨Nat.le_of_ble_eq_true rfl, Nat.le_of_ble_eq_true rfl⟩ ⟨Nat.zero_le _, Nat.zero_le _⟩ hl.1 (Nat.le_of_ble_eq_true rfl) dX12_does_98 (fun H locs hH hS => ?_)
  refine lv_imul hx hb dX12_does_101 ?_
  refine lv_aload_n hx hb dX12_does_102 rfl (lv_at hl 0 rfl) ?_
  refine r_getp X hH (k := 12) (a := a) (j := 14) (b := (a + 2)) (A := 2) (B := 0) hk_a (by decide) rfl m_wi12 (by decide) in_7_29 rfl rfl rfl dX12_does_103 ?_
  refine lv_bipush (v := (18 : Int32)) hx hb dX12_does_106 (by decide) ?_
  refine lv_iload_n hx hb dX12_does_108 rfl (lv_at hl 2 rfl) ?_
  refine lv_iadd hx hb dX12_does_109 ?_
  obtain ⟨v3, h_v3, e_v3, hm⟩ := n_ldi hm
  refine n_iald X hH (n := 2647) (m_lay_at hT hk_a (by decide) (i := 2) rfl) h_v3 e_v3 dX12_does_110 ?_
  refine lv_iadd hx hb dX12_does_111 ?_
  refine lv_iconst (v := (3 : Int32)) hx hb dX12_does_112 (by decide) ?_
  refine lv_isub hx hb dX12_does_113 ?_
  obtain ⟨v4, e_v4, hm⟩ := m_let_of hm
  refine n_topi e_v4 ?_
  refine lv_istore_n (lv' := [(3, .int v4), (0, .ref a), (1, .int l1), (2, .int l2)]) hx hb dX12_does_114 rfl hl (by decide) rfl (fun ls hl => ?_)
  refine lv_aload_n hx hb dX12_does_115 rfl (lv_at hl 1 rfl) ?_
  refine lv_aload_n hx hb dX12_does_116 rfl (lv_at hl 1 rfl) ?_
  refine r_getp X hH (k := 12) (a := a) (j := 14) (b := (a + 2)) (A := 2) (B := 0) hk_a (by decide) rfl m_wi12 (by decide) in_7_29 rfl rfl rfl dX12_does_117 ?_
  refine lv_sipush (v := (1293 : Int32)) hx hb dX12_does_120 (by decide) ?_
  refine lv_iload_n hx hb dX12_does_123 rfl (lv_at hl 0 rfl) ?_
  refine lv_iadd hx hb dX12_does_124 ?_
  obtain ⟨v5, h_v5, e_v5, hm⟩ := n_ldi hm
  refine n_iald X hH (n := 2647) (m_lay_at hT hk_a (by decide) (i := 2) rfl) h_v5 e_v5 dX12_does_125 ?_
  refine lv_aload_n hx hb dX12_does_126 rfl (lv_at hl 1 rfl) ?_
  refine r_getp X hH (k := 12) (a := a) (j := 14) (b := (a + 2)) (A := 2) (B := 0) hk_a (by decide) rfl m_wi12 (by decide) in_7_29 rfl rfl rfl dX12_does_127 ?_
  refine lv_sipush (v := (1693 : Int32)) hx hb dX12_does_130 (by decide) ?_
  refine lv_iload_n hx hb dX12_does_133 rfl (lv_at hl 0 rfl) ?_
  refine lv_iadd hx hb dX12_does_134 ?_
  obtain ⟨v6, h_v6, e_v6, hm⟩ := n_ldi hm
  refine n_iald X hH (n := 2647) (m_lay_at hT hk_a (by decide) (i := 2) rfl) h_v6 e_v6 dX12_does_135 ?_
  obtain ⟨S7, e_S7, hm⟩ := m_cal0_of hm
  refine r_cVv X hH hS (k := 12) (c_X12_gives (a := a) hT hk_a e_S7) mw_X12_gives in_8_184 hk_a (by decide) rfl rfl rfl ⟨rfl, rfl⟩ ⟨Nat.le_of_ble_eq_true rfl, Nat.le_of_ble_eq_true rfl⟩ ⟨Nat.zero_le _, Nat.zero_le _⟩ hl.1 (Nat.le_of_ble_eq_true rfl) dX12_does_136 (fun H locs hH hS => ?_)
  exact r_vret X hr hH hS hm dX12_does_139
def b_X12_does_181 (a : Nat)  (S : m_M) (t1 : Int32) (t2 : Int32) : Option m_M :=
    m_cal0 (f_X12_gives a S t1 t2) fun S1 =>
    some S1
set_option maxHeartbeats 4000000 in
set_option maxRecDepth 100000 in
theorem k_X12_does_181 {p : Program} {l : Launch} {e : Env} {s : State} {m : MethodId} {args : Array Value} {below : List Frame} {meth : Method} {c : Code} {G : m_G} {nx : Nat} {κ : Nat → Nat} {res : m_M} {a : Nat} (X : m_Cx p s m args meth c cX12_does 4 RX12 G) (hr : meth.sig.returnType = none) (hT : m_Str κ) (hk_a : κ a = 13)  : ∀ (S : m_M) (t1 : Int32) (t2 : Int32) (H : Heap) (locs : List Loc) (ls : Array Slot), m_H G nx κ S H → m_S G s H locs → lv_has ls 4 [] → b_X12_does_181 a S t1 t2 = some res → W p l e rm_X12_does s m args below meth c H locs 0 0 (m_Qv below args s G nx κ res) (F0 m 181 ls [.int t2, .int t1, .ref a]) := by
  have hx := X.1.1
  have hb := X.1.2.1
  intro S t1 t2 H locs ls hH hS hl hm
  rw [b_X12_does_181] at hm
  obtain ⟨S1, e_S1, hm⟩ := m_cal0_of hm
  refine r_cVv X hH hS (k := 12) (c_X12_gives (a := a) hT hk_a e_S1) mw_X12_gives in_8_184 hk_a (by decide) rfl rfl rfl ⟨rfl, rfl⟩ ⟨Nat.le_of_ble_eq_true rfl, Nat.le_of_ble_eq_true rfl⟩ ⟨Nat.zero_le _, Nat.zero_le _⟩ hl.1 (Nat.le_of_ble_eq_true rfl) dX12_does_181 (fun H locs hH hS => ?_)
  exact r_vret X hr hH hS hm dX12_does_184
def b_X12_does_201 (a : Nat)  (S : m_M) (t1 : Int32) (t2 : Int32) : Option m_M :=
    m_cal0 (f_X12_givesAt a S t1 t2) fun S1 =>
    some S1
set_option maxHeartbeats 4000000 in
set_option maxRecDepth 100000 in
theorem k_X12_does_201 {p : Program} {l : Launch} {e : Env} {s : State} {m : MethodId} {args : Array Value} {below : List Frame} {meth : Method} {c : Code} {G : m_G} {nx : Nat} {κ : Nat → Nat} {res : m_M} {a : Nat} (X : m_Cx p s m args meth c cX12_does 4 RX12 G) (hr : meth.sig.returnType = none) (hT : m_Str κ) (hk_a : κ a = 13)  : ∀ (S : m_M) (t1 : Int32) (t2 : Int32) (H : Heap) (locs : List Loc) (ls : Array Slot), m_H G nx κ S H → m_S G s H locs → lv_has ls 4 [] → b_X12_does_201 a S t1 t2 = some res → W p l e rm_X12_does s m args below meth c H locs 0 0 (m_Qv below args s G nx κ res) (F0 m 201 ls [.int t2, .int t1, .ref a]) := by
  have hx := X.1.1
  have hb := X.1.2.1
  intro S t1 t2 H locs ls hH hS hl hm
  rw [b_X12_does_201] at hm
  obtain ⟨S1, e_S1, hm⟩ := m_cal0_of hm
  refine r_cVv X hH hS (k := 12) (c_X12_givesAt (a := a) hT hk_a e_S1) mw_X12_givesAt in_8_200 hk_a (by decide) rfl rfl rfl ⟨rfl, rfl⟩ ⟨Nat.le_of_ble_eq_true rfl, Nat.le_of_ble_eq_true rfl⟩ ⟨Nat.zero_le _, Nat.zero_le _⟩ hl.1 (Nat.le_of_ble_eq_true rfl) dX12_does_201 (fun H locs hH hS => ?_)
  exact r_vret X hr hH hS hm dX12_does_204
def b_X12_does_227 (a : Nat)  (S : m_M)  : Option m_M :=
    some S
set_option maxHeartbeats 4000000 in
set_option maxRecDepth 100000 in
theorem k_X12_does_227 {p : Program} {l : Launch} {e : Env} {s : State} {m : MethodId} {args : Array Value} {below : List Frame} {meth : Method} {c : Code} {G : m_G} {nx : Nat} {κ : Nat → Nat} {res : m_M} {a : Nat} (X : m_Cx p s m args meth c cX12_does 4 RX12 G) (hr : meth.sig.returnType = none) (hT : m_Str κ) (hk_a : κ a = 13)  : ∀ (S : m_M)  (H : Heap) (locs : List Loc) (ls : Array Slot), m_H G nx κ S H → m_S G s H locs → lv_has ls 4 [] → b_X12_does_227 a S  = some res → W p l e rm_X12_does s m args below meth c H locs 0 0 (m_Qv below args s G nx κ res) (F0 m 227 ls []) := by
  have hx := X.1.1
  have hb := X.1.2.1
  intro S H locs ls hH hS hl hm
  rw [b_X12_does_227] at hm
  exact r_vret X hr hH hS hm dX12_does_227
def f_X12_does (a : Nat) (S : m_M) (i1 : Int32) : Option m_M :=
    m_call (f_X12_lineOf a S i1) fun v2 S1 =>
    (m_ldi S1 (a + 2) 2647 ((18 : Int32) + v2)).bind fun v3 =>
    if v3 = (0 : Int32) then (
    (m_ldi S1 (a + 2) 2647 ((186 : Int32) + v2)).bind fun v5 =>
    m_cal0 (f_X12_gives a S1 (1 : Int32) v5) fun S6 =>
    some S6) else (
    if v3 = (1 : Int32) then (
    m_cal0 (f_X12_givesAt a S1 i1 (0 : Int32)) fun S8 =>
    some S8) else (
    if v3 = (2 : Int32) then (
    m_call (f_X12_layCell a S1 i1) fun v11 S10 =>
    m_cal0 (f_X12_gives a S10 (2 : Int32) v11) fun S12 =>
    some S12) else (
    if v3 = (3 : Int32) then (
    b_X12_does_94 a S1 i1 v2) else (
    if v3 = (4 : Int32) then (
    b_X12_does_94 a S1 i1 v2) else (
    if v3 = (5 : Int32) then (
    m_call (f_X12_valueAt a S1 i1 (0 : Int32)) fun v17 S16 =>
    m_call (f_X12_valueAt a S16 i1 (1 : Int32)) fun v19 S18 =>
    m_cal0 (f_X12_gives a S18 (1 : Int32) (v17 + v19)) fun S20 =>
    some S20) else (
    if v3 = (6 : Int32) then (
    m_call (f_X12_valueAt a S1 i1 (0 : Int32)) fun v23 S22 =>
    m_call (f_X12_valueAt a S22 i1 (1 : Int32)) fun v25 S24 =>
    if v25 ≤ v23 then (
    b_X12_does_181 a S24 (1 : Int32) (0 : Int32)) else (
    b_X12_does_181 a S24 (1 : Int32) (1 : Int32))) else (
    if v3 = (7 : Int32) then (
    m_call (f_X12_valueAt a S1 i1 (0 : Int32)) fun v29 S28 =>
    if v29 = 0 then (
    b_X12_does_201 a S28 i1 (2 : Int32)) else (
    b_X12_does_201 a S28 i1 (1 : Int32))) else (
    m_call (f_X12_calls a S1 i1) fun v32 S31 =>
    if v32 = 0 then (
    m_cal0 (f_X12_givesAt a S31 i1 (4 : Int32)) fun S34 =>
    b_X12_does_227 a S34) else (
    m_cal0 (f_X12_callsFun a S31 i1) fun S35 =>
    b_X12_does_227 a S35)))))))))
set_option maxHeartbeats 4000000 in
set_option maxRecDepth 100000 in
theorem c_X12_does {l : Launch} {G : m_G} {nx : Nat} {κ : Nat → Nat} {a : Nat} {S : m_M} {i1 : Int32} {res : m_M} (hT : m_Str κ) (hk_a : κ a = 13) (hm : f_X12_does a S i1 = some res) : m_Cv l yX12_does cX12_does 4 rm_X12_does G nx κ [.ref a, .int i1] S res := by
  refine m_Cv.of (by decide) (Nat.le_of_ble_eq_true rfl) ?_
  intro p e s m args below meth c ls X hr hH hl
  have hx := X.1.1
  have hb := X.1.2.1
  have hS : m_S G s s.heap [] := va_S.rf
  have hl : lv_has ls 4 [(0, .ref a), (1, .int i1)] := hl
  rw [f_X12_does] at hm
  refine lv_aload_n hx hb dX12_does_0 rfl (lv_at hl 0 rfl) ?_
  refine lv_iload_n hx hb dX12_does_1 rfl (lv_at hl 1 rfl) ?_
  obtain ⟨v2, S1, e_S1, hm⟩ := m_call_of hm
  refine n_cVi X hH hS (k := 12) (c_X12_lineOf (a := a) hT hk_a e_S1) mw_X12_lineOf in_8_160 hk_a (by decide) rfl rfl rfl ⟨rfl, rfl⟩ ⟨Nat.le_of_ble_eq_true rfl, Nat.le_of_ble_eq_true rfl⟩ ⟨Nat.zero_le _, Nat.zero_le _⟩ hl.1 (Nat.le_of_ble_eq_true rfl) dX12_does_2 (fun H locs hH hS => ?_)
  refine lv_istore_n (lv' := [(2, .int v2), (0, .ref a), (1, .int i1)]) hx hb dX12_does_5 rfl hl (by decide) rfl (fun ls hl => ?_)
  refine lv_aload_n hx hb dX12_does_6 rfl (lv_at hl 1 rfl) ?_
  refine r_getp X hH (k := 12) (a := a) (j := 14) (b := (a + 2)) (A := 2) (B := 0) hk_a (by decide) rfl m_wi12 (by decide) in_7_29 rfl rfl rfl dX12_does_7 ?_
  refine lv_bipush (v := (18 : Int32)) hx hb dX12_does_10 (by decide) ?_
  refine lv_iload_n hx hb dX12_does_12 rfl (lv_at hl 0 rfl) ?_
  refine lv_iadd hx hb dX12_does_13 ?_
  obtain ⟨v3, h_v3, e_v3, hm⟩ := n_ldi hm
  refine n_iald X hH (n := 2647) (m_lay_at hT hk_a (by decide) (i := 2) rfl) h_v3 e_v3 dX12_does_14 ?_
  by_cases c4 : v3 = (0 : Int32)
  · have hm := m_ite_t hm c4
    refine lv_tableIn (off := 45) (tgt := 60) hx hb dX12_does_15 (by rw [c4]; decide) (by rw [c4]; decide) (by rw [c4]; rfl) (by decide) ?_
    refine lv_aload_n hx hb dX12_does_60 rfl (lv_at hl 1 rfl) ?_
    refine lv_iconst (v := (1 : Int32)) hx hb dX12_does_61 (by decide) ?_
    refine lv_aload_n hx hb dX12_does_62 rfl (lv_at hl 1 rfl) ?_
    refine r_getp X hH (k := 12) (a := a) (j := 14) (b := (a + 2)) (A := 2) (B := 0) hk_a (by decide) rfl m_wi12 (by decide) in_7_29 rfl rfl rfl dX12_does_63 ?_
    refine lv_sipush (v := (186 : Int32)) hx hb dX12_does_66 (by decide) ?_
    refine lv_iload_n hx hb dX12_does_69 rfl (lv_at hl 0 rfl) ?_
    refine lv_iadd hx hb dX12_does_70 ?_
    obtain ⟨v5, h_v5, e_v5, hm⟩ := n_ldi hm
    refine n_iald X hH (n := 2647) (m_lay_at hT hk_a (by decide) (i := 2) rfl) h_v5 e_v5 dX12_does_71 ?_
    obtain ⟨S6, e_S6, hm⟩ := m_cal0_of hm
    refine r_cVv X hH hS (k := 12) (c_X12_gives (a := a) hT hk_a e_S6) mw_X12_gives in_8_184 hk_a (by decide) rfl rfl rfl ⟨rfl, rfl⟩ ⟨Nat.le_of_ble_eq_true rfl, Nat.le_of_ble_eq_true rfl⟩ ⟨Nat.zero_le _, Nat.zero_le _⟩ hl.1 (Nat.le_of_ble_eq_true rfl) dX12_does_72 (fun H locs hH hS => ?_)
    exact r_vret X hr hH hS hm dX12_does_75
  · have hm := m_ite_f hm c4
    by_cases c7 : v3 = (1 : Int32)
    · have hm := m_ite_t hm c7
      refine lv_tableIn (off := 61) (tgt := 76) hx hb dX12_does_15 (by rw [c7]; decide) (by rw [c7]; decide) (by rw [c7]; rfl) (by decide) ?_
      refine lv_aload_n hx hb dX12_does_76 rfl (lv_at hl 1 rfl) ?_
      refine lv_iload_n hx hb dX12_does_77 rfl (lv_at hl 2 rfl) ?_
      refine lv_iconst (v := (0 : Int32)) hx hb dX12_does_78 (by decide) ?_
      obtain ⟨S8, e_S8, hm⟩ := m_cal0_of hm
      refine r_cVv X hH hS (k := 12) (c_X12_givesAt (a := a) hT hk_a e_S8) mw_X12_givesAt in_8_200 hk_a (by decide) rfl rfl rfl ⟨rfl, rfl⟩ ⟨Nat.le_of_ble_eq_true rfl, Nat.le_of_ble_eq_true rfl⟩ ⟨Nat.zero_le _, Nat.zero_le _⟩ hl.1 (Nat.le_of_ble_eq_true rfl) dX12_does_79 (fun H locs hH hS => ?_)
      exact r_vret X hr hH hS hm dX12_does_82
    · have hm := m_ite_f hm c7
      by_cases c9 : v3 = (2 : Int32)
      · have hm := m_ite_t hm c9
        refine lv_tableIn (off := 68) (tgt := 83) hx hb dX12_does_15 (by rw [c9]; decide) (by rw [c9]; decide) (by rw [c9]; rfl) (by decide) ?_
        refine lv_aload_n hx hb dX12_does_83 rfl (lv_at hl 1 rfl) ?_
        refine lv_iconst (v := (2 : Int32)) hx hb dX12_does_84 (by decide) ?_
        refine lv_aload_n hx hb dX12_does_85 rfl (lv_at hl 1 rfl) ?_
        refine lv_iload_n hx hb dX12_does_86 rfl (lv_at hl 2 rfl) ?_
        obtain ⟨v11, S10, e_S10, hm⟩ := m_call_of hm
        refine n_cVi X hH hS (k := 12) (c_X12_layCell (a := a) hT hk_a e_S10) mw_X12_layCell in_8_204 hk_a (by decide) rfl rfl rfl ⟨rfl, rfl⟩ ⟨Nat.le_of_ble_eq_true rfl, Nat.le_of_ble_eq_true rfl⟩ ⟨Nat.zero_le _, Nat.zero_le _⟩ hl.1 (Nat.le_of_ble_eq_true rfl) dX12_does_87 (fun H locs hH hS => ?_)
        obtain ⟨S12, e_S12, hm⟩ := m_cal0_of hm
        refine r_cVv X hH hS (k := 12) (c_X12_gives (a := a) hT hk_a e_S12) mw_X12_gives in_8_184 hk_a (by decide) rfl rfl rfl ⟨rfl, rfl⟩ ⟨Nat.le_of_ble_eq_true rfl, Nat.le_of_ble_eq_true rfl⟩ ⟨Nat.zero_le _, Nat.zero_le _⟩ hl.1 (Nat.le_of_ble_eq_true rfl) dX12_does_90 (fun H locs hH hS => ?_)
        exact r_vret X hr hH hS hm dX12_does_93
      · have hm := m_ite_f hm c9
        by_cases c13 : v3 = (3 : Int32)
        · have hm := m_ite_t hm c13
          refine lv_tableIn (off := 79) (tgt := 94) hx hb dX12_does_15 (by rw [c13]; decide) (by rw [c13]; decide) (by rw [c13]; rfl) (by decide) ?_
          exact k_X12_does_94 (a := a) X hr hT hk_a   S1 i1 v2 _ _ _ hH hS (lv_sub hl [1, 2, 0] rfl) hm
        · have hm := m_ite_f hm c13
          by_cases c14 : v3 = (4 : Int32)
          · have hm := m_ite_t hm c14
            refine lv_tableIn (off := 79) (tgt := 94) hx hb dX12_does_15 (by rw [c14]; decide) (by rw [c14]; decide) (by rw [c14]; rfl) (by decide) ?_
            exact k_X12_does_94 (a := a) X hr hT hk_a   S1 i1 v2 _ _ _ hH hS (lv_sub hl [1, 2, 0] rfl) hm
          · have hm := m_ite_f hm c14
            by_cases c15 : v3 = (5 : Int32)
            · have hm := m_ite_t hm c15
              refine lv_tableIn (off := 125) (tgt := 140) hx hb dX12_does_15 (by rw [c15]; decide) (by rw [c15]; decide) (by rw [c15]; rfl) (by decide) ?_
              refine lv_aload_n hx hb dX12_does_140 rfl (lv_at hl 1 rfl) ?_
              refine lv_iconst (v := (1 : Int32)) hx hb dX12_does_141 (by decide) ?_
              refine lv_aload_n hx hb dX12_does_142 rfl (lv_at hl 1 rfl) ?_
              refine lv_iload_n hx hb dX12_does_143 rfl (lv_at hl 2 rfl) ?_
              refine lv_iconst (v := (0 : Int32)) hx hb dX12_does_144 (by decide) ?_
              obtain ⟨v17, S16, e_S16, hm⟩ := m_call_of hm
              refine n_cVi X hH hS (k := 12) (c_X12_valueAt (a := a) hT hk_a e_S16) mw_X12_valueAt in_8_172 hk_a (by decide) rfl rfl rfl ⟨rfl, rfl⟩ ⟨Nat.le_of_ble_eq_true rfl, Nat.le_of_ble_eq_true rfl⟩ ⟨Nat.zero_le _, Nat.zero_le _⟩ hl.1 (Nat.le_of_ble_eq_true rfl) dX12_does_145 (fun H locs hH hS => ?_)
              refine lv_aload_n hx hb dX12_does_148 rfl (lv_at hl 1 rfl) ?_
              refine lv_iload_n hx hb dX12_does_149 rfl (lv_at hl 2 rfl) ?_
              refine lv_iconst (v := (1 : Int32)) hx hb dX12_does_150 (by decide) ?_
              obtain ⟨v19, S18, e_S18, hm⟩ := m_call_of hm
              refine n_cVi X hH hS (k := 12) (c_X12_valueAt (a := a) hT hk_a e_S18) mw_X12_valueAt in_8_172 hk_a (by decide) rfl rfl rfl ⟨rfl, rfl⟩ ⟨Nat.le_of_ble_eq_true rfl, Nat.le_of_ble_eq_true rfl⟩ ⟨Nat.zero_le _, Nat.zero_le _⟩ hl.1 (Nat.le_of_ble_eq_true rfl) dX12_does_151 (fun H locs hH hS => ?_)
              refine lv_iadd hx hb dX12_does_154 ?_
              obtain ⟨S20, e_S20, hm⟩ := m_cal0_of hm
              refine r_cVv X hH hS (k := 12) (c_X12_gives (a := a) hT hk_a e_S20) mw_X12_gives in_8_184 hk_a (by decide) rfl rfl rfl ⟨rfl, rfl⟩ ⟨Nat.le_of_ble_eq_true rfl, Nat.le_of_ble_eq_true rfl⟩ ⟨Nat.zero_le _, Nat.zero_le _⟩ hl.1 (Nat.le_of_ble_eq_true rfl) dX12_does_155 (fun H locs hH hS => ?_)
              exact r_vret X hr hH hS hm dX12_does_158
            · have hm := m_ite_f hm c15
              by_cases c21 : v3 = (6 : Int32)
              · have hm := m_ite_t hm c21
                refine lv_tableIn (off := 144) (tgt := 159) hx hb dX12_does_15 (by rw [c21]; decide) (by rw [c21]; decide) (by rw [c21]; rfl) (by decide) ?_
                refine lv_aload_n hx hb dX12_does_159 rfl (lv_at hl 1 rfl) ?_
                refine lv_iconst (v := (1 : Int32)) hx hb dX12_does_160 (by decide) ?_
                refine lv_aload_n hx hb dX12_does_161 rfl (lv_at hl 1 rfl) ?_
                refine lv_iload_n hx hb dX12_does_162 rfl (lv_at hl 2 rfl) ?_
                refine lv_iconst (v := (0 : Int32)) hx hb dX12_does_163 (by decide) ?_
                obtain ⟨v23, S22, e_S22, hm⟩ := m_call_of hm
                refine n_cVi X hH hS (k := 12) (c_X12_valueAt (a := a) hT hk_a e_S22) mw_X12_valueAt in_8_172 hk_a (by decide) rfl rfl rfl ⟨rfl, rfl⟩ ⟨Nat.le_of_ble_eq_true rfl, Nat.le_of_ble_eq_true rfl⟩ ⟨Nat.zero_le _, Nat.zero_le _⟩ hl.1 (Nat.le_of_ble_eq_true rfl) dX12_does_164 (fun H locs hH hS => ?_)
                refine lv_aload_n hx hb dX12_does_167 rfl (lv_at hl 1 rfl) ?_
                refine lv_iload_n hx hb dX12_does_168 rfl (lv_at hl 2 rfl) ?_
                refine lv_iconst (v := (1 : Int32)) hx hb dX12_does_169 (by decide) ?_
                obtain ⟨v25, S24, e_S24, hm⟩ := m_call_of hm
                refine n_cVi X hH hS (k := 12) (c_X12_valueAt (a := a) hT hk_a e_S24) mw_X12_valueAt in_8_172 hk_a (by decide) rfl rfl rfl ⟨rfl, rfl⟩ ⟨Nat.le_of_ble_eq_true rfl, Nat.le_of_ble_eq_true rfl⟩ ⟨Nat.zero_le _, Nat.zero_le _⟩ hl.1 (Nat.le_of_ble_eq_true rfl) dX12_does_170 (fun H locs hH hS => ?_)
                refine lv_icmp_ge (tgt := 180) hx hb dX12_does_173 (by decide) (fun c26 => ?_) (fun c26 => ?_)
                · have hm := m_ite_t hm c26
                  refine lv_iconst (v := (0 : Int32)) hx hb dX12_does_180 (by decide) ?_
                  exact k_X12_does_181 (a := a) X hr hT hk_a   S24 (1 : Int32) (0 : Int32) _ _ _ hH hS (lv_sub hl [] rfl) hm
                · have hm := m_ite_f hm c26
                  refine lv_iconst (v := (1 : Int32)) hx hb dX12_does_176 (by decide) ?_
                  refine lv_goto (tgt := 181) hx hb dX12_does_177 (by decide) ?_
                  exact k_X12_does_181 (a := a) X hr hT hk_a   S24 (1 : Int32) (1 : Int32) _ _ _ hH hS (lv_sub hl [] rfl) hm
              · have hm := m_ite_f hm c21
                by_cases c27 : v3 = (7 : Int32)
                · have hm := m_ite_t hm c27
                  refine lv_tableIn (off := 170) (tgt := 185) hx hb dX12_does_15 (by rw [c27]; decide) (by rw [c27]; decide) (by rw [c27]; rfl) (by decide) ?_
                  refine lv_aload_n hx hb dX12_does_185 rfl (lv_at hl 1 rfl) ?_
                  refine lv_iload_n hx hb dX12_does_186 rfl (lv_at hl 2 rfl) ?_
                  refine lv_aload_n hx hb dX12_does_187 rfl (lv_at hl 1 rfl) ?_
                  refine lv_iload_n hx hb dX12_does_188 rfl (lv_at hl 2 rfl) ?_
                  refine lv_iconst (v := (0 : Int32)) hx hb dX12_does_189 (by decide) ?_
                  obtain ⟨v29, S28, e_S28, hm⟩ := m_call_of hm
                  refine n_cVi X hH hS (k := 12) (c_X12_valueAt (a := a) hT hk_a e_S28) mw_X12_valueAt in_8_172 hk_a (by decide) rfl rfl rfl ⟨rfl, rfl⟩ ⟨Nat.le_of_ble_eq_true rfl, Nat.le_of_ble_eq_true rfl⟩ ⟨Nat.zero_le _, Nat.zero_le _⟩ hl.1 (Nat.le_of_ble_eq_true rfl) dX12_does_190 (fun H locs hH hS => ?_)
                  refine lv_if_eq (tgt := 200) hx hb dX12_does_193 (by decide) (fun c30 => ?_) (fun c30 => ?_)
                  · have hm := m_ite_t hm c30
                    refine lv_iconst (v := (2 : Int32)) hx hb dX12_does_200 (by decide) ?_
                    exact k_X12_does_201 (a := a) X hr hT hk_a   S28 i1 (2 : Int32) _ _ _ hH hS (lv_sub hl [] rfl) hm
                  · have hm := m_ite_f hm c30
                    refine lv_iconst (v := (1 : Int32)) hx hb dX12_does_196 (by decide) ?_
                    refine lv_goto (tgt := 201) hx hb dX12_does_197 (by decide) ?_
                    exact k_X12_does_201 (a := a) X hr hT hk_a   S28 i1 (1 : Int32) _ _ _ hH hS (lv_sub hl [] rfl) hm
                · have hm := m_ite_f hm c27
                  refine lv_tableOut (tgt := 205) hx hb dX12_does_15 (by have h_c4 := lv_neT (a := 0) c4 rfl; have h_c7 := lv_neT (a := 1) c7 rfl; have h_c9 := lv_neT (a := 2) c9 rfl; have h_c13 := lv_neT (a := 3) c13 rfl; have h_c14 := lv_neT (a := 4) c14 rfl; have h_c15 := lv_neT (a := 5) c15 rfl; have h_c21 := lv_neT (a := 6) c21 rfl; have h_c27 := lv_neT (a := 7) c27 rfl; omega) (by decide) ?_
                  refine lv_aload_n hx hb dX12_does_205 rfl (lv_at hl 1 rfl) ?_
                  refine lv_iload_n hx hb dX12_does_206 rfl (lv_at hl 2 rfl) ?_
                  obtain ⟨v32, S31, e_S31, hm⟩ := m_call_of hm
                  refine n_cVi X hH hS (k := 12) (c_X12_calls (a := a) hT hk_a e_S31) mw_X12_calls in_8_168 hk_a (by decide) rfl rfl rfl ⟨rfl, rfl⟩ ⟨Nat.le_of_ble_eq_true rfl, Nat.le_of_ble_eq_true rfl⟩ ⟨Nat.zero_le _, Nat.zero_le _⟩ hl.1 (Nat.le_of_ble_eq_true rfl) dX12_does_207 (fun H locs hH hS => ?_)
                  refine lv_if_eq (tgt := 221) hx hb dX12_does_210 (by decide) (fun c33 => ?_) (fun c33 => ?_)
                  · have hm := m_ite_t hm c33
                    refine lv_aload_n hx hb dX12_does_221 rfl (lv_at hl 1 rfl) ?_
                    refine lv_iload_n hx hb dX12_does_222 rfl (lv_at hl 2 rfl) ?_
                    refine lv_iconst (v := (4 : Int32)) hx hb dX12_does_223 (by decide) ?_
                    obtain ⟨S34, e_S34, hm⟩ := m_cal0_of hm
                    refine r_cVv X hH hS (k := 12) (c_X12_givesAt (a := a) hT hk_a e_S34) mw_X12_givesAt in_8_200 hk_a (by decide) rfl rfl rfl ⟨rfl, rfl⟩ ⟨Nat.le_of_ble_eq_true rfl, Nat.le_of_ble_eq_true rfl⟩ ⟨Nat.zero_le _, Nat.zero_le _⟩ hl.1 (Nat.le_of_ble_eq_true rfl) dX12_does_224 (fun H locs hH hS => ?_)
                    exact k_X12_does_227 (a := a) X hr hT hk_a   S34 _ _ _ hH hS (lv_sub hl [] rfl) hm
                  · have hm := m_ite_f hm c33
                    refine lv_aload_n hx hb dX12_does_213 rfl (lv_at hl 1 rfl) ?_
                    refine lv_iload_n hx hb dX12_does_214 rfl (lv_at hl 2 rfl) ?_
                    obtain ⟨S35, e_S35, hm⟩ := m_cal0_of hm
                    refine r_cVv X hH hS (k := 12) (c_X12_callsFun (a := a) hT hk_a e_S35) mw_X12_callsFun in_8_208 hk_a (by decide) rfl rfl rfl ⟨rfl, rfl⟩ ⟨Nat.le_of_ble_eq_true rfl, Nat.le_of_ble_eq_true rfl⟩ ⟨Nat.zero_le _, Nat.zero_le _⟩ hl.1 (Nat.le_of_ble_eq_true rfl) dX12_does_215 (fun H locs hH hS => ?_)
                    refine lv_goto (tgt := 227) hx hb dX12_does_218 (by decide) ?_
                    exact k_X12_does_227 (a := a) X hr hT hk_a   S35 _ _ _ hH hS (lv_sub hl [] rfl) hm
def rm_X12_oneStep : Room := { frames := 6, cells := 0, slots := 0, locals := 142 }
def b_X12_oneStep_58 (a : Nat) (K_19 : m_M → Int32 → Int32 → Int32 → Option m_M) (S : m_M) (l1 : Int32) (l2 : Int32) (l3 : Int32) : Option m_M :=
    m_let (l3 + (1 : Int32)) fun v1 =>
    K_19 S l1 l2 v1
set_option maxHeartbeats 4000000 in
set_option maxRecDepth 100000 in
theorem k_X12_oneStep_58 {p : Program} {l : Launch} {e : Env} {s : State} {m : MethodId} {args : Array Value} {below : List Frame} {meth : Method} {c : Code} {G : m_G} {nx : Nat} {κ : Nat → Nat} {res : m_M} {a : Nat} (X : m_Cx p s m args meth c cX12_oneStep 4 RX12 G) (hr : meth.sig.returnType = none) (hT : m_Str κ) (hk_a : κ a = 13) (K_19 : m_M → Int32 → Int32 → Int32 → Option m_M) (hK_19 : ∀ (S : m_M) (l1 : Int32) (l2 : Int32) (l3 : Int32) (H : Heap) (locs : List Loc) (ls : Array Slot), m_H G nx κ S H → m_S G s H locs → lv_has ls 4 [(0, .ref a), (1, .int l1), (2, .int l2), (3, .int l3)] → K_19 S l1 l2 l3 = some res → W p l e rm_X12_oneStep s m args below meth c H locs 0 0 (m_Qv below args s G nx κ res) (F0 m 19 ls [])) : ∀ (S : m_M) (l1 : Int32) (l2 : Int32) (l3 : Int32) (H : Heap) (locs : List Loc) (ls : Array Slot), m_H G nx κ S H → m_S G s H locs → lv_has ls 4 [(0, .ref a), (1, .int l1), (2, .int l2), (3, .int l3)] → b_X12_oneStep_58 a K_19 S l1 l2 l3 = some res → W p l e rm_X12_oneStep s m args below meth c H locs 0 0 (m_Qv below args s G nx κ res) (F0 m 58 ls []) := by
  have hx := X.1.1
  have hb := X.1.2.1
  intro S l1 l2 l3 H locs ls hH hS hl hm
  rw [b_X12_oneStep_58] at hm
  obtain ⟨v1, e_v1, hm⟩ := m_let_of hm
  refine lv_iinc (v := v1) (lv' := [(3, .int v1), (0, .ref a), (1, .int l1), (2, .int l2)]) hx hb dX12_oneStep_58 hl (k := 3) rfl (by rw [← e_v1]; rfl) (by decide) rfl (fun ls hl => ?_)
  refine lv_goto (tgt := 19) hx hb dX12_oneStep_61 (by decide) ?_
  exact hK_19 S l1 l2 v1 _ _ _ hH hS (lv_sub hl [1, 2, 3, 0] rfl) hm
def b_X12_oneStep_112 (a : Nat)  (S : m_M)  : Option m_M :=
    some S
set_option maxHeartbeats 4000000 in
set_option maxRecDepth 100000 in
theorem k_X12_oneStep_112 {p : Program} {l : Launch} {e : Env} {s : State} {m : MethodId} {args : Array Value} {below : List Frame} {meth : Method} {c : Code} {G : m_G} {nx : Nat} {κ : Nat → Nat} {res : m_M} {a : Nat} (X : m_Cx p s m args meth c cX12_oneStep 4 RX12 G) (hr : meth.sig.returnType = none) (hT : m_Str κ) (hk_a : κ a = 13)  : ∀ (S : m_M)  (H : Heap) (locs : List Loc) (ls : Array Slot), m_H G nx κ S H → m_S G s H locs → lv_has ls 4 [] → b_X12_oneStep_112 a S  = some res → W p l e rm_X12_oneStep s m args below meth c H locs 0 0 (m_Qv below args s G nx κ res) (F0 m 112 ls []) := by
  have hx := X.1.1
  have hb := X.1.2.1
  intro S H locs ls hH hS hl hm
  rw [b_X12_oneStep_112] at hm
  exact r_vret X hr hH hS hm dX12_oneStep_112
def b_X12_oneStep_19 (a : Nat)  : Nat → m_M → Int32 → Int32 → Int32 → Option m_M
  | 0, _, _, _, _ => none
  | n + 1, S, l1, l2, l3 =>
    (m_ldi S (a + 2) 2647 (2 : Int32)).bind fun v1 =>
    if v1 ≤ l3 then (
    m_call (f_X12_whyStop a S l1) fun v4 S3 =>
    (m_ldi S3 (a + 2) 2647 (216 : Int32)).bind fun v5 =>
    (m_sti S3 (a + 2) 2647 (216 : Int32) (v5 + (1 : Int32))).bind fun S6 =>
    if v4 = 0 then (
    m_cal0 (f_X12_does a S6 l1) fun S8 =>
    b_X12_oneStep_112 a S8) else (
    (m_sti S6 (a + 2) 2647 (210 : Int32) (3 : Int32)).bind fun S9 =>
    (m_sti S9 (a + 2) 2647 (211 : Int32) v4).bind fun S10 =>
    b_X12_oneStep_112 a S10)) else (
    (m_ldi S (a + 20) 120 (((24 : Int32) * l2) + l3)).bind fun v11 =>
    (m_ldi S (a + 2) 2647 ((233 : Int32) + l1)).bind fun v12 =>
    if v11 = v12 then (
    m_cal0 (f_X12_makeRoom a S l3) fun S14 =>
    b_X12_oneStep_58 a (b_X12_oneStep_19 a n) S14 l1 l2 l3) else (
    b_X12_oneStep_58 a (b_X12_oneStep_19 a n) S l1 l2 l3))
set_option maxHeartbeats 4000000 in
set_option maxRecDepth 100000 in
theorem k_X12_oneStep_19 {p : Program} {l : Launch} {e : Env} {s : State} {m : MethodId} {args : Array Value} {below : List Frame} {meth : Method} {c : Code} {G : m_G} {nx : Nat} {κ : Nat → Nat} {res : m_M} {a : Nat} (X : m_Cx p s m args meth c cX12_oneStep 4 RX12 G) (hr : meth.sig.returnType = none) (hT : m_Str κ) (hk_a : κ a = 13)  (n : Nat) : ∀ (S : m_M) (l1 : Int32) (l2 : Int32) (l3 : Int32) (H : Heap) (locs : List Loc) (ls : Array Slot), m_H G nx κ S H → m_S G s H locs → lv_has ls 4 [(0, .ref a), (1, .int l1), (2, .int l2), (3, .int l3)] → b_X12_oneStep_19 a n S l1 l2 l3 = some res → W p l e rm_X12_oneStep s m args below meth c H locs 0 0 (m_Qv below args s G nx κ res) (F0 m 19 ls []) := by
  have hx := X.1.1
  have hb := X.1.2.1
  induction n with
  | zero => intro S l1 l2 l3 H locs ls hH hS hl hm; have hm : (none : Option m_M) = some res := hm; cases hm
  | succ n ih =>
    intro S l1 l2 l3 H locs ls hH hS hl hm
    rw [b_X12_oneStep_19] at hm
    refine lv_iload_n hx hb dX12_oneStep_19 rfl (lv_at hl 3 rfl) ?_
    refine lv_aload_n hx hb dX12_oneStep_20 rfl (lv_at hl 0 rfl) ?_
    refine r_getp X hH (k := 12) (a := a) (j := 14) (b := (a + 2)) (A := 2) (B := 0) hk_a (by decide) rfl m_wi12 (by decide) in_7_29 rfl rfl rfl dX12_oneStep_21 ?_
    refine lv_iconst (v := (2 : Int32)) hx hb dX12_oneStep_24 (by decide) ?_
    obtain ⟨v1, h_v1, e_v1, hm⟩ := n_ldi hm
    refine n_iald X hH (n := 2647) (m_lay_at hT hk_a (by decide) (i := 2) rfl) h_v1 e_v1 dX12_oneStep_25 ?_
    refine lv_icmp_ge (tgt := 64) hx hb dX12_oneStep_26 (by decide) (fun c2 => ?_) (fun c2 => ?_)
    · have hm := m_ite_t hm c2
      refine lv_aload_n hx hb dX12_oneStep_64 rfl (lv_at hl 0 rfl) ?_
      refine lv_iload_n hx hb dX12_oneStep_65 rfl (lv_at hl 1 rfl) ?_
      obtain ⟨v4, S3, e_S3, hm⟩ := m_call_of hm
      refine n_cVi X hH hS (k := 12) (c_X12_whyStop (a := a) hT hk_a e_S3) mw_X12_whyStop in_8_156 hk_a (by decide) rfl rfl rfl ⟨rfl, rfl⟩ ⟨Nat.le_of_ble_eq_true rfl, Nat.le_of_ble_eq_true rfl⟩ ⟨Nat.zero_le _, Nat.zero_le _⟩ hl.1 (Nat.le_of_ble_eq_true rfl) dX12_oneStep_66 (fun H locs hH hS => ?_)
      refine lv_istore_n (lv' := [(3, .int v4), (0, .ref a), (1, .int l1), (2, .int l2)]) hx hb dX12_oneStep_69 rfl hl (by decide) rfl (fun ls hl => ?_)
      refine lv_aload_n hx hb dX12_oneStep_70 rfl (lv_at hl 1 rfl) ?_
      refine r_getp X hH (k := 12) (a := a) (j := 14) (b := (a + 2)) (A := 2) (B := 0) hk_a (by decide) rfl m_wi12 (by decide) in_7_29 rfl rfl rfl dX12_oneStep_71 ?_
      refine lv_sipush (v := (216 : Int32)) hx hb dX12_oneStep_74 (by decide) ?_
      refine lv_dup2_11 hx hb dX12_oneStep_77 rfl rfl ?_
      obtain ⟨v5, h_v5, e_v5, hm⟩ := n_ldi hm
      refine n_iald X hH (n := 2647) (m_lay_at hT hk_a (by decide) (i := 2) rfl) h_v5 e_v5 dX12_oneStep_78 ?_
      refine lv_iconst (v := (1 : Int32)) hx hb dX12_oneStep_79 (by decide) ?_
      refine lv_iadd hx hb dX12_oneStep_80 ?_
      obtain ⟨S6, h_S6, e_S6, hm⟩ := n_sti hm
      refine n_iast X hH hS (n := 2647) (m_lay_at hT hk_a (by decide) (i := 2) rfl) h_S6 e_S6 dX12_oneStep_81 (fun H locs hH hS => ?_)
      refine lv_iload_n hx hb dX12_oneStep_82 rfl (lv_at hl 0 rfl) ?_
      refine lv_if_eq (tgt := 107) hx hb dX12_oneStep_83 (by decide) (fun c7 => ?_) (fun c7 => ?_)
      · have hm := m_ite_t hm c7
        refine lv_aload_n hx hb dX12_oneStep_107 rfl (lv_at hl 1 rfl) ?_
        refine lv_iload_n hx hb dX12_oneStep_108 rfl (lv_at hl 2 rfl) ?_
        obtain ⟨S8, e_S8, hm⟩ := m_cal0_of hm
        refine r_cVv X hH hS (k := 12) (c_X12_does (a := a) hT hk_a e_S8) mw_X12_does in_8_180 hk_a (by decide) rfl rfl rfl ⟨rfl, rfl⟩ ⟨Nat.le_of_ble_eq_true rfl, Nat.le_of_ble_eq_true rfl⟩ ⟨Nat.zero_le _, Nat.zero_le _⟩ hl.1 (Nat.le_of_ble_eq_true rfl) dX12_oneStep_109 (fun H locs hH hS => ?_)
        exact k_X12_oneStep_112 (a := a) X hr hT hk_a   S8 _ _ _ hH hS (lv_sub hl [] rfl) hm
      · have hm := m_ite_f hm c7
        refine lv_aload_n hx hb dX12_oneStep_86 rfl (lv_at hl 1 rfl) ?_
        refine r_getp X hH (k := 12) (a := a) (j := 14) (b := (a + 2)) (A := 2) (B := 0) hk_a (by decide) rfl m_wi12 (by decide) in_7_29 rfl rfl rfl dX12_oneStep_87 ?_
        refine lv_sipush (v := (210 : Int32)) hx hb dX12_oneStep_90 (by decide) ?_
        refine lv_iconst (v := (3 : Int32)) hx hb dX12_oneStep_93 (by decide) ?_
        obtain ⟨S9, h_S9, e_S9, hm⟩ := n_sti hm
        refine n_iast X hH hS (n := 2647) (m_lay_at hT hk_a (by decide) (i := 2) rfl) h_S9 e_S9 dX12_oneStep_94 (fun H locs hH hS => ?_)
        refine lv_aload_n hx hb dX12_oneStep_95 rfl (lv_at hl 1 rfl) ?_
        refine r_getp X hH (k := 12) (a := a) (j := 14) (b := (a + 2)) (A := 2) (B := 0) hk_a (by decide) rfl m_wi12 (by decide) in_7_29 rfl rfl rfl dX12_oneStep_96 ?_
        refine lv_sipush (v := (211 : Int32)) hx hb dX12_oneStep_99 (by decide) ?_
        refine lv_iload_n hx hb dX12_oneStep_102 rfl (lv_at hl 0 rfl) ?_
        obtain ⟨S10, h_S10, e_S10, hm⟩ := n_sti hm
        refine n_iast X hH hS (n := 2647) (m_lay_at hT hk_a (by decide) (i := 2) rfl) h_S10 e_S10 dX12_oneStep_103 (fun H locs hH hS => ?_)
        refine lv_goto (tgt := 112) hx hb dX12_oneStep_104 (by decide) ?_
        exact k_X12_oneStep_112 (a := a) X hr hT hk_a   S10 _ _ _ hH hS (lv_sub hl [] rfl) hm
    · have hm := m_ite_f hm c2
      refine lv_aload_n hx hb dX12_oneStep_29 rfl (lv_at hl 0 rfl) ?_
      refine r_getp X hH (k := 12) (a := a) (j := 33) (b := (a + 20)) (A := 20) (B := 0) hk_a (by decide) rfl m_wi12 (by decide) in_7_48 rfl rfl rfl dX12_oneStep_30 ?_
      refine lv_bipush (v := (24 : Int32)) hx hb dX12_oneStep_33 (by decide) ?_
      refine lv_iload_n hx hb dX12_oneStep_35 rfl (lv_at hl 2 rfl) ?_
      refine lv_imul hx hb dX12_oneStep_36 ?_
      refine lv_iload_n hx hb dX12_oneStep_37 rfl (lv_at hl 3 rfl) ?_
      refine lv_iadd hx hb dX12_oneStep_38 ?_
      obtain ⟨v11, h_v11, e_v11, hm⟩ := n_ldi hm
      refine n_iald X hH (n := 120) (m_lay_at hT hk_a (by decide) (i := 20) rfl) h_v11 e_v11 dX12_oneStep_39 ?_
      refine lv_aload_n hx hb dX12_oneStep_40 rfl (lv_at hl 0 rfl) ?_
      refine r_getp X hH (k := 12) (a := a) (j := 14) (b := (a + 2)) (A := 2) (B := 0) hk_a (by decide) rfl m_wi12 (by decide) in_7_29 rfl rfl rfl dX12_oneStep_41 ?_
      refine lv_sipush (v := (233 : Int32)) hx hb dX12_oneStep_44 (by decide) ?_
      refine lv_iload_n hx hb dX12_oneStep_47 rfl (lv_at hl 1 rfl) ?_
      refine lv_iadd hx hb dX12_oneStep_48 ?_
      obtain ⟨v12, h_v12, e_v12, hm⟩ := n_ldi hm
      refine n_iald X hH (n := 2647) (m_lay_at hT hk_a (by decide) (i := 2) rfl) h_v12 e_v12 dX12_oneStep_49 ?_
      refine lv_icmp_ne (tgt := 58) hx hb dX12_oneStep_50 (by decide) (fun c13 => ?_) (fun c13 => ?_)
      · have hm := m_ite_f hm c13
        exact k_X12_oneStep_58 (a := a) X hr hT hk_a (b_X12_oneStep_19 a n) ih  S l1 l2 l3 _ _ _ hH hS hl hm
      · have hm := m_ite_t hm c13
        refine lv_aload_n hx hb dX12_oneStep_53 rfl (lv_at hl 0 rfl) ?_
        refine lv_iload_n hx hb dX12_oneStep_54 rfl (lv_at hl 3 rfl) ?_
        obtain ⟨S14, e_S14, hm⟩ := m_cal0_of hm
        refine r_cVv X hH hS (k := 12) (c_X12_makeRoom (a := a) hT hk_a e_S14) mw_X12_makeRoom in_8_128 hk_a (by decide) rfl rfl rfl ⟨rfl, rfl⟩ ⟨Nat.le_of_ble_eq_true rfl, Nat.le_of_ble_eq_true rfl⟩ ⟨Nat.zero_le _, Nat.zero_le _⟩ hl.1 (Nat.le_of_ble_eq_true rfl) dX12_oneStep_55 (fun H locs hH hS => ?_)
        exact k_X12_oneStep_58 (a := a) X hr hT hk_a (b_X12_oneStep_19 a n) ih  S14 l1 l2 l3 _ _ _ hH hS hl hm
def f_X12_oneStep (a : Nat) (S : m_M)  : Option m_M :=
    (m_ldi S (a + 2) 2647 (212 : Int32)).bind fun v1 =>
    m_let (v1 - (1 : Int32)) fun v2 =>
    m_call (f_X12_funOf a S v2) fun v4 S3 =>
    b_X12_oneStep_19 a m_fu S3 v2 v4 (0 : Int32)
set_option maxHeartbeats 4000000 in
set_option maxRecDepth 100000 in
theorem c_X12_oneStep {l : Launch} {G : m_G} {nx : Nat} {κ : Nat → Nat} {a : Nat} {S : m_M}  {res : m_M} (hT : m_Str κ) (hk_a : κ a = 13) (hm : f_X12_oneStep a S = some res) : m_Cv l yX12_oneStep cX12_oneStep 4 rm_X12_oneStep G nx κ [.ref a] S res := by
  refine m_Cv.of (by decide) (Nat.le_of_ble_eq_true rfl) ?_
  intro p e s m args below meth c ls X hr hH hl
  have hx := X.1.1
  have hb := X.1.2.1
  have hS : m_S G s s.heap [] := va_S.rf
  have hl : lv_has ls 4 [(0, .ref a)] := hl
  rw [f_X12_oneStep] at hm
  refine lv_aload_n hx hb dX12_oneStep_0 rfl (lv_at hl 0 rfl) ?_
  refine r_getp X hH (k := 12) (a := a) (j := 14) (b := (a + 2)) (A := 2) (B := 0) hk_a (by decide) rfl m_wi12 (by decide) in_7_29 rfl rfl rfl dX12_oneStep_1 ?_
  refine lv_sipush (v := (212 : Int32)) hx hb dX12_oneStep_4 (by decide) ?_
  obtain ⟨v1, h_v1, e_v1, hm⟩ := n_ldi hm
  refine n_iald X hH (n := 2647) (m_lay_at hT hk_a (by decide) (i := 2) rfl) h_v1 e_v1 dX12_oneStep_7 ?_
  refine lv_iconst (v := (1 : Int32)) hx hb dX12_oneStep_8 (by decide) ?_
  refine lv_isub hx hb dX12_oneStep_9 ?_
  obtain ⟨v2, e_v2, hm⟩ := m_let_of hm
  refine n_topi e_v2 ?_
  refine lv_istore_n (lv' := [(1, .int v2), (0, .ref a)]) hx hb dX12_oneStep_10 rfl hl (by decide) rfl (fun ls hl => ?_)
  refine lv_aload_n hx hb dX12_oneStep_11 rfl (lv_at hl 1 rfl) ?_
  refine lv_iload_n hx hb dX12_oneStep_12 rfl (lv_at hl 0 rfl) ?_
  obtain ⟨v4, S3, e_S3, hm⟩ := m_call_of hm
  refine n_cVi X hH hS (k := 12) (c_X12_funOf (a := a) hT hk_a e_S3) mw_X12_funOf in_8_152 hk_a (by decide) rfl rfl rfl ⟨rfl, rfl⟩ ⟨Nat.le_of_ble_eq_true rfl, Nat.le_of_ble_eq_true rfl⟩ ⟨Nat.zero_le _, Nat.zero_le _⟩ hl.1 (Nat.le_of_ble_eq_true rfl) dX12_oneStep_13 (fun H locs hH hS => ?_)
  refine lv_istore_n (lv' := [(2, .int v4), (1, .int v2), (0, .ref a)]) hx hb dX12_oneStep_16 rfl hl (by decide) rfl (fun ls hl => ?_)
  refine lv_iconst (v := (0 : Int32)) hx hb dX12_oneStep_17 (by decide) ?_
  refine lv_istore_n (lv' := [(3, .int (0 : Int32)), (2, .int v4), (1, .int v2), (0, .ref a)]) hx hb dX12_oneStep_18 rfl hl (by decide) rfl (fun ls hl => ?_)
  exact k_X12_oneStep_19 (a := a) X hr hT hk_a  m_fu S3 v2 v4 (0 : Int32) _ _ _ hH hS (lv_sub hl [3, 2, 1, 0] rfl) hm
def rm_X12_save : Room := { frames := 0, cells := 0, slots := 0, locals := 0 }
def b_X12_save_2 (a o1 n1 : Nat)  : Nat → m_M → Int32 → Int32 → Option m_M
  | 0, _, _, _ => none
  | n + 1, S, l2, l3 =>
    if (2195 : Int32) ≤ l3 then (
    some S) else (
    (m_ldi S (a + 2) 2647 ((210 : Int32) + l3)).bind fun v2 =>
    (m_sti S o1 n1 (l2 + l3) v2).bind fun S3 =>
    m_let (l3 + (1 : Int32)) fun v4 =>
    b_X12_save_2 a o1 n1 n S3 l2 v4)
set_option maxHeartbeats 4000000 in
set_option maxRecDepth 100000 in
theorem k_X12_save_2 {p : Program} {l : Launch} {e : Env} {s : State} {m : MethodId} {args : Array Value} {below : List Frame} {meth : Method} {c : Code} {G : m_G} {nx : Nat} {κ : Nat → Nat} {res : m_M} {a o1 n1 : Nat} (X : m_Cx p s m args meth c cX12_save 4 RX12 G) (hr : meth.sig.returnType = none) (hT : m_Str κ) (hk_a : κ a = 13) (hk_o1 : κ o1 = m_ac 1 n1)  (n : Nat) : ∀ (S : m_M) (l2 : Int32) (l3 : Int32) (H : Heap) (locs : List Loc) (ls : Array Slot), m_H G nx κ S H → m_S G s H locs → lv_has ls 4 [(0, .ref a), (1, .ref o1), (2, .int l2), (3, .int l3)] → b_X12_save_2 a o1 n1 n S l2 l3 = some res → W p l e rm_X12_save s m args below meth c H locs 0 0 (m_Qv below args s G nx κ res) (F0 m 2 ls []) := by
  have hx := X.1.1
  have hb := X.1.2.1
  induction n with
  | zero => intro S l2 l3 H locs ls hH hS hl hm; have hm : (none : Option m_M) = some res := hm; cases hm
  | succ n ih =>
    intro S l2 l3 H locs ls hH hS hl hm
    rw [b_X12_save_2] at hm
    refine lv_iload_n hx hb dX12_save_2 rfl (lv_at hl 3 rfl) ?_
    refine lv_sipush (v := (2195 : Int32)) hx hb dX12_save_3 (by decide) ?_
    refine lv_icmp_ge (tgt := 30) hx hb dX12_save_6 (by decide) (fun c1 => ?_) (fun c1 => ?_)
    · have hm := m_ite_t hm c1
      exact r_vret X hr hH hS hm dX12_save_30
    · have hm := m_ite_f hm c1
      refine lv_aload_n hx hb dX12_save_9 rfl (lv_at hl 1 rfl) ?_
      refine lv_iload_n hx hb dX12_save_10 rfl (lv_at hl 2 rfl) ?_
      refine lv_iload_n hx hb dX12_save_11 rfl (lv_at hl 3 rfl) ?_
      refine lv_iadd hx hb dX12_save_12 ?_
      refine lv_aload_n hx hb dX12_save_13 rfl (lv_at hl 0 rfl) ?_
      refine r_getp X hH (k := 12) (a := a) (j := 14) (b := (a + 2)) (A := 2) (B := 0) hk_a (by decide) rfl m_wi12 (by decide) in_7_29 rfl rfl rfl dX12_save_14 ?_
      refine lv_sipush (v := (210 : Int32)) hx hb dX12_save_17 (by decide) ?_
      refine lv_iload_n hx hb dX12_save_20 rfl (lv_at hl 3 rfl) ?_
      refine lv_iadd hx hb dX12_save_21 ?_
      obtain ⟨v2, h_v2, e_v2, hm⟩ := n_ldi hm
      refine n_iald X hH (n := 2647) (m_lay_at hT hk_a (by decide) (i := 2) rfl) h_v2 e_v2 dX12_save_22 ?_
      obtain ⟨S3, h_S3, e_S3, hm⟩ := n_sti hm
      refine n_iast X hH hS (n := n1) hk_o1 h_S3 e_S3 dX12_save_23 (fun H locs hH hS => ?_)
      obtain ⟨v4, e_v4, hm⟩ := m_let_of hm
      refine lv_iinc (v := v4) (lv' := [(3, .int v4), (0, .ref a), (1, .ref o1), (2, .int l2)]) hx hb dX12_save_24 hl (k := 3) rfl (by rw [← e_v4]; rfl) (by decide) rfl (fun ls hl => ?_)
      refine lv_goto (tgt := 2) hx hb dX12_save_27 (by decide) ?_
      exact ih S3 l2 v4 _ _ _ hH hS (lv_sub hl [1, 2, 3, 0] rfl) hm
def f_X12_save (a o1 n1 : Nat) (S : m_M) (i2 : Int32) : Option m_M :=
    b_X12_save_2 a o1 n1 m_fu S i2 (0 : Int32)
set_option maxHeartbeats 4000000 in
set_option maxRecDepth 100000 in
theorem c_X12_save {l : Launch} {G : m_G} {nx : Nat} {κ : Nat → Nat} {a o1 n1 : Nat} {S : m_M} {i2 : Int32} {res : m_M} (hT : m_Str κ) (hk_a : κ a = 13) (hk_o1 : κ o1 = m_ac 1 n1) (hm : f_X12_save a o1 n1 S i2 = some res) : m_Cv l yX12_save cX12_save 4 rm_X12_save G nx κ [.ref a, .ref o1, .int i2] S res := by
  refine m_Cv.of (by decide) (Nat.le_of_ble_eq_true rfl) ?_
  intro p e s m args below meth c ls X hr hH hl
  have hx := X.1.1
  have hb := X.1.2.1
  have hS : m_S G s s.heap [] := va_S.rf
  have hl : lv_has ls 4 [(0, .ref a), (1, .ref o1), (2, .int i2)] := hl
  rw [f_X12_save] at hm
  refine lv_iconst (v := (0 : Int32)) hx hb dX12_save_0 (by decide) ?_
  refine lv_istore_n (lv' := [(3, .int (0 : Int32)), (0, .ref a), (1, .ref o1), (2, .int i2)]) hx hb dX12_save_1 rfl hl (by decide) rfl (fun ls hl => ?_)
  exact k_X12_save_2 (a := a) (o1 := o1) (n1 := n1) X hr hT hk_a hk_o1  m_fu S i2 (0 : Int32) _ _ _ hH hS (lv_sub hl [1, 2, 3, 0] rfl) hm
def rm_X12_comeBack : Room := { frames := 0, cells := 0, slots := 0, locals := 0 }
def b_X12_comeBack_2 (a o1 n1 : Nat)  : Nat → m_M → Int32 → Int32 → Option m_M
  | 0, _, _, _ => none
  | n + 1, S, l2, l3 =>
    if (2195 : Int32) ≤ l3 then (
    some S) else (
    (m_ldi S o1 n1 (l2 + l3)).bind fun v2 =>
    (m_sti S (a + 2) 2647 ((210 : Int32) + l3) v2).bind fun S3 =>
    m_let (l3 + (1 : Int32)) fun v4 =>
    b_X12_comeBack_2 a o1 n1 n S3 l2 v4)
set_option maxHeartbeats 4000000 in
set_option maxRecDepth 100000 in
theorem k_X12_comeBack_2 {p : Program} {l : Launch} {e : Env} {s : State} {m : MethodId} {args : Array Value} {below : List Frame} {meth : Method} {c : Code} {G : m_G} {nx : Nat} {κ : Nat → Nat} {res : m_M} {a o1 n1 : Nat} (X : m_Cx p s m args meth c cX12_comeBack 4 RX12 G) (hr : meth.sig.returnType = none) (hT : m_Str κ) (hk_a : κ a = 13) (hk_o1 : κ o1 = m_ac 1 n1)  (n : Nat) : ∀ (S : m_M) (l2 : Int32) (l3 : Int32) (H : Heap) (locs : List Loc) (ls : Array Slot), m_H G nx κ S H → m_S G s H locs → lv_has ls 4 [(0, .ref a), (1, .ref o1), (2, .int l2), (3, .int l3)] → b_X12_comeBack_2 a o1 n1 n S l2 l3 = some res → W p l e rm_X12_comeBack s m args below meth c H locs 0 0 (m_Qv below args s G nx κ res) (F0 m 2 ls []) := by
  have hx := X.1.1
  have hb := X.1.2.1
  induction n with
  | zero => intro S l2 l3 H locs ls hH hS hl hm; have hm : (none : Option m_M) = some res := hm; cases hm
  | succ n ih =>
    intro S l2 l3 H locs ls hH hS hl hm
    rw [b_X12_comeBack_2] at hm
    refine lv_iload_n hx hb dX12_comeBack_2 rfl (lv_at hl 3 rfl) ?_
    refine lv_sipush (v := (2195 : Int32)) hx hb dX12_comeBack_3 (by decide) ?_
    refine lv_icmp_ge (tgt := 30) hx hb dX12_comeBack_6 (by decide) (fun c1 => ?_) (fun c1 => ?_)
    · have hm := m_ite_t hm c1
      exact r_vret X hr hH hS hm dX12_comeBack_30
    · have hm := m_ite_f hm c1
      refine lv_aload_n hx hb dX12_comeBack_9 rfl (lv_at hl 0 rfl) ?_
      refine r_getp X hH (k := 12) (a := a) (j := 14) (b := (a + 2)) (A := 2) (B := 0) hk_a (by decide) rfl m_wi12 (by decide) in_7_29 rfl rfl rfl dX12_comeBack_10 ?_
      refine lv_sipush (v := (210 : Int32)) hx hb dX12_comeBack_13 (by decide) ?_
      refine lv_iload_n hx hb dX12_comeBack_16 rfl (lv_at hl 3 rfl) ?_
      refine lv_iadd hx hb dX12_comeBack_17 ?_
      refine lv_aload_n hx hb dX12_comeBack_18 rfl (lv_at hl 1 rfl) ?_
      refine lv_iload_n hx hb dX12_comeBack_19 rfl (lv_at hl 2 rfl) ?_
      refine lv_iload_n hx hb dX12_comeBack_20 rfl (lv_at hl 3 rfl) ?_
      refine lv_iadd hx hb dX12_comeBack_21 ?_
      obtain ⟨v2, h_v2, e_v2, hm⟩ := n_ldi hm
      refine n_iald X hH (n := n1) hk_o1 h_v2 e_v2 dX12_comeBack_22 ?_
      obtain ⟨S3, h_S3, e_S3, hm⟩ := n_sti hm
      refine n_iast X hH hS (n := 2647) (m_lay_at hT hk_a (by decide) (i := 2) rfl) h_S3 e_S3 dX12_comeBack_23 (fun H locs hH hS => ?_)
      obtain ⟨v4, e_v4, hm⟩ := m_let_of hm
      refine lv_iinc (v := v4) (lv' := [(3, .int v4), (0, .ref a), (1, .ref o1), (2, .int l2)]) hx hb dX12_comeBack_24 hl (k := 3) rfl (by rw [← e_v4]; rfl) (by decide) rfl (fun ls hl => ?_)
      refine lv_goto (tgt := 2) hx hb dX12_comeBack_27 (by decide) ?_
      exact ih S3 l2 v4 _ _ _ hH hS (lv_sub hl [1, 2, 3, 0] rfl) hm
def f_X12_comeBack (a o1 n1 : Nat) (S : m_M) (i2 : Int32) : Option m_M :=
    b_X12_comeBack_2 a o1 n1 m_fu S i2 (0 : Int32)
set_option maxHeartbeats 4000000 in
set_option maxRecDepth 100000 in
theorem c_X12_comeBack {l : Launch} {G : m_G} {nx : Nat} {κ : Nat → Nat} {a o1 n1 : Nat} {S : m_M} {i2 : Int32} {res : m_M} (hT : m_Str κ) (hk_a : κ a = 13) (hk_o1 : κ o1 = m_ac 1 n1) (hm : f_X12_comeBack a o1 n1 S i2 = some res) : m_Cv l yX12_comeBack cX12_comeBack 4 rm_X12_comeBack G nx κ [.ref a, .ref o1, .int i2] S res := by
  refine m_Cv.of (by decide) (Nat.le_of_ble_eq_true rfl) ?_
  intro p e s m args below meth c ls X hr hH hl
  have hx := X.1.1
  have hb := X.1.2.1
  have hS : m_S G s s.heap [] := va_S.rf
  have hl : lv_has ls 4 [(0, .ref a), (1, .ref o1), (2, .int i2)] := hl
  rw [f_X12_comeBack] at hm
  refine lv_iconst (v := (0 : Int32)) hx hb dX12_comeBack_0 (by decide) ?_
  refine lv_istore_n (lv' := [(3, .int (0 : Int32)), (0, .ref a), (1, .ref o1), (2, .int i2)]) hx hb dX12_comeBack_1 rfl hl (by decide) rfl (fun ls hl => ?_)
  exact k_X12_comeBack_2 (a := a) (o1 := o1) (n1 := n1) X hr hT hk_a hk_o1  m_fu S i2 (0 : Int32) _ _ _ hH hS (lv_sub hl [1, 2, 3, 0] rfl) hm
def rm_X12_snap : Room := { frames := 1, cells := 0, slots := 0, locals := 23 }
def b_X12_snap_50 (a : Nat)  (S : m_M)  : Option m_M :=
    m_cal0 (f_X12_save a (a + 5) 17560 S ((2195 : Int32) * (m_ri S a 24))) fun S1 =>
    m_let (m_si S1 a 24 ((m_ri S1 a 24) + (1 : Int32))) fun S2 =>
    some S2
set_option maxHeartbeats 4000000 in
set_option maxRecDepth 100000 in
theorem k_X12_snap_50 {p : Program} {l : Launch} {e : Env} {s : State} {m : MethodId} {args : Array Value} {below : List Frame} {meth : Method} {c : Code} {G : m_G} {nx : Nat} {κ : Nat → Nat} {res : m_M} {a : Nat} (X : m_Cx p s m args meth c cX12_snap 2 RX12 G) (hr : meth.sig.returnType = none) (hT : m_Str κ) (hk_a : κ a = 13)  : ∀ (S : m_M)  (H : Heap) (locs : List Loc) (ls : Array Slot), m_H G nx κ S H → m_S G s H locs → lv_has ls 2 [(0, .ref a)] → b_X12_snap_50 a S  = some res → W p l e rm_X12_snap s m args below meth c H locs 0 0 (m_Qv below args s G nx κ res) (F0 m 50 ls []) := by
  have hx := X.1.1
  have hb := X.1.2.1
  intro S H locs ls hH hS hl hm
  rw [b_X12_snap_50] at hm
  refine lv_aload_n hx hb dX12_snap_50 rfl (lv_at hl 0 rfl) ?_
  refine lv_aload_n hx hb dX12_snap_51 rfl (lv_at hl 0 rfl) ?_
  refine r_getp X hH (k := 12) (a := a) (j := 17) (b := (a + 5)) (A := 5) (B := 0) hk_a (by decide) rfl m_wi12 (by decide) in_7_32 rfl rfl rfl dX12_snap_52 ?_
  refine lv_sipush (v := (2195 : Int32)) hx hb dX12_snap_55 (by decide) ?_
  refine lv_aload_n hx hb dX12_snap_58 rfl (lv_at hl 0 rfl) ?_
  refine r_geti X hH (k := 12) (a := a) (j := 24) hk_a (by decide) rfl m_wi12 (by decide) in_7_39 rfl rfl dX12_snap_59 ?_
  refine lv_imul hx hb dX12_snap_62 ?_
  obtain ⟨S1, e_S1, hm⟩ := m_cal0_of hm
  refine r_cVv X hH hS (k := 12) (c_X12_save (a := a) (o1 := (a + 5)) (n1 := 17560) hT hk_a (m_lay_at hT hk_a (by decide) (i := 5) rfl) e_S1) mw_X12_save in_8_120 hk_a (by decide) rfl rfl rfl ⟨rfl, rfl⟩ ⟨Nat.le_of_ble_eq_true rfl, Nat.le_of_ble_eq_true rfl⟩ ⟨Nat.zero_le _, Nat.zero_le _⟩ hl.1 (Nat.le_of_ble_eq_true rfl) dX12_snap_63 (fun H locs hH hS => ?_)
  refine lv_aload_n hx hb dX12_snap_66 rfl (lv_at hl 0 rfl) ?_
  refine lv_dup hx hb dX12_snap_67 rfl ?_
  refine r_geti X hH (k := 12) (a := a) (j := 24) hk_a (by decide) rfl m_wi12 (by decide) in_7_39 rfl rfl dX12_snap_68 ?_
  refine lv_iconst (v := (1 : Int32)) hx hb dX12_snap_71 (by decide) ?_
  refine lv_iadd hx hb dX12_snap_72 ?_
  obtain ⟨S2, e_S2, hm⟩ := m_let_of hm
  refine n_puti X hH hS tyX12 (k := 12) (a := a) (j := 24) hk_a (by decide) rfl m_wi12 tyX12_ok nmX12 (by decide) in_7_39 rfl rfl rfl ⟨rfl, rfl⟩ e_S2 dX12_snap_73 (fun H locs hH hS => ?_)
  exact r_vret X hr hH hS hm dX12_snap_76
def b_X12_snap_11 (a : Nat)  : Nat → m_M → Int32 → Option m_M
  | 0, _, _ => none
  | n + 1, S, l1 =>
    if (15365 : Int32) ≤ l1 then (
    m_let (m_si S a 24 ((m_ri S a 24) - (1 : Int32))) fun S2 =>
    b_X12_snap_50 a S2) else (
    (m_ldi S (a + 5) 17560 (l1 + (2195 : Int32))).bind fun v3 =>
    (m_sti S (a + 5) 17560 l1 v3).bind fun S4 =>
    m_let (l1 + (1 : Int32)) fun v5 =>
    b_X12_snap_11 a n S4 v5)
set_option maxHeartbeats 4000000 in
set_option maxRecDepth 100000 in
theorem k_X12_snap_11 {p : Program} {l : Launch} {e : Env} {s : State} {m : MethodId} {args : Array Value} {below : List Frame} {meth : Method} {c : Code} {G : m_G} {nx : Nat} {κ : Nat → Nat} {res : m_M} {a : Nat} (X : m_Cx p s m args meth c cX12_snap 2 RX12 G) (hr : meth.sig.returnType = none) (hT : m_Str κ) (hk_a : κ a = 13)  (n : Nat) : ∀ (S : m_M) (l1 : Int32) (H : Heap) (locs : List Loc) (ls : Array Slot), m_H G nx κ S H → m_S G s H locs → lv_has ls 2 [(0, .ref a), (1, .int l1)] → b_X12_snap_11 a n S l1 = some res → W p l e rm_X12_snap s m args below meth c H locs 0 0 (m_Qv below args s G nx κ res) (F0 m 11 ls []) := by
  have hx := X.1.1
  have hb := X.1.2.1
  induction n with
  | zero => intro S l1 H locs ls hH hS hl hm; have hm : (none : Option m_M) = some res := hm; cases hm
  | succ n ih =>
    intro S l1 H locs ls hH hS hl hm
    rw [b_X12_snap_11] at hm
    refine lv_iload_n hx hb dX12_snap_11 rfl (lv_at hl 1 rfl) ?_
    refine lv_sipush (v := (15365 : Int32)) hx hb dX12_snap_12 (by decide) ?_
    refine lv_icmp_ge (tgt := 40) hx hb dX12_snap_15 (by decide) (fun c1 => ?_) (fun c1 => ?_)
    · have hm := m_ite_t hm c1
      refine lv_aload_n hx hb dX12_snap_40 rfl (lv_at hl 0 rfl) ?_
      refine lv_dup hx hb dX12_snap_41 rfl ?_
      refine r_geti X hH (k := 12) (a := a) (j := 24) hk_a (by decide) rfl m_wi12 (by decide) in_7_39 rfl rfl dX12_snap_42 ?_
      refine lv_iconst (v := (1 : Int32)) hx hb dX12_snap_45 (by decide) ?_
      refine lv_isub hx hb dX12_snap_46 ?_
      obtain ⟨S2, e_S2, hm⟩ := m_let_of hm
      refine n_puti X hH hS tyX12 (k := 12) (a := a) (j := 24) hk_a (by decide) rfl m_wi12 tyX12_ok nmX12 (by decide) in_7_39 rfl rfl rfl ⟨rfl, rfl⟩ e_S2 dX12_snap_47 (fun H locs hH hS => ?_)
      exact k_X12_snap_50 (a := a) X hr hT hk_a   S2 _ _ _ hH hS (lv_sub hl [0] rfl) hm
    · have hm := m_ite_f hm c1
      refine lv_aload_n hx hb dX12_snap_18 rfl (lv_at hl 0 rfl) ?_
      refine r_getp X hH (k := 12) (a := a) (j := 17) (b := (a + 5)) (A := 5) (B := 0) hk_a (by decide) rfl m_wi12 (by decide) in_7_32 rfl rfl rfl dX12_snap_19 ?_
      refine lv_iload_n hx hb dX12_snap_22 rfl (lv_at hl 1 rfl) ?_
      refine lv_aload_n hx hb dX12_snap_23 rfl (lv_at hl 0 rfl) ?_
      refine r_getp X hH (k := 12) (a := a) (j := 17) (b := (a + 5)) (A := 5) (B := 0) hk_a (by decide) rfl m_wi12 (by decide) in_7_32 rfl rfl rfl dX12_snap_24 ?_
      refine lv_iload_n hx hb dX12_snap_27 rfl (lv_at hl 1 rfl) ?_
      refine lv_sipush (v := (2195 : Int32)) hx hb dX12_snap_28 (by decide) ?_
      refine lv_iadd hx hb dX12_snap_31 ?_
      obtain ⟨v3, h_v3, e_v3, hm⟩ := n_ldi hm
      refine n_iald X hH (n := 17560) (m_lay_at hT hk_a (by decide) (i := 5) rfl) h_v3 e_v3 dX12_snap_32 ?_
      obtain ⟨S4, h_S4, e_S4, hm⟩ := n_sti hm
      refine n_iast X hH hS (n := 17560) (m_lay_at hT hk_a (by decide) (i := 5) rfl) h_S4 e_S4 dX12_snap_33 (fun H locs hH hS => ?_)
      obtain ⟨v5, e_v5, hm⟩ := m_let_of hm
      refine lv_iinc (v := v5) (lv' := [(1, .int v5), (0, .ref a)]) hx hb dX12_snap_34 hl (k := 1) rfl (by rw [← e_v5]; rfl) (by decide) rfl (fun ls hl => ?_)
      refine lv_goto (tgt := 11) hx hb dX12_snap_37 (by decide) ?_
      exact ih S4 v5 _ _ _ hH hS (lv_sub hl [1, 0] rfl) hm
def f_X12_snap (a : Nat) (S : m_M)  : Option m_M :=
    if (m_ri S a 24) = (8 : Int32) then (
    b_X12_snap_11 a m_fu S (0 : Int32)) else (
    b_X12_snap_50 a S)
set_option maxHeartbeats 4000000 in
set_option maxRecDepth 100000 in
theorem c_X12_snap {l : Launch} {G : m_G} {nx : Nat} {κ : Nat → Nat} {a : Nat} {S : m_M}  {res : m_M} (hT : m_Str κ) (hk_a : κ a = 13) (hm : f_X12_snap a S = some res) : m_Cv l yX12_snap cX12_snap 2 rm_X12_snap G nx κ [.ref a] S res := by
  refine m_Cv.of (by decide) (Nat.le_of_ble_eq_true rfl) ?_
  intro p e s m args below meth c ls X hr hH hl
  have hx := X.1.1
  have hb := X.1.2.1
  have hS : m_S G s s.heap [] := va_S.rf
  have hl : lv_has ls 2 [(0, .ref a)] := hl
  rw [f_X12_snap] at hm
  refine lv_aload_n hx hb dX12_snap_0 rfl (lv_at hl 0 rfl) ?_
  refine r_geti X hH (k := 12) (a := a) (j := 24) hk_a (by decide) rfl m_wi12 (by decide) in_7_39 rfl rfl dX12_snap_1 ?_
  refine lv_bipush (v := (8 : Int32)) hx hb dX12_snap_4 (by decide) ?_
  refine lv_icmp_ne (tgt := 50) hx hb dX12_snap_6 (by decide) (fun c1 => ?_) (fun c1 => ?_)
  · have hm := m_ite_f hm c1
    exact k_X12_snap_50 (a := a) X hr hT hk_a   S _ _ _ hH hS hl hm
  · have hm := m_ite_t hm c1
    refine lv_iconst (v := (0 : Int32)) hx hb dX12_snap_9 (by decide) ?_
    refine lv_istore_n (lv' := [(1, .int (0 : Int32)), (0, .ref a)]) hx hb dX12_snap_10 rfl hl (by decide) rfl (fun ls hl => ?_)
    exact k_X12_snap_11 (a := a) X hr hT hk_a  m_fu S (0 : Int32) _ _ _ hH hS (lv_sub hl [1, 0] rfl) hm
def rm_X12_undo : Room := { frames := 1, cells := 0, slots := 0, locals := 23 }
def f_X12_undo (a : Nat) (S : m_M)  : Option (Int32 × m_M) :=
    m_let (m_si S a 0 (0 : Int32)) fun S1 =>
    if (m_ri S1 a 24) = 0 then (
    some ((-1 : Int32), S1)) else (
    m_let (m_si S1 a 24 ((m_ri S1 a 24) - (1 : Int32))) fun S3 =>
    m_cal0 (f_X12_comeBack a (a + 5) 17560 S3 ((2195 : Int32) * (m_ri S3 a 24))) fun S4 =>
    some ((m_ri S4 a 24), S4))
set_option maxHeartbeats 4000000 in
set_option maxRecDepth 100000 in
theorem c_X12_undo {l : Launch} {G : m_G} {nx : Nat} {κ : Nat → Nat} {a : Nat} {S : m_M}  {res : (Int32 × m_M)} (hT : m_Str κ) (hk_a : κ a = 13) (hm : f_X12_undo a S = some res) : m_Ci l yX12_undo cX12_undo 1 (some .int) rm_X12_undo G nx κ [.ref a] S res := by
  refine m_Ci.of (by decide) (Nat.le_of_ble_eq_true rfl) ?_
  intro p e s m args below meth c ls X hr hH hl
  have hx := X.1.1
  have hb := X.1.2.1
  have hS : m_S G s s.heap [] := va_S.rf
  have hl : lv_has ls 1 [(0, .ref a)] := hl
  rw [f_X12_undo] at hm
  refine lv_aload_n hx hb dX12_undo_0 rfl (lv_at hl 0 rfl) ?_
  refine lv_iconst (v := (0 : Int32)) hx hb dX12_undo_1 (by decide) ?_
  obtain ⟨S1, e_S1, hm⟩ := m_let_of hm
  refine n_puti X hH hS tyX12 (k := 12) (a := a) (j := 0) hk_a (by decide) rfl m_wi12 tyX12_ok nmX12 (by decide) in_7_15 rfl rfl rfl ⟨rfl, rfl⟩ e_S1 dX12_undo_2 (fun H locs hH hS => ?_)
  refine lv_aload_n hx hb dX12_undo_5 rfl (lv_at hl 0 rfl) ?_
  refine r_geti X hH (k := 12) (a := a) (j := 24) hk_a (by decide) rfl m_wi12 (by decide) in_7_39 rfl rfl dX12_undo_6 ?_
  refine lv_if_ne (tgt := 14) hx hb dX12_undo_9 (by decide) (fun c2 => ?_) (fun c2 => ?_)
  · have hm := m_ite_f hm c2
    refine lv_aload_n hx hb dX12_undo_14 rfl (lv_at hl 0 rfl) ?_
    refine lv_dup hx hb dX12_undo_15 rfl ?_
    refine r_geti X hH (k := 12) (a := a) (j := 24) hk_a (by decide) rfl m_wi12 (by decide) in_7_39 rfl rfl dX12_undo_16 ?_
    refine lv_iconst (v := (1 : Int32)) hx hb dX12_undo_19 (by decide) ?_
    refine lv_isub hx hb dX12_undo_20 ?_
    obtain ⟨S3, e_S3, hm⟩ := m_let_of hm
    refine n_puti X hH hS tyX12 (k := 12) (a := a) (j := 24) hk_a (by decide) rfl m_wi12 tyX12_ok nmX12 (by decide) in_7_39 rfl rfl rfl ⟨rfl, rfl⟩ e_S3 dX12_undo_21 (fun H locs hH hS => ?_)
    refine lv_aload_n hx hb dX12_undo_24 rfl (lv_at hl 0 rfl) ?_
    refine lv_aload_n hx hb dX12_undo_25 rfl (lv_at hl 0 rfl) ?_
    refine r_getp X hH (k := 12) (a := a) (j := 17) (b := (a + 5)) (A := 5) (B := 0) hk_a (by decide) rfl m_wi12 (by decide) in_7_32 rfl rfl rfl dX12_undo_26 ?_
    refine lv_sipush (v := (2195 : Int32)) hx hb dX12_undo_29 (by decide) ?_
    refine lv_aload_n hx hb dX12_undo_32 rfl (lv_at hl 0 rfl) ?_
    refine r_geti X hH (k := 12) (a := a) (j := 24) hk_a (by decide) rfl m_wi12 (by decide) in_7_39 rfl rfl dX12_undo_33 ?_
    refine lv_imul hx hb dX12_undo_36 ?_
    obtain ⟨S4, e_S4, hm⟩ := m_cal0_of hm
    refine r_cVv X hH hS (k := 12) (c_X12_comeBack (a := a) (o1 := (a + 5)) (n1 := 17560) hT hk_a (m_lay_at hT hk_a (by decide) (i := 5) rfl) e_S4) mw_X12_comeBack in_8_104 hk_a (by decide) rfl rfl rfl ⟨rfl, rfl⟩ ⟨Nat.le_of_ble_eq_true rfl, Nat.le_of_ble_eq_true rfl⟩ ⟨Nat.zero_le _, Nat.zero_le _⟩ hl.1 (Nat.le_of_ble_eq_true rfl) dX12_undo_37 (fun H locs hH hS => ?_)
    refine lv_aload_n hx hb dX12_undo_40 rfl (lv_at hl 0 rfl) ?_
    refine r_geti X hH (k := 12) (a := a) (j := 24) hk_a (by decide) rfl m_wi12 (by decide) in_7_39 rfl rfl dX12_undo_41 ?_
    exact r_iret X hr hH hS hm dX12_undo_44
  · have hm := m_ite_t hm c2
    refine lv_iconst (v := (-1 : Int32)) hx hb dX12_undo_12 (by decide) ?_
    exact r_iret X hr hH hS hm dX12_undo_13
def rm_X12_canLoad : Room := { frames := 1, cells := 0, slots := 0, locals := 20 }
def b_X12_canLoad_29 (a : Nat)  (S : m_M) (t0 : Int32) : Option (Int32 × m_M) :=
    if t0 = 0 ∨ t0 = 1 then some (t0, S) else none
set_option maxHeartbeats 4000000 in
set_option maxRecDepth 100000 in
theorem k_X12_canLoad_29 {p : Program} {l : Launch} {e : Env} {s : State} {m : MethodId} {args : Array Value} {below : List Frame} {meth : Method} {c : Code} {G : m_G} {nx : Nat} {κ : Nat → Nat} {res : (Int32 × m_M)} {a : Nat} (X : m_Cx p s m args meth c cX12_canLoad 2 RX12 G) (hr : meth.sig.returnType = (some .boolean)) (hT : m_Str κ) (hk_a : κ a = 13)  : ∀ (S : m_M) (t0 : Int32) (H : Heap) (locs : List Loc) (ls : Array Slot), m_H G nx κ S H → m_S G s H locs → lv_has ls 2 [] → b_X12_canLoad_29 a S t0 = some res → W p l e rm_X12_canLoad s m args below meth c H locs 0 0 (m_Qi below args s G nx κ res) (F0 m 29 ls [.int t0]) := by
  have hx := X.1.1
  have hb := X.1.2.1
  intro S t0 H locs ls hH hS hl hm
  rw [b_X12_canLoad_29] at hm
  exact r_zret X hr hH hS hm dX12_canLoad_29
def b_X12_canLoad_28 (a : Nat)  (S : m_M)  : Option (Int32 × m_M) :=
    b_X12_canLoad_29 a S (0 : Int32)
set_option maxHeartbeats 4000000 in
set_option maxRecDepth 100000 in
theorem k_X12_canLoad_28 {p : Program} {l : Launch} {e : Env} {s : State} {m : MethodId} {args : Array Value} {below : List Frame} {meth : Method} {c : Code} {G : m_G} {nx : Nat} {κ : Nat → Nat} {res : (Int32 × m_M)} {a : Nat} (X : m_Cx p s m args meth c cX12_canLoad 2 RX12 G) (hr : meth.sig.returnType = (some .boolean)) (hT : m_Str κ) (hk_a : κ a = 13)  : ∀ (S : m_M)  (H : Heap) (locs : List Loc) (ls : Array Slot), m_H G nx κ S H → m_S G s H locs → lv_has ls 2 [] → b_X12_canLoad_28 a S  = some res → W p l e rm_X12_canLoad s m args below meth c H locs 0 0 (m_Qi below args s G nx κ res) (F0 m 28 ls []) := by
  have hx := X.1.1
  have hb := X.1.2.1
  intro S H locs ls hH hS hl hm
  rw [b_X12_canLoad_28] at hm
  refine lv_iconst (v := (0 : Int32)) hx hb dX12_canLoad_28 (by decide) ?_
  exact k_X12_canLoad_29 (a := a) X hr hT hk_a   S (0 : Int32) _ _ _ hH hS hl hm
def f_X12_canLoad (a : Nat) (S : m_M) (i1 : Int32) : Option (Int32 × m_M) :=
    (m_ldi S (a + 2) 2647 (0 : Int32)).bind fun v1 =>
    if v1 ≤ 0 then (
    b_X12_canLoad_28 a S) else (
    m_call (f_X12_mainFun a S) fun v4 S3 =>
    (m_ldi S3 (a + 2) 2647 ((3 : Int32) + v4)).bind fun v5 =>
    if i1 = v5 then (
    b_X12_canLoad_29 a S3 (1 : Int32)) else (
    b_X12_canLoad_28 a S3))
set_option maxHeartbeats 4000000 in
set_option maxRecDepth 100000 in
theorem c_X12_canLoad {l : Launch} {G : m_G} {nx : Nat} {κ : Nat → Nat} {a : Nat} {S : m_M} {i1 : Int32} {res : (Int32 × m_M)} (hT : m_Str κ) (hk_a : κ a = 13) (hm : f_X12_canLoad a S i1 = some res) : m_Ci l yX12_canLoad cX12_canLoad 2 (some .boolean) rm_X12_canLoad G nx κ [.ref a, .int i1] S res := by
  refine m_Ci.of (by decide) (Nat.le_of_ble_eq_true rfl) ?_
  intro p e s m args below meth c ls X hr hH hl
  have hx := X.1.1
  have hb := X.1.2.1
  have hS : m_S G s s.heap [] := va_S.rf
  have hl : lv_has ls 2 [(0, .ref a), (1, .int i1)] := hl
  rw [f_X12_canLoad] at hm
  refine lv_aload_n hx hb dX12_canLoad_0 rfl (lv_at hl 0 rfl) ?_
  refine r_getp X hH (k := 12) (a := a) (j := 14) (b := (a + 2)) (A := 2) (B := 0) hk_a (by decide) rfl m_wi12 (by decide) in_7_29 rfl rfl rfl dX12_canLoad_1 ?_
  refine lv_iconst (v := (0 : Int32)) hx hb dX12_canLoad_4 (by decide) ?_
  obtain ⟨v1, h_v1, e_v1, hm⟩ := n_ldi hm
  refine n_iald X hH (n := 2647) (m_lay_at hT hk_a (by decide) (i := 2) rfl) h_v1 e_v1 dX12_canLoad_5 ?_
  refine lv_if_le (tgt := 28) hx hb dX12_canLoad_6 (by decide) (fun c2 => ?_) (fun c2 => ?_)
  · have hm := m_ite_t hm c2
    exact k_X12_canLoad_28 (a := a) X hr hT hk_a   S _ _ _ hH hS (lv_sub hl [] rfl) hm
  · have hm := m_ite_f hm c2
    refine lv_iload_n hx hb dX12_canLoad_9 rfl (lv_at hl 1 rfl) ?_
    refine lv_aload_n hx hb dX12_canLoad_10 rfl (lv_at hl 0 rfl) ?_
    refine r_getp X hH (k := 12) (a := a) (j := 14) (b := (a + 2)) (A := 2) (B := 0) hk_a (by decide) rfl m_wi12 (by decide) in_7_29 rfl rfl rfl dX12_canLoad_11 ?_
    refine lv_iconst (v := (3 : Int32)) hx hb dX12_canLoad_14 (by decide) ?_
    refine lv_aload_n hx hb dX12_canLoad_15 rfl (lv_at hl 0 rfl) ?_
    obtain ⟨v4, S3, e_S3, hm⟩ := m_call_of hm
    refine n_cVi X hH hS (k := 12) (c_X12_mainFun (a := a) hT hk_a e_S3) mw_X12_mainFun in_8_81 hk_a (by decide) rfl rfl rfl ⟨rfl, rfl⟩ ⟨Nat.le_of_ble_eq_true rfl, Nat.le_of_ble_eq_true rfl⟩ ⟨Nat.zero_le _, Nat.zero_le _⟩ hl.1 (Nat.le_of_ble_eq_true rfl) dX12_canLoad_16 (fun H locs hH hS => ?_)
    refine lv_iadd hx hb dX12_canLoad_19 ?_
    obtain ⟨v5, h_v5, e_v5, hm⟩ := n_ldi hm
    refine n_iald X hH (n := 2647) (m_lay_at hT hk_a (by decide) (i := 2) rfl) h_v5 e_v5 dX12_canLoad_20 ?_
    refine lv_icmp_ne (tgt := 28) hx hb dX12_canLoad_21 (by decide) (fun c6 => ?_) (fun c6 => ?_)
    · have hm := m_ite_f hm c6
      exact k_X12_canLoad_28 (a := a) X hr hT hk_a   S3 _ _ _ hH hS (lv_sub hl [] rfl) hm
    · have hm := m_ite_t hm c6
      refine lv_iconst (v := (1 : Int32)) hx hb dX12_canLoad_24 (by decide) ?_
      refine lv_goto (tgt := 29) hx hb dX12_canLoad_25 (by decide) ?_
      exact k_X12_canLoad_29 (a := a) X hr hT hk_a   S3 (1 : Int32) _ _ _ hH hS (lv_sub hl [] rfl) hm
def rm_X12_load : Room := { frames := 4, cells := 0, slots := 0, locals := 91 }
def f_X12_load (a : Nat) (S : m_M)  : Option (Int32 × m_M) :=
    m_let (m_si S a 0 (0 : Int32)) fun S1 =>
    m_call (f_X12_take a S1) fun v3 S2 =>
    m_call (f_X12_canLoad a S2 v3) fun v5 S4 =>
    if v5 = 0 then (
    if (0 : Int32) = 0 ∨ (0 : Int32) = 1 then some ((0 : Int32), S4) else none) else (
    m_cal0 (f_X12_snap a S4) fun S7 =>
    m_cal0 (f_X12_loads a (a + 1) 940 S7) fun S8 =>
    if (1 : Int32) = 0 ∨ (1 : Int32) = 1 then some ((1 : Int32), S8) else none)
set_option maxHeartbeats 4000000 in
set_option maxRecDepth 100000 in
theorem c_X12_load {l : Launch} {G : m_G} {nx : Nat} {κ : Nat → Nat} {a : Nat} {S : m_M}  {res : (Int32 × m_M)} (hT : m_Str κ) (hk_a : κ a = 13) (hm : f_X12_load a S = some res) : m_Ci l yX12_load cX12_load 1 (some .boolean) rm_X12_load G nx κ [.ref a] S res := by
  refine m_Ci.of (by decide) (Nat.le_of_ble_eq_true rfl) ?_
  intro p e s m args below meth c ls X hr hH hl
  have hx := X.1.1
  have hb := X.1.2.1
  have hS : m_S G s s.heap [] := va_S.rf
  have hl : lv_has ls 1 [(0, .ref a)] := hl
  rw [f_X12_load] at hm
  refine lv_aload_n hx hb dX12_load_0 rfl (lv_at hl 0 rfl) ?_
  refine lv_iconst (v := (0 : Int32)) hx hb dX12_load_1 (by decide) ?_
  obtain ⟨S1, e_S1, hm⟩ := m_let_of hm
  refine n_puti X hH hS tyX12 (k := 12) (a := a) (j := 0) hk_a (by decide) rfl m_wi12 tyX12_ok nmX12 (by decide) in_7_15 rfl rfl rfl ⟨rfl, rfl⟩ e_S1 dX12_load_2 (fun H locs hH hS => ?_)
  refine lv_aload_n hx hb dX12_load_5 rfl (lv_at hl 0 rfl) ?_
  refine lv_aload_n hx hb dX12_load_6 rfl (lv_at hl 0 rfl) ?_
  obtain ⟨v3, S2, e_S2, hm⟩ := m_call_of hm
  refine n_cVi X hH hS (k := 12) (c_X12_take (a := a) hT hk_a e_S2) mw_X12_take in_7_177 hk_a (by decide) rfl rfl rfl ⟨rfl, rfl⟩ ⟨Nat.le_of_ble_eq_true rfl, Nat.le_of_ble_eq_true rfl⟩ ⟨Nat.zero_le _, Nat.zero_le _⟩ hl.1 (Nat.le_of_ble_eq_true rfl) dX12_load_7 (fun H locs hH hS => ?_)
  obtain ⟨v5, S4, e_S4, hm⟩ := m_call_of hm
  refine n_cVi X hH hS (k := 12) (c_X12_canLoad (a := a) hT hk_a e_S4) mw_X12_canLoad in_8_112 hk_a (by decide) rfl rfl rfl ⟨rfl, rfl⟩ ⟨Nat.le_of_ble_eq_true rfl, Nat.le_of_ble_eq_true rfl⟩ ⟨Nat.zero_le _, Nat.zero_le _⟩ hl.1 (Nat.le_of_ble_eq_true rfl) dX12_load_10 (fun H locs hH hS => ?_)
  refine lv_if_ne (tgt := 18) hx hb dX12_load_13 (by decide) (fun c6 => ?_) (fun c6 => ?_)
  · have hm := m_ite_f hm c6
    refine lv_aload_n hx hb dX12_load_18 rfl (lv_at hl 0 rfl) ?_
    obtain ⟨S7, e_S7, hm⟩ := m_cal0_of hm
    refine r_cVv X hH hS (k := 12) (c_X12_snap (a := a) hT hk_a e_S7) mw_X12_snap in_8_116 hk_a (by decide) rfl rfl rfl ⟨rfl, rfl⟩ ⟨Nat.le_of_ble_eq_true rfl, Nat.le_of_ble_eq_true rfl⟩ ⟨Nat.zero_le _, Nat.zero_le _⟩ hl.1 (Nat.le_of_ble_eq_true rfl) dX12_load_19 (fun H locs hH hS => ?_)
    refine lv_aload_n hx hb dX12_load_22 rfl (lv_at hl 0 rfl) ?_
    refine lv_aload_n hx hb dX12_load_23 rfl (lv_at hl 0 rfl) ?_
    refine r_getp X hH (k := 12) (a := a) (j := 1) (b := (a + 1)) (A := 1) (B := 0) hk_a (by decide) rfl m_wi12 (by decide) in_7_16 rfl rfl rfl dX12_load_24 ?_
    obtain ⟨S8, e_S8, hm⟩ := m_cal0_of hm
    refine r_cVv X hH hS (k := 12) (c_X12_loads (a := a) (o1 := (a + 1)) (n1 := 940) hT hk_a (m_lay_at hT hk_a (by decide) (i := 1) rfl) e_S8) mw_X12_loads in_8_124 hk_a (by decide) rfl rfl rfl ⟨rfl, rfl⟩ ⟨Nat.le_of_ble_eq_true rfl, Nat.le_of_ble_eq_true rfl⟩ ⟨Nat.zero_le _, Nat.zero_le _⟩ hl.1 (Nat.le_of_ble_eq_true rfl) dX12_load_27 (fun H locs hH hS => ?_)
    refine lv_iconst (v := (1 : Int32)) hx hb dX12_load_30 (by decide) ?_
    exact r_zret X hr hH hS hm dX12_load_31
  · have hm := m_ite_t hm c6
    refine lv_iconst (v := (0 : Int32)) hx hb dX12_load_16 (by decide) ?_
    exact r_zret X hr hH hS hm dX12_load_17
def rm_X12_steps : Room := { frames := 7, cells := 0, slots := 0, locals := 165 }
def b_X12_steps_65 (a : Nat)  (S : m_M) (l2 : Int32) : Option (Int32 × m_M) :=
    some (l2, S)
set_option maxHeartbeats 4000000 in
set_option maxRecDepth 100000 in
theorem k_X12_steps_65 {p : Program} {l : Launch} {e : Env} {s : State} {m : MethodId} {args : Array Value} {below : List Frame} {meth : Method} {c : Code} {G : m_G} {nx : Nat} {κ : Nat → Nat} {res : (Int32 × m_M)} {a : Nat} (X : m_Cx p s m args meth c cX12_steps 3 RX12 G) (hr : meth.sig.returnType = (some .int)) (hT : m_Str κ) (hk_a : κ a = 13)  : ∀ (S : m_M) (l2 : Int32) (H : Heap) (locs : List Loc) (ls : Array Slot), m_H G nx κ S H → m_S G s H locs → lv_has ls 3 [(2, .int l2)] → b_X12_steps_65 a S l2 = some res → W p l e rm_X12_steps s m args below meth c H locs 0 0 (m_Qi below args s G nx κ res) (F0 m 65 ls []) := by
  have hx := X.1.1
  have hb := X.1.2.1
  intro S l2 H locs ls hH hS hl hm
  rw [b_X12_steps_65] at hm
  refine lv_iload_n hx hb dX12_steps_65 rfl (lv_at hl 0 rfl) ?_
  exact r_iret X hr hH hS hm dX12_steps_66
def b_X12_steps_38 (a : Nat)  : Nat → m_M → Int32 → Int32 → Option (Int32 × m_M)
  | 0, _, _, _ => none
  | n + 1, S, l1, l2 =>
    if l1 ≤ l2 then (
    b_X12_steps_65 a S l2) else (
    (m_ldi S (a + 2) 2647 (210 : Int32)).bind fun v2 =>
    if v2 = (1 : Int32) then (
    m_cal0 (f_X12_oneStep a S) fun S4 =>
    m_let (l2 + (1 : Int32)) fun v5 =>
    b_X12_steps_38 a n S4 l1 v5) else (
    b_X12_steps_65 a S l2))
set_option maxHeartbeats 4000000 in
set_option maxRecDepth 100000 in
theorem k_X12_steps_38 {p : Program} {l : Launch} {e : Env} {s : State} {m : MethodId} {args : Array Value} {below : List Frame} {meth : Method} {c : Code} {G : m_G} {nx : Nat} {κ : Nat → Nat} {res : (Int32 × m_M)} {a : Nat} (X : m_Cx p s m args meth c cX12_steps 3 RX12 G) (hr : meth.sig.returnType = (some .int)) (hT : m_Str κ) (hk_a : κ a = 13)  (n : Nat) : ∀ (S : m_M) (l1 : Int32) (l2 : Int32) (H : Heap) (locs : List Loc) (ls : Array Slot), m_H G nx κ S H → m_S G s H locs → lv_has ls 3 [(0, .ref a), (1, .int l1), (2, .int l2)] → b_X12_steps_38 a n S l1 l2 = some res → W p l e rm_X12_steps s m args below meth c H locs 0 0 (m_Qi below args s G nx κ res) (F0 m 38 ls []) := by
  have hx := X.1.1
  have hb := X.1.2.1
  induction n with
  | zero => intro S l1 l2 H locs ls hH hS hl hm; have hm : (none : Option (Int32 × m_M)) = some res := hm; cases hm
  | succ n ih =>
    intro S l1 l2 H locs ls hH hS hl hm
    rw [b_X12_steps_38] at hm
    refine lv_iload_n hx hb dX12_steps_38 rfl (lv_at hl 2 rfl) ?_
    refine lv_iload_n hx hb dX12_steps_39 rfl (lv_at hl 1 rfl) ?_
    refine lv_icmp_ge (tgt := 65) hx hb dX12_steps_40 (by decide) (fun c1 => ?_) (fun c1 => ?_)
    · have hm := m_ite_t hm c1
      exact k_X12_steps_65 (a := a) X hr hT hk_a   S l2 _ _ _ hH hS (lv_sub hl [2] rfl) hm
    · have hm := m_ite_f hm c1
      refine lv_aload_n hx hb dX12_steps_43 rfl (lv_at hl 0 rfl) ?_
      refine r_getp X hH (k := 12) (a := a) (j := 14) (b := (a + 2)) (A := 2) (B := 0) hk_a (by decide) rfl m_wi12 (by decide) in_7_29 rfl rfl rfl dX12_steps_44 ?_
      refine lv_sipush (v := (210 : Int32)) hx hb dX12_steps_47 (by decide) ?_
      obtain ⟨v2, h_v2, e_v2, hm⟩ := n_ldi hm
      refine n_iald X hH (n := 2647) (m_lay_at hT hk_a (by decide) (i := 2) rfl) h_v2 e_v2 dX12_steps_50 ?_
      refine lv_iconst (v := (1 : Int32)) hx hb dX12_steps_51 (by decide) ?_
      refine lv_icmp_ne (tgt := 65) hx hb dX12_steps_52 (by decide) (fun c3 => ?_) (fun c3 => ?_)
      · have hm := m_ite_f hm c3
        exact k_X12_steps_65 (a := a) X hr hT hk_a   S l2 _ _ _ hH hS (lv_sub hl [2] rfl) hm
      · have hm := m_ite_t hm c3
        refine lv_aload_n hx hb dX12_steps_55 rfl (lv_at hl 0 rfl) ?_
        obtain ⟨S4, e_S4, hm⟩ := m_cal0_of hm
        refine r_cVv X hH hS (k := 12) (c_X12_oneStep (a := a) hT hk_a e_S4) mw_X12_oneStep in_8_148 hk_a (by decide) rfl rfl rfl ⟨rfl, rfl⟩ ⟨Nat.le_of_ble_eq_true rfl, Nat.le_of_ble_eq_true rfl⟩ ⟨Nat.zero_le _, Nat.zero_le _⟩ hl.1 (Nat.le_of_ble_eq_true rfl) dX12_steps_56 (fun H locs hH hS => ?_)
        obtain ⟨v5, e_v5, hm⟩ := m_let_of hm
        refine lv_iinc (v := v5) (lv' := [(2, .int v5), (0, .ref a), (1, .int l1)]) hx hb dX12_steps_59 hl (k := 2) rfl (by rw [← e_v5]; rfl) (by decide) rfl (fun ls hl => ?_)
        refine lv_goto (tgt := 38) hx hb dX12_steps_62 (by decide) ?_
        exact ih S4 l1 v5 _ _ _ hH hS (lv_sub hl [1, 2, 0] rfl) hm
def f_X12_steps (a : Nat) (S : m_M) (i1 : Int32) : Option (Int32 × m_M) :=
    m_let (m_si S a 0 (0 : Int32)) fun S1 =>
    m_call (f_X12_isIn S1 i1 (1 : Int32) (500 : Int32)) fun v3 S2 =>
    if v3 = 0 then (
    some ((-1 : Int32), S2)) else (
    (m_ldi S2 (a + 2) 2647 (210 : Int32)).bind fun v5 =>
    if v5 = (1 : Int32) then (
    m_cal0 (f_X12_snap a S2) fun S7 =>
    b_X12_steps_38 a m_fu S7 i1 (0 : Int32)) else (
    some ((0 : Int32), S2)))
set_option maxHeartbeats 4000000 in
set_option maxRecDepth 100000 in
theorem c_X12_steps {l : Launch} {G : m_G} {nx : Nat} {κ : Nat → Nat} {a : Nat} {S : m_M} {i1 : Int32} {res : (Int32 × m_M)} (hT : m_Str κ) (hk_a : κ a = 13) (hm : f_X12_steps a S i1 = some res) : m_Ci l yX12_steps cX12_steps 3 (some .int) rm_X12_steps G nx κ [.ref a, .int i1] S res := by
  refine m_Ci.of (by decide) (Nat.le_of_ble_eq_true rfl) ?_
  intro p e s m args below meth c ls X hr hH hl
  have hx := X.1.1
  have hb := X.1.2.1
  have hS : m_S G s s.heap [] := va_S.rf
  have hl : lv_has ls 3 [(0, .ref a), (1, .int i1)] := hl
  rw [f_X12_steps] at hm
  refine lv_aload_n hx hb dX12_steps_0 rfl (lv_at hl 0 rfl) ?_
  refine lv_iconst (v := (0 : Int32)) hx hb dX12_steps_1 (by decide) ?_
  obtain ⟨S1, e_S1, hm⟩ := m_let_of hm
  refine n_puti X hH hS tyX12 (k := 12) (a := a) (j := 0) hk_a (by decide) rfl m_wi12 tyX12_ok nmX12 (by decide) in_7_15 rfl rfl rfl ⟨rfl, rfl⟩ e_S1 dX12_steps_2 (fun H locs hH hS => ?_)
  refine lv_iload_n hx hb dX12_steps_5 rfl (lv_at hl 1 rfl) ?_
  refine lv_iconst (v := (1 : Int32)) hx hb dX12_steps_6 (by decide) ?_
  refine lv_sipush (v := (500 : Int32)) hx hb dX12_steps_7 (by decide) ?_
  obtain ⟨v3, S2, e_S2, hm⟩ := m_call_of hm
  refine n_cSi X hH hS (c_X12_isIn  hT  e_S2) mw_X12_isIn in_8_42 rfl ⟨rfl, rfl⟩ ⟨Nat.le_of_ble_eq_true rfl, Nat.le_of_ble_eq_true rfl⟩ ⟨Nat.zero_le _, Nat.zero_le _⟩ hl.1 (Nat.le_of_ble_eq_true rfl) dX12_steps_10 (fun H locs hH hS => ?_)
  refine lv_if_ne (tgt := 18) hx hb dX12_steps_13 (by decide) (fun c4 => ?_) (fun c4 => ?_)
  · have hm := m_ite_f hm c4
    refine lv_aload_n hx hb dX12_steps_18 rfl (lv_at hl 0 rfl) ?_
    refine r_getp X hH (k := 12) (a := a) (j := 14) (b := (a + 2)) (A := 2) (B := 0) hk_a (by decide) rfl m_wi12 (by decide) in_7_29 rfl rfl rfl dX12_steps_19 ?_
    refine lv_sipush (v := (210 : Int32)) hx hb dX12_steps_22 (by decide) ?_
    obtain ⟨v5, h_v5, e_v5, hm⟩ := n_ldi hm
    refine n_iald X hH (n := 2647) (m_lay_at hT hk_a (by decide) (i := 2) rfl) h_v5 e_v5 dX12_steps_25 ?_
    refine lv_iconst (v := (1 : Int32)) hx hb dX12_steps_26 (by decide) ?_
    refine lv_icmp_eq (tgt := 32) hx hb dX12_steps_27 (by decide) (fun c6 => ?_) (fun c6 => ?_)
    · have hm := m_ite_t hm c6
      refine lv_aload_n hx hb dX12_steps_32 rfl (lv_at hl 0 rfl) ?_
      obtain ⟨S7, e_S7, hm⟩ := m_cal0_of hm
      refine r_cVv X hH hS (k := 12) (c_X12_snap (a := a) hT hk_a e_S7) mw_X12_snap in_8_116 hk_a (by decide) rfl rfl rfl ⟨rfl, rfl⟩ ⟨Nat.le_of_ble_eq_true rfl, Nat.le_of_ble_eq_true rfl⟩ ⟨Nat.zero_le _, Nat.zero_le _⟩ hl.1 (Nat.le_of_ble_eq_true rfl) dX12_steps_33 (fun H locs hH hS => ?_)
      refine lv_iconst (v := (0 : Int32)) hx hb dX12_steps_36 (by decide) ?_
      refine lv_istore_n (lv' := [(2, .int (0 : Int32)), (0, .ref a), (1, .int i1)]) hx hb dX12_steps_37 rfl hl (by decide) rfl (fun ls hl => ?_)
      exact k_X12_steps_38 (a := a) X hr hT hk_a  m_fu S7 i1 (0 : Int32) _ _ _ hH hS (lv_sub hl [1, 2, 0] rfl) hm
    · have hm := m_ite_f hm c6
      refine lv_iconst (v := (0 : Int32)) hx hb dX12_steps_30 (by decide) ?_
      exact r_iret X hr hH hS hm dX12_steps_31
  · have hm := m_ite_t hm c4
    refine lv_iconst (v := (-1 : Int32)) hx hb dX12_steps_16 (by decide) ?_
    exact r_iret X hr hH hS hm dX12_steps_17
def rm_X12_now : Room := { frames := 1, cells := 0, slots := 0, locals := 21 }
def b_X12_now_116 (a : Nat)  (S : m_M) (t0 : Int32) : Option (Int32 × m_M) :=
    some (t0, S)
set_option maxHeartbeats 4000000 in
set_option maxRecDepth 100000 in
theorem k_X12_now_116 {p : Program} {l : Launch} {e : Env} {s : State} {m : MethodId} {args : Array Value} {below : List Frame} {meth : Method} {c : Code} {G : m_G} {nx : Nat} {κ : Nat → Nat} {res : (Int32 × m_M)} {a : Nat} (X : m_Cx p s m args meth c cX12_now 3 RX12 G) (hr : meth.sig.returnType = (some .int)) (hT : m_Str κ) (hk_a : κ a = 13)  : ∀ (S : m_M) (t0 : Int32) (H : Heap) (locs : List Loc) (ls : Array Slot), m_H G nx κ S H → m_S G s H locs → lv_has ls 3 [] → b_X12_now_116 a S t0 = some res → W p l e rm_X12_now s m args below meth c H locs 0 0 (m_Qi below args s G nx κ res) (F0 m 116 ls [.int t0]) := by
  have hx := X.1.1
  have hb := X.1.2.1
  intro S t0 H locs ls hH hS hl hm
  rw [b_X12_now_116] at hm
  exact r_iret X hr hH hS hm dX12_now_116
def b_X12_now_135 (a : Nat)  (S : m_M) (t0 : Int32) : Option (Int32 × m_M) :=
    some (t0, S)
set_option maxHeartbeats 4000000 in
set_option maxRecDepth 100000 in
theorem k_X12_now_135 {p : Program} {l : Launch} {e : Env} {s : State} {m : MethodId} {args : Array Value} {below : List Frame} {meth : Method} {c : Code} {G : m_G} {nx : Nat} {κ : Nat → Nat} {res : (Int32 × m_M)} {a : Nat} (X : m_Cx p s m args meth c cX12_now 3 RX12 G) (hr : meth.sig.returnType = (some .int)) (hT : m_Str κ) (hk_a : κ a = 13)  : ∀ (S : m_M) (t0 : Int32) (H : Heap) (locs : List Loc) (ls : Array Slot), m_H G nx κ S H → m_S G s H locs → lv_has ls 3 [] → b_X12_now_135 a S t0 = some res → W p l e rm_X12_now s m args below meth c H locs 0 0 (m_Qi below args s G nx κ res) (F0 m 135 ls [.int t0]) := by
  have hx := X.1.1
  have hb := X.1.2.1
  intro S t0 H locs ls hH hS hl hm
  rw [b_X12_now_135] at hm
  exact r_iret X hr hH hS hm dX12_now_135
def f_X12_now (a : Nat) (S : m_M) (i1 : Int32) : Option (Int32 × m_M) :=
    m_let (m_si S a 0 (0 : Int32)) fun S1 =>
    (m_ldi S1 (a + 2) 2647 (212 : Int32)).bind fun v2 =>
    m_let (v2 - (1 : Int32)) fun v3 =>
    if i1 = (0 : Int32) then (
    (m_ldi S1 (a + 2) 2647 (210 : Int32)).bind fun v5 =>
    some (v5, S1)) else (
    if i1 = (1 : Int32) then (
    (m_ldi S1 (a + 2) 2647 (211 : Int32)).bind fun v7 =>
    some (v7, S1)) else (
    if i1 = (2 : Int32) then (
    (m_ldi S1 (a + 2) 2647 (212 : Int32)).bind fun v9 =>
    some (v9, S1)) else (
    if i1 = (3 : Int32) then (
    if 0 ≤ v3 then (
    m_call (f_X12_funOf a S1 v3) fun v13 S12 =>
    b_X12_now_116 a S12 v13) else (
    b_X12_now_116 a S1 (-1 : Int32))) else (
    if i1 = (4 : Int32) then (
    if 0 ≤ v3 then (
    (m_ldi S1 (a + 2) 2647 ((233 : Int32) + v3)).bind fun v16 =>
    b_X12_now_135 a S1 v16) else (
    b_X12_now_135 a S1 (-1 : Int32))) else (
    if i1 = (5 : Int32) then (
    (m_ldi S1 (a + 2) 2647 (213 : Int32)).bind fun v18 =>
    some (v18, S1)) else (
    if i1 = (6 : Int32) then (
    (m_ldi S1 (a + 2) 2647 (214 : Int32)).bind fun v20 =>
    some (v20, S1)) else (
    if i1 = (7 : Int32) then (
    (m_ldi S1 (a + 2) 2647 (215 : Int32)).bind fun v22 =>
    some (v22, S1)) else (
    if i1 = (8 : Int32) then (
    (m_ldi S1 (a + 2) 2647 (216 : Int32)).bind fun v24 =>
    some (v24, S1)) else (
    if i1 = (9 : Int32) then (
    (m_ldi S1 (a + 2) 2647 (217 : Int32)).bind fun v26 =>
    some (v26, S1)) else (
    if i1 = (10 : Int32) then (
    (m_ldi S1 (a + 2) 2647 (218 : Int32)).bind fun v28 =>
    some (v28, S1)) else (
    some ((-1 : Int32), S1))))))))))))
set_option maxHeartbeats 4000000 in
set_option maxRecDepth 100000 in
theorem c_X12_now {l : Launch} {G : m_G} {nx : Nat} {κ : Nat → Nat} {a : Nat} {S : m_M} {i1 : Int32} {res : (Int32 × m_M)} (hT : m_Str κ) (hk_a : κ a = 13) (hm : f_X12_now a S i1 = some res) : m_Ci l yX12_now cX12_now 3 (some .int) rm_X12_now G nx κ [.ref a, .int i1] S res := by
  refine m_Ci.of (by decide) (Nat.le_of_ble_eq_true rfl) ?_
  intro p e s m args below meth c ls X hr hH hl
  have hx := X.1.1
  have hb := X.1.2.1
  have hS : m_S G s s.heap [] := va_S.rf
  have hl : lv_has ls 3 [(0, .ref a), (1, .int i1)] := hl
  rw [f_X12_now] at hm
  refine lv_aload_n hx hb dX12_now_0 rfl (lv_at hl 0 rfl) ?_
  refine lv_iconst (v := (0 : Int32)) hx hb dX12_now_1 (by decide) ?_
  obtain ⟨S1, e_S1, hm⟩ := m_let_of hm
  refine n_puti X hH hS tyX12 (k := 12) (a := a) (j := 0) hk_a (by decide) rfl m_wi12 tyX12_ok nmX12 (by decide) in_7_15 rfl rfl rfl ⟨rfl, rfl⟩ e_S1 dX12_now_2 (fun H locs hH hS => ?_)
  refine lv_aload_n hx hb dX12_now_5 rfl (lv_at hl 0 rfl) ?_
  refine r_getp X hH (k := 12) (a := a) (j := 14) (b := (a + 2)) (A := 2) (B := 0) hk_a (by decide) rfl m_wi12 (by decide) in_7_29 rfl rfl rfl dX12_now_6 ?_
  refine lv_sipush (v := (212 : Int32)) hx hb dX12_now_9 (by decide) ?_
  obtain ⟨v2, h_v2, e_v2, hm⟩ := n_ldi hm
  refine n_iald X hH (n := 2647) (m_lay_at hT hk_a (by decide) (i := 2) rfl) h_v2 e_v2 dX12_now_12 ?_
  refine lv_iconst (v := (1 : Int32)) hx hb dX12_now_13 (by decide) ?_
  refine lv_isub hx hb dX12_now_14 ?_
  obtain ⟨v3, e_v3, hm⟩ := m_let_of hm
  refine n_topi e_v3 ?_
  refine lv_istore_n (lv' := [(2, .int v3), (0, .ref a), (1, .int i1)]) hx hb dX12_now_15 rfl hl (by decide) rfl (fun ls hl => ?_)
  refine lv_iload_n hx hb dX12_now_16 rfl (lv_at hl 2 rfl) ?_
  by_cases c4 : i1 = (0 : Int32)
  · have hm := m_ite_t hm c4
    refine lv_tableIn (off := 59) (tgt := 76) hx hb dX12_now_17 (by rw [c4]; decide) (by rw [c4]; decide) (by rw [c4]; rfl) (by decide) ?_
    refine lv_aload_n hx hb dX12_now_76 rfl (lv_at hl 1 rfl) ?_
    refine r_getp X hH (k := 12) (a := a) (j := 14) (b := (a + 2)) (A := 2) (B := 0) hk_a (by decide) rfl m_wi12 (by decide) in_7_29 rfl rfl rfl dX12_now_77 ?_
    refine lv_sipush (v := (210 : Int32)) hx hb dX12_now_80 (by decide) ?_
    obtain ⟨v5, h_v5, e_v5, hm⟩ := n_ldi hm
    refine n_iald X hH (n := 2647) (m_lay_at hT hk_a (by decide) (i := 2) rfl) h_v5 e_v5 dX12_now_83 ?_
    exact r_iret X hr hH hS hm dX12_now_84
  · have hm := m_ite_f hm c4
    by_cases c6 : i1 = (1 : Int32)
    · have hm := m_ite_t hm c6
      refine lv_tableIn (off := 68) (tgt := 85) hx hb dX12_now_17 (by rw [c6]; decide) (by rw [c6]; decide) (by rw [c6]; rfl) (by decide) ?_
      refine lv_aload_n hx hb dX12_now_85 rfl (lv_at hl 1 rfl) ?_
      refine r_getp X hH (k := 12) (a := a) (j := 14) (b := (a + 2)) (A := 2) (B := 0) hk_a (by decide) rfl m_wi12 (by decide) in_7_29 rfl rfl rfl dX12_now_86 ?_
      refine lv_sipush (v := (211 : Int32)) hx hb dX12_now_89 (by decide) ?_
      obtain ⟨v7, h_v7, e_v7, hm⟩ := n_ldi hm
      refine n_iald X hH (n := 2647) (m_lay_at hT hk_a (by decide) (i := 2) rfl) h_v7 e_v7 dX12_now_92 ?_
      exact r_iret X hr hH hS hm dX12_now_93
    · have hm := m_ite_f hm c6
      by_cases c8 : i1 = (2 : Int32)
      · have hm := m_ite_t hm c8
        refine lv_tableIn (off := 77) (tgt := 94) hx hb dX12_now_17 (by rw [c8]; decide) (by rw [c8]; decide) (by rw [c8]; rfl) (by decide) ?_
        refine lv_aload_n hx hb dX12_now_94 rfl (lv_at hl 1 rfl) ?_
        refine r_getp X hH (k := 12) (a := a) (j := 14) (b := (a + 2)) (A := 2) (B := 0) hk_a (by decide) rfl m_wi12 (by decide) in_7_29 rfl rfl rfl dX12_now_95 ?_
        refine lv_sipush (v := (212 : Int32)) hx hb dX12_now_98 (by decide) ?_
        obtain ⟨v9, h_v9, e_v9, hm⟩ := n_ldi hm
        refine n_iald X hH (n := 2647) (m_lay_at hT hk_a (by decide) (i := 2) rfl) h_v9 e_v9 dX12_now_101 ?_
        exact r_iret X hr hH hS hm dX12_now_102
      · have hm := m_ite_f hm c8
        by_cases c10 : i1 = (3 : Int32)
        · have hm := m_ite_t hm c10
          refine lv_tableIn (off := 86) (tgt := 103) hx hb dX12_now_17 (by rw [c10]; decide) (by rw [c10]; decide) (by rw [c10]; rfl) (by decide) ?_
          refine lv_iload_n hx hb dX12_now_103 rfl (lv_at hl 0 rfl) ?_
          refine lv_if_ge (tgt := 111) hx hb dX12_now_104 (by decide) (fun c11 => ?_) (fun c11 => ?_)
          · have hm := m_ite_t hm c11
            refine lv_aload_n hx hb dX12_now_111 rfl (lv_at hl 1 rfl) ?_
            refine lv_iload_n hx hb dX12_now_112 rfl (lv_at hl 0 rfl) ?_
            obtain ⟨v13, S12, e_S12, hm⟩ := m_call_of hm
            refine n_cVi X hH hS (k := 12) (c_X12_funOf (a := a) hT hk_a e_S12) mw_X12_funOf in_8_152 hk_a (by decide) rfl rfl rfl ⟨rfl, rfl⟩ ⟨Nat.le_of_ble_eq_true rfl, Nat.le_of_ble_eq_true rfl⟩ ⟨Nat.zero_le _, Nat.zero_le _⟩ hl.1 (Nat.le_of_ble_eq_true rfl) dX12_now_113 (fun H locs hH hS => ?_)
            exact k_X12_now_116 (a := a) X hr hT hk_a   S12 v13 _ _ _ hH hS (lv_sub hl [] rfl) hm
          · have hm := m_ite_f hm c11
            refine lv_iconst (v := (-1 : Int32)) hx hb dX12_now_107 (by decide) ?_
            refine lv_goto (tgt := 116) hx hb dX12_now_108 (by decide) ?_
            exact k_X12_now_116 (a := a) X hr hT hk_a   S1 (-1 : Int32) _ _ _ hH hS (lv_sub hl [] rfl) hm
        · have hm := m_ite_f hm c10
          by_cases c14 : i1 = (4 : Int32)
          · have hm := m_ite_t hm c14
            refine lv_tableIn (off := 100) (tgt := 117) hx hb dX12_now_17 (by rw [c14]; decide) (by rw [c14]; decide) (by rw [c14]; rfl) (by decide) ?_
            refine lv_iload_n hx hb dX12_now_117 rfl (lv_at hl 0 rfl) ?_
            refine lv_if_ge (tgt := 125) hx hb dX12_now_118 (by decide) (fun c15 => ?_) (fun c15 => ?_)
            · have hm := m_ite_t hm c15
              refine lv_aload_n hx hb dX12_now_125 rfl (lv_at hl 1 rfl) ?_
              refine r_getp X hH (k := 12) (a := a) (j := 14) (b := (a + 2)) (A := 2) (B := 0) hk_a (by decide) rfl m_wi12 (by decide) in_7_29 rfl rfl rfl dX12_now_126 ?_
              refine lv_sipush (v := (233 : Int32)) hx hb dX12_now_129 (by decide) ?_
              refine lv_iload_n hx hb dX12_now_132 rfl (lv_at hl 0 rfl) ?_
              refine lv_iadd hx hb dX12_now_133 ?_
              obtain ⟨v16, h_v16, e_v16, hm⟩ := n_ldi hm
              refine n_iald X hH (n := 2647) (m_lay_at hT hk_a (by decide) (i := 2) rfl) h_v16 e_v16 dX12_now_134 ?_
              exact k_X12_now_135 (a := a) X hr hT hk_a   S1 v16 _ _ _ hH hS (lv_sub hl [] rfl) hm
            · have hm := m_ite_f hm c15
              refine lv_iconst (v := (-1 : Int32)) hx hb dX12_now_121 (by decide) ?_
              refine lv_goto (tgt := 135) hx hb dX12_now_122 (by decide) ?_
              exact k_X12_now_135 (a := a) X hr hT hk_a   S1 (-1 : Int32) _ _ _ hH hS (lv_sub hl [] rfl) hm
          · have hm := m_ite_f hm c14
            by_cases c17 : i1 = (5 : Int32)
            · have hm := m_ite_t hm c17
              refine lv_tableIn (off := 119) (tgt := 136) hx hb dX12_now_17 (by rw [c17]; decide) (by rw [c17]; decide) (by rw [c17]; rfl) (by decide) ?_
              refine lv_aload_n hx hb dX12_now_136 rfl (lv_at hl 1 rfl) ?_
              refine r_getp X hH (k := 12) (a := a) (j := 14) (b := (a + 2)) (A := 2) (B := 0) hk_a (by decide) rfl m_wi12 (by decide) in_7_29 rfl rfl rfl dX12_now_137 ?_
              refine lv_sipush (v := (213 : Int32)) hx hb dX12_now_140 (by decide) ?_
              obtain ⟨v18, h_v18, e_v18, hm⟩ := n_ldi hm
              refine n_iald X hH (n := 2647) (m_lay_at hT hk_a (by decide) (i := 2) rfl) h_v18 e_v18 dX12_now_143 ?_
              exact r_iret X hr hH hS hm dX12_now_144
            · have hm := m_ite_f hm c17
              by_cases c19 : i1 = (6 : Int32)
              · have hm := m_ite_t hm c19
                refine lv_tableIn (off := 128) (tgt := 145) hx hb dX12_now_17 (by rw [c19]; decide) (by rw [c19]; decide) (by rw [c19]; rfl) (by decide) ?_
                refine lv_aload_n hx hb dX12_now_145 rfl (lv_at hl 1 rfl) ?_
                refine r_getp X hH (k := 12) (a := a) (j := 14) (b := (a + 2)) (A := 2) (B := 0) hk_a (by decide) rfl m_wi12 (by decide) in_7_29 rfl rfl rfl dX12_now_146 ?_
                refine lv_sipush (v := (214 : Int32)) hx hb dX12_now_149 (by decide) ?_
                obtain ⟨v20, h_v20, e_v20, hm⟩ := n_ldi hm
                refine n_iald X hH (n := 2647) (m_lay_at hT hk_a (by decide) (i := 2) rfl) h_v20 e_v20 dX12_now_152 ?_
                exact r_iret X hr hH hS hm dX12_now_153
              · have hm := m_ite_f hm c19
                by_cases c21 : i1 = (7 : Int32)
                · have hm := m_ite_t hm c21
                  refine lv_tableIn (off := 137) (tgt := 154) hx hb dX12_now_17 (by rw [c21]; decide) (by rw [c21]; decide) (by rw [c21]; rfl) (by decide) ?_
                  refine lv_aload_n hx hb dX12_now_154 rfl (lv_at hl 1 rfl) ?_
                  refine r_getp X hH (k := 12) (a := a) (j := 14) (b := (a + 2)) (A := 2) (B := 0) hk_a (by decide) rfl m_wi12 (by decide) in_7_29 rfl rfl rfl dX12_now_155 ?_
                  refine lv_sipush (v := (215 : Int32)) hx hb dX12_now_158 (by decide) ?_
                  obtain ⟨v22, h_v22, e_v22, hm⟩ := n_ldi hm
                  refine n_iald X hH (n := 2647) (m_lay_at hT hk_a (by decide) (i := 2) rfl) h_v22 e_v22 dX12_now_161 ?_
                  exact r_iret X hr hH hS hm dX12_now_162
                · have hm := m_ite_f hm c21
                  by_cases c23 : i1 = (8 : Int32)
                  · have hm := m_ite_t hm c23
                    refine lv_tableIn (off := 146) (tgt := 163) hx hb dX12_now_17 (by rw [c23]; decide) (by rw [c23]; decide) (by rw [c23]; rfl) (by decide) ?_
                    refine lv_aload_n hx hb dX12_now_163 rfl (lv_at hl 1 rfl) ?_
                    refine r_getp X hH (k := 12) (a := a) (j := 14) (b := (a + 2)) (A := 2) (B := 0) hk_a (by decide) rfl m_wi12 (by decide) in_7_29 rfl rfl rfl dX12_now_164 ?_
                    refine lv_sipush (v := (216 : Int32)) hx hb dX12_now_167 (by decide) ?_
                    obtain ⟨v24, h_v24, e_v24, hm⟩ := n_ldi hm
                    refine n_iald X hH (n := 2647) (m_lay_at hT hk_a (by decide) (i := 2) rfl) h_v24 e_v24 dX12_now_170 ?_
                    exact r_iret X hr hH hS hm dX12_now_171
                  · have hm := m_ite_f hm c23
                    by_cases c25 : i1 = (9 : Int32)
                    · have hm := m_ite_t hm c25
                      refine lv_tableIn (off := 155) (tgt := 172) hx hb dX12_now_17 (by rw [c25]; decide) (by rw [c25]; decide) (by rw [c25]; rfl) (by decide) ?_
                      refine lv_aload_n hx hb dX12_now_172 rfl (lv_at hl 1 rfl) ?_
                      refine r_getp X hH (k := 12) (a := a) (j := 14) (b := (a + 2)) (A := 2) (B := 0) hk_a (by decide) rfl m_wi12 (by decide) in_7_29 rfl rfl rfl dX12_now_173 ?_
                      refine lv_sipush (v := (217 : Int32)) hx hb dX12_now_176 (by decide) ?_
                      obtain ⟨v26, h_v26, e_v26, hm⟩ := n_ldi hm
                      refine n_iald X hH (n := 2647) (m_lay_at hT hk_a (by decide) (i := 2) rfl) h_v26 e_v26 dX12_now_179 ?_
                      exact r_iret X hr hH hS hm dX12_now_180
                    · have hm := m_ite_f hm c25
                      by_cases c27 : i1 = (10 : Int32)
                      · have hm := m_ite_t hm c27
                        refine lv_tableIn (off := 164) (tgt := 181) hx hb dX12_now_17 (by rw [c27]; decide) (by rw [c27]; decide) (by rw [c27]; rfl) (by decide) ?_
                        refine lv_aload_n hx hb dX12_now_181 rfl (lv_at hl 1 rfl) ?_
                        refine r_getp X hH (k := 12) (a := a) (j := 14) (b := (a + 2)) (A := 2) (B := 0) hk_a (by decide) rfl m_wi12 (by decide) in_7_29 rfl rfl rfl dX12_now_182 ?_
                        refine lv_sipush (v := (218 : Int32)) hx hb dX12_now_185 (by decide) ?_
                        obtain ⟨v28, h_v28, e_v28, hm⟩ := n_ldi hm
                        refine n_iald X hH (n := 2647) (m_lay_at hT hk_a (by decide) (i := 2) rfl) h_v28 e_v28 dX12_now_188 ?_
                        exact r_iret X hr hH hS hm dX12_now_189
                      · have hm := m_ite_f hm c27
                        refine lv_tableOut (tgt := 190) hx hb dX12_now_17 (by have h_c4 := lv_neT (a := 0) c4 rfl; have h_c6 := lv_neT (a := 1) c6 rfl; have h_c8 := lv_neT (a := 2) c8 rfl; have h_c10 := lv_neT (a := 3) c10 rfl; have h_c14 := lv_neT (a := 4) c14 rfl; have h_c17 := lv_neT (a := 5) c17 rfl; have h_c19 := lv_neT (a := 6) c19 rfl; have h_c21 := lv_neT (a := 7) c21 rfl; have h_c23 := lv_neT (a := 8) c23 rfl; have h_c25 := lv_neT (a := 9) c25 rfl; have h_c27 := lv_neT (a := 10) c27 rfl; omega) (by decide) ?_
                        refine lv_iconst (v := (-1 : Int32)) hx hb dX12_now_190 (by decide) ?_
                        exact r_iret X hr hH hS hm dX12_now_191
def rm_X12_isVar : Room := { frames := 1, cells := 0, slots := 0, locals := 22 }
def b_X12_isVar_46 (a : Nat)  (S : m_M) (t0 : Int32) : Option (Int32 × m_M) :=
    if t0 = 0 ∨ t0 = 1 then some (t0, S) else none
set_option maxHeartbeats 4000000 in
set_option maxRecDepth 100000 in
theorem k_X12_isVar_46 {p : Program} {l : Launch} {e : Env} {s : State} {m : MethodId} {args : Array Value} {below : List Frame} {meth : Method} {c : Code} {G : m_G} {nx : Nat} {κ : Nat → Nat} {res : (Int32 × m_M)} {a : Nat} (X : m_Cx p s m args meth c cX12_isVar 3 RX12 G) (hr : meth.sig.returnType = (some .boolean)) (hT : m_Str κ) (hk_a : κ a = 13)  : ∀ (S : m_M) (t0 : Int32) (H : Heap) (locs : List Loc) (ls : Array Slot), m_H G nx κ S H → m_S G s H locs → lv_has ls 3 [] → b_X12_isVar_46 a S t0 = some res → W p l e rm_X12_isVar s m args below meth c H locs 0 0 (m_Qi below args s G nx κ res) (F0 m 46 ls [.int t0]) := by
  have hx := X.1.1
  have hb := X.1.2.1
  intro S t0 H locs ls hH hS hl hm
  rw [b_X12_isVar_46] at hm
  exact r_zret X hr hH hS hm dX12_isVar_46
def b_X12_isVar_45 (a : Nat)  (S : m_M)  : Option (Int32 × m_M) :=
    b_X12_isVar_46 a S (0 : Int32)
set_option maxHeartbeats 4000000 in
set_option maxRecDepth 100000 in
theorem k_X12_isVar_45 {p : Program} {l : Launch} {e : Env} {s : State} {m : MethodId} {args : Array Value} {below : List Frame} {meth : Method} {c : Code} {G : m_G} {nx : Nat} {κ : Nat → Nat} {res : (Int32 × m_M)} {a : Nat} (X : m_Cx p s m args meth c cX12_isVar 3 RX12 G) (hr : meth.sig.returnType = (some .boolean)) (hT : m_Str κ) (hk_a : κ a = 13)  : ∀ (S : m_M)  (H : Heap) (locs : List Loc) (ls : Array Slot), m_H G nx κ S H → m_S G s H locs → lv_has ls 3 [] → b_X12_isVar_45 a S  = some res → W p l e rm_X12_isVar s m args below meth c H locs 0 0 (m_Qi below args s G nx κ res) (F0 m 45 ls []) := by
  have hx := X.1.1
  have hb := X.1.2.1
  intro S H locs ls hH hS hl hm
  rw [b_X12_isVar_45] at hm
  refine lv_iconst (v := (0 : Int32)) hx hb dX12_isVar_45 (by decide) ?_
  exact k_X12_isVar_46 (a := a) X hr hT hk_a   S (0 : Int32) _ _ _ hH hS hl hm
def f_X12_isVar (a : Nat) (S : m_M) (i1 : Int32) (i2 : Int32) : Option (Int32 × m_M) :=
    (m_ldi S (a + 2) 2647 (212 : Int32)).bind fun v1 =>
    m_call (f_X12_isIn S i1 (0 : Int32) (v1 - (1 : Int32))) fun v3 S2 =>
    if v3 = 0 then (
    b_X12_isVar_45 a S2) else (
    m_call (f_X12_funOf a S2 i1) fun v6 S5 =>
    m_call (f_X12_varsOf a (a + 2) 2647 S5 v6) fun v8 S7 =>
    m_call (f_X12_isIn S7 i2 (0 : Int32) (v8 - (1 : Int32))) fun v10 S9 =>
    if v10 = 0 then (
    b_X12_isVar_45 a S9) else (
    b_X12_isVar_46 a S9 (1 : Int32)))
set_option maxHeartbeats 4000000 in
set_option maxRecDepth 100000 in
theorem c_X12_isVar {l : Launch} {G : m_G} {nx : Nat} {κ : Nat → Nat} {a : Nat} {S : m_M} {i1 : Int32} {i2 : Int32} {res : (Int32 × m_M)} (hT : m_Str κ) (hk_a : κ a = 13) (hm : f_X12_isVar a S i1 i2 = some res) : m_Ci l yX12_isVar cX12_isVar 3 (some .boolean) rm_X12_isVar G nx κ [.ref a, .int i1, .int i2] S res := by
  refine m_Ci.of (by decide) (Nat.le_of_ble_eq_true rfl) ?_
  intro p e s m args below meth c ls X hr hH hl
  have hx := X.1.1
  have hb := X.1.2.1
  have hS : m_S G s s.heap [] := va_S.rf
  have hl : lv_has ls 3 [(0, .ref a), (1, .int i1), (2, .int i2)] := hl
  rw [f_X12_isVar] at hm
  refine lv_iload_n hx hb dX12_isVar_0 rfl (lv_at hl 1 rfl) ?_
  refine lv_iconst (v := (0 : Int32)) hx hb dX12_isVar_1 (by decide) ?_
  refine lv_aload_n hx hb dX12_isVar_2 rfl (lv_at hl 0 rfl) ?_
  refine r_getp X hH (k := 12) (a := a) (j := 14) (b := (a + 2)) (A := 2) (B := 0) hk_a (by decide) rfl m_wi12 (by decide) in_7_29 rfl rfl rfl dX12_isVar_3 ?_
  refine lv_sipush (v := (212 : Int32)) hx hb dX12_isVar_6 (by decide) ?_
  obtain ⟨v1, h_v1, e_v1, hm⟩ := n_ldi hm
  refine n_iald X hH (n := 2647) (m_lay_at hT hk_a (by decide) (i := 2) rfl) h_v1 e_v1 dX12_isVar_9 ?_
  refine lv_iconst (v := (1 : Int32)) hx hb dX12_isVar_10 (by decide) ?_
  refine lv_isub hx hb dX12_isVar_11 ?_
  obtain ⟨v3, S2, e_S2, hm⟩ := m_call_of hm
  refine n_cSi X hH hS (c_X12_isIn  hT  e_S2) mw_X12_isIn in_8_42 rfl ⟨rfl, rfl⟩ ⟨Nat.le_of_ble_eq_true rfl, Nat.le_of_ble_eq_true rfl⟩ ⟨Nat.zero_le _, Nat.zero_le _⟩ hl.1 (Nat.le_of_ble_eq_true rfl) dX12_isVar_12 (fun H locs hH hS => ?_)
  refine lv_if_eq (tgt := 45) hx hb dX12_isVar_15 (by decide) (fun c4 => ?_) (fun c4 => ?_)
  · have hm := m_ite_t hm c4
    exact k_X12_isVar_45 (a := a) X hr hT hk_a   S2 _ _ _ hH hS (lv_sub hl [] rfl) hm
  · have hm := m_ite_f hm c4
    refine lv_iload_n hx hb dX12_isVar_18 rfl (lv_at hl 2 rfl) ?_
    refine lv_iconst (v := (0 : Int32)) hx hb dX12_isVar_19 (by decide) ?_
    refine lv_aload_n hx hb dX12_isVar_20 rfl (lv_at hl 0 rfl) ?_
    refine lv_aload_n hx hb dX12_isVar_21 rfl (lv_at hl 0 rfl) ?_
    refine r_getp X hH (k := 12) (a := a) (j := 14) (b := (a + 2)) (A := 2) (B := 0) hk_a (by decide) rfl m_wi12 (by decide) in_7_29 rfl rfl rfl dX12_isVar_22 ?_
    refine lv_aload_n hx hb dX12_isVar_25 rfl (lv_at hl 0 rfl) ?_
    refine lv_iload_n hx hb dX12_isVar_26 rfl (lv_at hl 1 rfl) ?_
    obtain ⟨v6, S5, e_S5, hm⟩ := m_call_of hm
    refine n_cVi X hH hS (k := 12) (c_X12_funOf (a := a) hT hk_a e_S5) mw_X12_funOf in_8_152 hk_a (by decide) rfl rfl rfl ⟨rfl, rfl⟩ ⟨Nat.le_of_ble_eq_true rfl, Nat.le_of_ble_eq_true rfl⟩ ⟨Nat.zero_le _, Nat.zero_le _⟩ hl.1 (Nat.le_of_ble_eq_true rfl) dX12_isVar_27 (fun H locs hH hS => ?_)
    obtain ⟨v8, S7, e_S7, hm⟩ := m_call_of hm
    refine n_cVi X hH hS (k := 12) (c_X12_varsOf (a := a) (o1 := (a + 2)) (n1 := 2647) hT hk_a (m_lay_at hT hk_a (by decide) (i := 2) rfl) e_S7) mw_X12_varsOf in_6_224 hk_a (by decide) rfl rfl rfl ⟨rfl, rfl⟩ ⟨Nat.le_of_ble_eq_true rfl, Nat.le_of_ble_eq_true rfl⟩ ⟨Nat.zero_le _, Nat.zero_le _⟩ hl.1 (Nat.le_of_ble_eq_true rfl) dX12_isVar_30 (fun H locs hH hS => ?_)
    refine lv_iconst (v := (1 : Int32)) hx hb dX12_isVar_33 (by decide) ?_
    refine lv_isub hx hb dX12_isVar_34 ?_
    obtain ⟨v10, S9, e_S9, hm⟩ := m_call_of hm
    refine n_cSi X hH hS (c_X12_isIn  hT  e_S9) mw_X12_isIn in_8_42 rfl ⟨rfl, rfl⟩ ⟨Nat.le_of_ble_eq_true rfl, Nat.le_of_ble_eq_true rfl⟩ ⟨Nat.zero_le _, Nat.zero_le _⟩ hl.1 (Nat.le_of_ble_eq_true rfl) dX12_isVar_35 (fun H locs hH hS => ?_)
    refine lv_if_eq (tgt := 45) hx hb dX12_isVar_38 (by decide) (fun c11 => ?_) (fun c11 => ?_)
    · have hm := m_ite_t hm c11
      exact k_X12_isVar_45 (a := a) X hr hT hk_a   S9 _ _ _ hH hS (lv_sub hl [] rfl) hm
    · have hm := m_ite_f hm c11
      refine lv_iconst (v := (1 : Int32)) hx hb dX12_isVar_41 (by decide) ?_
      refine lv_goto (tgt := 46) hx hb dX12_isVar_42 (by decide) ?_
      exact k_X12_isVar_46 (a := a) X hr hT hk_a   S9 (1 : Int32) _ _ _ hH hS (lv_sub hl [] rfl) hm
def rm_X12_kind : Room := { frames := 2, cells := 0, slots := 0, locals := 44 }
def b_X12_kind_33 (a : Nat)  (S : m_M) (t0 : Int32) : Option (Int32 × m_M) :=
    some (t0, S)
set_option maxHeartbeats 4000000 in
set_option maxRecDepth 100000 in
theorem k_X12_kind_33 {p : Program} {l : Launch} {e : Env} {s : State} {m : MethodId} {args : Array Value} {below : List Frame} {meth : Method} {c : Code} {G : m_G} {nx : Nat} {κ : Nat → Nat} {res : (Int32 × m_M)} {a : Nat} (X : m_Cx p s m args meth c cX12_kind 3 RX12 G) (hr : meth.sig.returnType = (some .int)) (hT : m_Str κ) (hk_a : κ a = 13)  : ∀ (S : m_M) (t0 : Int32) (H : Heap) (locs : List Loc) (ls : Array Slot), m_H G nx κ S H → m_S G s H locs → lv_has ls 3 [] → b_X12_kind_33 a S t0 = some res → W p l e rm_X12_kind s m args below meth c H locs 0 0 (m_Qi below args s G nx κ res) (F0 m 33 ls [.int t0]) := by
  have hx := X.1.1
  have hb := X.1.2.1
  intro S t0 H locs ls hH hS hl hm
  rw [b_X12_kind_33] at hm
  exact r_iret X hr hH hS hm dX12_kind_33
def f_X12_kind (a : Nat) (S : m_M) (i1 : Int32) (i2 : Int32) : Option (Int32 × m_M) :=
    m_let (m_si S a 0 (0 : Int32)) fun S1 =>
    m_call (f_X12_isVar a S1 i1 i2) fun v3 S2 =>
    if v3 = 0 then (
    b_X12_kind_33 a S2 (-1 : Int32)) else (
    m_call (f_X12_slot a S2 i1 i2) fun v6 S5 =>
    (m_ldi S5 (a + 2) 2647 ((245 : Int32) + v6)).bind fun v7 =>
    b_X12_kind_33 a S5 v7)
set_option maxHeartbeats 4000000 in
set_option maxRecDepth 100000 in
theorem c_X12_kind {l : Launch} {G : m_G} {nx : Nat} {κ : Nat → Nat} {a : Nat} {S : m_M} {i1 : Int32} {i2 : Int32} {res : (Int32 × m_M)} (hT : m_Str κ) (hk_a : κ a = 13) (hm : f_X12_kind a S i1 i2 = some res) : m_Ci l yX12_kind cX12_kind 3 (some .int) rm_X12_kind G nx κ [.ref a, .int i1, .int i2] S res := by
  refine m_Ci.of (by decide) (Nat.le_of_ble_eq_true rfl) ?_
  intro p e s m args below meth c ls X hr hH hl
  have hx := X.1.1
  have hb := X.1.2.1
  have hS : m_S G s s.heap [] := va_S.rf
  have hl : lv_has ls 3 [(0, .ref a), (1, .int i1), (2, .int i2)] := hl
  rw [f_X12_kind] at hm
  refine lv_aload_n hx hb dX12_kind_0 rfl (lv_at hl 0 rfl) ?_
  refine lv_iconst (v := (0 : Int32)) hx hb dX12_kind_1 (by decide) ?_
  obtain ⟨S1, e_S1, hm⟩ := m_let_of hm
  refine n_puti X hH hS tyX12 (k := 12) (a := a) (j := 0) hk_a (by decide) rfl m_wi12 tyX12_ok nmX12 (by decide) in_7_15 rfl rfl rfl ⟨rfl, rfl⟩ e_S1 dX12_kind_2 (fun H locs hH hS => ?_)
  refine lv_aload_n hx hb dX12_kind_5 rfl (lv_at hl 0 rfl) ?_
  refine lv_iload_n hx hb dX12_kind_6 rfl (lv_at hl 1 rfl) ?_
  refine lv_iload_n hx hb dX12_kind_7 rfl (lv_at hl 2 rfl) ?_
  obtain ⟨v3, S2, e_S2, hm⟩ := m_call_of hm
  refine n_cVi X hH hS (k := 12) (c_X12_isVar (a := a) hT hk_a e_S2) mw_X12_isVar in_8_220 hk_a (by decide) rfl rfl rfl ⟨rfl, rfl⟩ ⟨Nat.le_of_ble_eq_true rfl, Nat.le_of_ble_eq_true rfl⟩ ⟨Nat.zero_le _, Nat.zero_le _⟩ hl.1 (Nat.le_of_ble_eq_true rfl) dX12_kind_8 (fun H locs hH hS => ?_)
  refine lv_if_eq (tgt := 32) hx hb dX12_kind_11 (by decide) (fun c4 => ?_) (fun c4 => ?_)
  · have hm := m_ite_t hm c4
    refine lv_iconst (v := (-1 : Int32)) hx hb dX12_kind_32 (by decide) ?_
    exact k_X12_kind_33 (a := a) X hr hT hk_a   S2 (-1 : Int32) _ _ _ hH hS (lv_sub hl [] rfl) hm
  · have hm := m_ite_f hm c4
    refine lv_aload_n hx hb dX12_kind_14 rfl (lv_at hl 0 rfl) ?_
    refine r_getp X hH (k := 12) (a := a) (j := 14) (b := (a + 2)) (A := 2) (B := 0) hk_a (by decide) rfl m_wi12 (by decide) in_7_29 rfl rfl rfl dX12_kind_15 ?_
    refine lv_sipush (v := (245 : Int32)) hx hb dX12_kind_18 (by decide) ?_
    refine lv_aload_n hx hb dX12_kind_21 rfl (lv_at hl 0 rfl) ?_
    refine lv_iload_n hx hb dX12_kind_22 rfl (lv_at hl 1 rfl) ?_
    refine lv_iload_n hx hb dX12_kind_23 rfl (lv_at hl 2 rfl) ?_
    obtain ⟨v6, S5, e_S5, hm⟩ := m_call_of hm
    refine n_cVi X hH hS (k := 12) (c_X12_slot (a := a) hT hk_a e_S5) mw_X12_slot in_8_140 hk_a (by decide) rfl rfl rfl ⟨rfl, rfl⟩ ⟨Nat.le_of_ble_eq_true rfl, Nat.le_of_ble_eq_true rfl⟩ ⟨Nat.zero_le _, Nat.zero_le _⟩ hl.1 (Nat.le_of_ble_eq_true rfl) dX12_kind_24 (fun H locs hH hS => ?_)
    refine lv_iadd hx hb dX12_kind_27 ?_
    obtain ⟨v7, h_v7, e_v7, hm⟩ := n_ldi hm
    refine n_iald X hH (n := 2647) (m_lay_at hT hk_a (by decide) (i := 2) rfl) h_v7 e_v7 dX12_kind_28 ?_
    refine lv_goto (tgt := 33) hx hb dX12_kind_29 (by decide) ?_
    exact k_X12_kind_33 (a := a) X hr hT hk_a   S5 v7 _ _ _ hH hS (lv_sub hl [] rfl) hm
def rm_X12_value : Room := { frames := 2, cells := 0, slots := 0, locals := 44 }
def b_X12_value_54 (a : Nat)  (S : m_M) (t0 : Int32) : Option (Int32 × m_M) :=
    some (t0, S)
set_option maxHeartbeats 4000000 in
set_option maxRecDepth 100000 in
theorem k_X12_value_54 {p : Program} {l : Launch} {e : Env} {s : State} {m : MethodId} {args : Array Value} {below : List Frame} {meth : Method} {c : Code} {G : m_G} {nx : Nat} {κ : Nat → Nat} {res : (Int32 × m_M)} {a : Nat} (X : m_Cx p s m args meth c cX12_value 3 RX12 G) (hr : meth.sig.returnType = (some .int)) (hT : m_Str κ) (hk_a : κ a = 13)  : ∀ (S : m_M) (t0 : Int32) (H : Heap) (locs : List Loc) (ls : Array Slot), m_H G nx κ S H → m_S G s H locs → lv_has ls 3 [] → b_X12_value_54 a S t0 = some res → W p l e rm_X12_value s m args below meth c H locs 0 0 (m_Qi below args s G nx κ res) (F0 m 54 ls [.int t0]) := by
  have hx := X.1.1
  have hb := X.1.2.1
  intro S t0 H locs ls hH hS hl hm
  rw [b_X12_value_54] at hm
  exact r_iret X hr hH hS hm dX12_value_54
def b_X12_value_50 (a : Nat)  (S : m_M)  : Option (Int32 × m_M) :=
    m_call (f_X12_refuse a S) fun v2 S1 =>
    b_X12_value_54 a S1 v2
set_option maxHeartbeats 4000000 in
set_option maxRecDepth 100000 in
theorem k_X12_value_50 {p : Program} {l : Launch} {e : Env} {s : State} {m : MethodId} {args : Array Value} {below : List Frame} {meth : Method} {c : Code} {G : m_G} {nx : Nat} {κ : Nat → Nat} {res : (Int32 × m_M)} {a : Nat} (X : m_Cx p s m args meth c cX12_value 3 RX12 G) (hr : meth.sig.returnType = (some .int)) (hT : m_Str κ) (hk_a : κ a = 13)  : ∀ (S : m_M)  (H : Heap) (locs : List Loc) (ls : Array Slot), m_H G nx κ S H → m_S G s H locs → lv_has ls 3 [(0, .ref a)] → b_X12_value_50 a S  = some res → W p l e rm_X12_value s m args below meth c H locs 0 0 (m_Qi below args s G nx κ res) (F0 m 50 ls []) := by
  have hx := X.1.1
  have hb := X.1.2.1
  intro S H locs ls hH hS hl hm
  rw [b_X12_value_50] at hm
  refine lv_aload_n hx hb dX12_value_50 rfl (lv_at hl 0 rfl) ?_
  obtain ⟨v2, S1, e_S1, hm⟩ := m_call_of hm
  refine n_cVi X hH hS (k := 12) (c_X12_refuse (a := a) hT hk_a e_S1) mw_X12_refuse in_8_45 hk_a (by decide) rfl rfl rfl ⟨rfl, rfl⟩ ⟨Nat.le_of_ble_eq_true rfl, Nat.le_of_ble_eq_true rfl⟩ ⟨Nat.zero_le _, Nat.zero_le _⟩ hl.1 (Nat.le_of_ble_eq_true rfl) dX12_value_51 (fun H locs hH hS => ?_)
  exact k_X12_value_54 (a := a) X hr hT hk_a   S1 v2 _ _ _ hH hS (lv_sub hl [] rfl) hm
def f_X12_value (a : Nat) (S : m_M) (i1 : Int32) (i2 : Int32) : Option (Int32 × m_M) :=
    m_let (m_si S a 0 (0 : Int32)) fun S1 =>
    m_call (f_X12_isVar a S1 i1 i2) fun v3 S2 =>
    if v3 = 0 then (
    b_X12_value_50 a S2) else (
    m_call (f_X12_slot a S2 i1 i2) fun v6 S5 =>
    (m_ldi S5 (a + 2) 2647 ((245 : Int32) + v6)).bind fun v7 =>
    if v7 = 0 then (
    b_X12_value_50 a S5) else (
    m_call (f_X12_slot a S5 i1 i2) fun v10 S9 =>
    (m_ldi S9 (a + 2) 2647 ((569 : Int32) + v10)).bind fun v11 =>
    b_X12_value_54 a S9 v11))
set_option maxHeartbeats 4000000 in
set_option maxRecDepth 100000 in
theorem c_X12_value {l : Launch} {G : m_G} {nx : Nat} {κ : Nat → Nat} {a : Nat} {S : m_M} {i1 : Int32} {i2 : Int32} {res : (Int32 × m_M)} (hT : m_Str κ) (hk_a : κ a = 13) (hm : f_X12_value a S i1 i2 = some res) : m_Ci l yX12_value cX12_value 3 (some .int) rm_X12_value G nx κ [.ref a, .int i1, .int i2] S res := by
  refine m_Ci.of (by decide) (Nat.le_of_ble_eq_true rfl) ?_
  intro p e s m args below meth c ls X hr hH hl
  have hx := X.1.1
  have hb := X.1.2.1
  have hS : m_S G s s.heap [] := va_S.rf
  have hl : lv_has ls 3 [(0, .ref a), (1, .int i1), (2, .int i2)] := hl
  rw [f_X12_value] at hm
  refine lv_aload_n hx hb dX12_value_0 rfl (lv_at hl 0 rfl) ?_
  refine lv_iconst (v := (0 : Int32)) hx hb dX12_value_1 (by decide) ?_
  obtain ⟨S1, e_S1, hm⟩ := m_let_of hm
  refine n_puti X hH hS tyX12 (k := 12) (a := a) (j := 0) hk_a (by decide) rfl m_wi12 tyX12_ok nmX12 (by decide) in_7_15 rfl rfl rfl ⟨rfl, rfl⟩ e_S1 dX12_value_2 (fun H locs hH hS => ?_)
  refine lv_aload_n hx hb dX12_value_5 rfl (lv_at hl 0 rfl) ?_
  refine lv_iload_n hx hb dX12_value_6 rfl (lv_at hl 1 rfl) ?_
  refine lv_iload_n hx hb dX12_value_7 rfl (lv_at hl 2 rfl) ?_
  obtain ⟨v3, S2, e_S2, hm⟩ := m_call_of hm
  refine n_cVi X hH hS (k := 12) (c_X12_isVar (a := a) hT hk_a e_S2) mw_X12_isVar in_8_220 hk_a (by decide) rfl rfl rfl ⟨rfl, rfl⟩ ⟨Nat.le_of_ble_eq_true rfl, Nat.le_of_ble_eq_true rfl⟩ ⟨Nat.zero_le _, Nat.zero_le _⟩ hl.1 (Nat.le_of_ble_eq_true rfl) dX12_value_8 (fun H locs hH hS => ?_)
  refine lv_if_eq (tgt := 50) hx hb dX12_value_11 (by decide) (fun c4 => ?_) (fun c4 => ?_)
  · have hm := m_ite_t hm c4
    exact k_X12_value_50 (a := a) X hr hT hk_a   S2 _ _ _ hH hS (lv_sub hl [0] rfl) hm
  · have hm := m_ite_f hm c4
    refine lv_aload_n hx hb dX12_value_14 rfl (lv_at hl 0 rfl) ?_
    refine r_getp X hH (k := 12) (a := a) (j := 14) (b := (a + 2)) (A := 2) (B := 0) hk_a (by decide) rfl m_wi12 (by decide) in_7_29 rfl rfl rfl dX12_value_15 ?_
    refine lv_sipush (v := (245 : Int32)) hx hb dX12_value_18 (by decide) ?_
    refine lv_aload_n hx hb dX12_value_21 rfl (lv_at hl 0 rfl) ?_
    refine lv_iload_n hx hb dX12_value_22 rfl (lv_at hl 1 rfl) ?_
    refine lv_iload_n hx hb dX12_value_23 rfl (lv_at hl 2 rfl) ?_
    obtain ⟨v6, S5, e_S5, hm⟩ := m_call_of hm
    refine n_cVi X hH hS (k := 12) (c_X12_slot (a := a) hT hk_a e_S5) mw_X12_slot in_8_140 hk_a (by decide) rfl rfl rfl ⟨rfl, rfl⟩ ⟨Nat.le_of_ble_eq_true rfl, Nat.le_of_ble_eq_true rfl⟩ ⟨Nat.zero_le _, Nat.zero_le _⟩ hl.1 (Nat.le_of_ble_eq_true rfl) dX12_value_24 (fun H locs hH hS => ?_)
    refine lv_iadd hx hb dX12_value_27 ?_
    obtain ⟨v7, h_v7, e_v7, hm⟩ := n_ldi hm
    refine n_iald X hH (n := 2647) (m_lay_at hT hk_a (by decide) (i := 2) rfl) h_v7 e_v7 dX12_value_28 ?_
    refine lv_if_eq (tgt := 50) hx hb dX12_value_29 (by decide) (fun c8 => ?_) (fun c8 => ?_)
    · have hm := m_ite_t hm c8
      exact k_X12_value_50 (a := a) X hr hT hk_a   S5 _ _ _ hH hS (lv_sub hl [0] rfl) hm
    · have hm := m_ite_f hm c8
      refine lv_aload_n hx hb dX12_value_32 rfl (lv_at hl 0 rfl) ?_
      refine r_getp X hH (k := 12) (a := a) (j := 14) (b := (a + 2)) (A := 2) (B := 0) hk_a (by decide) rfl m_wi12 (by decide) in_7_29 rfl rfl rfl dX12_value_33 ?_
      refine lv_sipush (v := (569 : Int32)) hx hb dX12_value_36 (by decide) ?_
      refine lv_aload_n hx hb dX12_value_39 rfl (lv_at hl 0 rfl) ?_
      refine lv_iload_n hx hb dX12_value_40 rfl (lv_at hl 1 rfl) ?_
      refine lv_iload_n hx hb dX12_value_41 rfl (lv_at hl 2 rfl) ?_
      obtain ⟨v10, S9, e_S9, hm⟩ := m_call_of hm
      refine n_cVi X hH hS (k := 12) (c_X12_slot (a := a) hT hk_a e_S9) mw_X12_slot in_8_140 hk_a (by decide) rfl rfl rfl ⟨rfl, rfl⟩ ⟨Nat.le_of_ble_eq_true rfl, Nat.le_of_ble_eq_true rfl⟩ ⟨Nat.zero_le _, Nat.zero_le _⟩ hl.1 (Nat.le_of_ble_eq_true rfl) dX12_value_42 (fun H locs hH hS => ?_)
      refine lv_iadd hx hb dX12_value_45 ?_
      obtain ⟨v11, h_v11, e_v11, hm⟩ := n_ldi hm
      refine n_iald X hH (n := 2647) (m_lay_at hT hk_a (by decide) (i := 2) rfl) h_v11 e_v11 dX12_value_46 ?_
      refine lv_goto (tgt := 54) hx hb dX12_value_47 (by decide) ?_
      exact k_X12_value_54 (a := a) X hr hT hk_a   S9 v11 _ _ _ hH hS (lv_sub hl [] rfl) hm
def rm_X12_isCell : Room := { frames := 1, cells := 0, slots := 0, locals := 22 }
def b_X12_isCell_30 (a : Nat)  (S : m_M) (t0 : Int32) : Option (Int32 × m_M) :=
    if t0 = 0 ∨ t0 = 1 then some (t0, S) else none
set_option maxHeartbeats 4000000 in
set_option maxRecDepth 100000 in
theorem k_X12_isCell_30 {p : Program} {l : Launch} {e : Env} {s : State} {m : MethodId} {args : Array Value} {below : List Frame} {meth : Method} {c : Code} {G : m_G} {nx : Nat} {κ : Nat → Nat} {res : (Int32 × m_M)} {a : Nat} (X : m_Cx p s m args meth c cX12_isCell 2 RX12 G) (hr : meth.sig.returnType = (some .boolean)) (hT : m_Str κ) (hk_a : κ a = 13)  : ∀ (S : m_M) (t0 : Int32) (H : Heap) (locs : List Loc) (ls : Array Slot), m_H G nx κ S H → m_S G s H locs → lv_has ls 2 [] → b_X12_isCell_30 a S t0 = some res → W p l e rm_X12_isCell s m args below meth c H locs 0 0 (m_Qi below args s G nx κ res) (F0 m 30 ls [.int t0]) := by
  have hx := X.1.1
  have hb := X.1.2.1
  intro S t0 H locs ls hH hS hl hm
  rw [b_X12_isCell_30] at hm
  exact r_zret X hr hH hS hm dX12_isCell_30
def b_X12_isCell_29 (a : Nat)  (S : m_M)  : Option (Int32 × m_M) :=
    b_X12_isCell_30 a S (0 : Int32)
set_option maxHeartbeats 4000000 in
set_option maxRecDepth 100000 in
theorem k_X12_isCell_29 {p : Program} {l : Launch} {e : Env} {s : State} {m : MethodId} {args : Array Value} {below : List Frame} {meth : Method} {c : Code} {G : m_G} {nx : Nat} {κ : Nat → Nat} {res : (Int32 × m_M)} {a : Nat} (X : m_Cx p s m args meth c cX12_isCell 2 RX12 G) (hr : meth.sig.returnType = (some .boolean)) (hT : m_Str κ) (hk_a : κ a = 13)  : ∀ (S : m_M)  (H : Heap) (locs : List Loc) (ls : Array Slot), m_H G nx κ S H → m_S G s H locs → lv_has ls 2 [] → b_X12_isCell_29 a S  = some res → W p l e rm_X12_isCell s m args below meth c H locs 0 0 (m_Qi below args s G nx κ res) (F0 m 29 ls []) := by
  have hx := X.1.1
  have hb := X.1.2.1
  intro S H locs ls hH hS hl hm
  rw [b_X12_isCell_29] at hm
  refine lv_iconst (v := (0 : Int32)) hx hb dX12_isCell_29 (by decide) ?_
  exact k_X12_isCell_30 (a := a) X hr hT hk_a   S (0 : Int32) _ _ _ hH hS hl hm
def f_X12_isCell (a : Nat) (S : m_M) (i1 : Int32) : Option (Int32 × m_M) :=
    m_call (f_X12_isIn S i1 (0 : Int32) (199 : Int32)) fun v2 S1 =>
    if v2 = 0 then (
    b_X12_isCell_29 a S1) else (
    (m_ldi S1 (a + 2) 2647 ((893 : Int32) + i1)).bind fun v4 =>
    if v4 = (-1 : Int32) then (
    b_X12_isCell_29 a S1) else (
    b_X12_isCell_30 a S1 (1 : Int32)))
set_option maxHeartbeats 4000000 in
set_option maxRecDepth 100000 in
theorem c_X12_isCell {l : Launch} {G : m_G} {nx : Nat} {κ : Nat → Nat} {a : Nat} {S : m_M} {i1 : Int32} {res : (Int32 × m_M)} (hT : m_Str κ) (hk_a : κ a = 13) (hm : f_X12_isCell a S i1 = some res) : m_Ci l yX12_isCell cX12_isCell 2 (some .boolean) rm_X12_isCell G nx κ [.ref a, .int i1] S res := by
  refine m_Ci.of (by decide) (Nat.le_of_ble_eq_true rfl) ?_
  intro p e s m args below meth c ls X hr hH hl
  have hx := X.1.1
  have hb := X.1.2.1
  have hS : m_S G s s.heap [] := va_S.rf
  have hl : lv_has ls 2 [(0, .ref a), (1, .int i1)] := hl
  rw [f_X12_isCell] at hm
  refine lv_iload_n hx hb dX12_isCell_0 rfl (lv_at hl 1 rfl) ?_
  refine lv_iconst (v := (0 : Int32)) hx hb dX12_isCell_1 (by decide) ?_
  refine lv_sipush (v := (199 : Int32)) hx hb dX12_isCell_2 (by decide) ?_
  obtain ⟨v2, S1, e_S1, hm⟩ := m_call_of hm
  refine n_cSi X hH hS (c_X12_isIn  hT  e_S1) mw_X12_isIn in_8_42 rfl ⟨rfl, rfl⟩ ⟨Nat.le_of_ble_eq_true rfl, Nat.le_of_ble_eq_true rfl⟩ ⟨Nat.zero_le _, Nat.zero_le _⟩ hl.1 (Nat.le_of_ble_eq_true rfl) dX12_isCell_5 (fun H locs hH hS => ?_)
  refine lv_if_eq (tgt := 29) hx hb dX12_isCell_8 (by decide) (fun c3 => ?_) (fun c3 => ?_)
  · have hm := m_ite_t hm c3
    exact k_X12_isCell_29 (a := a) X hr hT hk_a   S1 _ _ _ hH hS (lv_sub hl [] rfl) hm
  · have hm := m_ite_f hm c3
    refine lv_aload_n hx hb dX12_isCell_11 rfl (lv_at hl 0 rfl) ?_
    refine r_getp X hH (k := 12) (a := a) (j := 14) (b := (a + 2)) (A := 2) (B := 0) hk_a (by decide) rfl m_wi12 (by decide) in_7_29 rfl rfl rfl dX12_isCell_12 ?_
    refine lv_sipush (v := (893 : Int32)) hx hb dX12_isCell_15 (by decide) ?_
    refine lv_iload_n hx hb dX12_isCell_18 rfl (lv_at hl 1 rfl) ?_
    refine lv_iadd hx hb dX12_isCell_19 ?_
    obtain ⟨v4, h_v4, e_v4, hm⟩ := n_ldi hm
    refine n_iald X hH (n := 2647) (m_lay_at hT hk_a (by decide) (i := 2) rfl) h_v4 e_v4 dX12_isCell_20 ?_
    refine lv_iconst (v := (-1 : Int32)) hx hb dX12_isCell_21 (by decide) ?_
    refine lv_icmp_eq (tgt := 29) hx hb dX12_isCell_22 (by decide) (fun c5 => ?_) (fun c5 => ?_)
    · have hm := m_ite_t hm c5
      exact k_X12_isCell_29 (a := a) X hr hT hk_a   S1 _ _ _ hH hS (lv_sub hl [] rfl) hm
    · have hm := m_ite_f hm c5
      refine lv_iconst (v := (1 : Int32)) hx hb dX12_isCell_25 (by decide) ?_
      refine lv_goto (tgt := 30) hx hb dX12_isCell_26 (by decide) ?_
      exact k_X12_isCell_30 (a := a) X hr hT hk_a   S1 (1 : Int32) _ _ _ hH hS (lv_sub hl [] rfl) hm
def rm_X12_cell : Room := { frames := 2, cells := 0, slots := 0, locals := 43 }
def b_X12_cell_55 (a : Nat)  (S : m_M) (l1 : Int32) (l2 : Int32) : Option (Int32 × m_M) :=
    (m_ldi S (a + 2) 2647 ((((1293 : Int32) + ((2 : Int32) * l1)) + l2) - (1 : Int32))).bind fun v1 =>
    some (v1, S)
set_option maxHeartbeats 4000000 in
set_option maxRecDepth 100000 in
theorem k_X12_cell_55 {p : Program} {l : Launch} {e : Env} {s : State} {m : MethodId} {args : Array Value} {below : List Frame} {meth : Method} {c : Code} {G : m_G} {nx : Nat} {κ : Nat → Nat} {res : (Int32 × m_M)} {a : Nat} (X : m_Cx p s m args meth c cX12_cell 3 RX12 G) (hr : meth.sig.returnType = (some .int)) (hT : m_Str κ) (hk_a : κ a = 13)  : ∀ (S : m_M) (l1 : Int32) (l2 : Int32) (H : Heap) (locs : List Loc) (ls : Array Slot), m_H G nx κ S H → m_S G s H locs → lv_has ls 3 [(0, .ref a), (1, .int l1), (2, .int l2)] → b_X12_cell_55 a S l1 l2 = some res → W p l e rm_X12_cell s m args below meth c H locs 0 0 (m_Qi below args s G nx κ res) (F0 m 55 ls []) := by
  have hx := X.1.1
  have hb := X.1.2.1
  intro S l1 l2 H locs ls hH hS hl hm
  rw [b_X12_cell_55] at hm
  refine lv_aload_n hx hb dX12_cell_55 rfl (lv_at hl 0 rfl) ?_
  refine r_getp X hH (k := 12) (a := a) (j := 14) (b := (a + 2)) (A := 2) (B := 0) hk_a (by decide) rfl m_wi12 (by decide) in_7_29 rfl rfl rfl dX12_cell_56 ?_
  refine lv_sipush (v := (1293 : Int32)) hx hb dX12_cell_59 (by decide) ?_
  refine lv_iconst (v := (2 : Int32)) hx hb dX12_cell_62 (by decide) ?_
  refine lv_iload_n hx hb dX12_cell_63 rfl (lv_at hl 1 rfl) ?_
  refine lv_imul hx hb dX12_cell_64 ?_
  refine lv_iadd hx hb dX12_cell_65 ?_
  refine lv_iload_n hx hb dX12_cell_66 rfl (lv_at hl 2 rfl) ?_
  refine lv_iadd hx hb dX12_cell_67 ?_
  refine lv_iconst (v := (1 : Int32)) hx hb dX12_cell_68 (by decide) ?_
  refine lv_isub hx hb dX12_cell_69 ?_
  obtain ⟨v1, h_v1, e_v1, hm⟩ := n_ldi hm
  refine n_iald X hH (n := 2647) (m_lay_at hT hk_a (by decide) (i := 2) rfl) h_v1 e_v1 dX12_cell_70 ?_
  exact r_iret X hr hH hS hm dX12_cell_71
def f_X12_cell (a : Nat) (S : m_M) (i1 : Int32) (i2 : Int32) : Option (Int32 × m_M) :=
    m_let (m_si S a 0 (0 : Int32)) fun S1 =>
    m_call (f_X12_isCell a S1 i1) fun v3 S2 =>
    if v3 = 0 then (
    some ((-1 : Int32), S2)) else (
    if i2 = (0 : Int32) then (
    (m_ldi S2 (a + 2) 2647 ((893 : Int32) + i1)).bind fun v6 =>
    some (v6, S2)) else (
    if i2 = (1 : Int32) then (
    b_X12_cell_55 a S2 i1 i2) else (
    if i2 = (2 : Int32) then (
    b_X12_cell_55 a S2 i1 i2) else (
    some ((-1 : Int32), S2)))))
set_option maxHeartbeats 4000000 in
set_option maxRecDepth 100000 in
theorem c_X12_cell {l : Launch} {G : m_G} {nx : Nat} {κ : Nat → Nat} {a : Nat} {S : m_M} {i1 : Int32} {i2 : Int32} {res : (Int32 × m_M)} (hT : m_Str κ) (hk_a : κ a = 13) (hm : f_X12_cell a S i1 i2 = some res) : m_Ci l yX12_cell cX12_cell 3 (some .int) rm_X12_cell G nx κ [.ref a, .int i1, .int i2] S res := by
  refine m_Ci.of (by decide) (Nat.le_of_ble_eq_true rfl) ?_
  intro p e s m args below meth c ls X hr hH hl
  have hx := X.1.1
  have hb := X.1.2.1
  have hS : m_S G s s.heap [] := va_S.rf
  have hl : lv_has ls 3 [(0, .ref a), (1, .int i1), (2, .int i2)] := hl
  rw [f_X12_cell] at hm
  refine lv_aload_n hx hb dX12_cell_0 rfl (lv_at hl 0 rfl) ?_
  refine lv_iconst (v := (0 : Int32)) hx hb dX12_cell_1 (by decide) ?_
  obtain ⟨S1, e_S1, hm⟩ := m_let_of hm
  refine n_puti X hH hS tyX12 (k := 12) (a := a) (j := 0) hk_a (by decide) rfl m_wi12 tyX12_ok nmX12 (by decide) in_7_15 rfl rfl rfl ⟨rfl, rfl⟩ e_S1 dX12_cell_2 (fun H locs hH hS => ?_)
  refine lv_aload_n hx hb dX12_cell_5 rfl (lv_at hl 0 rfl) ?_
  refine lv_iload_n hx hb dX12_cell_6 rfl (lv_at hl 1 rfl) ?_
  obtain ⟨v3, S2, e_S2, hm⟩ := m_call_of hm
  refine n_cVi X hH hS (k := 12) (c_X12_isCell (a := a) hT hk_a e_S2) mw_X12_isCell in_8_232 hk_a (by decide) rfl rfl rfl ⟨rfl, rfl⟩ ⟨Nat.le_of_ble_eq_true rfl, Nat.le_of_ble_eq_true rfl⟩ ⟨Nat.zero_le _, Nat.zero_le _⟩ hl.1 (Nat.le_of_ble_eq_true rfl) dX12_cell_7 (fun H locs hH hS => ?_)
  refine lv_if_ne (tgt := 15) hx hb dX12_cell_10 (by decide) (fun c4 => ?_) (fun c4 => ?_)
  · have hm := m_ite_f hm c4
    refine lv_iload_n hx hb dX12_cell_15 rfl (lv_at hl 2 rfl) ?_
    by_cases c5 : i2 = (0 : Int32)
    · have hm := m_ite_t hm c5
      refine lv_tableIn (off := 28) (tgt := 44) hx hb dX12_cell_16 (by rw [c5]; decide) (by rw [c5]; decide) (by rw [c5]; rfl) (by decide) ?_
      refine lv_aload_n hx hb dX12_cell_44 rfl (lv_at hl 0 rfl) ?_
      refine r_getp X hH (k := 12) (a := a) (j := 14) (b := (a + 2)) (A := 2) (B := 0) hk_a (by decide) rfl m_wi12 (by decide) in_7_29 rfl rfl rfl dX12_cell_45 ?_
      refine lv_sipush (v := (893 : Int32)) hx hb dX12_cell_48 (by decide) ?_
      refine lv_iload_n hx hb dX12_cell_51 rfl (lv_at hl 1 rfl) ?_
      refine lv_iadd hx hb dX12_cell_52 ?_
      obtain ⟨v6, h_v6, e_v6, hm⟩ := n_ldi hm
      refine n_iald X hH (n := 2647) (m_lay_at hT hk_a (by decide) (i := 2) rfl) h_v6 e_v6 dX12_cell_53 ?_
      exact r_iret X hr hH hS hm dX12_cell_54
    · have hm := m_ite_f hm c5
      by_cases c7 : i2 = (1 : Int32)
      · have hm := m_ite_t hm c7
        refine lv_tableIn (off := 39) (tgt := 55) hx hb dX12_cell_16 (by rw [c7]; decide) (by rw [c7]; decide) (by rw [c7]; rfl) (by decide) ?_
        exact k_X12_cell_55 (a := a) X hr hT hk_a   S2 i1 i2 _ _ _ hH hS hl hm
      · have hm := m_ite_f hm c7
        by_cases c8 : i2 = (2 : Int32)
        · have hm := m_ite_t hm c8
          refine lv_tableIn (off := 39) (tgt := 55) hx hb dX12_cell_16 (by rw [c8]; decide) (by rw [c8]; decide) (by rw [c8]; rfl) (by decide) ?_
          exact k_X12_cell_55 (a := a) X hr hT hk_a   S2 i1 i2 _ _ _ hH hS hl hm
        · have hm := m_ite_f hm c8
          refine lv_tableOut (tgt := 72) hx hb dX12_cell_16 (by have h_c5 := lv_neT (a := 0) c5 rfl; have h_c7 := lv_neT (a := 1) c7 rfl; have h_c8 := lv_neT (a := 2) c8 rfl; omega) (by decide) ?_
          refine lv_iconst (v := (-1 : Int32)) hx hb dX12_cell_72 (by decide) ?_
          exact r_iret X hr hH hS hm dX12_cell_73
  · have hm := m_ite_t hm c4
    refine lv_iconst (v := (-1 : Int32)) hx hb dX12_cell_13 (by decide) ?_
    exact r_iret X hr hH hS hm dX12_cell_14
def rm_X12_in : Room := { frames := 2, cells := 0, slots := 0, locals := 43 }
def b_X12_in_43 (a : Nat)  (S : m_M) (t0 : Int32) : Option (Int32 × m_M) :=
    some (t0, S)
set_option maxHeartbeats 4000000 in
set_option maxRecDepth 100000 in
theorem k_X12_in_43 {p : Program} {l : Launch} {e : Env} {s : State} {m : MethodId} {args : Array Value} {below : List Frame} {meth : Method} {c : Code} {G : m_G} {nx : Nat} {κ : Nat → Nat} {res : (Int32 × m_M)} {a : Nat} (X : m_Cx p s m args meth c cX12_in 3 RX12 G) (hr : meth.sig.returnType = (some .int)) (hT : m_Str κ) (hk_a : κ a = 13)  : ∀ (S : m_M) (t0 : Int32) (H : Heap) (locs : List Loc) (ls : Array Slot), m_H G nx κ S H → m_S G s H locs → lv_has ls 3 [] → b_X12_in_43 a S t0 = some res → W p l e rm_X12_in s m args below meth c H locs 0 0 (m_Qi below args s G nx κ res) (F0 m 43 ls [.int t0]) := by
  have hx := X.1.1
  have hb := X.1.2.1
  intro S t0 H locs ls hH hS hl hm
  rw [b_X12_in_43] at hm
  exact r_iret X hr hH hS hm dX12_in_43
def b_X12_in_39 (a : Nat)  (S : m_M)  : Option (Int32 × m_M) :=
    m_call (f_X12_refuse a S) fun v2 S1 =>
    b_X12_in_43 a S1 v2
set_option maxHeartbeats 4000000 in
set_option maxRecDepth 100000 in
theorem k_X12_in_39 {p : Program} {l : Launch} {e : Env} {s : State} {m : MethodId} {args : Array Value} {below : List Frame} {meth : Method} {c : Code} {G : m_G} {nx : Nat} {κ : Nat → Nat} {res : (Int32 × m_M)} {a : Nat} (X : m_Cx p s m args meth c cX12_in 3 RX12 G) (hr : meth.sig.returnType = (some .int)) (hT : m_Str κ) (hk_a : κ a = 13)  : ∀ (S : m_M)  (H : Heap) (locs : List Loc) (ls : Array Slot), m_H G nx κ S H → m_S G s H locs → lv_has ls 3 [(0, .ref a)] → b_X12_in_39 a S  = some res → W p l e rm_X12_in s m args below meth c H locs 0 0 (m_Qi below args s G nx κ res) (F0 m 39 ls []) := by
  have hx := X.1.1
  have hb := X.1.2.1
  intro S H locs ls hH hS hl hm
  rw [b_X12_in_39] at hm
  refine lv_aload_n hx hb dX12_in_39 rfl (lv_at hl 0 rfl) ?_
  obtain ⟨v2, S1, e_S1, hm⟩ := m_call_of hm
  refine n_cVi X hH hS (k := 12) (c_X12_refuse (a := a) hT hk_a e_S1) mw_X12_refuse in_8_45 hk_a (by decide) rfl rfl rfl ⟨rfl, rfl⟩ ⟨Nat.le_of_ble_eq_true rfl, Nat.le_of_ble_eq_true rfl⟩ ⟨Nat.zero_le _, Nat.zero_le _⟩ hl.1 (Nat.le_of_ble_eq_true rfl) dX12_in_40 (fun H locs hH hS => ?_)
  exact k_X12_in_43 (a := a) X hr hT hk_a   S1 v2 _ _ _ hH hS (lv_sub hl [] rfl) hm
def f_X12_in (a : Nat) (S : m_M) (i1 : Int32) (i2 : Int32) : Option (Int32 × m_M) :=
    m_let (m_si S a 0 (0 : Int32)) fun S1 =>
    m_call (f_X12_isCell a S1 i1) fun v3 S2 =>
    if v3 = 0 then (
    b_X12_in_39 a S2) else (
    m_call (f_X12_isIn S2 i2 (0 : Int32) (1 : Int32)) fun v6 S5 =>
    if v6 = 0 then (
    b_X12_in_39 a S5) else (
    (m_ldi S5 (a + 2) 2647 (((1693 : Int32) + ((2 : Int32) * i1)) + i2)).bind fun v8 =>
    b_X12_in_43 a S5 v8))
set_option maxHeartbeats 4000000 in
set_option maxRecDepth 100000 in
theorem c_X12_in {l : Launch} {G : m_G} {nx : Nat} {κ : Nat → Nat} {a : Nat} {S : m_M} {i1 : Int32} {i2 : Int32} {res : (Int32 × m_M)} (hT : m_Str κ) (hk_a : κ a = 13) (hm : f_X12_in a S i1 i2 = some res) : m_Ci l yX12_in cX12_in 3 (some .int) rm_X12_in G nx κ [.ref a, .int i1, .int i2] S res := by
  refine m_Ci.of (by decide) (Nat.le_of_ble_eq_true rfl) ?_
  intro p e s m args below meth c ls X hr hH hl
  have hx := X.1.1
  have hb := X.1.2.1
  have hS : m_S G s s.heap [] := va_S.rf
  have hl : lv_has ls 3 [(0, .ref a), (1, .int i1), (2, .int i2)] := hl
  rw [f_X12_in] at hm
  refine lv_aload_n hx hb dX12_in_0 rfl (lv_at hl 0 rfl) ?_
  refine lv_iconst (v := (0 : Int32)) hx hb dX12_in_1 (by decide) ?_
  obtain ⟨S1, e_S1, hm⟩ := m_let_of hm
  refine n_puti X hH hS tyX12 (k := 12) (a := a) (j := 0) hk_a (by decide) rfl m_wi12 tyX12_ok nmX12 (by decide) in_7_15 rfl rfl rfl ⟨rfl, rfl⟩ e_S1 dX12_in_2 (fun H locs hH hS => ?_)
  refine lv_aload_n hx hb dX12_in_5 rfl (lv_at hl 0 rfl) ?_
  refine lv_iload_n hx hb dX12_in_6 rfl (lv_at hl 1 rfl) ?_
  obtain ⟨v3, S2, e_S2, hm⟩ := m_call_of hm
  refine n_cVi X hH hS (k := 12) (c_X12_isCell (a := a) hT hk_a e_S2) mw_X12_isCell in_8_232 hk_a (by decide) rfl rfl rfl ⟨rfl, rfl⟩ ⟨Nat.le_of_ble_eq_true rfl, Nat.le_of_ble_eq_true rfl⟩ ⟨Nat.zero_le _, Nat.zero_le _⟩ hl.1 (Nat.le_of_ble_eq_true rfl) dX12_in_7 (fun H locs hH hS => ?_)
  refine lv_if_eq (tgt := 39) hx hb dX12_in_10 (by decide) (fun c4 => ?_) (fun c4 => ?_)
  · have hm := m_ite_t hm c4
    exact k_X12_in_39 (a := a) X hr hT hk_a   S2 _ _ _ hH hS (lv_sub hl [0] rfl) hm
  · have hm := m_ite_f hm c4
    refine lv_iload_n hx hb dX12_in_13 rfl (lv_at hl 2 rfl) ?_
    refine lv_iconst (v := (0 : Int32)) hx hb dX12_in_14 (by decide) ?_
    refine lv_iconst (v := (1 : Int32)) hx hb dX12_in_15 (by decide) ?_
    obtain ⟨v6, S5, e_S5, hm⟩ := m_call_of hm
    refine n_cSi X hH hS (c_X12_isIn  hT  e_S5) mw_X12_isIn in_8_42 rfl ⟨rfl, rfl⟩ ⟨Nat.le_of_ble_eq_true rfl, Nat.le_of_ble_eq_true rfl⟩ ⟨Nat.zero_le _, Nat.zero_le _⟩ hl.1 (Nat.le_of_ble_eq_true rfl) dX12_in_16 (fun H locs hH hS => ?_)
    refine lv_if_eq (tgt := 39) hx hb dX12_in_19 (by decide) (fun c7 => ?_) (fun c7 => ?_)
    · have hm := m_ite_t hm c7
      exact k_X12_in_39 (a := a) X hr hT hk_a   S5 _ _ _ hH hS (lv_sub hl [0] rfl) hm
    · have hm := m_ite_f hm c7
      refine lv_aload_n hx hb dX12_in_22 rfl (lv_at hl 0 rfl) ?_
      refine r_getp X hH (k := 12) (a := a) (j := 14) (b := (a + 2)) (A := 2) (B := 0) hk_a (by decide) rfl m_wi12 (by decide) in_7_29 rfl rfl rfl dX12_in_23 ?_
      refine lv_sipush (v := (1693 : Int32)) hx hb dX12_in_26 (by decide) ?_
      refine lv_iconst (v := (2 : Int32)) hx hb dX12_in_29 (by decide) ?_
      refine lv_iload_n hx hb dX12_in_30 rfl (lv_at hl 1 rfl) ?_
      refine lv_imul hx hb dX12_in_31 ?_
      refine lv_iadd hx hb dX12_in_32 ?_
      refine lv_iload_n hx hb dX12_in_33 rfl (lv_at hl 2 rfl) ?_
      refine lv_iadd hx hb dX12_in_34 ?_
      obtain ⟨v8, h_v8, e_v8, hm⟩ := n_ldi hm
      refine n_iald X hH (n := 2647) (m_lay_at hT hk_a (by decide) (i := 2) rfl) h_v8 e_v8 dX12_in_35 ?_
      refine lv_goto (tgt := 43) hx hb dX12_in_36 (by decide) ?_
      exact k_X12_in_43 (a := a) X hr hT hk_a   S5 v8 _ _ _ hH hS (lv_sub hl [] rfl) hm
def rm_X12_gave : Room := { frames := 0, cells := 0, slots := 0, locals := 0 }
def f_X12_gave (a : Nat) (S : m_M)  : Option (Int32 × m_M) :=
    m_let (m_si S a 0 (0 : Int32)) fun S1 =>
    (m_ldi S1 (a + 2) 2647 (219 : Int32)).bind fun v2 =>
    some (v2, S1)
set_option maxHeartbeats 4000000 in
set_option maxRecDepth 100000 in
theorem c_X12_gave {l : Launch} {G : m_G} {nx : Nat} {κ : Nat → Nat} {a : Nat} {S : m_M}  {res : (Int32 × m_M)} (hT : m_Str κ) (hk_a : κ a = 13) (hm : f_X12_gave a S = some res) : m_Ci l yX12_gave cX12_gave 1 (some .int) rm_X12_gave G nx κ [.ref a] S res := by
  refine m_Ci.of (by decide) (Nat.le_of_ble_eq_true rfl) ?_
  intro p e s m args below meth c ls X hr hH hl
  have hx := X.1.1
  have hb := X.1.2.1
  have hS : m_S G s s.heap [] := va_S.rf
  have hl : lv_has ls 1 [(0, .ref a)] := hl
  rw [f_X12_gave] at hm
  refine lv_aload_n hx hb dX12_gave_0 rfl (lv_at hl 0 rfl) ?_
  refine lv_iconst (v := (0 : Int32)) hx hb dX12_gave_1 (by decide) ?_
  obtain ⟨S1, e_S1, hm⟩ := m_let_of hm
  refine n_puti X hH hS tyX12 (k := 12) (a := a) (j := 0) hk_a (by decide) rfl m_wi12 tyX12_ok nmX12 (by decide) in_7_15 rfl rfl rfl ⟨rfl, rfl⟩ e_S1 dX12_gave_2 (fun H locs hH hS => ?_)
  refine lv_aload_n hx hb dX12_gave_5 rfl (lv_at hl 0 rfl) ?_
  refine r_getp X hH (k := 12) (a := a) (j := 14) (b := (a + 2)) (A := 2) (B := 0) hk_a (by decide) rfl m_wi12 (by decide) in_7_29 rfl rfl rfl dX12_gave_6 ?_
  refine lv_sipush (v := (219 : Int32)) hx hb dX12_gave_9 (by decide) ?_
  obtain ⟨v2, h_v2, e_v2, hm⟩ := n_ldi hm
  refine n_iald X hH (n := 2647) (m_lay_at hT hk_a (by decide) (i := 2) rfl) h_v2 e_v2 dX12_gave_12 ?_
  exact r_iret X hr hH hS hm dX12_gave_13
def rm_X12_result : Room := { frames := 1, cells := 0, slots := 0, locals := 20 }
def b_X12_result_32 (a : Nat)  (S : m_M) (t0 : Int32) : Option (Int32 × m_M) :=
    some (t0, S)
set_option maxHeartbeats 4000000 in
set_option maxRecDepth 100000 in
theorem k_X12_result_32 {p : Program} {l : Launch} {e : Env} {s : State} {m : MethodId} {args : Array Value} {below : List Frame} {meth : Method} {c : Code} {G : m_G} {nx : Nat} {κ : Nat → Nat} {res : (Int32 × m_M)} {a : Nat} (X : m_Cx p s m args meth c cX12_result 1 RX12 G) (hr : meth.sig.returnType = (some .int)) (hT : m_Str κ) (hk_a : κ a = 13)  : ∀ (S : m_M) (t0 : Int32) (H : Heap) (locs : List Loc) (ls : Array Slot), m_H G nx κ S H → m_S G s H locs → lv_has ls 1 [] → b_X12_result_32 a S t0 = some res → W p l e rm_X12_result s m args below meth c H locs 0 0 (m_Qi below args s G nx κ res) (F0 m 32 ls [.int t0]) := by
  have hx := X.1.1
  have hb := X.1.2.1
  intro S t0 H locs ls hH hS hl hm
  rw [b_X12_result_32] at hm
  exact r_iret X hr hH hS hm dX12_result_32
def f_X12_result (a : Nat) (S : m_M)  : Option (Int32 × m_M) :=
    m_let (m_si S a 0 (0 : Int32)) fun S1 =>
    (m_ldi S1 (a + 2) 2647 (210 : Int32)).bind fun v2 =>
    if v2 = (2 : Int32) then (
    (m_ldi S1 (a + 2) 2647 (220 : Int32)).bind fun v6 =>
    b_X12_result_32 a S1 v6) else (
    m_call (f_X12_refuse a S1) fun v5 S4 =>
    b_X12_result_32 a S4 v5)
set_option maxHeartbeats 4000000 in
set_option maxRecDepth 100000 in
theorem c_X12_result {l : Launch} {G : m_G} {nx : Nat} {κ : Nat → Nat} {a : Nat} {S : m_M}  {res : (Int32 × m_M)} (hT : m_Str κ) (hk_a : κ a = 13) (hm : f_X12_result a S = some res) : m_Ci l yX12_result cX12_result 1 (some .int) rm_X12_result G nx κ [.ref a] S res := by
  refine m_Ci.of (by decide) (Nat.le_of_ble_eq_true rfl) ?_
  intro p e s m args below meth c ls X hr hH hl
  have hx := X.1.1
  have hb := X.1.2.1
  have hS : m_S G s s.heap [] := va_S.rf
  have hl : lv_has ls 1 [(0, .ref a)] := hl
  rw [f_X12_result] at hm
  refine lv_aload_n hx hb dX12_result_0 rfl (lv_at hl 0 rfl) ?_
  refine lv_iconst (v := (0 : Int32)) hx hb dX12_result_1 (by decide) ?_
  obtain ⟨S1, e_S1, hm⟩ := m_let_of hm
  refine n_puti X hH hS tyX12 (k := 12) (a := a) (j := 0) hk_a (by decide) rfl m_wi12 tyX12_ok nmX12 (by decide) in_7_15 rfl rfl rfl ⟨rfl, rfl⟩ e_S1 dX12_result_2 (fun H locs hH hS => ?_)
  refine lv_aload_n hx hb dX12_result_5 rfl (lv_at hl 0 rfl) ?_
  refine r_getp X hH (k := 12) (a := a) (j := 14) (b := (a + 2)) (A := 2) (B := 0) hk_a (by decide) rfl m_wi12 (by decide) in_7_29 rfl rfl rfl dX12_result_6 ?_
  refine lv_sipush (v := (210 : Int32)) hx hb dX12_result_9 (by decide) ?_
  obtain ⟨v2, h_v2, e_v2, hm⟩ := n_ldi hm
  refine n_iald X hH (n := 2647) (m_lay_at hT hk_a (by decide) (i := 2) rfl) h_v2 e_v2 dX12_result_12 ?_
  refine lv_iconst (v := (2 : Int32)) hx hb dX12_result_13 (by decide) ?_
  refine lv_icmp_ne (tgt := 28) hx hb dX12_result_14 (by decide) (fun c3 => ?_) (fun c3 => ?_)
  · have hm := m_ite_f hm c3
    refine lv_aload_n hx hb dX12_result_28 rfl (lv_at hl 0 rfl) ?_
    obtain ⟨v5, S4, e_S4, hm⟩ := m_call_of hm
    refine n_cVi X hH hS (k := 12) (c_X12_refuse (a := a) hT hk_a e_S4) mw_X12_refuse in_8_45 hk_a (by decide) rfl rfl rfl ⟨rfl, rfl⟩ ⟨Nat.le_of_ble_eq_true rfl, Nat.le_of_ble_eq_true rfl⟩ ⟨Nat.zero_le _, Nat.zero_le _⟩ hl.1 (Nat.le_of_ble_eq_true rfl) dX12_result_29 (fun H locs hH hS => ?_)
    exact k_X12_result_32 (a := a) X hr hT hk_a   S4 v5 _ _ _ hH hS (lv_sub hl [] rfl) hm
  · have hm := m_ite_t hm c3
    refine lv_aload_n hx hb dX12_result_17 rfl (lv_at hl 0 rfl) ?_
    refine r_getp X hH (k := 12) (a := a) (j := 14) (b := (a + 2)) (A := 2) (B := 0) hk_a (by decide) rfl m_wi12 (by decide) in_7_29 rfl rfl rfl dX12_result_18 ?_
    refine lv_sipush (v := (220 : Int32)) hx hb dX12_result_21 (by decide) ?_
    obtain ⟨v6, h_v6, e_v6, hm⟩ := n_ldi hm
    refine n_iald X hH (n := 2647) (m_lay_at hT hk_a (by decide) (i := 2) rfl) h_v6 e_v6 dX12_result_24 ?_
    refine lv_goto (tgt := 32) hx hb dX12_result_25 (by decide) ?_
    exact k_X12_result_32 (a := a) X hr hT hk_a   S1 v6 _ _ _ hH hS (lv_sub hl [] rfl) hm
def rm_X12_room : Room := { frames := 1, cells := 0, slots := 0, locals := 22 }
def b_X12_room_37 (a : Nat)  (S : m_M) (t0 : Int32) : Option (Int32 × m_M) :=
    some (t0, S)
set_option maxHeartbeats 4000000 in
set_option maxRecDepth 100000 in
theorem k_X12_room_37 {p : Program} {l : Launch} {e : Env} {s : State} {m : MethodId} {args : Array Value} {below : List Frame} {meth : Method} {c : Code} {G : m_G} {nx : Nat} {κ : Nat → Nat} {res : (Int32 × m_M)} {a : Nat} (X : m_Cx p s m args meth c cX12_room 2 RX12 G) (hr : meth.sig.returnType = (some .int)) (hT : m_Str κ) (hk_a : κ a = 13)  : ∀ (S : m_M) (t0 : Int32) (H : Heap) (locs : List Loc) (ls : Array Slot), m_H G nx κ S H → m_S G s H locs → lv_has ls 2 [] → b_X12_room_37 a S t0 = some res → W p l e rm_X12_room s m args below meth c H locs 0 0 (m_Qi below args s G nx κ res) (F0 m 37 ls [.int t0]) := by
  have hx := X.1.1
  have hb := X.1.2.1
  intro S t0 H locs ls hH hS hl hm
  rw [b_X12_room_37] at hm
  exact r_iret X hr hH hS hm dX12_room_37
def f_X12_room (a : Nat) (S : m_M) (i1 : Int32) : Option (Int32 × m_M) :=
    m_let (m_si S a 0 (0 : Int32)) fun S1 =>
    (m_ldi S1 (a + 2) 2647 (214 : Int32)).bind fun v2 =>
    m_call (f_X12_isIn S1 i1 (0 : Int32) (v2 - (1 : Int32))) fun v4 S3 =>
    if v4 = 0 then (
    b_X12_room_37 a S3 (-1 : Int32)) else (
    (m_ldi S3 (a + 2) 2647 ((2093 : Int32) + i1)).bind fun v6 =>
    b_X12_room_37 a S3 v6)
set_option maxHeartbeats 4000000 in
set_option maxRecDepth 100000 in
theorem c_X12_room {l : Launch} {G : m_G} {nx : Nat} {κ : Nat → Nat} {a : Nat} {S : m_M} {i1 : Int32} {res : (Int32 × m_M)} (hT : m_Str κ) (hk_a : κ a = 13) (hm : f_X12_room a S i1 = some res) : m_Ci l yX12_room cX12_room 2 (some .int) rm_X12_room G nx κ [.ref a, .int i1] S res := by
  refine m_Ci.of (by decide) (Nat.le_of_ble_eq_true rfl) ?_
  intro p e s m args below meth c ls X hr hH hl
  have hx := X.1.1
  have hb := X.1.2.1
  have hS : m_S G s s.heap [] := va_S.rf
  have hl : lv_has ls 2 [(0, .ref a), (1, .int i1)] := hl
  rw [f_X12_room] at hm
  refine lv_aload_n hx hb dX12_room_0 rfl (lv_at hl 0 rfl) ?_
  refine lv_iconst (v := (0 : Int32)) hx hb dX12_room_1 (by decide) ?_
  obtain ⟨S1, e_S1, hm⟩ := m_let_of hm
  refine n_puti X hH hS tyX12 (k := 12) (a := a) (j := 0) hk_a (by decide) rfl m_wi12 tyX12_ok nmX12 (by decide) in_7_15 rfl rfl rfl ⟨rfl, rfl⟩ e_S1 dX12_room_2 (fun H locs hH hS => ?_)
  refine lv_iload_n hx hb dX12_room_5 rfl (lv_at hl 1 rfl) ?_
  refine lv_iconst (v := (0 : Int32)) hx hb dX12_room_6 (by decide) ?_
  refine lv_aload_n hx hb dX12_room_7 rfl (lv_at hl 0 rfl) ?_
  refine r_getp X hH (k := 12) (a := a) (j := 14) (b := (a + 2)) (A := 2) (B := 0) hk_a (by decide) rfl m_wi12 (by decide) in_7_29 rfl rfl rfl dX12_room_8 ?_
  refine lv_sipush (v := (214 : Int32)) hx hb dX12_room_11 (by decide) ?_
  obtain ⟨v2, h_v2, e_v2, hm⟩ := n_ldi hm
  refine n_iald X hH (n := 2647) (m_lay_at hT hk_a (by decide) (i := 2) rfl) h_v2 e_v2 dX12_room_14 ?_
  refine lv_iconst (v := (1 : Int32)) hx hb dX12_room_15 (by decide) ?_
  refine lv_isub hx hb dX12_room_16 ?_
  obtain ⟨v4, S3, e_S3, hm⟩ := m_call_of hm
  refine n_cSi X hH hS (c_X12_isIn  hT  e_S3) mw_X12_isIn in_8_42 rfl ⟨rfl, rfl⟩ ⟨Nat.le_of_ble_eq_true rfl, Nat.le_of_ble_eq_true rfl⟩ ⟨Nat.zero_le _, Nat.zero_le _⟩ hl.1 (Nat.le_of_ble_eq_true rfl) dX12_room_17 (fun H locs hH hS => ?_)
  refine lv_if_eq (tgt := 36) hx hb dX12_room_20 (by decide) (fun c5 => ?_) (fun c5 => ?_)
  · have hm := m_ite_t hm c5
    refine lv_iconst (v := (-1 : Int32)) hx hb dX12_room_36 (by decide) ?_
    exact k_X12_room_37 (a := a) X hr hT hk_a   S3 (-1 : Int32) _ _ _ hH hS (lv_sub hl [] rfl) hm
  · have hm := m_ite_f hm c5
    refine lv_aload_n hx hb dX12_room_23 rfl (lv_at hl 0 rfl) ?_
    refine r_getp X hH (k := 12) (a := a) (j := 14) (b := (a + 2)) (A := 2) (B := 0) hk_a (by decide) rfl m_wi12 (by decide) in_7_29 rfl rfl rfl dX12_room_24 ?_
    refine lv_sipush (v := (2093 : Int32)) hx hb dX12_room_27 (by decide) ?_
    refine lv_iload_n hx hb dX12_room_30 rfl (lv_at hl 1 rfl) ?_
    refine lv_iadd hx hb dX12_room_31 ?_
    obtain ⟨v6, h_v6, e_v6, hm⟩ := n_ldi hm
    refine n_iald X hH (n := 2647) (m_lay_at hT hk_a (by decide) (i := 2) rfl) h_v6 e_v6 dX12_room_32 ?_
    refine lv_goto (tgt := 37) hx hb dX12_room_33 (by decide) ?_
    exact k_X12_room_37 (a := a) X hr hT hk_a   S3 v6 _ _ _ hH hS (lv_sub hl [] rfl) hm
def rm_X12_roomful : Room := { frames := 2, cells := 0, slots := 0, locals := 43 }
def b_X12_roomful_61 (a : Nat) (K_29 : m_M → Int32 → Int32 → Int32 → Option (Int32 × m_M)) (S : m_M) (l1 : Int32) (l2 : Int32) (l3 : Int32) : Option (Int32 × m_M) :=
    m_let (l3 + (1 : Int32)) fun v1 =>
    K_29 S l1 l2 v1
set_option maxHeartbeats 4000000 in
set_option maxRecDepth 100000 in
theorem k_X12_roomful_61 {p : Program} {l : Launch} {e : Env} {s : State} {m : MethodId} {args : Array Value} {below : List Frame} {meth : Method} {c : Code} {G : m_G} {nx : Nat} {κ : Nat → Nat} {res : (Int32 × m_M)} {a : Nat} (X : m_Cx p s m args meth c cX12_roomful 4 RX12 G) (hr : meth.sig.returnType = (some .int)) (hT : m_Str κ) (hk_a : κ a = 13) (K_29 : m_M → Int32 → Int32 → Int32 → Option (Int32 × m_M)) (hK_29 : ∀ (S : m_M) (l1 : Int32) (l2 : Int32) (l3 : Int32) (H : Heap) (locs : List Loc) (ls : Array Slot), m_H G nx κ S H → m_S G s H locs → lv_has ls 4 [(0, .ref a), (1, .int l1), (2, .int l2), (3, .int l3)] → K_29 S l1 l2 l3 = some res → W p l e rm_X12_roomful s m args below meth c H locs 0 0 (m_Qi below args s G nx κ res) (F0 m 29 ls [])) : ∀ (S : m_M) (l1 : Int32) (l2 : Int32) (l3 : Int32) (H : Heap) (locs : List Loc) (ls : Array Slot), m_H G nx κ S H → m_S G s H locs → lv_has ls 4 [(0, .ref a), (1, .int l1), (2, .int l2), (3, .int l3)] → b_X12_roomful_61 a K_29 S l1 l2 l3 = some res → W p l e rm_X12_roomful s m args below meth c H locs 0 0 (m_Qi below args s G nx κ res) (F0 m 61 ls []) := by
  have hx := X.1.1
  have hb := X.1.2.1
  intro S l1 l2 l3 H locs ls hH hS hl hm
  rw [b_X12_roomful_61] at hm
  obtain ⟨v1, e_v1, hm⟩ := m_let_of hm
  refine lv_iinc (v := v1) (lv' := [(3, .int v1), (0, .ref a), (1, .int l1), (2, .int l2)]) hx hb dX12_roomful_61 hl (k := 3) rfl (by rw [← e_v1]; rfl) (by decide) rfl (fun ls hl => ?_)
  refine lv_goto (tgt := 29) hx hb dX12_roomful_64 (by decide) ?_
  exact hK_29 S l1 l2 v1 _ _ _ hH hS (lv_sub hl [1, 2, 3, 0] rfl) hm
def b_X12_roomful_29 (a : Nat)  : Nat → m_M → Int32 → Int32 → Int32 → Option (Int32 × m_M)
  | 0, _, _, _, _ => none
  | n + 1, S, l1, l2, l3 =>
    if (200 : Int32) ≤ l3 then (
    some (l2, S)) else (
    m_call (f_X12_isCell a S l3) fun v3 S2 =>
    if v3 = 0 then (
    b_X12_roomful_61 a (b_X12_roomful_29 a n) S2 l1 l2 l3) else (
    (m_ldi S2 (a + 2) 2647 ((1093 : Int32) + l3)).bind fun v5 =>
    if v5 = l1 then (
    m_let (l2 + (1 : Int32)) fun v7 =>
    b_X12_roomful_61 a (b_X12_roomful_29 a n) S2 l1 v7 l3) else (
    b_X12_roomful_61 a (b_X12_roomful_29 a n) S2 l1 l2 l3)))
set_option maxHeartbeats 4000000 in
set_option maxRecDepth 100000 in
theorem k_X12_roomful_29 {p : Program} {l : Launch} {e : Env} {s : State} {m : MethodId} {args : Array Value} {below : List Frame} {meth : Method} {c : Code} {G : m_G} {nx : Nat} {κ : Nat → Nat} {res : (Int32 × m_M)} {a : Nat} (X : m_Cx p s m args meth c cX12_roomful 4 RX12 G) (hr : meth.sig.returnType = (some .int)) (hT : m_Str κ) (hk_a : κ a = 13)  (n : Nat) : ∀ (S : m_M) (l1 : Int32) (l2 : Int32) (l3 : Int32) (H : Heap) (locs : List Loc) (ls : Array Slot), m_H G nx κ S H → m_S G s H locs → lv_has ls 4 [(0, .ref a), (1, .int l1), (2, .int l2), (3, .int l3)] → b_X12_roomful_29 a n S l1 l2 l3 = some res → W p l e rm_X12_roomful s m args below meth c H locs 0 0 (m_Qi below args s G nx κ res) (F0 m 29 ls []) := by
  have hx := X.1.1
  have hb := X.1.2.1
  induction n with
  | zero => intro S l1 l2 l3 H locs ls hH hS hl hm; have hm : (none : Option (Int32 × m_M)) = some res := hm; cases hm
  | succ n ih =>
    intro S l1 l2 l3 H locs ls hH hS hl hm
    rw [b_X12_roomful_29] at hm
    refine lv_iload_n hx hb dX12_roomful_29 rfl (lv_at hl 3 rfl) ?_
    refine lv_sipush (v := (200 : Int32)) hx hb dX12_roomful_30 (by decide) ?_
    refine lv_icmp_ge (tgt := 67) hx hb dX12_roomful_33 (by decide) (fun c1 => ?_) (fun c1 => ?_)
    · have hm := m_ite_t hm c1
      refine lv_iload_n hx hb dX12_roomful_67 rfl (lv_at hl 2 rfl) ?_
      exact r_iret X hr hH hS hm dX12_roomful_68
    · have hm := m_ite_f hm c1
      refine lv_aload_n hx hb dX12_roomful_36 rfl (lv_at hl 0 rfl) ?_
      refine lv_iload_n hx hb dX12_roomful_37 rfl (lv_at hl 3 rfl) ?_
      obtain ⟨v3, S2, e_S2, hm⟩ := m_call_of hm
      refine n_cVi X hH hS (k := 12) (c_X12_isCell (a := a) hT hk_a e_S2) mw_X12_isCell in_8_232 hk_a (by decide) rfl rfl rfl ⟨rfl, rfl⟩ ⟨Nat.le_of_ble_eq_true rfl, Nat.le_of_ble_eq_true rfl⟩ ⟨Nat.zero_le _, Nat.zero_le _⟩ hl.1 (Nat.le_of_ble_eq_true rfl) dX12_roomful_38 (fun H locs hH hS => ?_)
      refine lv_if_eq (tgt := 61) hx hb dX12_roomful_41 (by decide) (fun c4 => ?_) (fun c4 => ?_)
      · have hm := m_ite_t hm c4
        exact k_X12_roomful_61 (a := a) X hr hT hk_a (b_X12_roomful_29 a n) ih  S2 l1 l2 l3 _ _ _ hH hS hl hm
      · have hm := m_ite_f hm c4
        refine lv_aload_n hx hb dX12_roomful_44 rfl (lv_at hl 0 rfl) ?_
        refine r_getp X hH (k := 12) (a := a) (j := 14) (b := (a + 2)) (A := 2) (B := 0) hk_a (by decide) rfl m_wi12 (by decide) in_7_29 rfl rfl rfl dX12_roomful_45 ?_
        refine lv_sipush (v := (1093 : Int32)) hx hb dX12_roomful_48 (by decide) ?_
        refine lv_iload_n hx hb dX12_roomful_51 rfl (lv_at hl 3 rfl) ?_
        refine lv_iadd hx hb dX12_roomful_52 ?_
        obtain ⟨v5, h_v5, e_v5, hm⟩ := n_ldi hm
        refine n_iald X hH (n := 2647) (m_lay_at hT hk_a (by decide) (i := 2) rfl) h_v5 e_v5 dX12_roomful_53 ?_
        refine lv_iload_n hx hb dX12_roomful_54 rfl (lv_at hl 1 rfl) ?_
        refine lv_icmp_ne (tgt := 61) hx hb dX12_roomful_55 (by decide) (fun c6 => ?_) (fun c6 => ?_)
        · have hm := m_ite_f hm c6
          exact k_X12_roomful_61 (a := a) X hr hT hk_a (b_X12_roomful_29 a n) ih  S2 l1 l2 l3 _ _ _ hH hS hl hm
        · have hm := m_ite_t hm c6
          obtain ⟨v7, e_v7, hm⟩ := m_let_of hm
          refine lv_iinc (v := v7) (lv' := [(2, .int v7), (0, .ref a), (1, .int l1), (3, .int l3)]) hx hb dX12_roomful_58 hl (k := 2) rfl (by rw [← e_v7]; rfl) (by decide) rfl (fun ls hl => ?_)
          exact k_X12_roomful_61 (a := a) X hr hT hk_a (b_X12_roomful_29 a n) ih  S2 l1 v7 l3 _ _ _ hH hS (lv_sub hl [1, 2, 0, 3] rfl) hm
def f_X12_roomful (a : Nat) (S : m_M) (i1 : Int32) : Option (Int32 × m_M) :=
    m_let (m_si S a 0 (0 : Int32)) fun S1 =>
    (m_ldi S1 (a + 2) 2647 (214 : Int32)).bind fun v2 =>
    m_call (f_X12_isIn S1 i1 (0 : Int32) (v2 - (1 : Int32))) fun v4 S3 =>
    if v4 = 0 then (
    some ((-1 : Int32), S3)) else (
    b_X12_roomful_29 a m_fu S3 i1 (0 : Int32) (0 : Int32))
set_option maxHeartbeats 4000000 in
set_option maxRecDepth 100000 in
theorem c_X12_roomful {l : Launch} {G : m_G} {nx : Nat} {κ : Nat → Nat} {a : Nat} {S : m_M} {i1 : Int32} {res : (Int32 × m_M)} (hT : m_Str κ) (hk_a : κ a = 13) (hm : f_X12_roomful a S i1 = some res) : m_Ci l yX12_roomful cX12_roomful 4 (some .int) rm_X12_roomful G nx κ [.ref a, .int i1] S res := by
  refine m_Ci.of (by decide) (Nat.le_of_ble_eq_true rfl) ?_
  intro p e s m args below meth c ls X hr hH hl
  have hx := X.1.1
  have hb := X.1.2.1
  have hS : m_S G s s.heap [] := va_S.rf
  have hl : lv_has ls 4 [(0, .ref a), (1, .int i1)] := hl
  rw [f_X12_roomful] at hm
  refine lv_aload_n hx hb dX12_roomful_0 rfl (lv_at hl 0 rfl) ?_
  refine lv_iconst (v := (0 : Int32)) hx hb dX12_roomful_1 (by decide) ?_
  obtain ⟨S1, e_S1, hm⟩ := m_let_of hm
  refine n_puti X hH hS tyX12 (k := 12) (a := a) (j := 0) hk_a (by decide) rfl m_wi12 tyX12_ok nmX12 (by decide) in_7_15 rfl rfl rfl ⟨rfl, rfl⟩ e_S1 dX12_roomful_2 (fun H locs hH hS => ?_)
  refine lv_iload_n hx hb dX12_roomful_5 rfl (lv_at hl 1 rfl) ?_
  refine lv_iconst (v := (0 : Int32)) hx hb dX12_roomful_6 (by decide) ?_
  refine lv_aload_n hx hb dX12_roomful_7 rfl (lv_at hl 0 rfl) ?_
  refine r_getp X hH (k := 12) (a := a) (j := 14) (b := (a + 2)) (A := 2) (B := 0) hk_a (by decide) rfl m_wi12 (by decide) in_7_29 rfl rfl rfl dX12_roomful_8 ?_
  refine lv_sipush (v := (214 : Int32)) hx hb dX12_roomful_11 (by decide) ?_
  obtain ⟨v2, h_v2, e_v2, hm⟩ := n_ldi hm
  refine n_iald X hH (n := 2647) (m_lay_at hT hk_a (by decide) (i := 2) rfl) h_v2 e_v2 dX12_roomful_14 ?_
  refine lv_iconst (v := (1 : Int32)) hx hb dX12_roomful_15 (by decide) ?_
  refine lv_isub hx hb dX12_roomful_16 ?_
  obtain ⟨v4, S3, e_S3, hm⟩ := m_call_of hm
  refine n_cSi X hH hS (c_X12_isIn  hT  e_S3) mw_X12_isIn in_8_42 rfl ⟨rfl, rfl⟩ ⟨Nat.le_of_ble_eq_true rfl, Nat.le_of_ble_eq_true rfl⟩ ⟨Nat.zero_le _, Nat.zero_le _⟩ hl.1 (Nat.le_of_ble_eq_true rfl) dX12_roomful_17 (fun H locs hH hS => ?_)
  refine lv_if_ne (tgt := 25) hx hb dX12_roomful_20 (by decide) (fun c5 => ?_) (fun c5 => ?_)
  · have hm := m_ite_f hm c5
    refine lv_iconst (v := (0 : Int32)) hx hb dX12_roomful_25 (by decide) ?_
    refine lv_istore_n (lv' := [(2, .int (0 : Int32)), (0, .ref a), (1, .int i1)]) hx hb dX12_roomful_26 rfl hl (by decide) rfl (fun ls hl => ?_)
    refine lv_iconst (v := (0 : Int32)) hx hb dX12_roomful_27 (by decide) ?_
    refine lv_istore_n (lv' := [(3, .int (0 : Int32)), (2, .int (0 : Int32)), (0, .ref a), (1, .int i1)]) hx hb dX12_roomful_28 rfl hl (by decide) rfl (fun ls hl => ?_)
    exact k_X12_roomful_29 (a := a) X hr hT hk_a  m_fu S3 i1 (0 : Int32) (0 : Int32) _ _ _ hH hS (lv_sub hl [2, 3, 1, 0] rfl) hm
  · have hm := m_ite_t hm c5
    refine lv_iconst (v := (-1 : Int32)) hx hb dX12_roomful_23 (by decide) ?_
    exact r_iret X hr hH hS hm dX12_roomful_24
def rm_X12_comesTo : Room := { frames := 0, cells := 0, slots := 0, locals := 0 }
def b_X12_comesTo_14 (a : Nat)  (S : m_M)  : Option m_M :=
    some S
set_option maxHeartbeats 4000000 in
set_option maxRecDepth 100000 in
theorem k_X12_comesTo_14 {p : Program} {l : Launch} {e : Env} {s : State} {m : MethodId} {args : Array Value} {below : List Frame} {meth : Method} {c : Code} {G : m_G} {nx : Nat} {κ : Nat → Nat} {res : m_M} {a : Nat} (X : m_Cx p s m args meth c cX12_comesTo 3 RX12 G) (hr : meth.sig.returnType = none) (hT : m_Str κ) (hk_a : κ a = 13)  : ∀ (S : m_M)  (H : Heap) (locs : List Loc) (ls : Array Slot), m_H G nx κ S H → m_S G s H locs → lv_has ls 3 [] → b_X12_comesTo_14 a S  = some res → W p l e rm_X12_comesTo s m args below meth c H locs 0 0 (m_Qv below args s G nx κ res) (F0 m 14 ls []) := by
  have hx := X.1.1
  have hb := X.1.2.1
  intro S H locs ls hH hS hl hm
  rw [b_X12_comesTo_14] at hm
  exact r_vret X hr hH hS hm dX12_comesTo_14
def f_X12_comesTo (a : Nat) (S : m_M) (i1 : Int32) (i2 : Int32) : Option m_M :=
    if i1 = (2 : Int32) then (
    (m_ldi S (a + 25) 200 i2).bind fun v2 =>
    if v2 = 0 then (
    (m_sti S (a + 25) 200 i2 (vp_nar .boolean (1 : Int32))).bind fun S4 =>
    (m_sti S4 (a + 26) 200 (m_ri S4 a 41) i2).bind fun S5 =>
    m_let (m_si S5 a 41 ((m_ri S5 a 41) + (1 : Int32))) fun S6 =>
    some S6) else (
    b_X12_comesTo_14 a S)) else (
    b_X12_comesTo_14 a S)
set_option maxHeartbeats 4000000 in
set_option maxRecDepth 100000 in
theorem c_X12_comesTo {l : Launch} {G : m_G} {nx : Nat} {κ : Nat → Nat} {a : Nat} {S : m_M} {i1 : Int32} {i2 : Int32} {res : m_M} (hT : m_Str κ) (hk_a : κ a = 13) (hm : f_X12_comesTo a S i1 i2 = some res) : m_Cv l yX12_comesTo cX12_comesTo 3 rm_X12_comesTo G nx κ [.ref a, .int i1, .int i2] S res := by
  refine m_Cv.of (by decide) (Nat.le_of_ble_eq_true rfl) ?_
  intro p e s m args below meth c ls X hr hH hl
  have hx := X.1.1
  have hb := X.1.2.1
  have hS : m_S G s s.heap [] := va_S.rf
  have hl : lv_has ls 3 [(0, .ref a), (1, .int i1), (2, .int i2)] := hl
  rw [f_X12_comesTo] at hm
  refine lv_iload_n hx hb dX12_comesTo_0 rfl (lv_at hl 1 rfl) ?_
  refine lv_iconst (v := (2 : Int32)) hx hb dX12_comesTo_1 (by decide) ?_
  refine lv_icmp_ne (tgt := 14) hx hb dX12_comesTo_2 (by decide) (fun c1 => ?_) (fun c1 => ?_)
  · have hm := m_ite_f hm c1
    exact k_X12_comesTo_14 (a := a) X hr hT hk_a   S _ _ _ hH hS (lv_sub hl [] rfl) hm
  · have hm := m_ite_t hm c1
    refine lv_aload_n hx hb dX12_comesTo_5 rfl (lv_at hl 0 rfl) ?_
    refine r_getp X hH (k := 12) (a := a) (j := 39) (b := (a + 25)) (A := 25) (B := 0) hk_a (by decide) rfl m_wi12 (by decide) in_7_54 rfl rfl rfl dX12_comesTo_6 ?_
    refine lv_iload_n hx hb dX12_comesTo_9 rfl (lv_at hl 2 rfl) ?_
    obtain ⟨v2, h_v2, e_v2, hm⟩ := n_ldi hm
    refine n_zald X hH (n := 200) (m_lay_at hT hk_a (by decide) (i := 25) rfl) h_v2 e_v2 dX12_comesTo_10 ?_
    refine lv_if_eq (tgt := 15) hx hb dX12_comesTo_11 (by decide) (fun c3 => ?_) (fun c3 => ?_)
    · have hm := m_ite_t hm c3
      refine lv_aload_n hx hb dX12_comesTo_15 rfl (lv_at hl 0 rfl) ?_
      refine r_getp X hH (k := 12) (a := a) (j := 39) (b := (a + 25)) (A := 25) (B := 0) hk_a (by decide) rfl m_wi12 (by decide) in_7_54 rfl rfl rfl dX12_comesTo_16 ?_
      refine lv_iload_n hx hb dX12_comesTo_19 rfl (lv_at hl 2 rfl) ?_
      refine lv_iconst (v := (1 : Int32)) hx hb dX12_comesTo_20 (by decide) ?_
      obtain ⟨S4, h_S4, e_S4, hm⟩ := n_sti hm
      refine n_zast X hH hS (n := 200) (m_lay_at hT hk_a (by decide) (i := 25) rfl) h_S4 e_S4 dX12_comesTo_21 (fun H locs hH hS => ?_)
      refine lv_aload_n hx hb dX12_comesTo_22 rfl (lv_at hl 0 rfl) ?_
      refine r_getp X hH (k := 12) (a := a) (j := 40) (b := (a + 26)) (A := 26) (B := 0) hk_a (by decide) rfl m_wi12 (by decide) in_7_55 rfl rfl rfl dX12_comesTo_23 ?_
      refine lv_aload_n hx hb dX12_comesTo_26 rfl (lv_at hl 0 rfl) ?_
      refine r_geti X hH (k := 12) (a := a) (j := 41) hk_a (by decide) rfl m_wi12 (by decide) in_7_56 rfl rfl dX12_comesTo_27 ?_
      refine lv_iload_n hx hb dX12_comesTo_30 rfl (lv_at hl 2 rfl) ?_
      obtain ⟨S5, h_S5, e_S5, hm⟩ := n_sti hm
      refine n_iast X hH hS (n := 200) (m_lay_at hT hk_a (by decide) (i := 26) rfl) h_S5 e_S5 dX12_comesTo_31 (fun H locs hH hS => ?_)
      refine lv_aload_n hx hb dX12_comesTo_32 rfl (lv_at hl 0 rfl) ?_
      refine lv_dup hx hb dX12_comesTo_33 rfl ?_
      refine r_geti X hH (k := 12) (a := a) (j := 41) hk_a (by decide) rfl m_wi12 (by decide) in_7_56 rfl rfl dX12_comesTo_34 ?_
      refine lv_iconst (v := (1 : Int32)) hx hb dX12_comesTo_37 (by decide) ?_
      refine lv_iadd hx hb dX12_comesTo_38 ?_
      obtain ⟨S6, e_S6, hm⟩ := m_let_of hm
      refine n_puti X hH hS tyX12 (k := 12) (a := a) (j := 41) hk_a (by decide) rfl m_wi12 tyX12_ok nmX12 (by decide) in_7_56 rfl rfl rfl ⟨rfl, rfl⟩ e_S6 dX12_comesTo_39 (fun H locs hH hS => ?_)
      exact r_vret X hr hH hS hm dX12_comesTo_42
    · have hm := m_ite_f hm c3
      exact k_X12_comesTo_14 (a := a) X hr hT hk_a   S _ _ _ hH hS (lv_sub hl [] rfl) hm
def rm_X12_markReached : Room := { frames := 1, cells := 0, slots := 0, locals := 22 }
def b_X12_markReached_43 (a : Nat) (K_29 : m_M → Int32 → Option (Int32 × m_M)) : Nat → m_M → Int32 → Int32 → Option (Int32 × m_M)
  | 0, _, _, _ => none
  | n + 1, S, l1, l2 =>
    m_call (f_X12_funOf a S l1) fun v2 S1 =>
    m_call (f_X12_varsOf a (a + 2) 2647 S1 v2) fun v4 S3 =>
    if v4 ≤ l2 then (
    m_let (l1 + (1 : Int32)) fun v6 =>
    K_29 S3 v6) else (
    m_call (f_X12_slot a S3 l1 l2) fun v8 S7 =>
    (m_ldi S7 (a + 2) 2647 ((245 : Int32) + v8)).bind fun v9 =>
    m_call (f_X12_slot a S7 l1 l2) fun v11 S10 =>
    (m_ldi S10 (a + 2) 2647 ((569 : Int32) + v11)).bind fun v12 =>
    m_cal0 (f_X12_comesTo a S10 v9 v12) fun S13 =>
    m_let (l2 + (1 : Int32)) fun v14 =>
    b_X12_markReached_43 a K_29 n S13 l1 v14)
set_option maxHeartbeats 4000000 in
set_option maxRecDepth 100000 in
theorem k_X12_markReached_43 {p : Program} {l : Launch} {e : Env} {s : State} {m : MethodId} {args : Array Value} {below : List Frame} {meth : Method} {c : Code} {G : m_G} {nx : Nat} {κ : Nat → Nat} {res : (Int32 × m_M)} {a : Nat} (X : m_Cx p s m args meth c cX12_markReached 3 RX12 G) (hr : meth.sig.returnType = (some .int)) (hT : m_Str κ) (hk_a : κ a = 13) (K_29 : m_M → Int32 → Option (Int32 × m_M)) (hK_29 : ∀ (S : m_M) (l1 : Int32) (H : Heap) (locs : List Loc) (ls : Array Slot), m_H G nx κ S H → m_S G s H locs → lv_has ls 3 [(0, .ref a), (1, .int l1)] → K_29 S l1 = some res → W p l e rm_X12_markReached s m args below meth c H locs 0 0 (m_Qi below args s G nx κ res) (F0 m 29 ls [])) (n : Nat) : ∀ (S : m_M) (l1 : Int32) (l2 : Int32) (H : Heap) (locs : List Loc) (ls : Array Slot), m_H G nx κ S H → m_S G s H locs → lv_has ls 3 [(0, .ref a), (1, .int l1), (2, .int l2)] → b_X12_markReached_43 a K_29 n S l1 l2 = some res → W p l e rm_X12_markReached s m args below meth c H locs 0 0 (m_Qi below args s G nx κ res) (F0 m 43 ls []) := by
  have hx := X.1.1
  have hb := X.1.2.1
  induction n with
  | zero => intro S l1 l2 H locs ls hH hS hl hm; have hm : (none : Option (Int32 × m_M)) = some res := hm; cases hm
  | succ n ih =>
    intro S l1 l2 H locs ls hH hS hl hm
    rw [b_X12_markReached_43] at hm
    refine lv_iload_n hx hb dX12_markReached_43 rfl (lv_at hl 2 rfl) ?_
    refine lv_aload_n hx hb dX12_markReached_44 rfl (lv_at hl 0 rfl) ?_
    refine lv_aload_n hx hb dX12_markReached_45 rfl (lv_at hl 0 rfl) ?_
    refine r_getp X hH (k := 12) (a := a) (j := 14) (b := (a + 2)) (A := 2) (B := 0) hk_a (by decide) rfl m_wi12 (by decide) in_7_29 rfl rfl rfl dX12_markReached_46 ?_
    refine lv_aload_n hx hb dX12_markReached_49 rfl (lv_at hl 0 rfl) ?_
    refine lv_iload_n hx hb dX12_markReached_50 rfl (lv_at hl 1 rfl) ?_
    obtain ⟨v2, S1, e_S1, hm⟩ := m_call_of hm
    refine n_cVi X hH hS (k := 12) (c_X12_funOf (a := a) hT hk_a e_S1) mw_X12_funOf in_8_152 hk_a (by decide) rfl rfl rfl ⟨rfl, rfl⟩ ⟨Nat.le_of_ble_eq_true rfl, Nat.le_of_ble_eq_true rfl⟩ ⟨Nat.zero_le _, Nat.zero_le _⟩ hl.1 (Nat.le_of_ble_eq_true rfl) dX12_markReached_51 (fun H locs hH hS => ?_)
    obtain ⟨v4, S3, e_S3, hm⟩ := m_call_of hm
    refine n_cVi X hH hS (k := 12) (c_X12_varsOf (a := a) (o1 := (a + 2)) (n1 := 2647) hT hk_a (m_lay_at hT hk_a (by decide) (i := 2) rfl) e_S3) mw_X12_varsOf in_6_224 hk_a (by decide) rfl rfl rfl ⟨rfl, rfl⟩ ⟨Nat.le_of_ble_eq_true rfl, Nat.le_of_ble_eq_true rfl⟩ ⟨Nat.zero_le _, Nat.zero_le _⟩ hl.1 (Nat.le_of_ble_eq_true rfl) dX12_markReached_54 (fun H locs hH hS => ?_)
    refine lv_icmp_ge (tgt := 100) hx hb dX12_markReached_57 (by decide) (fun c5 => ?_) (fun c5 => ?_)
    · have hm := m_ite_t hm c5
      obtain ⟨v6, e_v6, hm⟩ := m_let_of hm
      refine lv_iinc (v := v6) (lv' := [(1, .int v6), (0, .ref a), (2, .int l2)]) hx hb dX12_markReached_100 hl (k := 1) rfl (by rw [← e_v6]; rfl) (by decide) rfl (fun ls hl => ?_)
      refine lv_goto (tgt := 29) hx hb dX12_markReached_103 (by decide) ?_
      exact hK_29 S3 v6 _ _ _ hH hS (lv_sub hl [1, 0] rfl) hm
    · have hm := m_ite_f hm c5
      refine lv_aload_n hx hb dX12_markReached_60 rfl (lv_at hl 0 rfl) ?_
      refine lv_aload_n hx hb dX12_markReached_61 rfl (lv_at hl 0 rfl) ?_
      refine r_getp X hH (k := 12) (a := a) (j := 14) (b := (a + 2)) (A := 2) (B := 0) hk_a (by decide) rfl m_wi12 (by decide) in_7_29 rfl rfl rfl dX12_markReached_62 ?_
      refine lv_sipush (v := (245 : Int32)) hx hb dX12_markReached_65 (by decide) ?_
      refine lv_aload_n hx hb dX12_markReached_68 rfl (lv_at hl 0 rfl) ?_
      refine lv_iload_n hx hb dX12_markReached_69 rfl (lv_at hl 1 rfl) ?_
      refine lv_iload_n hx hb dX12_markReached_70 rfl (lv_at hl 2 rfl) ?_
      obtain ⟨v8, S7, e_S7, hm⟩ := m_call_of hm
      refine n_cVi X hH hS (k := 12) (c_X12_slot (a := a) hT hk_a e_S7) mw_X12_slot in_8_140 hk_a (by decide) rfl rfl rfl ⟨rfl, rfl⟩ ⟨Nat.le_of_ble_eq_true rfl, Nat.le_of_ble_eq_true rfl⟩ ⟨Nat.zero_le _, Nat.zero_le _⟩ hl.1 (Nat.le_of_ble_eq_true rfl) dX12_markReached_71 (fun H locs hH hS => ?_)
      refine lv_iadd hx hb dX12_markReached_74 ?_
      obtain ⟨v9, h_v9, e_v9, hm⟩ := n_ldi hm
      refine n_iald X hH (n := 2647) (m_lay_at hT hk_a (by decide) (i := 2) rfl) h_v9 e_v9 dX12_markReached_75 ?_
      refine lv_aload_n hx hb dX12_markReached_76 rfl (lv_at hl 0 rfl) ?_
      refine r_getp X hH (k := 12) (a := a) (j := 14) (b := (a + 2)) (A := 2) (B := 0) hk_a (by decide) rfl m_wi12 (by decide) in_7_29 rfl rfl rfl dX12_markReached_77 ?_
      refine lv_sipush (v := (569 : Int32)) hx hb dX12_markReached_80 (by decide) ?_
      refine lv_aload_n hx hb dX12_markReached_83 rfl (lv_at hl 0 rfl) ?_
      refine lv_iload_n hx hb dX12_markReached_84 rfl (lv_at hl 1 rfl) ?_
      refine lv_iload_n hx hb dX12_markReached_85 rfl (lv_at hl 2 rfl) ?_
      obtain ⟨v11, S10, e_S10, hm⟩ := m_call_of hm
      refine n_cVi X hH hS (k := 12) (c_X12_slot (a := a) hT hk_a e_S10) mw_X12_slot in_8_140 hk_a (by decide) rfl rfl rfl ⟨rfl, rfl⟩ ⟨Nat.le_of_ble_eq_true rfl, Nat.le_of_ble_eq_true rfl⟩ ⟨Nat.zero_le _, Nat.zero_le _⟩ hl.1 (Nat.le_of_ble_eq_true rfl) dX12_markReached_86 (fun H locs hH hS => ?_)
      refine lv_iadd hx hb dX12_markReached_89 ?_
      obtain ⟨v12, h_v12, e_v12, hm⟩ := n_ldi hm
      refine n_iald X hH (n := 2647) (m_lay_at hT hk_a (by decide) (i := 2) rfl) h_v12 e_v12 dX12_markReached_90 ?_
      obtain ⟨S13, e_S13, hm⟩ := m_cal0_of hm
      refine r_cVv X hH hS (k := 12) (c_X12_comesTo (a := a) hT hk_a e_S13) mw_X12_comesTo in_9_24 hk_a (by decide) rfl rfl rfl ⟨rfl, rfl⟩ ⟨Nat.le_of_ble_eq_true rfl, Nat.le_of_ble_eq_true rfl⟩ ⟨Nat.zero_le _, Nat.zero_le _⟩ hl.1 (Nat.le_of_ble_eq_true rfl) dX12_markReached_91 (fun H locs hH hS => ?_)
      obtain ⟨v14, e_v14, hm⟩ := m_let_of hm
      refine lv_iinc (v := v14) (lv' := [(2, .int v14), (0, .ref a), (1, .int l1)]) hx hb dX12_markReached_94 hl (k := 2) rfl (by rw [← e_v14]; rfl) (by decide) rfl (fun ls hl => ?_)
      refine lv_goto (tgt := 43) hx hb dX12_markReached_97 (by decide) ?_
      exact ih S13 l1 v14 _ _ _ hH hS (lv_sub hl [1, 2, 0] rfl) hm
def b_X12_markReached_150 (a : Nat) (K_140 : m_M → Int32 → Option (Int32 × m_M)) : Nat → m_M → Int32 → Int32 → Option (Int32 × m_M)
  | 0, _, _, _ => none
  | n + 1, S, l1, l2 =>
    if (2 : Int32) ≤ l2 then (
    m_let (l1 + (1 : Int32)) fun v2 =>
    K_140 S v2) else (
    (m_ldi S (a + 26) 200 l1).bind fun v3 =>
    (m_ldi S (a + 2) 2647 (((1293 : Int32) + ((2 : Int32) * v3)) + l2)).bind fun v4 =>
    (m_ldi S (a + 26) 200 l1).bind fun v5 =>
    (m_ldi S (a + 2) 2647 (((1693 : Int32) + ((2 : Int32) * v5)) + l2)).bind fun v6 =>
    m_cal0 (f_X12_comesTo a S v4 v6) fun S7 =>
    m_let (l2 + (1 : Int32)) fun v8 =>
    b_X12_markReached_150 a K_140 n S7 l1 v8)
set_option maxHeartbeats 4000000 in
set_option maxRecDepth 100000 in
theorem k_X12_markReached_150 {p : Program} {l : Launch} {e : Env} {s : State} {m : MethodId} {args : Array Value} {below : List Frame} {meth : Method} {c : Code} {G : m_G} {nx : Nat} {κ : Nat → Nat} {res : (Int32 × m_M)} {a : Nat} (X : m_Cx p s m args meth c cX12_markReached 3 RX12 G) (hr : meth.sig.returnType = (some .int)) (hT : m_Str κ) (hk_a : κ a = 13) (K_140 : m_M → Int32 → Option (Int32 × m_M)) (hK_140 : ∀ (S : m_M) (l1 : Int32) (H : Heap) (locs : List Loc) (ls : Array Slot), m_H G nx κ S H → m_S G s H locs → lv_has ls 3 [(0, .ref a), (1, .int l1)] → K_140 S l1 = some res → W p l e rm_X12_markReached s m args below meth c H locs 0 0 (m_Qi below args s G nx κ res) (F0 m 140 ls [])) (n : Nat) : ∀ (S : m_M) (l1 : Int32) (l2 : Int32) (H : Heap) (locs : List Loc) (ls : Array Slot), m_H G nx κ S H → m_S G s H locs → lv_has ls 3 [(0, .ref a), (1, .int l1), (2, .int l2)] → b_X12_markReached_150 a K_140 n S l1 l2 = some res → W p l e rm_X12_markReached s m args below meth c H locs 0 0 (m_Qi below args s G nx κ res) (F0 m 150 ls []) := by
  have hx := X.1.1
  have hb := X.1.2.1
  induction n with
  | zero => intro S l1 l2 H locs ls hH hS hl hm; have hm : (none : Option (Int32 × m_M)) = some res := hm; cases hm
  | succ n ih =>
    intro S l1 l2 H locs ls hH hS hl hm
    rw [b_X12_markReached_150] at hm
    refine lv_iload_n hx hb dX12_markReached_150 rfl (lv_at hl 2 rfl) ?_
    refine lv_iconst (v := (2 : Int32)) hx hb dX12_markReached_151 (by decide) ?_
    refine lv_icmp_ge (tgt := 203) hx hb dX12_markReached_152 (by decide) (fun c1 => ?_) (fun c1 => ?_)
    · have hm := m_ite_t hm c1
      obtain ⟨v2, e_v2, hm⟩ := m_let_of hm
      refine lv_iinc (v := v2) (lv' := [(1, .int v2), (0, .ref a), (2, .int l2)]) hx hb dX12_markReached_203 hl (k := 1) rfl (by rw [← e_v2]; rfl) (by decide) rfl (fun ls hl => ?_)
      refine lv_goto (tgt := 140) hx hb dX12_markReached_206 (by decide) ?_
      exact hK_140 S v2 _ _ _ hH hS (lv_sub hl [1, 0] rfl) hm
    · have hm := m_ite_f hm c1
      refine lv_aload_n hx hb dX12_markReached_155 rfl (lv_at hl 0 rfl) ?_
      refine lv_aload_n hx hb dX12_markReached_156 rfl (lv_at hl 0 rfl) ?_
      refine r_getp X hH (k := 12) (a := a) (j := 14) (b := (a + 2)) (A := 2) (B := 0) hk_a (by decide) rfl m_wi12 (by decide) in_7_29 rfl rfl rfl dX12_markReached_157 ?_
      refine lv_sipush (v := (1293 : Int32)) hx hb dX12_markReached_160 (by decide) ?_
      refine lv_iconst (v := (2 : Int32)) hx hb dX12_markReached_163 (by decide) ?_
      refine lv_aload_n hx hb dX12_markReached_164 rfl (lv_at hl 0 rfl) ?_
      refine r_getp X hH (k := 12) (a := a) (j := 40) (b := (a + 26)) (A := 26) (B := 0) hk_a (by decide) rfl m_wi12 (by decide) in_7_55 rfl rfl rfl dX12_markReached_165 ?_
      refine lv_iload_n hx hb dX12_markReached_168 rfl (lv_at hl 1 rfl) ?_
      obtain ⟨v3, h_v3, e_v3, hm⟩ := n_ldi hm
      refine n_iald X hH (n := 200) (m_lay_at hT hk_a (by decide) (i := 26) rfl) h_v3 e_v3 dX12_markReached_169 ?_
      refine lv_imul hx hb dX12_markReached_170 ?_
      refine lv_iadd hx hb dX12_markReached_171 ?_
      refine lv_iload_n hx hb dX12_markReached_172 rfl (lv_at hl 2 rfl) ?_
      refine lv_iadd hx hb dX12_markReached_173 ?_
      obtain ⟨v4, h_v4, e_v4, hm⟩ := n_ldi hm
      refine n_iald X hH (n := 2647) (m_lay_at hT hk_a (by decide) (i := 2) rfl) h_v4 e_v4 dX12_markReached_174 ?_
      refine lv_aload_n hx hb dX12_markReached_175 rfl (lv_at hl 0 rfl) ?_
      refine r_getp X hH (k := 12) (a := a) (j := 14) (b := (a + 2)) (A := 2) (B := 0) hk_a (by decide) rfl m_wi12 (by decide) in_7_29 rfl rfl rfl dX12_markReached_176 ?_
      refine lv_sipush (v := (1693 : Int32)) hx hb dX12_markReached_179 (by decide) ?_
      refine lv_iconst (v := (2 : Int32)) hx hb dX12_markReached_182 (by decide) ?_
      refine lv_aload_n hx hb dX12_markReached_183 rfl (lv_at hl 0 rfl) ?_
      refine r_getp X hH (k := 12) (a := a) (j := 40) (b := (a + 26)) (A := 26) (B := 0) hk_a (by decide) rfl m_wi12 (by decide) in_7_55 rfl rfl rfl dX12_markReached_184 ?_
      refine lv_iload_n hx hb dX12_markReached_187 rfl (lv_at hl 1 rfl) ?_
      obtain ⟨v5, h_v5, e_v5, hm⟩ := n_ldi hm
      refine n_iald X hH (n := 200) (m_lay_at hT hk_a (by decide) (i := 26) rfl) h_v5 e_v5 dX12_markReached_188 ?_
      refine lv_imul hx hb dX12_markReached_189 ?_
      refine lv_iadd hx hb dX12_markReached_190 ?_
      refine lv_iload_n hx hb dX12_markReached_191 rfl (lv_at hl 2 rfl) ?_
      refine lv_iadd hx hb dX12_markReached_192 ?_
      obtain ⟨v6, h_v6, e_v6, hm⟩ := n_ldi hm
      refine n_iald X hH (n := 2647) (m_lay_at hT hk_a (by decide) (i := 2) rfl) h_v6 e_v6 dX12_markReached_193 ?_
      obtain ⟨S7, e_S7, hm⟩ := m_cal0_of hm
      refine r_cVv X hH hS (k := 12) (c_X12_comesTo (a := a) hT hk_a e_S7) mw_X12_comesTo in_9_24 hk_a (by decide) rfl rfl rfl ⟨rfl, rfl⟩ ⟨Nat.le_of_ble_eq_true rfl, Nat.le_of_ble_eq_true rfl⟩ ⟨Nat.zero_le _, Nat.zero_le _⟩ hl.1 (Nat.le_of_ble_eq_true rfl) dX12_markReached_194 (fun H locs hH hS => ?_)
      obtain ⟨v8, e_v8, hm⟩ := m_let_of hm
      refine lv_iinc (v := v8) (lv' := [(2, .int v8), (0, .ref a), (1, .int l1)]) hx hb dX12_markReached_197 hl (k := 2) rfl (by rw [← e_v8]; rfl) (by decide) rfl (fun ls hl => ?_)
      refine lv_goto (tgt := 150) hx hb dX12_markReached_200 (by decide) ?_
      exact ih S7 l1 v8 _ _ _ hH hS (lv_sub hl [1, 2, 0] rfl) hm
def b_X12_markReached_140 (a : Nat)  : Nat → m_M → Int32 → Option (Int32 × m_M)
  | 0, _, _ => none
  | n + 1, S, l1 =>
    if (m_ri S a 41) ≤ l1 then (
    some ((m_ri S a 41), S)) else (
    b_X12_markReached_150 a (b_X12_markReached_140 a n) m_fu S l1 (0 : Int32))
set_option maxHeartbeats 4000000 in
set_option maxRecDepth 100000 in
theorem k_X12_markReached_140 {p : Program} {l : Launch} {e : Env} {s : State} {m : MethodId} {args : Array Value} {below : List Frame} {meth : Method} {c : Code} {G : m_G} {nx : Nat} {κ : Nat → Nat} {res : (Int32 × m_M)} {a : Nat} (X : m_Cx p s m args meth c cX12_markReached 3 RX12 G) (hr : meth.sig.returnType = (some .int)) (hT : m_Str κ) (hk_a : κ a = 13)  (n : Nat) : ∀ (S : m_M) (l1 : Int32) (H : Heap) (locs : List Loc) (ls : Array Slot), m_H G nx κ S H → m_S G s H locs → lv_has ls 3 [(0, .ref a), (1, .int l1)] → b_X12_markReached_140 a n S l1 = some res → W p l e rm_X12_markReached s m args below meth c H locs 0 0 (m_Qi below args s G nx κ res) (F0 m 140 ls []) := by
  have hx := X.1.1
  have hb := X.1.2.1
  induction n with
  | zero => intro S l1 H locs ls hH hS hl hm; have hm : (none : Option (Int32 × m_M)) = some res := hm; cases hm
  | succ n ih =>
    intro S l1 H locs ls hH hS hl hm
    rw [b_X12_markReached_140] at hm
    refine lv_iload_n hx hb dX12_markReached_140 rfl (lv_at hl 1 rfl) ?_
    refine lv_aload_n hx hb dX12_markReached_141 rfl (lv_at hl 0 rfl) ?_
    refine r_geti X hH (k := 12) (a := a) (j := 41) hk_a (by decide) rfl m_wi12 (by decide) in_7_56 rfl rfl dX12_markReached_142 ?_
    refine lv_icmp_ge (tgt := 209) hx hb dX12_markReached_145 (by decide) (fun c1 => ?_) (fun c1 => ?_)
    · have hm := m_ite_t hm c1
      refine lv_aload_n hx hb dX12_markReached_209 rfl (lv_at hl 0 rfl) ?_
      refine r_geti X hH (k := 12) (a := a) (j := 41) hk_a (by decide) rfl m_wi12 (by decide) in_7_56 rfl rfl dX12_markReached_210 ?_
      exact r_iret X hr hH hS hm dX12_markReached_213
    · have hm := m_ite_f hm c1
      refine lv_iconst (v := (0 : Int32)) hx hb dX12_markReached_148 (by decide) ?_
      refine lv_istore_n (lv' := [(2, .int (0 : Int32)), (0, .ref a), (1, .int l1)]) hx hb dX12_markReached_149 rfl hl (by decide) rfl (fun ls hl => ?_)
      exact k_X12_markReached_150 (a := a) X hr hT hk_a (b_X12_markReached_140 a n) ih m_fu S l1 (0 : Int32) _ _ _ hH hS (lv_sub hl [1, 2, 0] rfl) hm
def b_X12_markReached_138 (a : Nat)  (S : m_M)  : Option (Int32 × m_M) :=
    b_X12_markReached_140 a m_fu S (0 : Int32)
set_option maxHeartbeats 4000000 in
set_option maxRecDepth 100000 in
theorem k_X12_markReached_138 {p : Program} {l : Launch} {e : Env} {s : State} {m : MethodId} {args : Array Value} {below : List Frame} {meth : Method} {c : Code} {G : m_G} {nx : Nat} {κ : Nat → Nat} {res : (Int32 × m_M)} {a : Nat} (X : m_Cx p s m args meth c cX12_markReached 3 RX12 G) (hr : meth.sig.returnType = (some .int)) (hT : m_Str κ) (hk_a : κ a = 13)  : ∀ (S : m_M)  (H : Heap) (locs : List Loc) (ls : Array Slot), m_H G nx κ S H → m_S G s H locs → lv_has ls 3 [(0, .ref a)] → b_X12_markReached_138 a S  = some res → W p l e rm_X12_markReached s m args below meth c H locs 0 0 (m_Qi below args s G nx κ res) (F0 m 138 ls []) := by
  have hx := X.1.1
  have hb := X.1.2.1
  intro S H locs ls hH hS hl hm
  rw [b_X12_markReached_138] at hm
  refine lv_iconst (v := (0 : Int32)) hx hb dX12_markReached_138 (by decide) ?_
  refine lv_istore_n (lv' := [(1, .int (0 : Int32)), (0, .ref a)]) hx hb dX12_markReached_139 rfl hl (by decide) rfl (fun ls hl => ?_)
  exact k_X12_markReached_140 (a := a) X hr hT hk_a  m_fu S (0 : Int32) _ _ _ hH hS (lv_sub hl [1, 0] rfl) hm
def b_X12_markReached_29 (a : Nat)  : Nat → m_M → Int32 → Option (Int32 × m_M)
  | 0, _, _ => none
  | n + 1, S, l1 =>
    (m_ldi S (a + 2) 2647 (212 : Int32)).bind fun v1 =>
    if v1 ≤ l1 then (
    (m_ldi S (a + 2) 2647 (210 : Int32)).bind fun v3 =>
    if v3 = (2 : Int32) then (
    (m_ldi S (a + 2) 2647 (219 : Int32)).bind fun v5 =>
    (m_ldi S (a + 2) 2647 (220 : Int32)).bind fun v6 =>
    m_cal0 (f_X12_comesTo a S v5 v6) fun S7 =>
    b_X12_markReached_138 a S7) else (
    b_X12_markReached_138 a S)) else (
    b_X12_markReached_43 a (b_X12_markReached_29 a n) m_fu S l1 (0 : Int32))
set_option maxHeartbeats 4000000 in
set_option maxRecDepth 100000 in
theorem k_X12_markReached_29 {p : Program} {l : Launch} {e : Env} {s : State} {m : MethodId} {args : Array Value} {below : List Frame} {meth : Method} {c : Code} {G : m_G} {nx : Nat} {κ : Nat → Nat} {res : (Int32 × m_M)} {a : Nat} (X : m_Cx p s m args meth c cX12_markReached 3 RX12 G) (hr : meth.sig.returnType = (some .int)) (hT : m_Str κ) (hk_a : κ a = 13)  (n : Nat) : ∀ (S : m_M) (l1 : Int32) (H : Heap) (locs : List Loc) (ls : Array Slot), m_H G nx κ S H → m_S G s H locs → lv_has ls 3 [(0, .ref a), (1, .int l1)] → b_X12_markReached_29 a n S l1 = some res → W p l e rm_X12_markReached s m args below meth c H locs 0 0 (m_Qi below args s G nx κ res) (F0 m 29 ls []) := by
  have hx := X.1.1
  have hb := X.1.2.1
  induction n with
  | zero => intro S l1 H locs ls hH hS hl hm; have hm : (none : Option (Int32 × m_M)) = some res := hm; cases hm
  | succ n ih =>
    intro S l1 H locs ls hH hS hl hm
    rw [b_X12_markReached_29] at hm
    refine lv_iload_n hx hb dX12_markReached_29 rfl (lv_at hl 1 rfl) ?_
    refine lv_aload_n hx hb dX12_markReached_30 rfl (lv_at hl 0 rfl) ?_
    refine r_getp X hH (k := 12) (a := a) (j := 14) (b := (a + 2)) (A := 2) (B := 0) hk_a (by decide) rfl m_wi12 (by decide) in_7_29 rfl rfl rfl dX12_markReached_31 ?_
    refine lv_sipush (v := (212 : Int32)) hx hb dX12_markReached_34 (by decide) ?_
    obtain ⟨v1, h_v1, e_v1, hm⟩ := n_ldi hm
    refine n_iald X hH (n := 2647) (m_lay_at hT hk_a (by decide) (i := 2) rfl) h_v1 e_v1 dX12_markReached_37 ?_
    refine lv_icmp_ge (tgt := 106) hx hb dX12_markReached_38 (by decide) (fun c2 => ?_) (fun c2 => ?_)
    · have hm := m_ite_t hm c2
      refine lv_aload_n hx hb dX12_markReached_106 rfl (lv_at hl 0 rfl) ?_
      refine r_getp X hH (k := 12) (a := a) (j := 14) (b := (a + 2)) (A := 2) (B := 0) hk_a (by decide) rfl m_wi12 (by decide) in_7_29 rfl rfl rfl dX12_markReached_107 ?_
      refine lv_sipush (v := (210 : Int32)) hx hb dX12_markReached_110 (by decide) ?_
      obtain ⟨v3, h_v3, e_v3, hm⟩ := n_ldi hm
      refine n_iald X hH (n := 2647) (m_lay_at hT hk_a (by decide) (i := 2) rfl) h_v3 e_v3 dX12_markReached_113 ?_
      refine lv_iconst (v := (2 : Int32)) hx hb dX12_markReached_114 (by decide) ?_
      refine lv_icmp_ne (tgt := 138) hx hb dX12_markReached_115 (by decide) (fun c4 => ?_) (fun c4 => ?_)
      · have hm := m_ite_f hm c4
        exact k_X12_markReached_138 (a := a) X hr hT hk_a   S _ _ _ hH hS (lv_sub hl [0] rfl) hm
      · have hm := m_ite_t hm c4
        refine lv_aload_n hx hb dX12_markReached_118 rfl (lv_at hl 0 rfl) ?_
        refine lv_aload_n hx hb dX12_markReached_119 rfl (lv_at hl 0 rfl) ?_
        refine r_getp X hH (k := 12) (a := a) (j := 14) (b := (a + 2)) (A := 2) (B := 0) hk_a (by decide) rfl m_wi12 (by decide) in_7_29 rfl rfl rfl dX12_markReached_120 ?_
        refine lv_sipush (v := (219 : Int32)) hx hb dX12_markReached_123 (by decide) ?_
        obtain ⟨v5, h_v5, e_v5, hm⟩ := n_ldi hm
        refine n_iald X hH (n := 2647) (m_lay_at hT hk_a (by decide) (i := 2) rfl) h_v5 e_v5 dX12_markReached_126 ?_
        refine lv_aload_n hx hb dX12_markReached_127 rfl (lv_at hl 0 rfl) ?_
        refine r_getp X hH (k := 12) (a := a) (j := 14) (b := (a + 2)) (A := 2) (B := 0) hk_a (by decide) rfl m_wi12 (by decide) in_7_29 rfl rfl rfl dX12_markReached_128 ?_
        refine lv_sipush (v := (220 : Int32)) hx hb dX12_markReached_131 (by decide) ?_
        obtain ⟨v6, h_v6, e_v6, hm⟩ := n_ldi hm
        refine n_iald X hH (n := 2647) (m_lay_at hT hk_a (by decide) (i := 2) rfl) h_v6 e_v6 dX12_markReached_134 ?_
        obtain ⟨S7, e_S7, hm⟩ := m_cal0_of hm
        refine r_cVv X hH hS (k := 12) (c_X12_comesTo (a := a) hT hk_a e_S7) mw_X12_comesTo in_9_24 hk_a (by decide) rfl rfl rfl ⟨rfl, rfl⟩ ⟨Nat.le_of_ble_eq_true rfl, Nat.le_of_ble_eq_true rfl⟩ ⟨Nat.zero_le _, Nat.zero_le _⟩ hl.1 (Nat.le_of_ble_eq_true rfl) dX12_markReached_135 (fun H locs hH hS => ?_)
        exact k_X12_markReached_138 (a := a) X hr hT hk_a   S7 _ _ _ hH hS (lv_sub hl [0] rfl) hm
    · have hm := m_ite_f hm c2
      refine lv_iconst (v := (0 : Int32)) hx hb dX12_markReached_41 (by decide) ?_
      refine lv_istore_n (lv' := [(2, .int (0 : Int32)), (0, .ref a), (1, .int l1)]) hx hb dX12_markReached_42 rfl hl (by decide) rfl (fun ls hl => ?_)
      exact k_X12_markReached_43 (a := a) X hr hT hk_a (b_X12_markReached_29 a n) ih m_fu S l1 (0 : Int32) _ _ _ hH hS (lv_sub hl [1, 2, 0] rfl) hm
def b_X12_markReached_2 (a : Nat)  : Nat → m_M → Int32 → Option (Int32 × m_M)
  | 0, _, _ => none
  | n + 1, S, l1 =>
    if (200 : Int32) ≤ l1 then (
    m_let (m_si S a 41 (0 : Int32)) fun S2 =>
    b_X12_markReached_29 a m_fu S2 (0 : Int32)) else (
    (m_sti S (a + 25) 200 l1 (vp_nar .boolean (0 : Int32))).bind fun S3 =>
    m_let (l1 + (1 : Int32)) fun v4 =>
    b_X12_markReached_2 a n S3 v4)
set_option maxHeartbeats 4000000 in
set_option maxRecDepth 100000 in
theorem k_X12_markReached_2 {p : Program} {l : Launch} {e : Env} {s : State} {m : MethodId} {args : Array Value} {below : List Frame} {meth : Method} {c : Code} {G : m_G} {nx : Nat} {κ : Nat → Nat} {res : (Int32 × m_M)} {a : Nat} (X : m_Cx p s m args meth c cX12_markReached 3 RX12 G) (hr : meth.sig.returnType = (some .int)) (hT : m_Str κ) (hk_a : κ a = 13)  (n : Nat) : ∀ (S : m_M) (l1 : Int32) (H : Heap) (locs : List Loc) (ls : Array Slot), m_H G nx κ S H → m_S G s H locs → lv_has ls 3 [(0, .ref a), (1, .int l1)] → b_X12_markReached_2 a n S l1 = some res → W p l e rm_X12_markReached s m args below meth c H locs 0 0 (m_Qi below args s G nx κ res) (F0 m 2 ls []) := by
  have hx := X.1.1
  have hb := X.1.2.1
  induction n with
  | zero => intro S l1 H locs ls hH hS hl hm; have hm : (none : Option (Int32 × m_M)) = some res := hm; cases hm
  | succ n ih =>
    intro S l1 H locs ls hH hS hl hm
    rw [b_X12_markReached_2] at hm
    refine lv_iload_n hx hb dX12_markReached_2 rfl (lv_at hl 1 rfl) ?_
    refine lv_sipush (v := (200 : Int32)) hx hb dX12_markReached_3 (by decide) ?_
    refine lv_icmp_ge (tgt := 22) hx hb dX12_markReached_6 (by decide) (fun c1 => ?_) (fun c1 => ?_)
    · have hm := m_ite_t hm c1
      refine lv_aload_n hx hb dX12_markReached_22 rfl (lv_at hl 0 rfl) ?_
      refine lv_iconst (v := (0 : Int32)) hx hb dX12_markReached_23 (by decide) ?_
      obtain ⟨S2, e_S2, hm⟩ := m_let_of hm
      refine n_puti X hH hS tyX12 (k := 12) (a := a) (j := 41) hk_a (by decide) rfl m_wi12 tyX12_ok nmX12 (by decide) in_7_56 rfl rfl rfl ⟨rfl, rfl⟩ e_S2 dX12_markReached_24 (fun H locs hH hS => ?_)
      refine lv_iconst (v := (0 : Int32)) hx hb dX12_markReached_27 (by decide) ?_
      refine lv_istore_n (lv' := [(1, .int (0 : Int32)), (0, .ref a)]) hx hb dX12_markReached_28 rfl hl (by decide) rfl (fun ls hl => ?_)
      exact k_X12_markReached_29 (a := a) X hr hT hk_a  m_fu S2 (0 : Int32) _ _ _ hH hS (lv_sub hl [1, 0] rfl) hm
    · have hm := m_ite_f hm c1
      refine lv_aload_n hx hb dX12_markReached_9 rfl (lv_at hl 0 rfl) ?_
      refine r_getp X hH (k := 12) (a := a) (j := 39) (b := (a + 25)) (A := 25) (B := 0) hk_a (by decide) rfl m_wi12 (by decide) in_7_54 rfl rfl rfl dX12_markReached_10 ?_
      refine lv_iload_n hx hb dX12_markReached_13 rfl (lv_at hl 1 rfl) ?_
      refine lv_iconst (v := (0 : Int32)) hx hb dX12_markReached_14 (by decide) ?_
      obtain ⟨S3, h_S3, e_S3, hm⟩ := n_sti hm
      refine n_zast X hH hS (n := 200) (m_lay_at hT hk_a (by decide) (i := 25) rfl) h_S3 e_S3 dX12_markReached_15 (fun H locs hH hS => ?_)
      obtain ⟨v4, e_v4, hm⟩ := m_let_of hm
      refine lv_iinc (v := v4) (lv' := [(1, .int v4), (0, .ref a)]) hx hb dX12_markReached_16 hl (k := 1) rfl (by rw [← e_v4]; rfl) (by decide) rfl (fun ls hl => ?_)
      refine lv_goto (tgt := 2) hx hb dX12_markReached_19 (by decide) ?_
      exact ih S3 v4 _ _ _ hH hS (lv_sub hl [1, 0] rfl) hm
def f_X12_markReached (a : Nat) (S : m_M)  : Option (Int32 × m_M) :=
    b_X12_markReached_2 a m_fu S (0 : Int32)
set_option maxHeartbeats 4000000 in
set_option maxRecDepth 100000 in
theorem c_X12_markReached {l : Launch} {G : m_G} {nx : Nat} {κ : Nat → Nat} {a : Nat} {S : m_M}  {res : (Int32 × m_M)} (hT : m_Str κ) (hk_a : κ a = 13) (hm : f_X12_markReached a S = some res) : m_Ci l yX12_markReached cX12_markReached 3 (some .int) rm_X12_markReached G nx κ [.ref a] S res := by
  refine m_Ci.of (by decide) (Nat.le_of_ble_eq_true rfl) ?_
  intro p e s m args below meth c ls X hr hH hl
  have hx := X.1.1
  have hb := X.1.2.1
  have hS : m_S G s s.heap [] := va_S.rf
  have hl : lv_has ls 3 [(0, .ref a)] := hl
  rw [f_X12_markReached] at hm
  refine lv_iconst (v := (0 : Int32)) hx hb dX12_markReached_0 (by decide) ?_
  refine lv_istore_n (lv' := [(1, .int (0 : Int32)), (0, .ref a)]) hx hb dX12_markReached_1 rfl hl (by decide) rfl (fun ls hl => ?_)
  exact k_X12_markReached_2 (a := a) X hr hT hk_a  m_fu S (0 : Int32) _ _ _ hH hS (lv_sub hl [1, 0] rfl) hm
def rm_X12_reached : Room := { frames := 2, cells := 0, slots := 0, locals := 44 }
def f_X12_reached (a : Nat) (S : m_M)  : Option (Int32 × m_M) :=
    m_let (m_si S a 0 (0 : Int32)) fun S1 =>
    m_call (f_X12_markReached a S1) fun v3 S2 =>
    some (v3, S2)
set_option maxHeartbeats 4000000 in
set_option maxRecDepth 100000 in
theorem c_X12_reached {l : Launch} {G : m_G} {nx : Nat} {κ : Nat → Nat} {a : Nat} {S : m_M}  {res : (Int32 × m_M)} (hT : m_Str κ) (hk_a : κ a = 13) (hm : f_X12_reached a S = some res) : m_Ci l yX12_reached cX12_reached 1 (some .int) rm_X12_reached G nx κ [.ref a] S res := by
  refine m_Ci.of (by decide) (Nat.le_of_ble_eq_true rfl) ?_
  intro p e s m args below meth c ls X hr hH hl
  have hx := X.1.1
  have hb := X.1.2.1
  have hS : m_S G s s.heap [] := va_S.rf
  have hl : lv_has ls 1 [(0, .ref a)] := hl
  rw [f_X12_reached] at hm
  refine lv_aload_n hx hb dX12_reached_0 rfl (lv_at hl 0 rfl) ?_
  refine lv_iconst (v := (0 : Int32)) hx hb dX12_reached_1 (by decide) ?_
  obtain ⟨S1, e_S1, hm⟩ := m_let_of hm
  refine n_puti X hH hS tyX12 (k := 12) (a := a) (j := 0) hk_a (by decide) rfl m_wi12 tyX12_ok nmX12 (by decide) in_7_15 rfl rfl rfl ⟨rfl, rfl⟩ e_S1 dX12_reached_2 (fun H locs hH hS => ?_)
  refine lv_aload_n hx hb dX12_reached_5 rfl (lv_at hl 0 rfl) ?_
  obtain ⟨v3, S2, e_S2, hm⟩ := m_call_of hm
  refine n_cVi X hH hS (k := 12) (c_X12_markReached (a := a) hT hk_a e_S2) mw_X12_markReached in_9_20 hk_a (by decide) rfl rfl rfl ⟨rfl, rfl⟩ ⟨Nat.le_of_ble_eq_true rfl, Nat.le_of_ble_eq_true rfl⟩ ⟨Nat.zero_le _, Nat.zero_le _⟩ hl.1 (Nat.le_of_ble_eq_true rfl) dX12_reached_6 (fun H locs hH hS => ?_)
  exact r_iret X hr hH hS hm dX12_reached_9
def rm_X12_isReached : Room := { frames := 2, cells := 0, slots := 0, locals := 44 }
def b_X12_isReached_34 (a : Nat)  (S : m_M) (t0 : Int32) : Option (Int32 × m_M) :=
    some (t0, S)
set_option maxHeartbeats 4000000 in
set_option maxRecDepth 100000 in
theorem k_X12_isReached_34 {p : Program} {l : Launch} {e : Env} {s : State} {m : MethodId} {args : Array Value} {below : List Frame} {meth : Method} {c : Code} {G : m_G} {nx : Nat} {κ : Nat → Nat} {res : (Int32 × m_M)} {a : Nat} (X : m_Cx p s m args meth c cX12_isReached 2 RX12 G) (hr : meth.sig.returnType = (some .int)) (hT : m_Str κ) (hk_a : κ a = 13)  : ∀ (S : m_M) (t0 : Int32) (H : Heap) (locs : List Loc) (ls : Array Slot), m_H G nx κ S H → m_S G s H locs → lv_has ls 2 [] → b_X12_isReached_34 a S t0 = some res → W p l e rm_X12_isReached s m args below meth c H locs 0 0 (m_Qi below args s G nx κ res) (F0 m 34 ls [.int t0]) := by
  have hx := X.1.1
  have hb := X.1.2.1
  intro S t0 H locs ls hH hS hl hm
  rw [b_X12_isReached_34] at hm
  exact r_iret X hr hH hS hm dX12_isReached_34
def f_X12_isReached (a : Nat) (S : m_M) (i1 : Int32) : Option (Int32 × m_M) :=
    m_let (m_si S a 0 (0 : Int32)) fun S1 =>
    m_call (f_X12_isCell a S1 i1) fun v3 S2 =>
    if v3 = 0 then (
    some ((-1 : Int32), S2)) else (
    m_call (f_X12_markReached a S2) fun v6 S5 =>
    (m_ldi S5 (a + 25) 200 i1).bind fun v7 =>
    if v7 = 0 then (
    b_X12_isReached_34 a S5 (0 : Int32)) else (
    b_X12_isReached_34 a S5 (1 : Int32)))
set_option maxHeartbeats 4000000 in
set_option maxRecDepth 100000 in
theorem c_X12_isReached {l : Launch} {G : m_G} {nx : Nat} {κ : Nat → Nat} {a : Nat} {S : m_M} {i1 : Int32} {res : (Int32 × m_M)} (hT : m_Str κ) (hk_a : κ a = 13) (hm : f_X12_isReached a S i1 = some res) : m_Ci l yX12_isReached cX12_isReached 2 (some .int) rm_X12_isReached G nx κ [.ref a, .int i1] S res := by
  refine m_Ci.of (by decide) (Nat.le_of_ble_eq_true rfl) ?_
  intro p e s m args below meth c ls X hr hH hl
  have hx := X.1.1
  have hb := X.1.2.1
  have hS : m_S G s s.heap [] := va_S.rf
  have hl : lv_has ls 2 [(0, .ref a), (1, .int i1)] := hl
  rw [f_X12_isReached] at hm
  refine lv_aload_n hx hb dX12_isReached_0 rfl (lv_at hl 0 rfl) ?_
  refine lv_iconst (v := (0 : Int32)) hx hb dX12_isReached_1 (by decide) ?_
  obtain ⟨S1, e_S1, hm⟩ := m_let_of hm
  refine n_puti X hH hS tyX12 (k := 12) (a := a) (j := 0) hk_a (by decide) rfl m_wi12 tyX12_ok nmX12 (by decide) in_7_15 rfl rfl rfl ⟨rfl, rfl⟩ e_S1 dX12_isReached_2 (fun H locs hH hS => ?_)
  refine lv_aload_n hx hb dX12_isReached_5 rfl (lv_at hl 0 rfl) ?_
  refine lv_iload_n hx hb dX12_isReached_6 rfl (lv_at hl 1 rfl) ?_
  obtain ⟨v3, S2, e_S2, hm⟩ := m_call_of hm
  refine n_cVi X hH hS (k := 12) (c_X12_isCell (a := a) hT hk_a e_S2) mw_X12_isCell in_8_232 hk_a (by decide) rfl rfl rfl ⟨rfl, rfl⟩ ⟨Nat.le_of_ble_eq_true rfl, Nat.le_of_ble_eq_true rfl⟩ ⟨Nat.zero_le _, Nat.zero_le _⟩ hl.1 (Nat.le_of_ble_eq_true rfl) dX12_isReached_7 (fun H locs hH hS => ?_)
  refine lv_if_ne (tgt := 15) hx hb dX12_isReached_10 (by decide) (fun c4 => ?_) (fun c4 => ?_)
  · have hm := m_ite_f hm c4
    refine lv_aload_n hx hb dX12_isReached_15 rfl (lv_at hl 0 rfl) ?_
    obtain ⟨v6, S5, e_S5, hm⟩ := m_call_of hm
    refine n_cVi X hH hS (k := 12) (c_X12_markReached (a := a) hT hk_a e_S5) mw_X12_markReached in_9_20 hk_a (by decide) rfl rfl rfl ⟨rfl, rfl⟩ ⟨Nat.le_of_ble_eq_true rfl, Nat.le_of_ble_eq_true rfl⟩ ⟨Nat.zero_le _, Nat.zero_le _⟩ hl.1 (Nat.le_of_ble_eq_true rfl) dX12_isReached_16 (fun H locs hH hS => ?_)
    refine lv_pop hx hb dX12_isReached_19 rfl ?_
    refine lv_aload_n hx hb dX12_isReached_20 rfl (lv_at hl 0 rfl) ?_
    refine r_getp X hH (k := 12) (a := a) (j := 39) (b := (a + 25)) (A := 25) (B := 0) hk_a (by decide) rfl m_wi12 (by decide) in_7_54 rfl rfl rfl dX12_isReached_21 ?_
    refine lv_iload_n hx hb dX12_isReached_24 rfl (lv_at hl 1 rfl) ?_
    obtain ⟨v7, h_v7, e_v7, hm⟩ := n_ldi hm
    refine n_zald X hH (n := 200) (m_lay_at hT hk_a (by decide) (i := 25) rfl) h_v7 e_v7 dX12_isReached_25 ?_
    refine lv_if_eq (tgt := 33) hx hb dX12_isReached_26 (by decide) (fun c8 => ?_) (fun c8 => ?_)
    · have hm := m_ite_t hm c8
      refine lv_iconst (v := (0 : Int32)) hx hb dX12_isReached_33 (by decide) ?_
      exact k_X12_isReached_34 (a := a) X hr hT hk_a   S5 (0 : Int32) _ _ _ hH hS (lv_sub hl [] rfl) hm
    · have hm := m_ite_f hm c8
      refine lv_iconst (v := (1 : Int32)) hx hb dX12_isReached_29 (by decide) ?_
      refine lv_goto (tgt := 34) hx hb dX12_isReached_30 (by decide) ?_
      exact k_X12_isReached_34 (a := a) X hr hT hk_a   S5 (1 : Int32) _ _ _ hH hS (lv_sub hl [] rfl) hm
  · have hm := m_ite_t hm c4
    refine lv_iconst (v := (-1 : Int32)) hx hb dX12_isReached_13 (by decide) ?_
    exact r_iret X hr hH hS hm dX12_isReached_14
def rm_X12_dragNow : Room := { frames := 2, cells := 0, slots := 0, locals := 44 }
def f_X12_dragNow (a : Nat) (S : m_M)  : Option (Int32 × m_M) :=
    (m_ldi S (a + 2) 2647 (213 : Int32)).bind fun v1 =>
    m_call (f_X12_markReached a S) fun v3 S2 =>
    some ((v1 - v3), S2)
set_option maxHeartbeats 4000000 in
set_option maxRecDepth 100000 in
theorem c_X12_dragNow {l : Launch} {G : m_G} {nx : Nat} {κ : Nat → Nat} {a : Nat} {S : m_M}  {res : (Int32 × m_M)} (hT : m_Str κ) (hk_a : κ a = 13) (hm : f_X12_dragNow a S = some res) : m_Ci l yX12_dragNow cX12_dragNow 1 (some .int) rm_X12_dragNow G nx κ [.ref a] S res := by
  refine m_Ci.of (by decide) (Nat.le_of_ble_eq_true rfl) ?_
  intro p e s m args below meth c ls X hr hH hl
  have hx := X.1.1
  have hb := X.1.2.1
  have hS : m_S G s s.heap [] := va_S.rf
  have hl : lv_has ls 1 [(0, .ref a)] := hl
  rw [f_X12_dragNow] at hm
  refine lv_aload_n hx hb dX12_dragNow_0 rfl (lv_at hl 0 rfl) ?_
  refine r_getp X hH (k := 12) (a := a) (j := 14) (b := (a + 2)) (A := 2) (B := 0) hk_a (by decide) rfl m_wi12 (by decide) in_7_29 rfl rfl rfl dX12_dragNow_1 ?_
  refine lv_sipush (v := (213 : Int32)) hx hb dX12_dragNow_4 (by decide) ?_
  obtain ⟨v1, h_v1, e_v1, hm⟩ := n_ldi hm
  refine n_iald X hH (n := 2647) (m_lay_at hT hk_a (by decide) (i := 2) rfl) h_v1 e_v1 dX12_dragNow_7 ?_
  refine lv_aload_n hx hb dX12_dragNow_8 rfl (lv_at hl 0 rfl) ?_
  obtain ⟨v3, S2, e_S2, hm⟩ := m_call_of hm
  refine n_cVi X hH hS (k := 12) (c_X12_markReached (a := a) hT hk_a e_S2) mw_X12_markReached in_9_20 hk_a (by decide) rfl rfl rfl ⟨rfl, rfl⟩ ⟨Nat.le_of_ble_eq_true rfl, Nat.le_of_ble_eq_true rfl⟩ ⟨Nat.zero_le _, Nat.zero_le _⟩ hl.1 (Nat.le_of_ble_eq_true rfl) dX12_dragNow_9 (fun H locs hH hS => ?_)
  refine lv_isub hx hb dX12_dragNow_12 ?_
  exact r_iret X hr hH hS hm dX12_dragNow_13
def rm_X12_drag : Room := { frames := 3, cells := 0, slots := 0, locals := 64 }
def f_X12_drag (a : Nat) (S : m_M)  : Option (Int32 × m_M) :=
    m_let (m_si S a 0 (0 : Int32)) fun S1 =>
    m_call (f_X12_dragNow a S1) fun v3 S2 =>
    some (v3, S2)
set_option maxHeartbeats 4000000 in
set_option maxRecDepth 100000 in
theorem c_X12_drag {l : Launch} {G : m_G} {nx : Nat} {κ : Nat → Nat} {a : Nat} {S : m_M}  {res : (Int32 × m_M)} (hT : m_Str κ) (hk_a : κ a = 13) (hm : f_X12_drag a S = some res) : m_Ci l yX12_drag cX12_drag 1 (some .int) rm_X12_drag G nx κ [.ref a] S res := by
  refine m_Ci.of (by decide) (Nat.le_of_ble_eq_true rfl) ?_
  intro p e s m args below meth c ls X hr hH hl
  have hx := X.1.1
  have hb := X.1.2.1
  have hS : m_S G s s.heap [] := va_S.rf
  have hl : lv_has ls 1 [(0, .ref a)] := hl
  rw [f_X12_drag] at hm
  refine lv_aload_n hx hb dX12_drag_0 rfl (lv_at hl 0 rfl) ?_
  refine lv_iconst (v := (0 : Int32)) hx hb dX12_drag_1 (by decide) ?_
  obtain ⟨S1, e_S1, hm⟩ := m_let_of hm
  refine n_puti X hH hS tyX12 (k := 12) (a := a) (j := 0) hk_a (by decide) rfl m_wi12 tyX12_ok nmX12 (by decide) in_7_15 rfl rfl rfl ⟨rfl, rfl⟩ e_S1 dX12_drag_2 (fun H locs hH hS => ?_)
  refine lv_aload_n hx hb dX12_drag_5 rfl (lv_at hl 0 rfl) ?_
  obtain ⟨v3, S2, e_S2, hm⟩ := m_call_of hm
  refine n_cVi X hH hS (k := 12) (c_X12_dragNow (a := a) hT hk_a e_S2) mw_X12_dragNow in_9_36 hk_a (by decide) rfl rfl rfl ⟨rfl, rfl⟩ ⟨Nat.le_of_ble_eq_true rfl, Nat.le_of_ble_eq_true rfl⟩ ⟨Nat.zero_le _, Nat.zero_le _⟩ hl.1 (Nat.le_of_ble_eq_true rfl) dX12_drag_6 (fun H locs hH hS => ?_)
  exact r_iret X hr hH hS hm dX12_drag_9
def rm_X12_run : Room := { frames := 7, cells := 0, slots := 0, locals := 165 }
def b_X12_run_192 (a : Nat)  (S : m_M) (l1 : Int32) (l2 : Int32) (t1 : Int32) (t2 : Int32) : Option (Int32 × m_M) :=
    (m_sti S (a + 27) 8 t1 t2).bind fun S1 =>
    (m_sti S1 (a + 27) 8 (7 : Int32) l1).bind fun S2 =>
    m_let (m_si S2 a 44 (1 : Int32)) fun S3 =>
    m_cal0 (f_X12_comeBack a (a + 6) 2195 S3 (0 : Int32)) fun S4 =>
    some (l2, S4)
set_option maxHeartbeats 4000000 in
set_option maxRecDepth 100000 in
theorem k_X12_run_192 {p : Program} {l : Launch} {e : Env} {s : State} {m : MethodId} {args : Array Value} {below : List Frame} {meth : Method} {c : Code} {G : m_G} {nx : Nat} {κ : Nat → Nat} {res : (Int32 × m_M)} {a : Nat} (X : m_Cx p s m args meth c cX12_run 3 RX12 G) (hr : meth.sig.returnType = (some .int)) (hT : m_Str κ) (hk_a : κ a = 13)  : ∀ (S : m_M) (l1 : Int32) (l2 : Int32) (t1 : Int32) (t2 : Int32) (H : Heap) (locs : List Loc) (ls : Array Slot), m_H G nx κ S H → m_S G s H locs → lv_has ls 3 [(0, .ref a), (1, .int l1), (2, .int l2)] → b_X12_run_192 a S l1 l2 t1 t2 = some res → W p l e rm_X12_run s m args below meth c H locs 0 0 (m_Qi below args s G nx κ res) (F0 m 192 ls [.int t2, .int t1, .ref (a + 27)]) := by
  have hx := X.1.1
  have hb := X.1.2.1
  intro S l1 l2 t1 t2 H locs ls hH hS hl hm
  rw [b_X12_run_192] at hm
  obtain ⟨S1, h_S1, e_S1, hm⟩ := n_sti hm
  refine n_iast X hH hS (n := 8) (m_lay_at hT hk_a (by decide) (i := 27) rfl) h_S1 e_S1 dX12_run_192 (fun H locs hH hS => ?_)
  refine lv_aload_n hx hb dX12_run_193 rfl (lv_at hl 0 rfl) ?_
  refine r_getp X hH (k := 12) (a := a) (j := 42) (b := (a + 27)) (A := 27) (B := 0) hk_a (by decide) rfl m_wi12 (by decide) in_7_57 rfl rfl rfl dX12_run_194 ?_
  refine lv_bipush (v := (7 : Int32)) hx hb dX12_run_197 (by decide) ?_
  refine lv_iload_n hx hb dX12_run_199 rfl (lv_at hl 1 rfl) ?_
  obtain ⟨S2, h_S2, e_S2, hm⟩ := n_sti hm
  refine n_iast X hH hS (n := 8) (m_lay_at hT hk_a (by decide) (i := 27) rfl) h_S2 e_S2 dX12_run_200 (fun H locs hH hS => ?_)
  refine lv_aload_n hx hb dX12_run_201 rfl (lv_at hl 0 rfl) ?_
  refine lv_iconst (v := (1 : Int32)) hx hb dX12_run_202 (by decide) ?_
  obtain ⟨S3, e_S3, hm⟩ := m_let_of hm
  refine n_puti X hH hS tyX12 (k := 12) (a := a) (j := 44) hk_a (by decide) rfl m_wi12 tyX12_ok nmX12 (by decide) in_7_59 rfl rfl rfl (m_nz (by decide)) e_S3 dX12_run_203 (fun H locs hH hS => ?_)
  refine lv_aload_n hx hb dX12_run_206 rfl (lv_at hl 0 rfl) ?_
  refine lv_aload_n hx hb dX12_run_207 rfl (lv_at hl 0 rfl) ?_
  refine r_getp X hH (k := 12) (a := a) (j := 18) (b := (a + 6)) (A := 6) (B := 0) hk_a (by decide) rfl m_wi12 (by decide) in_7_33 rfl rfl rfl dX12_run_208 ?_
  refine lv_iconst (v := (0 : Int32)) hx hb dX12_run_211 (by decide) ?_
  obtain ⟨S4, e_S4, hm⟩ := m_cal0_of hm
  refine r_cVv X hH hS (k := 12) (c_X12_comeBack (a := a) (o1 := (a + 6)) (n1 := 2195) hT hk_a (m_lay_at hT hk_a (by decide) (i := 6) rfl) e_S4) mw_X12_comeBack in_8_104 hk_a (by decide) rfl rfl rfl ⟨rfl, rfl⟩ ⟨Nat.le_of_ble_eq_true rfl, Nat.le_of_ble_eq_true rfl⟩ ⟨Nat.zero_le _, Nat.zero_le _⟩ hl.1 (Nat.le_of_ble_eq_true rfl) dX12_run_212 (fun H locs hH hS => ?_)
  refine lv_iload_n hx hb dX12_run_215 rfl (lv_at hl 2 rfl) ?_
  exact r_iret X hr hH hS hm dX12_run_216
def b_X12_run_37 (a : Nat)  : Nat → m_M → Int32 → Option (Int32 × m_M)
  | 0, _, _ => none
  | n + 1, S, l1 =>
    (m_ldi S (a + 2) 2647 (210 : Int32)).bind fun v1 =>
    if v1 = (1 : Int32) then (
    m_cal0 (f_X12_oneStep a S) fun S19 =>
    m_call (f_X12_dragNow a S19) fun v21 S20 =>
    if v21 ≤ l1 then (
    b_X12_run_37 a n S20 l1) else (
    m_call (f_X12_dragNow a S20) fun v24 S23 =>
    b_X12_run_37 a n S23 v24)) else (
    (m_ldi S (a + 2) 2647 (210 : Int32)).bind fun v3 =>
    (m_ldi S (a + 2) 2647 (216 : Int32)).bind fun v4 =>
    (m_sti S (a + 27) 8 (0 : Int32) v4).bind fun S5 =>
    (m_ldi S5 (a + 2) 2647 (215 : Int32)).bind fun v6 =>
    (m_sti S5 (a + 27) 8 (1 : Int32) v6).bind fun S7 =>
    (m_ldi S7 (a + 2) 2647 (213 : Int32)).bind fun v8 =>
    (m_sti S7 (a + 27) 8 (2 : Int32) v8).bind fun S9 =>
    (m_ldi S9 (a + 2) 2647 (217 : Int32)).bind fun v10 =>
    (m_sti S9 (a + 27) 8 (3 : Int32) v10).bind fun S11 =>
    (m_ldi S11 (a + 2) 2647 (211 : Int32)).bind fun v12 =>
    (m_sti S11 (a + 27) 8 (4 : Int32) v12).bind fun S13 =>
    (m_ldi S13 (a + 2) 2647 (219 : Int32)).bind fun v14 =>
    (m_sti S13 (a + 27) 8 (5 : Int32) v14).bind fun S15 =>
    (m_ldi S15 (a + 2) 2647 (219 : Int32)).bind fun v16 =>
    if v16 = (1 : Int32) then (
    (m_ldi S15 (a + 2) 2647 (220 : Int32)).bind fun v18 =>
    b_X12_run_192 a S15 l1 v3 (6 : Int32) v18) else (
    b_X12_run_192 a S15 l1 v3 (6 : Int32) (0 : Int32)))
set_option maxHeartbeats 4000000 in
set_option maxRecDepth 100000 in
theorem k_X12_run_37 {p : Program} {l : Launch} {e : Env} {s : State} {m : MethodId} {args : Array Value} {below : List Frame} {meth : Method} {c : Code} {G : m_G} {nx : Nat} {κ : Nat → Nat} {res : (Int32 × m_M)} {a : Nat} (X : m_Cx p s m args meth c cX12_run 3 RX12 G) (hr : meth.sig.returnType = (some .int)) (hT : m_Str κ) (hk_a : κ a = 13)  (n : Nat) : ∀ (S : m_M) (l1 : Int32) (H : Heap) (locs : List Loc) (ls : Array Slot), m_H G nx κ S H → m_S G s H locs → lv_has ls 3 [(0, .ref a), (1, .int l1)] → b_X12_run_37 a n S l1 = some res → W p l e rm_X12_run s m args below meth c H locs 0 0 (m_Qi below args s G nx κ res) (F0 m 37 ls []) := by
  have hx := X.1.1
  have hb := X.1.2.1
  induction n with
  | zero => intro S l1 H locs ls hH hS hl hm; have hm : (none : Option (Int32 × m_M)) = some res := hm; cases hm
  | succ n ih =>
    intro S l1 H locs ls hH hS hl hm
    rw [b_X12_run_37] at hm
    refine lv_aload_n hx hb dX12_run_37 rfl (lv_at hl 0 rfl) ?_
    refine r_getp X hH (k := 12) (a := a) (j := 14) (b := (a + 2)) (A := 2) (B := 0) hk_a (by decide) rfl m_wi12 (by decide) in_7_29 rfl rfl rfl dX12_run_38 ?_
    refine lv_sipush (v := (210 : Int32)) hx hb dX12_run_41 (by decide) ?_
    obtain ⟨v1, h_v1, e_v1, hm⟩ := n_ldi hm
    refine n_iald X hH (n := 2647) (m_lay_at hT hk_a (by decide) (i := 2) rfl) h_v1 e_v1 dX12_run_44 ?_
    refine lv_iconst (v := (1 : Int32)) hx hb dX12_run_45 (by decide) ?_
    refine lv_icmp_ne (tgt := 69) hx hb dX12_run_46 (by decide) (fun c2 => ?_) (fun c2 => ?_)
    · have hm := m_ite_f hm c2
      refine lv_aload_n hx hb dX12_run_69 rfl (lv_at hl 0 rfl) ?_
      refine r_getp X hH (k := 12) (a := a) (j := 14) (b := (a + 2)) (A := 2) (B := 0) hk_a (by decide) rfl m_wi12 (by decide) in_7_29 rfl rfl rfl dX12_run_70 ?_
      refine lv_sipush (v := (210 : Int32)) hx hb dX12_run_73 (by decide) ?_
      obtain ⟨v3, h_v3, e_v3, hm⟩ := n_ldi hm
      refine n_iald X hH (n := 2647) (m_lay_at hT hk_a (by decide) (i := 2) rfl) h_v3 e_v3 dX12_run_76 ?_
      refine lv_istore_n (lv' := [(2, .int v3), (0, .ref a), (1, .int l1)]) hx hb dX12_run_77 rfl hl (by decide) rfl (fun ls hl => ?_)
      refine lv_aload_n hx hb dX12_run_78 rfl (lv_at hl 1 rfl) ?_
      refine r_getp X hH (k := 12) (a := a) (j := 42) (b := (a + 27)) (A := 27) (B := 0) hk_a (by decide) rfl m_wi12 (by decide) in_7_57 rfl rfl rfl dX12_run_79 ?_
      refine lv_iconst (v := (0 : Int32)) hx hb dX12_run_82 (by decide) ?_
      refine lv_aload_n hx hb dX12_run_83 rfl (lv_at hl 1 rfl) ?_
      refine r_getp X hH (k := 12) (a := a) (j := 14) (b := (a + 2)) (A := 2) (B := 0) hk_a (by decide) rfl m_wi12 (by decide) in_7_29 rfl rfl rfl dX12_run_84 ?_
      refine lv_sipush (v := (216 : Int32)) hx hb dX12_run_87 (by decide) ?_
      obtain ⟨v4, h_v4, e_v4, hm⟩ := n_ldi hm
      refine n_iald X hH (n := 2647) (m_lay_at hT hk_a (by decide) (i := 2) rfl) h_v4 e_v4 dX12_run_90 ?_
      obtain ⟨S5, h_S5, e_S5, hm⟩ := n_sti hm
      refine n_iast X hH hS (n := 8) (m_lay_at hT hk_a (by decide) (i := 27) rfl) h_S5 e_S5 dX12_run_91 (fun H locs hH hS => ?_)
      refine lv_aload_n hx hb dX12_run_92 rfl (lv_at hl 1 rfl) ?_
      refine r_getp X hH (k := 12) (a := a) (j := 42) (b := (a + 27)) (A := 27) (B := 0) hk_a (by decide) rfl m_wi12 (by decide) in_7_57 rfl rfl rfl dX12_run_93 ?_
      refine lv_iconst (v := (1 : Int32)) hx hb dX12_run_96 (by decide) ?_
      refine lv_aload_n hx hb dX12_run_97 rfl (lv_at hl 1 rfl) ?_
      refine r_getp X hH (k := 12) (a := a) (j := 14) (b := (a + 2)) (A := 2) (B := 0) hk_a (by decide) rfl m_wi12 (by decide) in_7_29 rfl rfl rfl dX12_run_98 ?_
      refine lv_sipush (v := (215 : Int32)) hx hb dX12_run_101 (by decide) ?_
      obtain ⟨v6, h_v6, e_v6, hm⟩ := n_ldi hm
      refine n_iald X hH (n := 2647) (m_lay_at hT hk_a (by decide) (i := 2) rfl) h_v6 e_v6 dX12_run_104 ?_
      obtain ⟨S7, h_S7, e_S7, hm⟩ := n_sti hm
      refine n_iast X hH hS (n := 8) (m_lay_at hT hk_a (by decide) (i := 27) rfl) h_S7 e_S7 dX12_run_105 (fun H locs hH hS => ?_)
      refine lv_aload_n hx hb dX12_run_106 rfl (lv_at hl 1 rfl) ?_
      refine r_getp X hH (k := 12) (a := a) (j := 42) (b := (a + 27)) (A := 27) (B := 0) hk_a (by decide) rfl m_wi12 (by decide) in_7_57 rfl rfl rfl dX12_run_107 ?_
      refine lv_iconst (v := (2 : Int32)) hx hb dX12_run_110 (by decide) ?_
      refine lv_aload_n hx hb dX12_run_111 rfl (lv_at hl 1 rfl) ?_
      refine r_getp X hH (k := 12) (a := a) (j := 14) (b := (a + 2)) (A := 2) (B := 0) hk_a (by decide) rfl m_wi12 (by decide) in_7_29 rfl rfl rfl dX12_run_112 ?_
      refine lv_sipush (v := (213 : Int32)) hx hb dX12_run_115 (by decide) ?_
      obtain ⟨v8, h_v8, e_v8, hm⟩ := n_ldi hm
      refine n_iald X hH (n := 2647) (m_lay_at hT hk_a (by decide) (i := 2) rfl) h_v8 e_v8 dX12_run_118 ?_
      obtain ⟨S9, h_S9, e_S9, hm⟩ := n_sti hm
      refine n_iast X hH hS (n := 8) (m_lay_at hT hk_a (by decide) (i := 27) rfl) h_S9 e_S9 dX12_run_119 (fun H locs hH hS => ?_)
      refine lv_aload_n hx hb dX12_run_120 rfl (lv_at hl 1 rfl) ?_
      refine r_getp X hH (k := 12) (a := a) (j := 42) (b := (a + 27)) (A := 27) (B := 0) hk_a (by decide) rfl m_wi12 (by decide) in_7_57 rfl rfl rfl dX12_run_121 ?_
      refine lv_iconst (v := (3 : Int32)) hx hb dX12_run_124 (by decide) ?_
      refine lv_aload_n hx hb dX12_run_125 rfl (lv_at hl 1 rfl) ?_
      refine r_getp X hH (k := 12) (a := a) (j := 14) (b := (a + 2)) (A := 2) (B := 0) hk_a (by decide) rfl m_wi12 (by decide) in_7_29 rfl rfl rfl dX12_run_126 ?_
      refine lv_sipush (v := (217 : Int32)) hx hb dX12_run_129 (by decide) ?_
      obtain ⟨v10, h_v10, e_v10, hm⟩ := n_ldi hm
      refine n_iald X hH (n := 2647) (m_lay_at hT hk_a (by decide) (i := 2) rfl) h_v10 e_v10 dX12_run_132 ?_
      obtain ⟨S11, h_S11, e_S11, hm⟩ := n_sti hm
      refine n_iast X hH hS (n := 8) (m_lay_at hT hk_a (by decide) (i := 27) rfl) h_S11 e_S11 dX12_run_133 (fun H locs hH hS => ?_)
      refine lv_aload_n hx hb dX12_run_134 rfl (lv_at hl 1 rfl) ?_
      refine r_getp X hH (k := 12) (a := a) (j := 42) (b := (a + 27)) (A := 27) (B := 0) hk_a (by decide) rfl m_wi12 (by decide) in_7_57 rfl rfl rfl dX12_run_135 ?_
      refine lv_iconst (v := (4 : Int32)) hx hb dX12_run_138 (by decide) ?_
      refine lv_aload_n hx hb dX12_run_139 rfl (lv_at hl 1 rfl) ?_
      refine r_getp X hH (k := 12) (a := a) (j := 14) (b := (a + 2)) (A := 2) (B := 0) hk_a (by decide) rfl m_wi12 (by decide) in_7_29 rfl rfl rfl dX12_run_140 ?_
      refine lv_sipush (v := (211 : Int32)) hx hb dX12_run_143 (by decide) ?_
      obtain ⟨v12, h_v12, e_v12, hm⟩ := n_ldi hm
      refine n_iald X hH (n := 2647) (m_lay_at hT hk_a (by decide) (i := 2) rfl) h_v12 e_v12 dX12_run_146 ?_
      obtain ⟨S13, h_S13, e_S13, hm⟩ := n_sti hm
      refine n_iast X hH hS (n := 8) (m_lay_at hT hk_a (by decide) (i := 27) rfl) h_S13 e_S13 dX12_run_147 (fun H locs hH hS => ?_)
      refine lv_aload_n hx hb dX12_run_148 rfl (lv_at hl 1 rfl) ?_
      refine r_getp X hH (k := 12) (a := a) (j := 42) (b := (a + 27)) (A := 27) (B := 0) hk_a (by decide) rfl m_wi12 (by decide) in_7_57 rfl rfl rfl dX12_run_149 ?_
      refine lv_iconst (v := (5 : Int32)) hx hb dX12_run_152 (by decide) ?_
      refine lv_aload_n hx hb dX12_run_153 rfl (lv_at hl 1 rfl) ?_
      refine r_getp X hH (k := 12) (a := a) (j := 14) (b := (a + 2)) (A := 2) (B := 0) hk_a (by decide) rfl m_wi12 (by decide) in_7_29 rfl rfl rfl dX12_run_154 ?_
      refine lv_sipush (v := (219 : Int32)) hx hb dX12_run_157 (by decide) ?_
      obtain ⟨v14, h_v14, e_v14, hm⟩ := n_ldi hm
      refine n_iald X hH (n := 2647) (m_lay_at hT hk_a (by decide) (i := 2) rfl) h_v14 e_v14 dX12_run_160 ?_
      obtain ⟨S15, h_S15, e_S15, hm⟩ := n_sti hm
      refine n_iast X hH hS (n := 8) (m_lay_at hT hk_a (by decide) (i := 27) rfl) h_S15 e_S15 dX12_run_161 (fun H locs hH hS => ?_)
      refine lv_aload_n hx hb dX12_run_162 rfl (lv_at hl 1 rfl) ?_
      refine r_getp X hH (k := 12) (a := a) (j := 42) (b := (a + 27)) (A := 27) (B := 0) hk_a (by decide) rfl m_wi12 (by decide) in_7_57 rfl rfl rfl dX12_run_163 ?_
      refine lv_bipush (v := (6 : Int32)) hx hb dX12_run_166 (by decide) ?_
      refine lv_aload_n hx hb dX12_run_168 rfl (lv_at hl 1 rfl) ?_
      refine r_getp X hH (k := 12) (a := a) (j := 14) (b := (a + 2)) (A := 2) (B := 0) hk_a (by decide) rfl m_wi12 (by decide) in_7_29 rfl rfl rfl dX12_run_169 ?_
      refine lv_sipush (v := (219 : Int32)) hx hb dX12_run_172 (by decide) ?_
      obtain ⟨v16, h_v16, e_v16, hm⟩ := n_ldi hm
      refine n_iald X hH (n := 2647) (m_lay_at hT hk_a (by decide) (i := 2) rfl) h_v16 e_v16 dX12_run_175 ?_
      refine lv_iconst (v := (1 : Int32)) hx hb dX12_run_176 (by decide) ?_
      refine lv_icmp_ne (tgt := 191) hx hb dX12_run_177 (by decide) (fun c17 => ?_) (fun c17 => ?_)
      · have hm := m_ite_f hm c17
        refine lv_iconst (v := (0 : Int32)) hx hb dX12_run_191 (by decide) ?_
        exact k_X12_run_192 (a := a) X hr hT hk_a   S15 l1 v3 (6 : Int32) (0 : Int32) _ _ _ hH hS (lv_sub hl [1, 2, 0] rfl) hm
      · have hm := m_ite_t hm c17
        refine lv_aload_n hx hb dX12_run_180 rfl (lv_at hl 1 rfl) ?_
        refine r_getp X hH (k := 12) (a := a) (j := 14) (b := (a + 2)) (A := 2) (B := 0) hk_a (by decide) rfl m_wi12 (by decide) in_7_29 rfl rfl rfl dX12_run_181 ?_
        refine lv_sipush (v := (220 : Int32)) hx hb dX12_run_184 (by decide) ?_
        obtain ⟨v18, h_v18, e_v18, hm⟩ := n_ldi hm
        refine n_iald X hH (n := 2647) (m_lay_at hT hk_a (by decide) (i := 2) rfl) h_v18 e_v18 dX12_run_187 ?_
        refine lv_goto (tgt := 192) hx hb dX12_run_188 (by decide) ?_
        exact k_X12_run_192 (a := a) X hr hT hk_a   S15 l1 v3 (6 : Int32) v18 _ _ _ hH hS (lv_sub hl [1, 2, 0] rfl) hm
    · have hm := m_ite_t hm c2
      refine lv_aload_n hx hb dX12_run_49 rfl (lv_at hl 0 rfl) ?_
      obtain ⟨S19, e_S19, hm⟩ := m_cal0_of hm
      refine r_cVv X hH hS (k := 12) (c_X12_oneStep (a := a) hT hk_a e_S19) mw_X12_oneStep in_8_148 hk_a (by decide) rfl rfl rfl ⟨rfl, rfl⟩ ⟨Nat.le_of_ble_eq_true rfl, Nat.le_of_ble_eq_true rfl⟩ ⟨Nat.zero_le _, Nat.zero_le _⟩ hl.1 (Nat.le_of_ble_eq_true rfl) dX12_run_50 (fun H locs hH hS => ?_)
      refine lv_aload_n hx hb dX12_run_53 rfl (lv_at hl 0 rfl) ?_
      obtain ⟨v21, S20, e_S20, hm⟩ := m_call_of hm
      refine n_cVi X hH hS (k := 12) (c_X12_dragNow (a := a) hT hk_a e_S20) mw_X12_dragNow in_9_36 hk_a (by decide) rfl rfl rfl ⟨rfl, rfl⟩ ⟨Nat.le_of_ble_eq_true rfl, Nat.le_of_ble_eq_true rfl⟩ ⟨Nat.zero_le _, Nat.zero_le _⟩ hl.1 (Nat.le_of_ble_eq_true rfl) dX12_run_54 (fun H locs hH hS => ?_)
      refine lv_iload_n hx hb dX12_run_57 rfl (lv_at hl 1 rfl) ?_
      refine lv_icmp_le (tgt := 37) hx hb dX12_run_58 (by decide) (fun c22 => ?_) (fun c22 => ?_)
      · have hm := m_ite_t hm c22
        exact ih S20 l1 _ _ _ hH hS hl hm
      · have hm := m_ite_f hm c22
        refine lv_aload_n hx hb dX12_run_61 rfl (lv_at hl 0 rfl) ?_
        obtain ⟨v24, S23, e_S23, hm⟩ := m_call_of hm
        refine n_cVi X hH hS (k := 12) (c_X12_dragNow (a := a) hT hk_a e_S23) mw_X12_dragNow in_9_36 hk_a (by decide) rfl rfl rfl ⟨rfl, rfl⟩ ⟨Nat.le_of_ble_eq_true rfl, Nat.le_of_ble_eq_true rfl⟩ ⟨Nat.zero_le _, Nat.zero_le _⟩ hl.1 (Nat.le_of_ble_eq_true rfl) dX12_run_62 (fun H locs hH hS => ?_)
        refine lv_istore_n (lv' := [(1, .int v24), (0, .ref a)]) hx hb dX12_run_65 rfl hl (by decide) rfl (fun ls hl => ?_)
        refine lv_goto (tgt := 37) hx hb dX12_run_66 (by decide) ?_
        exact ih S23 v24 _ _ _ hH hS (lv_sub hl [1, 0] rfl) hm
def f_X12_run (a : Nat) (S : m_M)  : Option (Int32 × m_M) :=
    m_let (m_si S a 0 (0 : Int32)) fun S1 =>
    m_call (f_X12_take a S1) fun v3 S2 =>
    m_call (f_X12_canLoad a S2 v3) fun v5 S4 =>
    if v5 = 0 then (
    some ((-1 : Int32), S4)) else (
    m_cal0 (f_X12_save a (a + 6) 2195 S4 (0 : Int32)) fun S7 =>
    m_cal0 (f_X12_loads a (a + 1) 940 S7) fun S8 =>
    b_X12_run_37 a m_fu S8 (0 : Int32))
set_option maxHeartbeats 4000000 in
set_option maxRecDepth 100000 in
theorem c_X12_run {l : Launch} {G : m_G} {nx : Nat} {κ : Nat → Nat} {a : Nat} {S : m_M}  {res : (Int32 × m_M)} (hT : m_Str κ) (hk_a : κ a = 13) (hm : f_X12_run a S = some res) : m_Ci l yX12_run cX12_run 3 (some .int) rm_X12_run G nx κ [.ref a] S res := by
  refine m_Ci.of (by decide) (Nat.le_of_ble_eq_true rfl) ?_
  intro p e s m args below meth c ls X hr hH hl
  have hx := X.1.1
  have hb := X.1.2.1
  have hS : m_S G s s.heap [] := va_S.rf
  have hl : lv_has ls 3 [(0, .ref a)] := hl
  rw [f_X12_run] at hm
  refine lv_aload_n hx hb dX12_run_0 rfl (lv_at hl 0 rfl) ?_
  refine lv_iconst (v := (0 : Int32)) hx hb dX12_run_1 (by decide) ?_
  obtain ⟨S1, e_S1, hm⟩ := m_let_of hm
  refine n_puti X hH hS tyX12 (k := 12) (a := a) (j := 0) hk_a (by decide) rfl m_wi12 tyX12_ok nmX12 (by decide) in_7_15 rfl rfl rfl ⟨rfl, rfl⟩ e_S1 dX12_run_2 (fun H locs hH hS => ?_)
  refine lv_aload_n hx hb dX12_run_5 rfl (lv_at hl 0 rfl) ?_
  refine lv_aload_n hx hb dX12_run_6 rfl (lv_at hl 0 rfl) ?_
  obtain ⟨v3, S2, e_S2, hm⟩ := m_call_of hm
  refine n_cVi X hH hS (k := 12) (c_X12_take (a := a) hT hk_a e_S2) mw_X12_take in_7_177 hk_a (by decide) rfl rfl rfl ⟨rfl, rfl⟩ ⟨Nat.le_of_ble_eq_true rfl, Nat.le_of_ble_eq_true rfl⟩ ⟨Nat.zero_le _, Nat.zero_le _⟩ hl.1 (Nat.le_of_ble_eq_true rfl) dX12_run_7 (fun H locs hH hS => ?_)
  obtain ⟨v5, S4, e_S4, hm⟩ := m_call_of hm
  refine n_cVi X hH hS (k := 12) (c_X12_canLoad (a := a) hT hk_a e_S4) mw_X12_canLoad in_8_112 hk_a (by decide) rfl rfl rfl ⟨rfl, rfl⟩ ⟨Nat.le_of_ble_eq_true rfl, Nat.le_of_ble_eq_true rfl⟩ ⟨Nat.zero_le _, Nat.zero_le _⟩ hl.1 (Nat.le_of_ble_eq_true rfl) dX12_run_10 (fun H locs hH hS => ?_)
  refine lv_if_ne (tgt := 18) hx hb dX12_run_13 (by decide) (fun c6 => ?_) (fun c6 => ?_)
  · have hm := m_ite_f hm c6
    refine lv_aload_n hx hb dX12_run_18 rfl (lv_at hl 0 rfl) ?_
    refine lv_aload_n hx hb dX12_run_19 rfl (lv_at hl 0 rfl) ?_
    refine r_getp X hH (k := 12) (a := a) (j := 18) (b := (a + 6)) (A := 6) (B := 0) hk_a (by decide) rfl m_wi12 (by decide) in_7_33 rfl rfl rfl dX12_run_20 ?_
    refine lv_iconst (v := (0 : Int32)) hx hb dX12_run_23 (by decide) ?_
    obtain ⟨S7, e_S7, hm⟩ := m_cal0_of hm
    refine r_cVv X hH hS (k := 12) (c_X12_save (a := a) (o1 := (a + 6)) (n1 := 2195) hT hk_a (m_lay_at hT hk_a (by decide) (i := 6) rfl) e_S7) mw_X12_save in_8_120 hk_a (by decide) rfl rfl rfl ⟨rfl, rfl⟩ ⟨Nat.le_of_ble_eq_true rfl, Nat.le_of_ble_eq_true rfl⟩ ⟨Nat.zero_le _, Nat.zero_le _⟩ hl.1 (Nat.le_of_ble_eq_true rfl) dX12_run_24 (fun H locs hH hS => ?_)
    refine lv_aload_n hx hb dX12_run_27 rfl (lv_at hl 0 rfl) ?_
    refine lv_aload_n hx hb dX12_run_28 rfl (lv_at hl 0 rfl) ?_
    refine r_getp X hH (k := 12) (a := a) (j := 1) (b := (a + 1)) (A := 1) (B := 0) hk_a (by decide) rfl m_wi12 (by decide) in_7_16 rfl rfl rfl dX12_run_29 ?_
    obtain ⟨S8, e_S8, hm⟩ := m_cal0_of hm
    refine r_cVv X hH hS (k := 12) (c_X12_loads (a := a) (o1 := (a + 1)) (n1 := 940) hT hk_a (m_lay_at hT hk_a (by decide) (i := 1) rfl) e_S8) mw_X12_loads in_8_124 hk_a (by decide) rfl rfl rfl ⟨rfl, rfl⟩ ⟨Nat.le_of_ble_eq_true rfl, Nat.le_of_ble_eq_true rfl⟩ ⟨Nat.zero_le _, Nat.zero_le _⟩ hl.1 (Nat.le_of_ble_eq_true rfl) dX12_run_32 (fun H locs hH hS => ?_)
    refine lv_iconst (v := (0 : Int32)) hx hb dX12_run_35 (by decide) ?_
    refine lv_istore_n (lv' := [(1, .int (0 : Int32)), (0, .ref a)]) hx hb dX12_run_36 rfl hl (by decide) rfl (fun ls hl => ?_)
    exact k_X12_run_37 (a := a) X hr hT hk_a  m_fu S8 (0 : Int32) _ _ _ hH hS (lv_sub hl [1, 0] rfl) hm
  · have hm := m_ite_t hm c6
    refine lv_iconst (v := (-1 : Int32)) hx hb dX12_run_16 (by decide) ?_
    exact r_iret X hr hH hS hm dX12_run_17
def rm_X12_ran : Room := { frames := 1, cells := 0, slots := 0, locals := 22 }
def b_X12_ran_32 (a : Nat)  (S : m_M) (t0 : Int32) : Option (Int32 × m_M) :=
    some (t0, S)
set_option maxHeartbeats 4000000 in
set_option maxRecDepth 100000 in
theorem k_X12_ran_32 {p : Program} {l : Launch} {e : Env} {s : State} {m : MethodId} {args : Array Value} {below : List Frame} {meth : Method} {c : Code} {G : m_G} {nx : Nat} {κ : Nat → Nat} {res : (Int32 × m_M)} {a : Nat} (X : m_Cx p s m args meth c cX12_ran 2 RX12 G) (hr : meth.sig.returnType = (some .int)) (hT : m_Str κ) (hk_a : κ a = 13)  : ∀ (S : m_M) (t0 : Int32) (H : Heap) (locs : List Loc) (ls : Array Slot), m_H G nx κ S H → m_S G s H locs → lv_has ls 2 [] → b_X12_ran_32 a S t0 = some res → W p l e rm_X12_ran s m args below meth c H locs 0 0 (m_Qi below args s G nx κ res) (F0 m 32 ls [.int t0]) := by
  have hx := X.1.1
  have hb := X.1.2.1
  intro S t0 H locs ls hH hS hl hm
  rw [b_X12_ran_32] at hm
  exact r_iret X hr hH hS hm dX12_ran_32
def b_X12_ran_31 (a : Nat)  (S : m_M)  : Option (Int32 × m_M) :=
    b_X12_ran_32 a S (-1 : Int32)
set_option maxHeartbeats 4000000 in
set_option maxRecDepth 100000 in
theorem k_X12_ran_31 {p : Program} {l : Launch} {e : Env} {s : State} {m : MethodId} {args : Array Value} {below : List Frame} {meth : Method} {c : Code} {G : m_G} {nx : Nat} {κ : Nat → Nat} {res : (Int32 × m_M)} {a : Nat} (X : m_Cx p s m args meth c cX12_ran 2 RX12 G) (hr : meth.sig.returnType = (some .int)) (hT : m_Str κ) (hk_a : κ a = 13)  : ∀ (S : m_M)  (H : Heap) (locs : List Loc) (ls : Array Slot), m_H G nx κ S H → m_S G s H locs → lv_has ls 2 [] → b_X12_ran_31 a S  = some res → W p l e rm_X12_ran s m args below meth c H locs 0 0 (m_Qi below args s G nx κ res) (F0 m 31 ls []) := by
  have hx := X.1.1
  have hb := X.1.2.1
  intro S H locs ls hH hS hl hm
  rw [b_X12_ran_31] at hm
  refine lv_iconst (v := (-1 : Int32)) hx hb dX12_ran_31 (by decide) ?_
  exact k_X12_ran_32 (a := a) X hr hT hk_a   S (-1 : Int32) _ _ _ hH hS hl hm
def f_X12_ran (a : Nat) (S : m_M) (i1 : Int32) : Option (Int32 × m_M) :=
    m_let (m_si S a 0 (0 : Int32)) fun S1 =>
    if (m_ri S1 a 44) = 0 then (
    b_X12_ran_31 a S1) else (
    m_call (f_X12_isIn S1 i1 (0 : Int32) (7 : Int32)) fun v4 S3 =>
    if v4 = 0 then (
    b_X12_ran_31 a S3) else (
    (m_ldi S3 (a + 27) 8 i1).bind fun v6 =>
    b_X12_ran_32 a S3 v6))
set_option maxHeartbeats 4000000 in
set_option maxRecDepth 100000 in
theorem c_X12_ran {l : Launch} {G : m_G} {nx : Nat} {κ : Nat → Nat} {a : Nat} {S : m_M} {i1 : Int32} {res : (Int32 × m_M)} (hT : m_Str κ) (hk_a : κ a = 13) (hm : f_X12_ran a S i1 = some res) : m_Ci l yX12_ran cX12_ran 2 (some .int) rm_X12_ran G nx κ [.ref a, .int i1] S res := by
  refine m_Ci.of (by decide) (Nat.le_of_ble_eq_true rfl) ?_
  intro p e s m args below meth c ls X hr hH hl
  have hx := X.1.1
  have hb := X.1.2.1
  have hS : m_S G s s.heap [] := va_S.rf
  have hl : lv_has ls 2 [(0, .ref a), (1, .int i1)] := hl
  rw [f_X12_ran] at hm
  refine lv_aload_n hx hb dX12_ran_0 rfl (lv_at hl 0 rfl) ?_
  refine lv_iconst (v := (0 : Int32)) hx hb dX12_ran_1 (by decide) ?_
  obtain ⟨S1, e_S1, hm⟩ := m_let_of hm
  refine n_puti X hH hS tyX12 (k := 12) (a := a) (j := 0) hk_a (by decide) rfl m_wi12 tyX12_ok nmX12 (by decide) in_7_15 rfl rfl rfl ⟨rfl, rfl⟩ e_S1 dX12_ran_2 (fun H locs hH hS => ?_)
  refine lv_aload_n hx hb dX12_ran_5 rfl (lv_at hl 0 rfl) ?_
  refine r_geti X hH (k := 12) (a := a) (j := 44) hk_a (by decide) rfl m_wi12 (by decide) in_7_59 rfl rfl dX12_ran_6 ?_
  refine lv_if_eq (tgt := 31) hx hb dX12_ran_9 (by decide) (fun c2 => ?_) (fun c2 => ?_)
  · have hm := m_ite_t hm c2
    exact k_X12_ran_31 (a := a) X hr hT hk_a   S1 _ _ _ hH hS (lv_sub hl [] rfl) hm
  · have hm := m_ite_f hm c2
    refine lv_iload_n hx hb dX12_ran_12 rfl (lv_at hl 1 rfl) ?_
    refine lv_iconst (v := (0 : Int32)) hx hb dX12_ran_13 (by decide) ?_
    refine lv_bipush (v := (7 : Int32)) hx hb dX12_ran_14 (by decide) ?_
    obtain ⟨v4, S3, e_S3, hm⟩ := m_call_of hm
    refine n_cSi X hH hS (c_X12_isIn  hT  e_S3) mw_X12_isIn in_8_42 rfl ⟨rfl, rfl⟩ ⟨Nat.le_of_ble_eq_true rfl, Nat.le_of_ble_eq_true rfl⟩ ⟨Nat.zero_le _, Nat.zero_le _⟩ hl.1 (Nat.le_of_ble_eq_true rfl) dX12_ran_16 (fun H locs hH hS => ?_)
    refine lv_if_eq (tgt := 31) hx hb dX12_ran_19 (by decide) (fun c5 => ?_) (fun c5 => ?_)
    · have hm := m_ite_t hm c5
      exact k_X12_ran_31 (a := a) X hr hT hk_a   S3 _ _ _ hH hS (lv_sub hl [] rfl) hm
    · have hm := m_ite_f hm c5
      refine lv_aload_n hx hb dX12_ran_22 rfl (lv_at hl 0 rfl) ?_
      refine r_getp X hH (k := 12) (a := a) (j := 42) (b := (a + 27)) (A := 27) (B := 0) hk_a (by decide) rfl m_wi12 (by decide) in_7_57 rfl rfl rfl dX12_ran_23 ?_
      refine lv_iload_n hx hb dX12_ran_26 rfl (lv_at hl 1 rfl) ?_
      obtain ⟨v6, h_v6, e_v6, hm⟩ := n_ldi hm
      refine n_iald X hH (n := 8) (m_lay_at hT hk_a (by decide) (i := 27) rfl) h_v6 e_v6 dX12_ran_27 ?_
      refine lv_goto (tgt := 32) hx hb dX12_ran_28 (by decide) ?_
      exact k_X12_ran_32 (a := a) X hr hT hk_a   S3 v6 _ _ _ hH hS (lv_sub hl [] rfl) hm
def rm_X12_draw : Room := { frames := 0, cells := 0, slots := 0, locals := 0 }
def f_X12_draw (a : Nat) (S : m_M) (i1 : Int32) : Option (Int32 × m_M) :=
    m_let (m_si S a 45 (((m_ri S a 45) * (1103515245 : Int32)) + (12345 : Int32))) fun S1 =>
    if i1 = 0 then none else
    some ((((m_ri S1 a 45).toUInt32 >>> ((8 : Int32).toUInt32 &&& Int32.toUInt32 31)).toInt32 - ((m_ri S1 a 45).toUInt32 >>> ((8 : Int32).toUInt32 &&& Int32.toUInt32 31)).toInt32 / i1 * i1), S1)
set_option maxHeartbeats 4000000 in
set_option maxRecDepth 100000 in
theorem c_X12_draw {l : Launch} {G : m_G} {nx : Nat} {κ : Nat → Nat} {a : Nat} {S : m_M} {i1 : Int32} {res : (Int32 × m_M)} (hT : m_Str κ) (hk_a : κ a = 13) (hm : f_X12_draw a S i1 = some res) : m_Ci l yX12_draw cX12_draw 2 (some .int) rm_X12_draw G nx κ [.ref a, .int i1] S res := by
  refine m_Ci.of (by decide) (Nat.le_of_ble_eq_true rfl) ?_
  intro p e s m args below meth c ls X hr hH hl
  have hx := X.1.1
  have hb := X.1.2.1
  have hS : m_S G s s.heap [] := va_S.rf
  have hl : lv_has ls 2 [(0, .ref a), (1, .int i1)] := hl
  rw [f_X12_draw] at hm
  refine lv_aload_n hx hb dX12_draw_0 rfl (lv_at hl 0 rfl) ?_
  refine lv_aload_n hx hb dX12_draw_1 rfl (lv_at hl 0 rfl) ?_
  refine r_geti X hH (k := 12) (a := a) (j := 45) hk_a (by decide) rfl m_wi12 (by decide) in_7_60 rfl rfl dX12_draw_2 ?_
  refine lv_ldcw hx hb X.1.2.2.2.1 (m_w X in_9_60) dX12_draw_5 ?_
  refine lv_imul hx hb dX12_draw_8 ?_
  refine lv_sipush (v := (12345 : Int32)) hx hb dX12_draw_9 (by decide) ?_
  refine lv_iadd hx hb dX12_draw_12 ?_
  obtain ⟨S1, e_S1, hm⟩ := m_let_of hm
  refine n_puti X hH hS tyX12 (k := 12) (a := a) (j := 45) hk_a (by decide) rfl m_wi12 tyX12_ok nmX12 (by decide) in_7_60 rfl rfl rfl ⟨rfl, rfl⟩ e_S1 dX12_draw_13 (fun H locs hH hS => ?_)
  refine lv_aload_n hx hb dX12_draw_16 rfl (lv_at hl 0 rfl) ?_
  refine r_geti X hH (k := 12) (a := a) (j := 45) hk_a (by decide) rfl m_wi12 (by decide) in_7_60 rfl rfl dX12_draw_17 ?_
  refine lv_bipush (v := (8 : Int32)) hx hb dX12_draw_20 (by decide) ?_
  refine lv_iushr hx hb dX12_draw_22 rfl ?_
  refine lv_iload_n hx hb dX12_draw_23 rfl (lv_at hl 1 rfl) ?_
  obtain ⟨z2, hm⟩ := m_ifn_of hm
  refine lv_irem hx hb dX12_draw_24 z2 ?_
  exact r_iret X hr hH hS hm dX12_draw_25
def rm_X12_ends : Room := { frames := 7, cells := 0, slots := 0, locals := 165 }
def b_X12_ends_84 (a : Nat)  (S : m_M) (t0 : Int32) : Option (Int32 × m_M) :=
    if t0 = 0 ∨ t0 = 1 then some (t0, S) else none
set_option maxHeartbeats 4000000 in
set_option maxRecDepth 100000 in
theorem k_X12_ends_84 {p : Program} {l : Launch} {e : Env} {s : State} {m : MethodId} {args : Array Value} {below : List Frame} {meth : Method} {c : Code} {G : m_G} {nx : Nat} {κ : Nat → Nat} {res : (Int32 × m_M)} {a : Nat} (X : m_Cx p s m args meth c cX12_ends 3 RX12 G) (hr : meth.sig.returnType = (some .boolean)) (hT : m_Str κ) (hk_a : κ a = 13)  : ∀ (S : m_M) (t0 : Int32) (H : Heap) (locs : List Loc) (ls : Array Slot), m_H G nx κ S H → m_S G s H locs → lv_has ls 3 [] → b_X12_ends_84 a S t0 = some res → W p l e rm_X12_ends s m args below meth c H locs 0 0 (m_Qi below args s G nx κ res) (F0 m 84 ls [.int t0]) := by
  have hx := X.1.1
  have hb := X.1.2.1
  intro S t0 H locs ls hH hS hl hm
  rw [b_X12_ends_84] at hm
  exact r_zret X hr hH hS hm dX12_ends_84
def b_X12_ends_48 (a : Nat)  : Nat → m_M → Option (Int32 × m_M)
  | 0, _ => none
  | n + 1, S =>
    (m_ldi S (a + 2) 2647 (210 : Int32)).bind fun v1 =>
    if v1 = (1 : Int32) then (
    m_cal0 (f_X12_oneStep a S) fun S5 =>
    b_X12_ends_48 a n S5) else (
    (m_ldi S (a + 2) 2647 (210 : Int32)).bind fun v3 =>
    if v3 = (2 : Int32) then (
    b_X12_ends_84 a S (1 : Int32)) else (
    b_X12_ends_84 a S (0 : Int32)))
set_option maxHeartbeats 4000000 in
set_option maxRecDepth 100000 in
theorem k_X12_ends_48 {p : Program} {l : Launch} {e : Env} {s : State} {m : MethodId} {args : Array Value} {below : List Frame} {meth : Method} {c : Code} {G : m_G} {nx : Nat} {κ : Nat → Nat} {res : (Int32 × m_M)} {a : Nat} (X : m_Cx p s m args meth c cX12_ends 3 RX12 G) (hr : meth.sig.returnType = (some .boolean)) (hT : m_Str κ) (hk_a : κ a = 13)  (n : Nat) : ∀ (S : m_M)  (H : Heap) (locs : List Loc) (ls : Array Slot), m_H G nx κ S H → m_S G s H locs → lv_has ls 3 [(0, .ref a)] → b_X12_ends_48 a n S  = some res → W p l e rm_X12_ends s m args below meth c H locs 0 0 (m_Qi below args s G nx κ res) (F0 m 48 ls []) := by
  have hx := X.1.1
  have hb := X.1.2.1
  induction n with
  | zero => intro S H locs ls hH hS hl hm; have hm : (none : Option (Int32 × m_M)) = some res := hm; cases hm
  | succ n ih =>
    intro S H locs ls hH hS hl hm
    rw [b_X12_ends_48] at hm
    refine lv_aload_n hx hb dX12_ends_48 rfl (lv_at hl 0 rfl) ?_
    refine r_getp X hH (k := 12) (a := a) (j := 14) (b := (a + 2)) (A := 2) (B := 0) hk_a (by decide) rfl m_wi12 (by decide) in_7_29 rfl rfl rfl dX12_ends_49 ?_
    refine lv_sipush (v := (210 : Int32)) hx hb dX12_ends_52 (by decide) ?_
    obtain ⟨v1, h_v1, e_v1, hm⟩ := n_ldi hm
    refine n_iald X hH (n := 2647) (m_lay_at hT hk_a (by decide) (i := 2) rfl) h_v1 e_v1 dX12_ends_55 ?_
    refine lv_iconst (v := (1 : Int32)) hx hb dX12_ends_56 (by decide) ?_
    refine lv_icmp_ne (tgt := 67) hx hb dX12_ends_57 (by decide) (fun c2 => ?_) (fun c2 => ?_)
    · have hm := m_ite_f hm c2
      refine lv_aload_n hx hb dX12_ends_67 rfl (lv_at hl 0 rfl) ?_
      refine r_getp X hH (k := 12) (a := a) (j := 14) (b := (a + 2)) (A := 2) (B := 0) hk_a (by decide) rfl m_wi12 (by decide) in_7_29 rfl rfl rfl dX12_ends_68 ?_
      refine lv_sipush (v := (210 : Int32)) hx hb dX12_ends_71 (by decide) ?_
      obtain ⟨v3, h_v3, e_v3, hm⟩ := n_ldi hm
      refine n_iald X hH (n := 2647) (m_lay_at hT hk_a (by decide) (i := 2) rfl) h_v3 e_v3 dX12_ends_74 ?_
      refine lv_iconst (v := (2 : Int32)) hx hb dX12_ends_75 (by decide) ?_
      refine lv_icmp_ne (tgt := 83) hx hb dX12_ends_76 (by decide) (fun c4 => ?_) (fun c4 => ?_)
      · have hm := m_ite_f hm c4
        refine lv_iconst (v := (0 : Int32)) hx hb dX12_ends_83 (by decide) ?_
        exact k_X12_ends_84 (a := a) X hr hT hk_a   S (0 : Int32) _ _ _ hH hS (lv_sub hl [] rfl) hm
      · have hm := m_ite_t hm c4
        refine lv_iconst (v := (1 : Int32)) hx hb dX12_ends_79 (by decide) ?_
        refine lv_goto (tgt := 84) hx hb dX12_ends_80 (by decide) ?_
        exact k_X12_ends_84 (a := a) X hr hT hk_a   S (1 : Int32) _ _ _ hH hS (lv_sub hl [] rfl) hm
    · have hm := m_ite_t hm c2
      refine lv_aload_n hx hb dX12_ends_60 rfl (lv_at hl 0 rfl) ?_
      obtain ⟨S5, e_S5, hm⟩ := m_cal0_of hm
      refine r_cVv X hH hS (k := 12) (c_X12_oneStep (a := a) hT hk_a e_S5) mw_X12_oneStep in_8_148 hk_a (by decide) rfl rfl rfl ⟨rfl, rfl⟩ ⟨Nat.le_of_ble_eq_true rfl, Nat.le_of_ble_eq_true rfl⟩ ⟨Nat.zero_le _, Nat.zero_le _⟩ hl.1 (Nat.le_of_ble_eq_true rfl) dX12_ends_61 (fun H locs hH hS => ?_)
      refine lv_goto (tgt := 48) hx hb dX12_ends_64 (by decide) ?_
      exact ih S5 _ _ _ hH hS hl hm
def b_X12_ends_7 (a : Nat)  : Nat → m_M → Int32 → Option (Int32 × m_M)
  | 0, _, _ => none
  | n + 1, S, l2 =>
    m_call (f_X12_mainFun a S) fun v2 S1 =>
    (m_ldi S1 (a + 2) 2647 ((3 : Int32) + v2)).bind fun v3 =>
    if v3 ≤ l2 then (
    m_cal0 (f_X12_loads a (a + 28) 3 S1) fun S5 =>
    b_X12_ends_48 a m_fu S5) else (
    m_call (f_X12_draw a S1 (10 : Int32)) fun v7 S6 =>
    (m_sti S6 (a + 28) 3 l2 v7).bind fun S8 =>
    m_let (l2 + (1 : Int32)) fun v9 =>
    b_X12_ends_7 a n S8 v9)
set_option maxHeartbeats 4000000 in
set_option maxRecDepth 100000 in
theorem k_X12_ends_7 {p : Program} {l : Launch} {e : Env} {s : State} {m : MethodId} {args : Array Value} {below : List Frame} {meth : Method} {c : Code} {G : m_G} {nx : Nat} {κ : Nat → Nat} {res : (Int32 × m_M)} {a : Nat} (X : m_Cx p s m args meth c cX12_ends 3 RX12 G) (hr : meth.sig.returnType = (some .boolean)) (hT : m_Str κ) (hk_a : κ a = 13)  (n : Nat) : ∀ (S : m_M) (l2 : Int32) (H : Heap) (locs : List Loc) (ls : Array Slot), m_H G nx κ S H → m_S G s H locs → lv_has ls 3 [(0, .ref a), (2, .int l2)] → b_X12_ends_7 a n S l2 = some res → W p l e rm_X12_ends s m args below meth c H locs 0 0 (m_Qi below args s G nx κ res) (F0 m 7 ls []) := by
  have hx := X.1.1
  have hb := X.1.2.1
  induction n with
  | zero => intro S l2 H locs ls hH hS hl hm; have hm : (none : Option (Int32 × m_M)) = some res := hm; cases hm
  | succ n ih =>
    intro S l2 H locs ls hH hS hl hm
    rw [b_X12_ends_7] at hm
    refine lv_iload_n hx hb dX12_ends_7 rfl (lv_at hl 1 rfl) ?_
    refine lv_aload_n hx hb dX12_ends_8 rfl (lv_at hl 0 rfl) ?_
    refine r_getp X hH (k := 12) (a := a) (j := 14) (b := (a + 2)) (A := 2) (B := 0) hk_a (by decide) rfl m_wi12 (by decide) in_7_29 rfl rfl rfl dX12_ends_9 ?_
    refine lv_iconst (v := (3 : Int32)) hx hb dX12_ends_12 (by decide) ?_
    refine lv_aload_n hx hb dX12_ends_13 rfl (lv_at hl 0 rfl) ?_
    obtain ⟨v2, S1, e_S1, hm⟩ := m_call_of hm
    refine n_cVi X hH hS (k := 12) (c_X12_mainFun (a := a) hT hk_a e_S1) mw_X12_mainFun in_8_81 hk_a (by decide) rfl rfl rfl ⟨rfl, rfl⟩ ⟨Nat.le_of_ble_eq_true rfl, Nat.le_of_ble_eq_true rfl⟩ ⟨Nat.zero_le _, Nat.zero_le _⟩ hl.1 (Nat.le_of_ble_eq_true rfl) dX12_ends_14 (fun H locs hH hS => ?_)
    refine lv_iadd hx hb dX12_ends_17 ?_
    obtain ⟨v3, h_v3, e_v3, hm⟩ := n_ldi hm
    refine n_iald X hH (n := 2647) (m_lay_at hT hk_a (by decide) (i := 2) rfl) h_v3 e_v3 dX12_ends_18 ?_
    refine lv_icmp_ge (tgt := 40) hx hb dX12_ends_19 (by decide) (fun c4 => ?_) (fun c4 => ?_)
    · have hm := m_ite_t hm c4
      refine lv_aload_n hx hb dX12_ends_40 rfl (lv_at hl 0 rfl) ?_
      refine lv_aload_n hx hb dX12_ends_41 rfl (lv_at hl 0 rfl) ?_
      refine r_getp X hH (k := 12) (a := a) (j := 43) (b := (a + 28)) (A := 28) (B := 0) hk_a (by decide) rfl m_wi12 (by decide) in_7_58 rfl rfl rfl dX12_ends_42 ?_
      obtain ⟨S5, e_S5, hm⟩ := m_cal0_of hm
      refine r_cVv X hH hS (k := 12) (c_X12_loads (a := a) (o1 := (a + 28)) (n1 := 3) hT hk_a (m_lay_at hT hk_a (by decide) (i := 28) rfl) e_S5) mw_X12_loads in_8_124 hk_a (by decide) rfl rfl rfl ⟨rfl, rfl⟩ ⟨Nat.le_of_ble_eq_true rfl, Nat.le_of_ble_eq_true rfl⟩ ⟨Nat.zero_le _, Nat.zero_le _⟩ hl.1 (Nat.le_of_ble_eq_true rfl) dX12_ends_45 (fun H locs hH hS => ?_)
      exact k_X12_ends_48 (a := a) X hr hT hk_a  m_fu S5 _ _ _ hH hS (lv_sub hl [0] rfl) hm
    · have hm := m_ite_f hm c4
      refine lv_aload_n hx hb dX12_ends_22 rfl (lv_at hl 0 rfl) ?_
      refine r_getp X hH (k := 12) (a := a) (j := 43) (b := (a + 28)) (A := 28) (B := 0) hk_a (by decide) rfl m_wi12 (by decide) in_7_58 rfl rfl rfl dX12_ends_23 ?_
      refine lv_iload_n hx hb dX12_ends_26 rfl (lv_at hl 1 rfl) ?_
      refine lv_aload_n hx hb dX12_ends_27 rfl (lv_at hl 0 rfl) ?_
      refine lv_bipush (v := (10 : Int32)) hx hb dX12_ends_28 (by decide) ?_
      obtain ⟨v7, S6, e_S6, hm⟩ := m_call_of hm
      refine n_cVi X hH hS (k := 12) (c_X12_draw (a := a) hT hk_a e_S6) mw_X12_draw in_9_56 hk_a (by decide) rfl rfl rfl ⟨rfl, rfl⟩ ⟨Nat.le_of_ble_eq_true rfl, Nat.le_of_ble_eq_true rfl⟩ ⟨Nat.zero_le _, Nat.zero_le _⟩ hl.1 (Nat.le_of_ble_eq_true rfl) dX12_ends_30 (fun H locs hH hS => ?_)
      obtain ⟨S8, h_S8, e_S8, hm⟩ := n_sti hm
      refine n_iast X hH hS (n := 3) (m_lay_at hT hk_a (by decide) (i := 28) rfl) h_S8 e_S8 dX12_ends_33 (fun H locs hH hS => ?_)
      obtain ⟨v9, e_v9, hm⟩ := m_let_of hm
      refine lv_iinc (v := v9) (lv' := [(2, .int v9), (0, .ref a)]) hx hb dX12_ends_34 hl (k := 1) rfl (by rw [← e_v9]; rfl) (by decide) rfl (fun ls hl => ?_)
      refine lv_goto (tgt := 7) hx hb dX12_ends_37 (by decide) ?_
      exact ih S8 v9 _ _ _ hH hS (lv_sub hl [1, 0] rfl) hm
def f_X12_ends (a : Nat) (S : m_M) (i1 : Int32) : Option (Int32 × m_M) :=
    m_let (m_si S a 45 i1) fun S1 =>
    b_X12_ends_7 a m_fu S1 (0 : Int32)
set_option maxHeartbeats 4000000 in
set_option maxRecDepth 100000 in
theorem c_X12_ends {l : Launch} {G : m_G} {nx : Nat} {κ : Nat → Nat} {a : Nat} {S : m_M} {i1 : Int32} {res : (Int32 × m_M)} (hT : m_Str κ) (hk_a : κ a = 13) (hm : f_X12_ends a S i1 = some res) : m_Ci l yX12_ends cX12_ends 3 (some .boolean) rm_X12_ends G nx κ [.ref a, .int i1] S res := by
  refine m_Ci.of (by decide) (Nat.le_of_ble_eq_true rfl) ?_
  intro p e s m args below meth c ls X hr hH hl
  have hx := X.1.1
  have hb := X.1.2.1
  have hS : m_S G s s.heap [] := va_S.rf
  have hl : lv_has ls 3 [(0, .ref a), (1, .int i1)] := hl
  rw [f_X12_ends] at hm
  refine lv_aload_n hx hb dX12_ends_0 rfl (lv_at hl 0 rfl) ?_
  refine lv_iload_n hx hb dX12_ends_1 rfl (lv_at hl 1 rfl) ?_
  obtain ⟨S1, e_S1, hm⟩ := m_let_of hm
  refine n_puti X hH hS tyX12 (k := 12) (a := a) (j := 45) hk_a (by decide) rfl m_wi12 tyX12_ok nmX12 (by decide) in_7_60 rfl rfl rfl ⟨rfl, rfl⟩ e_S1 dX12_ends_2 (fun H locs hH hS => ?_)
  refine lv_iconst (v := (0 : Int32)) hx hb dX12_ends_5 (by decide) ?_
  refine lv_istore_n (lv' := [(2, .int (0 : Int32)), (0, .ref a), (1, .int i1)]) hx hb dX12_ends_6 rfl hl (by decide) rfl (fun ls hl => ?_)
  exact k_X12_ends_7 (a := a) X hr hT hk_a  m_fu S1 (0 : Int32) _ _ _ hH hS (lv_sub hl [1, 0] rfl) hm
def rm_X12_odds : Room := { frames := 8, cells := 0, slots := 0, locals := 187 }
def b_X12_odds_24 (a : Nat)  (S : m_M)  : Option (Int32 × m_M) :=
    some ((-1 : Int32), S)
set_option maxHeartbeats 4000000 in
set_option maxRecDepth 100000 in
theorem k_X12_odds_24 {p : Program} {l : Launch} {e : Env} {s : State} {m : MethodId} {args : Array Value} {below : List Frame} {meth : Method} {c : Code} {G : m_G} {nx : Nat} {κ : Nat → Nat} {res : (Int32 × m_M)} {a : Nat} (X : m_Cx p s m args meth c cX12_odds 5 RX12 G) (hr : meth.sig.returnType = (some .int)) (hT : m_Str κ) (hk_a : κ a = 13)  : ∀ (S : m_M)  (H : Heap) (locs : List Loc) (ls : Array Slot), m_H G nx κ S H → m_S G s H locs → lv_has ls 5 [] → b_X12_odds_24 a S  = some res → W p l e rm_X12_odds s m args below meth c H locs 0 0 (m_Qi below args s G nx κ res) (F0 m 24 ls []) := by
  have hx := X.1.1
  have hb := X.1.2.1
  intro S H locs ls hH hS hl hm
  rw [b_X12_odds_24] at hm
  refine lv_iconst (v := (-1 : Int32)) hx hb dX12_odds_24 (by decide) ?_
  exact r_iret X hr hH hS hm dX12_odds_25
def b_X12_odds_60 (a : Nat) (K_40 : m_M → Int32 → Int32 → Int32 → Int32 → Option (Int32 × m_M)) (S : m_M) (l1 : Int32) (l2 : Int32) (l3 : Int32) (l4 : Int32) : Option (Int32 × m_M) :=
    m_let (l4 + (1 : Int32)) fun v1 =>
    K_40 S l1 l2 l3 v1
set_option maxHeartbeats 4000000 in
set_option maxRecDepth 100000 in
theorem k_X12_odds_60 {p : Program} {l : Launch} {e : Env} {s : State} {m : MethodId} {args : Array Value} {below : List Frame} {meth : Method} {c : Code} {G : m_G} {nx : Nat} {κ : Nat → Nat} {res : (Int32 × m_M)} {a : Nat} (X : m_Cx p s m args meth c cX12_odds 5 RX12 G) (hr : meth.sig.returnType = (some .int)) (hT : m_Str κ) (hk_a : κ a = 13) (K_40 : m_M → Int32 → Int32 → Int32 → Int32 → Option (Int32 × m_M)) (hK_40 : ∀ (S : m_M) (l1 : Int32) (l2 : Int32) (l3 : Int32) (l4 : Int32) (H : Heap) (locs : List Loc) (ls : Array Slot), m_H G nx κ S H → m_S G s H locs → lv_has ls 5 [(0, .ref a), (1, .int l1), (2, .int l2), (3, .int l3), (4, .int l4)] → K_40 S l1 l2 l3 l4 = some res → W p l e rm_X12_odds s m args below meth c H locs 0 0 (m_Qi below args s G nx κ res) (F0 m 40 ls [])) : ∀ (S : m_M) (l1 : Int32) (l2 : Int32) (l3 : Int32) (l4 : Int32) (H : Heap) (locs : List Loc) (ls : Array Slot), m_H G nx κ S H → m_S G s H locs → lv_has ls 5 [(0, .ref a), (1, .int l1), (2, .int l2), (3, .int l3), (4, .int l4)] → b_X12_odds_60 a K_40 S l1 l2 l3 l4 = some res → W p l e rm_X12_odds s m args below meth c H locs 0 0 (m_Qi below args s G nx κ res) (F0 m 60 ls []) := by
  have hx := X.1.1
  have hb := X.1.2.1
  intro S l1 l2 l3 l4 H locs ls hH hS hl hm
  rw [b_X12_odds_60] at hm
  obtain ⟨v1, e_v1, hm⟩ := m_let_of hm
  refine lv_iinc (v := v1) (lv' := [(4, .int v1), (0, .ref a), (1, .int l1), (2, .int l2), (3, .int l3)]) hx hb dX12_odds_60 hl (k := 4) rfl (by rw [← e_v1]; rfl) (by decide) rfl (fun ls hl => ?_)
  refine lv_goto (tgt := 40) hx hb dX12_odds_63 (by decide) ?_
  exact hK_40 S l1 l2 l3 v1 _ _ _ hH hS (lv_sub hl [1, 2, 3, 4, 0] rfl) hm
def b_X12_odds_40 (a : Nat)  : Nat → m_M → Int32 → Int32 → Int32 → Int32 → Option (Int32 × m_M)
  | 0, _, _, _, _, _ => none
  | n + 1, S, l1, l2, l3, l4 =>
    if l1 ≤ l4 then (
    m_cal0 (f_X12_comeBack a (a + 6) 2195 S (0 : Int32)) fun S2 =>
    some (l3, S2)) else (
    m_call (f_X12_ends a S (l2 + l4)) fun v4 S3 =>
    if v4 = 0 then (
    b_X12_odds_60 a (b_X12_odds_40 a n) S3 l1 l2 l3 l4) else (
    m_let (l3 + (1 : Int32)) fun v6 =>
    b_X12_odds_60 a (b_X12_odds_40 a n) S3 l1 l2 v6 l4))
set_option maxHeartbeats 4000000 in
set_option maxRecDepth 100000 in
theorem k_X12_odds_40 {p : Program} {l : Launch} {e : Env} {s : State} {m : MethodId} {args : Array Value} {below : List Frame} {meth : Method} {c : Code} {G : m_G} {nx : Nat} {κ : Nat → Nat} {res : (Int32 × m_M)} {a : Nat} (X : m_Cx p s m args meth c cX12_odds 5 RX12 G) (hr : meth.sig.returnType = (some .int)) (hT : m_Str κ) (hk_a : κ a = 13)  (n : Nat) : ∀ (S : m_M) (l1 : Int32) (l2 : Int32) (l3 : Int32) (l4 : Int32) (H : Heap) (locs : List Loc) (ls : Array Slot), m_H G nx κ S H → m_S G s H locs → lv_has ls 5 [(0, .ref a), (1, .int l1), (2, .int l2), (3, .int l3), (4, .int l4)] → b_X12_odds_40 a n S l1 l2 l3 l4 = some res → W p l e rm_X12_odds s m args below meth c H locs 0 0 (m_Qi below args s G nx κ res) (F0 m 40 ls []) := by
  have hx := X.1.1
  have hb := X.1.2.1
  induction n with
  | zero => intro S l1 l2 l3 l4 H locs ls hH hS hl hm; have hm : (none : Option (Int32 × m_M)) = some res := hm; cases hm
  | succ n ih =>
    intro S l1 l2 l3 l4 H locs ls hH hS hl hm
    rw [b_X12_odds_40] at hm
    refine lv_iload hx hb dX12_odds_40 (lv_at hl 4 rfl) ?_
    refine lv_iload_n hx hb dX12_odds_42 rfl (lv_at hl 1 rfl) ?_
    refine lv_icmp_ge (tgt := 66) hx hb dX12_odds_43 (by decide) (fun c1 => ?_) (fun c1 => ?_)
    · have hm := m_ite_t hm c1
      refine lv_aload_n hx hb dX12_odds_66 rfl (lv_at hl 0 rfl) ?_
      refine lv_aload_n hx hb dX12_odds_67 rfl (lv_at hl 0 rfl) ?_
      refine r_getp X hH (k := 12) (a := a) (j := 18) (b := (a + 6)) (A := 6) (B := 0) hk_a (by decide) rfl m_wi12 (by decide) in_7_33 rfl rfl rfl dX12_odds_68 ?_
      refine lv_iconst (v := (0 : Int32)) hx hb dX12_odds_71 (by decide) ?_
      obtain ⟨S2, e_S2, hm⟩ := m_cal0_of hm
      refine r_cVv X hH hS (k := 12) (c_X12_comeBack (a := a) (o1 := (a + 6)) (n1 := 2195) hT hk_a (m_lay_at hT hk_a (by decide) (i := 6) rfl) e_S2) mw_X12_comeBack in_8_104 hk_a (by decide) rfl rfl rfl ⟨rfl, rfl⟩ ⟨Nat.le_of_ble_eq_true rfl, Nat.le_of_ble_eq_true rfl⟩ ⟨Nat.zero_le _, Nat.zero_le _⟩ hl.1 (Nat.le_of_ble_eq_true rfl) dX12_odds_72 (fun H locs hH hS => ?_)
      refine lv_iload_n hx hb dX12_odds_75 rfl (lv_at hl 3 rfl) ?_
      exact r_iret X hr hH hS hm dX12_odds_76
    · have hm := m_ite_f hm c1
      refine lv_aload_n hx hb dX12_odds_46 rfl (lv_at hl 0 rfl) ?_
      refine lv_iload_n hx hb dX12_odds_47 rfl (lv_at hl 2 rfl) ?_
      refine lv_iload hx hb dX12_odds_48 (lv_at hl 4 rfl) ?_
      refine lv_iadd hx hb dX12_odds_50 ?_
      obtain ⟨v4, S3, e_S3, hm⟩ := m_call_of hm
      refine n_cVi X hH hS (k := 12) (c_X12_ends (a := a) hT hk_a e_S3) mw_X12_ends in_9_52 hk_a (by decide) rfl rfl rfl ⟨rfl, rfl⟩ ⟨Nat.le_of_ble_eq_true rfl, Nat.le_of_ble_eq_true rfl⟩ ⟨Nat.zero_le _, Nat.zero_le _⟩ hl.1 (Nat.le_of_ble_eq_true rfl) dX12_odds_51 (fun H locs hH hS => ?_)
      refine lv_if_eq (tgt := 60) hx hb dX12_odds_54 (by decide) (fun c5 => ?_) (fun c5 => ?_)
      · have hm := m_ite_t hm c5
        exact k_X12_odds_60 (a := a) X hr hT hk_a (b_X12_odds_40 a n) ih  S3 l1 l2 l3 l4 _ _ _ hH hS hl hm
      · have hm := m_ite_f hm c5
        obtain ⟨v6, e_v6, hm⟩ := m_let_of hm
        refine lv_iinc (v := v6) (lv' := [(3, .int v6), (0, .ref a), (1, .int l1), (2, .int l2), (4, .int l4)]) hx hb dX12_odds_57 hl (k := 3) rfl (by rw [← e_v6]; rfl) (by decide) rfl (fun ls hl => ?_)
        exact k_X12_odds_60 (a := a) X hr hT hk_a (b_X12_odds_40 a n) ih  S3 l1 l2 v6 l4 _ _ _ hH hS (lv_sub hl [1, 2, 3, 0, 4] rfl) hm
def f_X12_odds (a : Nat) (S : m_M) (i1 : Int32) (i2 : Int32) : Option (Int32 × m_M) :=
    m_let (m_si S a 0 (0 : Int32)) fun S1 =>
    (m_ldi S1 (a + 2) 2647 (0 : Int32)).bind fun v2 =>
    if v2 = 0 then (
    b_X12_odds_24 a S1) else (
    m_call (f_X12_isIn S1 i1 (1 : Int32) (20 : Int32)) fun v5 S4 =>
    if v5 = 0 then (
    b_X12_odds_24 a S4) else (
    m_cal0 (f_X12_save a (a + 6) 2195 S4 (0 : Int32)) fun S7 =>
    b_X12_odds_40 a m_fu S7 i1 i2 (0 : Int32) (0 : Int32)))
set_option maxHeartbeats 4000000 in
set_option maxRecDepth 100000 in
theorem c_X12_odds {l : Launch} {G : m_G} {nx : Nat} {κ : Nat → Nat} {a : Nat} {S : m_M} {i1 : Int32} {i2 : Int32} {res : (Int32 × m_M)} (hT : m_Str κ) (hk_a : κ a = 13) (hm : f_X12_odds a S i1 i2 = some res) : m_Ci l yX12_odds cX12_odds 5 (some .int) rm_X12_odds G nx κ [.ref a, .int i1, .int i2] S res := by
  refine m_Ci.of (by decide) (Nat.le_of_ble_eq_true rfl) ?_
  intro p e s m args below meth c ls X hr hH hl
  have hx := X.1.1
  have hb := X.1.2.1
  have hS : m_S G s s.heap [] := va_S.rf
  have hl : lv_has ls 5 [(0, .ref a), (1, .int i1), (2, .int i2)] := hl
  rw [f_X12_odds] at hm
  refine lv_aload_n hx hb dX12_odds_0 rfl (lv_at hl 0 rfl) ?_
  refine lv_iconst (v := (0 : Int32)) hx hb dX12_odds_1 (by decide) ?_
  obtain ⟨S1, e_S1, hm⟩ := m_let_of hm
  refine n_puti X hH hS tyX12 (k := 12) (a := a) (j := 0) hk_a (by decide) rfl m_wi12 tyX12_ok nmX12 (by decide) in_7_15 rfl rfl rfl ⟨rfl, rfl⟩ e_S1 dX12_odds_2 (fun H locs hH hS => ?_)
  refine lv_aload_n hx hb dX12_odds_5 rfl (lv_at hl 0 rfl) ?_
  refine r_getp X hH (k := 12) (a := a) (j := 14) (b := (a + 2)) (A := 2) (B := 0) hk_a (by decide) rfl m_wi12 (by decide) in_7_29 rfl rfl rfl dX12_odds_6 ?_
  refine lv_iconst (v := (0 : Int32)) hx hb dX12_odds_9 (by decide) ?_
  obtain ⟨v2, h_v2, e_v2, hm⟩ := n_ldi hm
  refine n_iald X hH (n := 2647) (m_lay_at hT hk_a (by decide) (i := 2) rfl) h_v2 e_v2 dX12_odds_10 ?_
  refine lv_if_eq (tgt := 24) hx hb dX12_odds_11 (by decide) (fun c3 => ?_) (fun c3 => ?_)
  · have hm := m_ite_t hm c3
    exact k_X12_odds_24 (a := a) X hr hT hk_a   S1 _ _ _ hH hS (lv_sub hl [] rfl) hm
  · have hm := m_ite_f hm c3
    refine lv_iload_n hx hb dX12_odds_14 rfl (lv_at hl 1 rfl) ?_
    refine lv_iconst (v := (1 : Int32)) hx hb dX12_odds_15 (by decide) ?_
    refine lv_bipush (v := (20 : Int32)) hx hb dX12_odds_16 (by decide) ?_
    obtain ⟨v5, S4, e_S4, hm⟩ := m_call_of hm
    refine n_cSi X hH hS (c_X12_isIn  hT  e_S4) mw_X12_isIn in_8_42 rfl ⟨rfl, rfl⟩ ⟨Nat.le_of_ble_eq_true rfl, Nat.le_of_ble_eq_true rfl⟩ ⟨Nat.zero_le _, Nat.zero_le _⟩ hl.1 (Nat.le_of_ble_eq_true rfl) dX12_odds_18 (fun H locs hH hS => ?_)
    refine lv_if_ne (tgt := 26) hx hb dX12_odds_21 (by decide) (fun c6 => ?_) (fun c6 => ?_)
    · have hm := m_ite_f hm c6
      refine lv_aload_n hx hb dX12_odds_26 rfl (lv_at hl 0 rfl) ?_
      refine lv_aload_n hx hb dX12_odds_27 rfl (lv_at hl 0 rfl) ?_
      refine r_getp X hH (k := 12) (a := a) (j := 18) (b := (a + 6)) (A := 6) (B := 0) hk_a (by decide) rfl m_wi12 (by decide) in_7_33 rfl rfl rfl dX12_odds_28 ?_
      refine lv_iconst (v := (0 : Int32)) hx hb dX12_odds_31 (by decide) ?_
      obtain ⟨S7, e_S7, hm⟩ := m_cal0_of hm
      refine r_cVv X hH hS (k := 12) (c_X12_save (a := a) (o1 := (a + 6)) (n1 := 2195) hT hk_a (m_lay_at hT hk_a (by decide) (i := 6) rfl) e_S7) mw_X12_save in_8_120 hk_a (by decide) rfl rfl rfl ⟨rfl, rfl⟩ ⟨Nat.le_of_ble_eq_true rfl, Nat.le_of_ble_eq_true rfl⟩ ⟨Nat.zero_le _, Nat.zero_le _⟩ hl.1 (Nat.le_of_ble_eq_true rfl) dX12_odds_32 (fun H locs hH hS => ?_)
      refine lv_iconst (v := (0 : Int32)) hx hb dX12_odds_35 (by decide) ?_
      refine lv_istore_n (lv' := [(3, .int (0 : Int32)), (0, .ref a), (1, .int i1), (2, .int i2)]) hx hb dX12_odds_36 rfl hl (by decide) rfl (fun ls hl => ?_)
      refine lv_iconst (v := (0 : Int32)) hx hb dX12_odds_37 (by decide) ?_
      refine lv_istore (lv' := [(4, .int (0 : Int32)), (3, .int (0 : Int32)), (0, .ref a), (1, .int i1), (2, .int i2)]) hx hb dX12_odds_38 hl (by decide) rfl (fun ls hl => ?_)
      exact k_X12_odds_40 (a := a) X hr hT hk_a  m_fu S7 i1 i2 (0 : Int32) (0 : Int32) _ _ _ hH hS (lv_sub hl [2, 3, 4, 1, 0] rfl) hm
    · have hm := m_ite_t hm c6
      exact k_X12_odds_24 (a := a) X hr hT hk_a   S4 _ _ _ hH hS (lv_sub hl [] rfl) hm
