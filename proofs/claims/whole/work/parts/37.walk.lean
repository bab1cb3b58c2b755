def rm_X12_finiteMany : Room := { frames := 3, cells := 0, slots := 0, locals := 65 }
def b_X12_finiteMany_25 (a : Nat) (K_4 : m_M → Int32 → Int32 → Option (Int32 × m_M)) (S : m_M) (l1 : Int32) (l2 : Int32) : Option (Int32 × m_M) :=
    m_let (l2 + (1 : Int32)) fun v1 =>
    K_4 S l1 v1
set_option maxHeartbeats 4000000 in
set_option maxRecDepth 100000 in
theorem k_X12_finiteMany_25 {p : Program} {l : Launch} {e : Env} {s : State} {m : MethodId} {args : Array Value} {below : List Frame} {meth : Method} {c : Code} {G : m_G} {nx : Nat} {κ : Nat → Nat} {res : (Int32 × m_M)} {a : Nat} (X : m_Cx p s m args meth c cX12_finiteMany 3 RX12 G) (hr : meth.sig.returnType = (some .int)) (hT : m_Str κ) (hk_a : κ a = 13) (K_4 : m_M → Int32 → Int32 → Option (Int32 × m_M)) (hK_4 : ∀ (S : m_M) (l1 : Int32) (l2 : Int32) (H : Heap) (locs : List Loc) (ls : Array Slot), m_H G nx κ S H → m_S G s H locs → lv_has ls 3 [(0, .ref a), (1, .int l1), (2, .int l2)] → K_4 S l1 l2 = some res → W p l e rm_X12_finiteMany s m args below meth c H locs 0 0 (m_Qi below args s G nx κ res) (F0 m 4 ls [])) : ∀ (S : m_M) (l1 : Int32) (l2 : Int32) (H : Heap) (locs : List Loc) (ls : Array Slot), m_H G nx κ S H → m_S G s H locs → lv_has ls 3 [(0, .ref a), (1, .int l1), (2, .int l2)] → b_X12_finiteMany_25 a K_4 S l1 l2 = some res → W p l e rm_X12_finiteMany s m args below meth c H locs 0 0 (m_Qi below args s G nx κ res) (F0 m 25 ls []) := by
  have hx := X.1.1
  have hb := X.1.2.1
  intro S l1 l2 H locs ls hH hS hl hm
  rw [b_X12_finiteMany_25] at hm
  obtain ⟨v1, e_v1, hm⟩ := m_let_of hm
  refine lv_iinc (v := v1) (lv' := [(2, .int v1), (0, .ref a), (1, .int l1)]) hx hb dX12_finiteMany_25 hl (k := 2) rfl (by rw [← e_v1]; rfl) (by decide) rfl (fun ls hl => ?_)
  refine lv_goto (tgt := 4) hx hb dX12_finiteMany_28 (by decide) ?_
  exact hK_4 S l1 v1 _ _ _ hH hS (lv_sub hl [1, 2, 0] rfl) hm
def b_X12_finiteMany_4 (a : Nat)  : Nat → m_M → Int32 → Int32 → Option (Int32 × m_M)
  | 0, _, _, _ => none
  | n + 1, S, l1, l2 =>
    (m_ldi S (a + 2) 2647 (2 : Int32)).bind fun v1 =>
    if v1 ≤ l2 then (
    some (l1, S)) else (
    m_call (f_X12_isFinite a S l2) fun v4 S3 =>
    if v4 = 0 then (
    b_X12_finiteMany_25 a (b_X12_finiteMany_4 a n) S3 l1 l2) else (
    m_let (l1 + (1 : Int32)) fun v6 =>
    b_X12_finiteMany_25 a (b_X12_finiteMany_4 a n) S3 v6 l2))
set_option maxHeartbeats 4000000 in
set_option maxRecDepth 100000 in
theorem k_X12_finiteMany_4 {p : Program} {l : Launch} {e : Env} {s : State} {m : MethodId} {args : Array Value} {below : List Frame} {meth : Method} {c : Code} {G : m_G} {nx : Nat} {κ : Nat → Nat} {res : (Int32 × m_M)} {a : Nat} (X : m_Cx p s m args meth c cX12_finiteMany 3 RX12 G) (hr : meth.sig.returnType = (some .int)) (hT : m_Str κ) (hk_a : κ a = 13)  (n : Nat) : ∀ (S : m_M) (l1 : Int32) (l2 : Int32) (H : Heap) (locs : List Loc) (ls : Array Slot), m_H G nx κ S H → m_S G s H locs → lv_has ls 3 [(0, .ref a), (1, .int l1), (2, .int l2)] → b_X12_finiteMany_4 a n S l1 l2 = some res → W p l e rm_X12_finiteMany s m args below meth c H locs 0 0 (m_Qi below args s G nx κ res) (F0 m 4 ls []) := by
  have hx := X.1.1
  have hb := X.1.2.1
  induction n with
  | zero => intro S l1 l2 H locs ls hH hS hl hm; have hm : (none : Option (Int32 × m_M)) = some res := hm; cases hm
  | succ n ih =>
    intro S l1 l2 H locs ls hH hS hl hm
    rw [b_X12_finiteMany_4] at hm
    refine lv_iload_n hx hb dX12_finiteMany_4 rfl (lv_at hl 2 rfl) ?_
    refine lv_aload_n hx hb dX12_finiteMany_5 rfl (lv_at hl 0 rfl) ?_
    refine r_getp X hH (k := 12) (a := a) (j := 14) (b := (a + 2)) (A := 2) (B := 0) hk_a (by decide) rfl m_wi12 (by decide) in_7_29 rfl rfl rfl dX12_finiteMany_6 ?_
    refine lv_iconst (v := (2 : Int32)) hx hb dX12_finiteMany_9 (by decide) ?_
    obtain ⟨v1, h_v1, e_v1, hm⟩ := n_ldi hm
    refine n_iald X hH (n := 2647) (m_lay_at hT hk_a (by decide) (i := 2) rfl) h_v1 e_v1 dX12_finiteMany_10 ?_
    refine lv_icmp_ge (tgt := 31) hx hb dX12_finiteMany_11 (by decide) (fun c2 => ?_) (fun c2 => ?_)
    · have hm := m_ite_t hm c2
      refine lv_iload_n hx hb dX12_finiteMany_31 rfl (lv_at hl 1 rfl) ?_
      exact r_iret X hr hH hS hm dX12_finiteMany_32
    · have hm := m_ite_f hm c2
      refine lv_aload_n hx hb dX12_finiteMany_14 rfl (lv_at hl 0 rfl) ?_
      refine lv_iload_n hx hb dX12_finiteMany_15 rfl (lv_at hl 2 rfl) ?_
      obtain ⟨v4, S3, e_S3, hm⟩ := m_call_of hm
      refine n_cVi X hH hS (k := 12) (c_X12_isFinite (a := a) hT hk_a e_S3) mw_X12_isFinite in_8_73 hk_a (by decide) rfl rfl rfl ⟨rfl, rfl⟩ ⟨Nat.le_of_ble_eq_true rfl, Nat.le_of_ble_eq_true rfl⟩ ⟨Nat.zero_le _, Nat.zero_le _⟩ hl.1 (Nat.le_of_ble_eq_true rfl) dX12_finiteMany_16 (fun H locs hH hS => ?_)
      refine lv_if_eq (tgt := 25) hx hb dX12_finiteMany_19 (by decide) (fun c5 => ?_) (fun c5 => ?_)
      · have hm := m_ite_t hm c5
        exact k_X12_finiteMany_25 (a := a) X hr hT hk_a (b_X12_finiteMany_4 a n) ih  S3 l1 l2 _ _ _ hH hS hl hm
      · have hm := m_ite_f hm c5
        obtain ⟨v6, e_v6, hm⟩ := m_let_of hm
        refine lv_iinc (v := v6) (lv' := [(1, .int v6), (0, .ref a), (2, .int l2)]) hx hb dX12_finiteMany_22 hl (k := 1) rfl (by rw [← e_v6]; rfl) (by decide) rfl (fun ls hl => ?_)
        exact k_X12_finiteMany_25 (a := a) X hr hT hk_a (b_X12_finiteMany_4 a n) ih  S3 v6 l2 _ _ _ hH hS (lv_sub hl [1, 0, 2] rfl) hm
def f_X12_finiteMany (a : Nat) (S : m_M)  : Option (Int32 × m_M) :=
    b_X12_finiteMany_4 a m_fu S (0 : Int32) (0 : Int32)
set_option maxHeartbeats 4000000 in
set_option maxRecDepth 100000 in
theorem c_X12_finiteMany {l : Launch} {G : m_G} {nx : Nat} {κ : Nat → Nat} {a : Nat} {S : m_M}  {res : (Int32 × m_M)} (hT : m_Str κ) (hk_a : κ a = 13) (hm : f_X12_finiteMany a S = some res) : m_Ci l yX12_finiteMany cX12_finiteMany 3 (some .int) rm_X12_finiteMany G nx κ [.ref a] S res := by
  refine m_Ci.of (by decide) (Nat.le_of_ble_eq_true rfl) ?_
  intro p e s m args below meth c ls X hr hH hl
  have hx := X.1.1
  have hb := X.1.2.1
  have hS : m_S G s s.heap [] := va_S.rf
  have hl : lv_has ls 3 [(0, .ref a)] := hl
  rw [f_X12_finiteMany] at hm
  refine lv_iconst (v := (0 : Int32)) hx hb dX12_finiteMany_0 (by decide) ?_
  refine lv_istore_n (lv' := [(1, .int (0 : Int32)), (0, .ref a)]) hx hb dX12_finiteMany_1 rfl hl (by decide) rfl (fun ls hl => ?_)
  refine lv_iconst (v := (0 : Int32)) hx hb dX12_finiteMany_2 (by decide) ?_
  refine lv_istore_n (lv' := [(2, .int (0 : Int32)), (1, .int (0 : Int32)), (0, .ref a)]) hx hb dX12_finiteMany_3 rfl hl (by decide) rfl (fun ls hl => ?_)
  exact k_X12_finiteMany_4 (a := a) X hr hT hk_a  m_fu S (0 : Int32) (0 : Int32) _ _ _ hH hS (lv_sub hl [2, 1, 0] rfl) hm
def rm_X12_readFunName : Room := { frames := 3, cells := 0, slots := 0, locals := 68 }
def f_X12_readFunName (a : Nat) (S : m_M)  : Option (Int32 × m_M) :=
    m_call (f_X12_isName a S) fun v2 S1 =>
    if v2 = 0 then (
    m_call (f_X12_bad a S1 (1 : Int32)) fun v13 S12 =>
    if v13 = 0 ∨ v13 = 1 then some (v13, S12) else none) else (
    (m_ldi S1 (a + 2) 2647 (0 : Int32)).bind fun v4 =>
    m_call (f_X12_findIn (a + 7) 5 S1 (0 : Int32) v4 (m_rj S1 a 12)) fun v6 S5 =>
    m_let (m_si S5 a 13 v6) fun S7 =>
    if (m_ri S7 a 13) = (-1 : Int32) then (
    m_call (f_X12_bad a S7 (3 : Int32)) fun v11 S10 =>
    if v11 = 0 ∨ v11 = 1 then some (v11, S10) else none) else (
    m_cal0 (f_X12_go a S7) fun S9 =>
    if (1 : Int32) = 0 ∨ (1 : Int32) = 1 then some ((1 : Int32), S9) else none))
set_option maxHeartbeats 4000000 in
set_option maxRecDepth 100000 in
theorem c_X12_readFunName {l : Launch} {G : m_G} {nx : Nat} {κ : Nat → Nat} {a : Nat} {S : m_M}  {res : (Int32 × m_M)} (hT : m_Str κ) (hk_a : κ a = 13) (hm : f_X12_readFunName a S = some res) : m_Ci l yX12_readFunName cX12_readFunName 1 (some .boolean) rm_X12_readFunName G nx κ [.ref a] S res := by
  refine m_Ci.of (by decide) (Nat.le_of_ble_eq_true rfl) ?_
  intro p e s m args below meth c ls X hr hH hl
  have hx := X.1.1
  have hb := X.1.2.1
  have hS : m_S G s s.heap [] := va_S.rf
  have hl : lv_has ls 1 [(0, .ref a)] := hl
  rw [f_X12_readFunName] at hm
  refine lv_aload_n hx hb dX12_readFunName_0 rfl (lv_at hl 0 rfl) ?_
  obtain ⟨v2, S1, e_S1, hm⟩ := m_call_of hm
  refine n_cVi X hH hS (k := 12) (c_X12_isName (a := a) hT hk_a e_S1) mw_X12_isName in_7_223 hk_a (by decide) rfl rfl rfl ⟨rfl, rfl⟩ ⟨Nat.le_of_ble_eq_true rfl, Nat.le_of_ble_eq_true rfl⟩ ⟨Nat.zero_le _, Nat.zero_le _⟩ hl.1 (Nat.le_of_ble_eq_true rfl) dX12_readFunName_1 (fun H locs hH hS => ?_)
  refine lv_if_ne (tgt := 13) hx hb dX12_readFunName_4 (by decide) (fun c3 => ?_) (fun c3 => ?_)
  · have hm := m_ite_f hm c3
    refine lv_aload_n hx hb dX12_readFunName_13 rfl (lv_at hl 0 rfl) ?_
    refine lv_aload_n hx hb dX12_readFunName_14 rfl (lv_at hl 0 rfl) ?_
    refine r_getp X hH (k := 12) (a := a) (j := 19) (b := (a + 7)) (A := 7) (B := 0) hk_a (by decide) rfl m_wi12 (by decide) in_7_34 rfl rfl rfl dX12_readFunName_15 ?_
    refine lv_iconst (v := (0 : Int32)) hx hb dX12_readFunName_18 (by decide) ?_
    refine lv_aload_n hx hb dX12_readFunName_19 rfl (lv_at hl 0 rfl) ?_
    refine r_getp X hH (k := 12) (a := a) (j := 14) (b := (a + 2)) (A := 2) (B := 0) hk_a (by decide) rfl m_wi12 (by decide) in_7_29 rfl rfl rfl dX12_readFunName_20 ?_
    refine lv_iconst (v := (0 : Int32)) hx hb dX12_readFunName_23 (by decide) ?_
    obtain ⟨v4, h_v4, e_v4, hm⟩ := n_ldi hm
    refine n_iald X hH (n := 2647) (m_lay_at hT hk_a (by decide) (i := 2) rfl) h_v4 e_v4 dX12_readFunName_24 ?_
    refine lv_aload_n hx hb dX12_readFunName_25 rfl (lv_at hl 0 rfl) ?_
    refine r_getj X hH (k := 12) (a := a) (j := 12) hk_a (by decide) rfl m_wi12 (by decide) in_7_27 rfl rfl dX12_readFunName_26 ?_
    obtain ⟨v6, S5, e_S5, hm⟩ := m_call_of hm
    refine n_cSi X hH hS (c_X12_findIn (o0 := (a + 7)) (n0 := 5) hT (m_lay_at hT hk_a (by decide) (i := 7) rfl) e_S5) mw_X12_findIn in_7_227 rfl ⟨rfl, rfl⟩ ⟨Nat.le_of_ble_eq_true rfl, Nat.le_of_ble_eq_true rfl⟩ ⟨Nat.zero_le _, Nat.zero_le _⟩ hl.1 (Nat.le_of_ble_eq_true rfl) dX12_readFunName_29 (fun H locs hH hS => ?_)
    obtain ⟨S7, e_S7, hm⟩ := m_let_of hm
    refine n_puti X hH hS tyX12 (k := 12) (a := a) (j := 13) hk_a (by decide) rfl m_wi12 tyX12_ok nmX12 (by decide) in_7_28 rfl rfl rfl ⟨rfl, rfl⟩ e_S7 dX12_readFunName_32 (fun H locs hH hS => ?_)
    refine lv_aload_n hx hb dX12_readFunName_35 rfl (lv_at hl 0 rfl) ?_
    refine r_geti X hH (k := 12) (a := a) (j := 13) hk_a (by decide) rfl m_wi12 (by decide) in_7_28 rfl rfl dX12_readFunName_36 ?_
    refine lv_iconst (v := (-1 : Int32)) hx hb dX12_readFunName_39 (by decide) ?_
    refine lv_icmp_ne (tgt := 49) hx hb dX12_readFunName_40 (by decide) (fun c8 => ?_) (fun c8 => ?_)
    · have hm := m_ite_f hm c8
      refine lv_aload_n hx hb dX12_readFunName_49 rfl (lv_at hl 0 rfl) ?_
      obtain ⟨S9, e_S9, hm⟩ := m_cal0_of hm
      refine r_cVv X hH hS (k := 12) (c_X12_go (a := a) hT hk_a e_S9) mw_X12_go in_7_181 hk_a (by decide) rfl rfl rfl ⟨rfl, rfl⟩ ⟨Nat.le_of_ble_eq_true rfl, Nat.le_of_ble_eq_true rfl⟩ ⟨Nat.zero_le _, Nat.zero_le _⟩ hl.1 (Nat.le_of_ble_eq_true rfl) dX12_readFunName_50 (fun H locs hH hS => ?_)
      refine lv_iconst (v := (1 : Int32)) hx hb dX12_readFunName_53 (by decide) ?_
      exact r_zret X hr hH hS hm dX12_readFunName_54
    · have hm := m_ite_t hm c8
      refine lv_aload_n hx hb dX12_readFunName_43 rfl (lv_at hl 0 rfl) ?_
      refine lv_iconst (v := (3 : Int32)) hx hb dX12_readFunName_44 (by decide) ?_
      obtain ⟨v11, S10, e_S10, hm⟩ := m_call_of hm
      refine n_cVi X hH hS (k := 12) (c_X12_bad (a := a) hT hk_a e_S10) mw_X12_bad in_7_219 hk_a (by decide) rfl rfl rfl ⟨rfl, rfl⟩ ⟨Nat.le_of_ble_eq_true rfl, Nat.le_of_ble_eq_true rfl⟩ ⟨Nat.zero_le _, Nat.zero_le _⟩ hl.1 (Nat.le_of_ble_eq_true rfl) dX12_readFunName_45 (fun H locs hH hS => ?_)
      exact r_zret X hr hH hS hm dX12_readFunName_48
  · have hm := m_ite_t hm c3
    refine lv_aload_n hx hb dX12_readFunName_7 rfl (lv_at hl 0 rfl) ?_
    refine lv_iconst (v := (1 : Int32)) hx hb dX12_readFunName_8 (by decide) ?_
    obtain ⟨v13, S12, e_S12, hm⟩ := m_call_of hm
    refine n_cVi X hH hS (k := 12) (c_X12_bad (a := a) hT hk_a e_S12) mw_X12_bad in_7_219 hk_a (by decide) rfl rfl rfl ⟨rfl, rfl⟩ ⟨Nat.le_of_ble_eq_true rfl, Nat.le_of_ble_eq_true rfl⟩ ⟨Nat.zero_le _, Nat.zero_le _⟩ hl.1 (Nat.le_of_ble_eq_true rfl) dX12_readFunName_9 (fun H locs hH hS => ?_)
    exact r_zret X hr hH hS hm dX12_readFunName_12
def rm_X12_saysOne : Room := { frames := 0, cells := 0, slots := 0, locals := 0 }
def f_X12_saysOne (a : Nat) (S : m_M) (i1 : Int32) (i2 : Int32) (i3 : Int32) (i4 : Int32) : Option (Int32 × m_M) :=
    m_let ((4 : Int32) * (m_ri S a 47)) fun v1 =>
    (m_sti S (a + 29) 240 v1 i1).bind fun S2 =>
    (m_sti S2 (a + 29) 240 (v1 + (1 : Int32)) i2).bind fun S3 =>
    (m_sti S3 (a + 29) 240 (v1 + (2 : Int32)) i3).bind fun S4 =>
    (m_sti S4 (a + 29) 240 (v1 + (3 : Int32)) i4).bind fun S5 =>
    m_let (m_si S5 a 47 ((m_ri S5 a 47) + (1 : Int32))) fun S6 =>
    some (((m_ri S6 a 47) - (1 : Int32)), S6)
set_option maxHeartbeats 4000000 in
set_option maxRecDepth 100000 in
theorem c_X12_saysOne {l : Launch} {G : m_G} {nx : Nat} {κ : Nat → Nat} {a : Nat} {S : m_M} {i1 : Int32} {i2 : Int32} {i3 : Int32} {i4 : Int32} {res : (Int32 × m_M)} (hT : m_Str κ) (hk_a : κ a = 13) (hm : f_X12_saysOne a S i1 i2 i3 i4 = some res) : m_Ci l yX12_saysOne cX12_saysOne 6 (some .int) rm_X12_saysOne G nx κ [.ref a, .int i1, .int i2, .int i3, .int i4] S res := by
  refine m_Ci.of (by decide) (Nat.le_of_ble_eq_true rfl) ?_
  intro p e s m args below meth c ls X hr hH hl
  have hx := X.1.1
  have hb := X.1.2.1
  have hS : m_S G s s.heap [] := va_S.rf
  have hl : lv_has ls 6 [(0, .ref a), (1, .int i1), (2, .int i2), (3, .int i3), (4, .int i4)] := hl
  rw [f_X12_saysOne] at hm
  refine lv_iconst (v := (4 : Int32)) hx hb dX12_saysOne_0 (by decide) ?_
  refine lv_aload_n hx hb dX12_saysOne_1 rfl (lv_at hl 0 rfl) ?_
  refine r_geti X hH (k := 12) (a := a) (j := 47) hk_a (by decide) rfl m_wi12 (by decide) in_7_62 rfl rfl dX12_saysOne_2 ?_
  refine lv_imul hx hb dX12_saysOne_5 ?_
  obtain ⟨v1, e_v1, hm⟩ := m_let_of hm
  refine n_topi e_v1 ?_
  refine lv_istore (lv' := [(5, .int v1), (0, .ref a), (1, .int i1), (2, .int i2), (3, .int i3), (4, .int i4)]) hx hb dX12_saysOne_6 hl (by decide) rfl (fun ls hl => ?_)
  refine lv_aload_n hx hb dX12_saysOne_8 rfl (lv_at hl 1 rfl) ?_
  refine r_getp X hH (k := 12) (a := a) (j := 46) (b := (a + 29)) (A := 29) (B := 0) hk_a (by decide) rfl m_wi12 (by decide) in_7_61 rfl rfl rfl dX12_saysOne_9 ?_
  refine lv_iload hx hb dX12_saysOne_12 (lv_at hl 0 rfl) ?_
  refine lv_iload_n hx hb dX12_saysOne_14 rfl (lv_at hl 2 rfl) ?_
  obtain ⟨S2, h_S2, e_S2, hm⟩ := n_sti hm
  refine n_iast X hH hS (n := 240) (m_lay_at hT hk_a (by decide) (i := 29) rfl) h_S2 e_S2 dX12_saysOne_15 (fun H locs hH hS => ?_)
  refine lv_aload_n hx hb dX12_saysOne_16 rfl (lv_at hl 1 rfl) ?_
  refine r_getp X hH (k := 12) (a := a) (j := 46) (b := (a + 29)) (A := 29) (B := 0) hk_a (by decide) rfl m_wi12 (by decide) in_7_61 rfl rfl rfl dX12_saysOne_17 ?_
  refine lv_iload hx hb dX12_saysOne_20 (lv_at hl 0 rfl) ?_
  refine lv_iconst (v := (1 : Int32)) hx hb dX12_saysOne_22 (by decide) ?_
  refine lv_iadd hx hb dX12_saysOne_23 ?_
  refine lv_iload_n hx hb dX12_saysOne_24 rfl (lv_at hl 3 rfl) ?_
  obtain ⟨S3, h_S3, e_S3, hm⟩ := n_sti hm
  refine n_iast X hH hS (n := 240) (m_lay_at hT hk_a (by decide) (i := 29) rfl) h_S3 e_S3 dX12_saysOne_25 (fun H locs hH hS => ?_)
  refine lv_aload_n hx hb dX12_saysOne_26 rfl (lv_at hl 1 rfl) ?_
  refine r_getp X hH (k := 12) (a := a) (j := 46) (b := (a + 29)) (A := 29) (B := 0) hk_a (by decide) rfl m_wi12 (by decide) in_7_61 rfl rfl rfl dX12_saysOne_27 ?_
  refine lv_iload hx hb dX12_saysOne_30 (lv_at hl 0 rfl) ?_
  refine lv_iconst (v := (2 : Int32)) hx hb dX12_saysOne_32 (by decide) ?_
  refine lv_iadd hx hb dX12_saysOne_33 ?_
  refine lv_iload_n hx hb dX12_saysOne_34 rfl (lv_at hl 4 rfl) ?_
  obtain ⟨S4, h_S4, e_S4, hm⟩ := n_sti hm
  refine n_iast X hH hS (n := 240) (m_lay_at hT hk_a (by decide) (i := 29) rfl) h_S4 e_S4 dX12_saysOne_35 (fun H locs hH hS => ?_)
  refine lv_aload_n hx hb dX12_saysOne_36 rfl (lv_at hl 1 rfl) ?_
  refine r_getp X hH (k := 12) (a := a) (j := 46) (b := (a + 29)) (A := 29) (B := 0) hk_a (by decide) rfl m_wi12 (by decide) in_7_61 rfl rfl rfl dX12_saysOne_37 ?_
  refine lv_iload hx hb dX12_saysOne_40 (lv_at hl 0 rfl) ?_
  refine lv_iconst (v := (3 : Int32)) hx hb dX12_saysOne_42 (by decide) ?_
  refine lv_iadd hx hb dX12_saysOne_43 ?_
  refine lv_iload hx hb dX12_saysOne_44 (lv_at hl 5 rfl) ?_
  obtain ⟨S5, h_S5, e_S5, hm⟩ := n_sti hm
  refine n_iast X hH hS (n := 240) (m_lay_at hT hk_a (by decide) (i := 29) rfl) h_S5 e_S5 dX12_saysOne_46 (fun H locs hH hS => ?_)
  refine lv_aload_n hx hb dX12_saysOne_47 rfl (lv_at hl 1 rfl) ?_
  refine lv_dup hx hb dX12_saysOne_48 rfl ?_
  refine r_geti X hH (k := 12) (a := a) (j := 47) hk_a (by decide) rfl m_wi12 (by decide) in_7_62 rfl rfl dX12_saysOne_49 ?_
  refine lv_iconst (v := (1 : Int32)) hx hb dX12_saysOne_52 (by decide) ?_
  refine lv_iadd hx hb dX12_saysOne_53 ?_
  obtain ⟨S6, e_S6, hm⟩ := m_let_of hm
  refine n_puti X hH hS tyX12 (k := 12) (a := a) (j := 47) hk_a (by decide) rfl m_wi12 tyX12_ok nmX12 (by decide) in_7_62 rfl rfl rfl ⟨rfl, rfl⟩ e_S6 dX12_saysOne_54 (fun H locs hH hS => ?_)
  refine lv_aload_n hx hb dX12_saysOne_57 rfl (lv_at hl 1 rfl) ?_
  refine r_geti X hH (k := 12) (a := a) (j := 47) hk_a (by decide) rfl m_wi12 (by decide) in_7_62 rfl rfl dX12_saysOne_58 ?_
  refine lv_iconst (v := (1 : Int32)) hx hb dX12_saysOne_61 (by decide) ?_
  refine lv_isub hx hb dX12_saysOne_62 ?_
  exact r_iret X hr hH hS hm dX12_saysOne_63
def rm_X12_readAnd (r : Room) : Room := { frames := r.frames + 3, cells := 0, slots := 0, locals := r.locals + 68 }
def b_X12_readAnd_14 (F : Nat → m_M → Option (Int32 × m_M)) (a : Nat)  : Nat → m_M → Int32 → Option (Int32 × m_M)
  | 0, _, _ => none
  | n + 1, S, l1 =>
    m_call (f_X12_isWord a S (12 : Int32)) fun v2 S1 =>
    if v2 = 0 then (
    m_let (m_si S1 a 50 l1) fun S4 =>
    if (1 : Int32) = 0 ∨ (1 : Int32) = 1 then some ((1 : Int32), S4) else none) else (
    m_cal0 (f_X12_go a S1) fun S5 =>
    m_call (F a S5) fun v7 S6 =>
    if v7 = 0 then (
    if (0 : Int32) = 0 ∨ (0 : Int32) = 1 then some ((0 : Int32), S6) else none) else (
    m_call (f_X12_saysOne a S6 (2 : Int32) l1 (m_ri S6 a 50) (0 : Int32)) fun v10 S9 =>
    b_X12_readAnd_14 F a n S9 v10))
set_option maxHeartbeats 4000000 in
set_option maxRecDepth 100000 in
theorem k_X12_readAnd_14 {p : Program} {l : Launch} {e : Env} {s : State} {m : MethodId} {args : Array Value} {below : List Frame} {meth : Method} {c : Code} {G : m_G} {nx : Nat} {κ : Nat → Nat} {res : (Int32 × m_M)} {F : Nat → m_M → Option (Int32 × m_M)} {a : Nat} (X : m_Cx p s m args meth c cX12_readAnd 2 RX12 G) (hr : meth.sig.returnType = (some .boolean)) (hT : m_Str κ) (rF : Room) (hrF : rF.cells = 0 ∧ rF.slots = 0) (hF : ∀ (a : Nat) (S : m_M)  (res : (Int32 × m_M)), κ a = 13 → F a S = some res → m_Ci l yX12_readSaid cX12_readSaid 4 (some .boolean) rF G nx κ [.ref a] S res) (hk_a : κ a = 13)  (n : Nat) : ∀ (S : m_M) (l1 : Int32) (H : Heap) (locs : List Loc) (ls : Array Slot), m_H G nx κ S H → m_S G s H locs → lv_has ls 2 [(0, .ref a), (1, .int l1)] → b_X12_readAnd_14 F a n S l1 = some res → W p l e (rm_X12_readAnd rF) s m args below meth c H locs 0 0 (m_Qi below args s G nx κ res) (F0 m 14 ls []) := by
  have hx := X.1.1
  have hb := X.1.2.1
  induction n with
  | zero => intro S l1 H locs ls hH hS hl hm; have hm : (none : Option (Int32 × m_M)) = some res := hm; cases hm
  | succ n ih =>
    intro S l1 H locs ls hH hS hl hm
    rw [b_X12_readAnd_14] at hm
    refine lv_aload_n hx hb dX12_readAnd_14 rfl (lv_at hl 0 rfl) ?_
    refine lv_bipush (v := (12 : Int32)) hx hb dX12_readAnd_15 (by decide) ?_
    obtain ⟨v2, S1, e_S1, hm⟩ := m_call_of hm
    refine n_cVi X hH hS (k := 12) (c_X12_isWord (a := a) hT hk_a e_S1) mw_X12_isWord in_7_197 hk_a (by decide) rfl rfl rfl ⟨rfl, rfl⟩ ⟨by simp only [rm_X12_readAnd, rm_X12_isWord]; omega, by simp only [rm_X12_readAnd, rm_X12_isWord]; omega⟩ ⟨Nat.zero_le _, Nat.zero_le _⟩ hl.1 (Nat.le_of_ble_eq_true rfl) dX12_readAnd_17 (fun H locs hH hS => ?_)
    refine lv_if_eq (tgt := 51) hx hb dX12_readAnd_20 (by decide) (fun c3 => ?_) (fun c3 => ?_)
    · have hm := m_ite_t hm c3
      refine lv_aload_n hx hb dX12_readAnd_51 rfl (lv_at hl 0 rfl) ?_
      refine lv_iload_n hx hb dX12_readAnd_52 rfl (lv_at hl 1 rfl) ?_
      obtain ⟨S4, e_S4, hm⟩ := m_let_of hm
      refine n_puti X hH hS tyX12 (k := 12) (a := a) (j := 50) hk_a (by decide) rfl m_wi12 tyX12_ok nmX12 (by decide) in_7_65 rfl rfl rfl ⟨rfl, rfl⟩ e_S4 dX12_readAnd_53 (fun H locs hH hS => ?_)
      refine lv_iconst (v := (1 : Int32)) hx hb dX12_readAnd_56 (by decide) ?_
      exact r_zret X hr hH hS hm dX12_readAnd_57
    · have hm := m_ite_f hm c3
      refine lv_aload_n hx hb dX12_readAnd_23 rfl (lv_at hl 0 rfl) ?_
      obtain ⟨S5, e_S5, hm⟩ := m_cal0_of hm
      refine r_cVv X hH hS (k := 12) (c_X12_go (a := a) hT hk_a e_S5) mw_X12_go in_7_181 hk_a (by decide) rfl rfl rfl ⟨rfl, rfl⟩ ⟨by simp only [rm_X12_readAnd, rm_X12_go]; omega, by simp only [rm_X12_readAnd, rm_X12_go]; omega⟩ ⟨Nat.zero_le _, Nat.zero_le _⟩ hl.1 (Nat.le_of_ble_eq_true rfl) dX12_readAnd_24 (fun H locs hH hS => ?_)
      refine lv_aload_n hx hb dX12_readAnd_27 rfl (lv_at hl 0 rfl) ?_
      obtain ⟨v7, S6, e_S6, hm⟩ := m_call_of hm
      refine n_cVi X hH hS (k := 12) (hF a S5 _ hk_a e_S6) mw_X12_readSaid in_9_73 hk_a (by decide) rfl rfl rfl hrF ⟨by simp only [rm_X12_readAnd]; omega, by simp only [rm_X12_readAnd]; omega⟩ ⟨Nat.zero_le _, Nat.zero_le _⟩ hl.1 (Nat.le_of_ble_eq_true rfl) dX12_readAnd_28 (fun H locs hH hS => ?_)
      refine lv_if_ne (tgt := 36) hx hb dX12_readAnd_31 (by decide) (fun c8 => ?_) (fun c8 => ?_)
      · have hm := m_ite_f hm c8
        refine lv_aload_n hx hb dX12_readAnd_36 rfl (lv_at hl 0 rfl) ?_
        refine lv_iconst (v := (2 : Int32)) hx hb dX12_readAnd_37 (by decide) ?_
        refine lv_iload_n hx hb dX12_readAnd_38 rfl (lv_at hl 1 rfl) ?_
        refine lv_aload_n hx hb dX12_readAnd_39 rfl (lv_at hl 0 rfl) ?_
        refine r_geti X hH (k := 12) (a := a) (j := 50) hk_a (by decide) rfl m_wi12 (by decide) in_7_65 rfl rfl dX12_readAnd_40 ?_
        refine lv_iconst (v := (0 : Int32)) hx hb dX12_readAnd_43 (by decide) ?_
        obtain ⟨v10, S9, e_S9, hm⟩ := m_call_of hm
        refine n_cVi X hH hS (k := 12) (c_X12_saysOne (a := a) hT hk_a e_S9) mw_X12_saysOne in_9_85 hk_a (by decide) rfl rfl rfl ⟨rfl, rfl⟩ ⟨by simp only [rm_X12_readAnd, rm_X12_saysOne]; omega, by simp only [rm_X12_readAnd, rm_X12_saysOne]; omega⟩ ⟨Nat.zero_le _, Nat.zero_le _⟩ hl.1 (Nat.le_of_ble_eq_true rfl) dX12_readAnd_44 (fun H locs hH hS => ?_)
        refine lv_istore_n (lv' := [(1, .int v10), (0, .ref a)]) hx hb dX12_readAnd_47 rfl hl (by decide) rfl (fun ls hl => ?_)
        refine lv_goto (tgt := 14) hx hb dX12_readAnd_48 (by decide) ?_
        exact ih S9 v10 _ _ _ hH hS (lv_sub hl [1, 0] rfl) hm
      · have hm := m_ite_t hm c8
        refine lv_iconst (v := (0 : Int32)) hx hb dX12_readAnd_34 (by decide) ?_
        exact r_zret X hr hH hS hm dX12_readAnd_35
def f_X12_readAnd (F : Nat → m_M → Option (Int32 × m_M)) (a : Nat) (S : m_M)  : Option (Int32 × m_M) :=
    m_call (F a S) fun v2 S1 =>
    if v2 = 0 then (
    if (0 : Int32) = 0 ∨ (0 : Int32) = 1 then some ((0 : Int32), S1) else none) else (
    m_let (m_ri S1 a 50) fun v4 =>
    b_X12_readAnd_14 F a m_fu S1 v4)
set_option maxHeartbeats 4000000 in
set_option maxRecDepth 100000 in
theorem c_X12_readAnd {l : Launch} {G : m_G} {nx : Nat} {κ : Nat → Nat} {F : Nat → m_M → Option (Int32 × m_M)} {rF : Room} (hrF : rF.cells = 0 ∧ rF.slots = 0) (hF : ∀ (a : Nat) (S : m_M)  (res : (Int32 × m_M)), κ a = 13 → F a S = some res → m_Ci l yX12_readSaid cX12_readSaid 4 (some .boolean) rF G nx κ [.ref a] S res) {a : Nat} {S : m_M}  {res : (Int32 × m_M)} (hT : m_Str κ) (hk_a : κ a = 13) (hm : f_X12_readAnd F a S = some res) : m_Ci l yX12_readAnd cX12_readAnd 2 (some .boolean) (rm_X12_readAnd rF) G nx κ [.ref a] S res := by
  refine m_Ci.of (by decide) (Nat.le_of_ble_eq_true rfl) ?_
  intro p e s m args below meth c ls X hr hH hl
  have hx := X.1.1
  have hb := X.1.2.1
  have hS : m_S G s s.heap [] := va_S.rf
  have hl : lv_has ls 2 [(0, .ref a)] := hl
  rw [f_X12_readAnd] at hm
  refine lv_aload_n hx hb dX12_readAnd_0 rfl (lv_at hl 0 rfl) ?_
  obtain ⟨v2, S1, e_S1, hm⟩ := m_call_of hm
  refine n_cVi X hH hS (k := 12) (hF a S _ hk_a e_S1) mw_X12_readSaid in_9_73 hk_a (by decide) rfl rfl rfl hrF ⟨by simp only [rm_X12_readAnd]; omega, by simp only [rm_X12_readAnd]; omega⟩ ⟨Nat.zero_le _, Nat.zero_le _⟩ hl.1 (Nat.le_of_ble_eq_true rfl) dX12_readAnd_1 (fun H locs hH hS => ?_)
  refine lv_if_ne (tgt := 9) hx hb dX12_readAnd_4 (by decide) (fun c3 => ?_) (fun c3 => ?_)
  · have hm := m_ite_f hm c3
    refine lv_aload_n hx hb dX12_readAnd_9 rfl (lv_at hl 0 rfl) ?_
    refine r_geti X hH (k := 12) (a := a) (j := 50) hk_a (by decide) rfl m_wi12 (by decide) in_7_65 rfl rfl dX12_readAnd_10 ?_
    obtain ⟨v4, e_v4, hm⟩ := m_let_of hm
    refine n_topi e_v4 ?_
    refine lv_istore_n (lv' := [(1, .int v4), (0, .ref a)]) hx hb dX12_readAnd_13 rfl hl (by decide) rfl (fun ls hl => ?_)
    exact k_X12_readAnd_14 (F := F) (a := a) X hr hT rF hrF hF hk_a  m_fu S1 v4 _ _ _ hH hS (lv_sub hl [1, 0] rfl) hm
  · have hm := m_ite_t hm c3
    refine lv_iconst (v := (0 : Int32)) hx hb dX12_readAnd_7 (by decide) ?_
    exact r_zret X hr hH hS hm dX12_readAnd_8
def rm_X12_readOr (r : Room) : Room := { frames := r.frames + 4, cells := 0, slots := 0, locals := r.locals + 89 }
def b_X12_readOr_14 (F : Nat → m_M → Option (Int32 × m_M)) (a : Nat)  : Nat → m_M → Int32 → Option (Int32 × m_M)
  | 0, _, _ => none
  | n + 1, S, l1 =>
    m_call (f_X12_isWord a S (11 : Int32)) fun v2 S1 =>
    if v2 = 0 then (
    m_let (m_si S1 a 50 l1) fun S4 =>
    if (1 : Int32) = 0 ∨ (1 : Int32) = 1 then some ((1 : Int32), S4) else none) else (
    m_cal0 (f_X12_go a S1) fun S5 =>
    m_call (f_X12_readAnd F a S5) fun v7 S6 =>
    if v7 = 0 then (
    if (0 : Int32) = 0 ∨ (0 : Int32) = 1 then some ((0 : Int32), S6) else none) else (
    m_call (f_X12_saysOne a S6 (3 : Int32) l1 (m_ri S6 a 50) (0 : Int32)) fun v10 S9 =>
    b_X12_readOr_14 F a n S9 v10))
set_option maxHeartbeats 4000000 in
set_option maxRecDepth 100000 in
theorem k_X12_readOr_14 {p : Program} {l : Launch} {e : Env} {s : State} {m : MethodId} {args : Array Value} {below : List Frame} {meth : Method} {c : Code} {G : m_G} {nx : Nat} {κ : Nat → Nat} {res : (Int32 × m_M)} {F : Nat → m_M → Option (Int32 × m_M)} {a : Nat} (X : m_Cx p s m args meth c cX12_readOr 2 RX12 G) (hr : meth.sig.returnType = (some .boolean)) (hT : m_Str κ) (rF : Room) (hrF : rF.cells = 0 ∧ rF.slots = 0) (hF : ∀ (a : Nat) (S : m_M)  (res : (Int32 × m_M)), κ a = 13 → F a S = some res → m_Ci l yX12_readSaid cX12_readSaid 4 (some .boolean) rF G nx κ [.ref a] S res) (hk_a : κ a = 13)  (n : Nat) : ∀ (S : m_M) (l1 : Int32) (H : Heap) (locs : List Loc) (ls : Array Slot), m_H G nx κ S H → m_S G s H locs → lv_has ls 2 [(0, .ref a), (1, .int l1)] → b_X12_readOr_14 F a n S l1 = some res → W p l e (rm_X12_readOr rF) s m args below meth c H locs 0 0 (m_Qi below args s G nx κ res) (F0 m 14 ls []) := by
  have hx := X.1.1
  have hb := X.1.2.1
  induction n with
  | zero => intro S l1 H locs ls hH hS hl hm; have hm : (none : Option (Int32 × m_M)) = some res := hm; cases hm
  | succ n ih =>
    intro S l1 H locs ls hH hS hl hm
    rw [b_X12_readOr_14] at hm
    refine lv_aload_n hx hb dX12_readOr_14 rfl (lv_at hl 0 rfl) ?_
    refine lv_bipush (v := (11 : Int32)) hx hb dX12_readOr_15 (by decide) ?_
    obtain ⟨v2, S1, e_S1, hm⟩ := m_call_of hm
    refine n_cVi X hH hS (k := 12) (c_X12_isWord (a := a) hT hk_a e_S1) mw_X12_isWord in_7_197 hk_a (by decide) rfl rfl rfl ⟨rfl, rfl⟩ ⟨by simp only [rm_X12_readOr, rm_X12_isWord]; omega, by simp only [rm_X12_readOr, rm_X12_isWord]; omega⟩ ⟨Nat.zero_le _, Nat.zero_le _⟩ hl.1 (Nat.le_of_ble_eq_true rfl) dX12_readOr_17 (fun H locs hH hS => ?_)
    refine lv_if_eq (tgt := 51) hx hb dX12_readOr_20 (by decide) (fun c3 => ?_) (fun c3 => ?_)
    · have hm := m_ite_t hm c3
      refine lv_aload_n hx hb dX12_readOr_51 rfl (lv_at hl 0 rfl) ?_
      refine lv_iload_n hx hb dX12_readOr_52 rfl (lv_at hl 1 rfl) ?_
      obtain ⟨S4, e_S4, hm⟩ := m_let_of hm
      refine n_puti X hH hS tyX12 (k := 12) (a := a) (j := 50) hk_a (by decide) rfl m_wi12 tyX12_ok nmX12 (by decide) in_7_65 rfl rfl rfl ⟨rfl, rfl⟩ e_S4 dX12_readOr_53 (fun H locs hH hS => ?_)
      refine lv_iconst (v := (1 : Int32)) hx hb dX12_readOr_56 (by decide) ?_
      exact r_zret X hr hH hS hm dX12_readOr_57
    · have hm := m_ite_f hm c3
      refine lv_aload_n hx hb dX12_readOr_23 rfl (lv_at hl 0 rfl) ?_
      obtain ⟨S5, e_S5, hm⟩ := m_cal0_of hm
      refine r_cVv X hH hS (k := 12) (c_X12_go (a := a) hT hk_a e_S5) mw_X12_go in_7_181 hk_a (by decide) rfl rfl rfl ⟨rfl, rfl⟩ ⟨by simp only [rm_X12_readOr, rm_X12_go]; omega, by simp only [rm_X12_readOr, rm_X12_go]; omega⟩ ⟨Nat.zero_le _, Nat.zero_le _⟩ hl.1 (Nat.le_of_ble_eq_true rfl) dX12_readOr_24 (fun H locs hH hS => ?_)
      refine lv_aload_n hx hb dX12_readOr_27 rfl (lv_at hl 0 rfl) ?_
      obtain ⟨v7, S6, e_S6, hm⟩ := m_call_of hm
      refine n_cVi X hH hS (k := 12) (c_X12_readAnd (F := F) (rF := rF) hrF hF (a := a) hT hk_a e_S6) mw_X12_readAnd in_9_69 hk_a (by decide) rfl rfl rfl ⟨rfl, rfl⟩ ⟨by simp only [rm_X12_readOr, rm_X12_readAnd]; omega, by simp only [rm_X12_readOr, rm_X12_readAnd]; omega⟩ ⟨Nat.zero_le _, Nat.zero_le _⟩ hl.1 (Nat.le_of_ble_eq_true rfl) dX12_readOr_28 (fun H locs hH hS => ?_)
      refine lv_if_ne (tgt := 36) hx hb dX12_readOr_31 (by decide) (fun c8 => ?_) (fun c8 => ?_)
      · have hm := m_ite_f hm c8
        refine lv_aload_n hx hb dX12_readOr_36 rfl (lv_at hl 0 rfl) ?_
        refine lv_iconst (v := (3 : Int32)) hx hb dX12_readOr_37 (by decide) ?_
        refine lv_iload_n hx hb dX12_readOr_38 rfl (lv_at hl 1 rfl) ?_
        refine lv_aload_n hx hb dX12_readOr_39 rfl (lv_at hl 0 rfl) ?_
        refine r_geti X hH (k := 12) (a := a) (j := 50) hk_a (by decide) rfl m_wi12 (by decide) in_7_65 rfl rfl dX12_readOr_40 ?_
        refine lv_iconst (v := (0 : Int32)) hx hb dX12_readOr_43 (by decide) ?_
        obtain ⟨v10, S9, e_S9, hm⟩ := m_call_of hm
        refine n_cVi X hH hS (k := 12) (c_X12_saysOne (a := a) hT hk_a e_S9) mw_X12_saysOne in_9_85 hk_a (by decide) rfl rfl rfl ⟨rfl, rfl⟩ ⟨by simp only [rm_X12_readOr, rm_X12_saysOne]; omega, by simp only [rm_X12_readOr, rm_X12_saysOne]; omega⟩ ⟨Nat.zero_le _, Nat.zero_le _⟩ hl.1 (Nat.le_of_ble_eq_true rfl) dX12_readOr_44 (fun H locs hH hS => ?_)
        refine lv_istore_n (lv' := [(1, .int v10), (0, .ref a)]) hx hb dX12_readOr_47 rfl hl (by decide) rfl (fun ls hl => ?_)
        refine lv_goto (tgt := 14) hx hb dX12_readOr_48 (by decide) ?_
        exact ih S9 v10 _ _ _ hH hS (lv_sub hl [1, 0] rfl) hm
      · have hm := m_ite_t hm c8
        refine lv_iconst (v := (0 : Int32)) hx hb dX12_readOr_34 (by decide) ?_
        exact r_zret X hr hH hS hm dX12_readOr_35
def f_X12_readOr (F : Nat → m_M → Option (Int32 × m_M)) (a : Nat) (S : m_M)  : Option (Int32 × m_M) :=
    m_call (f_X12_readAnd F a S) fun v2 S1 =>
    if v2 = 0 then (
    if (0 : Int32) = 0 ∨ (0 : Int32) = 1 then some ((0 : Int32), S1) else none) else (
    m_let (m_ri S1 a 50) fun v4 =>
    b_X12_readOr_14 F a m_fu S1 v4)
set_option maxHeartbeats 4000000 in
set_option maxRecDepth 100000 in
theorem c_X12_readOr {l : Launch} {G : m_G} {nx : Nat} {κ : Nat → Nat} {F : Nat → m_M → Option (Int32 × m_M)} {rF : Room} (hrF : rF.cells = 0 ∧ rF.slots = 0) (hF : ∀ (a : Nat) (S : m_M)  (res : (Int32 × m_M)), κ a = 13 → F a S = some res → m_Ci l yX12_readSaid cX12_readSaid 4 (some .boolean) rF G nx κ [.ref a] S res) {a : Nat} {S : m_M}  {res : (Int32 × m_M)} (hT : m_Str κ) (hk_a : κ a = 13) (hm : f_X12_readOr F a S = some res) : m_Ci l yX12_readOr cX12_readOr 2 (some .boolean) (rm_X12_readOr rF) G nx κ [.ref a] S res := by
  refine m_Ci.of (by decide) (Nat.le_of_ble_eq_true rfl) ?_
  intro p e s m args below meth c ls X hr hH hl
  have hx := X.1.1
  have hb := X.1.2.1
  have hS : m_S G s s.heap [] := va_S.rf
  have hl : lv_has ls 2 [(0, .ref a)] := hl
  rw [f_X12_readOr] at hm
  refine lv_aload_n hx hb dX12_readOr_0 rfl (lv_at hl 0 rfl) ?_
  obtain ⟨v2, S1, e_S1, hm⟩ := m_call_of hm
  refine n_cVi X hH hS (k := 12) (c_X12_readAnd (F := F) (rF := rF) hrF hF (a := a) hT hk_a e_S1) mw_X12_readAnd in_9_69 hk_a (by decide) rfl rfl rfl ⟨rfl, rfl⟩ ⟨by simp only [rm_X12_readOr, rm_X12_readAnd]; omega, by simp only [rm_X12_readOr, rm_X12_readAnd]; omega⟩ ⟨Nat.zero_le _, Nat.zero_le _⟩ hl.1 (Nat.le_of_ble_eq_true rfl) dX12_readOr_1 (fun H locs hH hS => ?_)
  refine lv_if_ne (tgt := 9) hx hb dX12_readOr_4 (by decide) (fun c3 => ?_) (fun c3 => ?_)
  · have hm := m_ite_f hm c3
    refine lv_aload_n hx hb dX12_readOr_9 rfl (lv_at hl 0 rfl) ?_
    refine r_geti X hH (k := 12) (a := a) (j := 50) hk_a (by decide) rfl m_wi12 (by decide) in_7_65 rfl rfl dX12_readOr_10 ?_
    obtain ⟨v4, e_v4, hm⟩ := m_let_of hm
    refine n_topi e_v4 ?_
    refine lv_istore_n (lv' := [(1, .int v4), (0, .ref a)]) hx hb dX12_readOr_13 rfl hl (by decide) rfl (fun ls hl => ?_)
    exact k_X12_readOr_14 (F := F) (a := a) X hr hT rF hrF hF hk_a  m_fu S1 v4 _ _ _ hH hS (lv_sub hl [1, 0] rfl) hm
  · have hm := m_ite_t hm c3
    refine lv_iconst (v := (0 : Int32)) hx hb dX12_readOr_7 (by decide) ?_
    exact r_zret X hr hH hS hm dX12_readOr_8
def rm_X12_readBracket (r : Room) : Room := { frames := r.frames + 5, cells := 0, slots := 0, locals := r.locals + 110 }
def f_X12_readBracket (F : Nat → m_M → Option (Int32 × m_M)) (a : Nat) (S : m_M)  : Option (Int32 × m_M) :=
    m_call (f_X12_readOr F a S) fun v2 S1 =>
    if v2 = 0 then (
    if (0 : Int32) = 0 ∨ (0 : Int32) = 1 then some ((0 : Int32), S1) else none) else (
    m_call (f_X12_isSign a S1 (41 : Int32)) fun v5 S4 =>
    if v5 = 0 then (
    m_call (f_X12_bad a S4 (1 : Int32)) fun v9 S8 =>
    if v9 = 0 ∨ v9 = 1 then some (v9, S8) else none) else (
    m_cal0 (f_X12_go a S4) fun S7 =>
    if (1 : Int32) = 0 ∨ (1 : Int32) = 1 then some ((1 : Int32), S7) else none))
set_option maxHeartbeats 4000000 in
set_option maxRecDepth 100000 in
theorem c_X12_readBracket {l : Launch} {G : m_G} {nx : Nat} {κ : Nat → Nat} {F : Nat → m_M → Option (Int32 × m_M)} {rF : Room} (hrF : rF.cells = 0 ∧ rF.slots = 0) (hF : ∀ (a : Nat) (S : m_M)  (res : (Int32 × m_M)), κ a = 13 → F a S = some res → m_Ci l yX12_readSaid cX12_readSaid 4 (some .boolean) rF G nx κ [.ref a] S res) {a : Nat} {S : m_M}  {res : (Int32 × m_M)} (hT : m_Str κ) (hk_a : κ a = 13) (hm : f_X12_readBracket F a S = some res) : m_Ci l yX12_readBracket cX12_readBracket 1 (some .boolean) (rm_X12_readBracket rF) G nx κ [.ref a] S res := by
  refine m_Ci.of (by decide) (Nat.le_of_ble_eq_true rfl) ?_
  intro p e s m args below meth c ls X hr hH hl
  have hx := X.1.1
  have hb := X.1.2.1
  have hS : m_S G s s.heap [] := va_S.rf
  have hl : lv_has ls 1 [(0, .ref a)] := hl
  rw [f_X12_readBracket] at hm
  refine lv_aload_n hx hb dX12_readBracket_0 rfl (lv_at hl 0 rfl) ?_
  obtain ⟨v2, S1, e_S1, hm⟩ := m_call_of hm
  refine n_cVi X hH hS (k := 12) (c_X12_readOr (F := F) (rF := rF) hrF hF (a := a) hT hk_a e_S1) mw_X12_readOr in_9_65 hk_a (by decide) rfl rfl rfl ⟨rfl, rfl⟩ ⟨by simp only [rm_X12_readBracket, rm_X12_readOr]; omega, by simp only [rm_X12_readBracket, rm_X12_readOr]; omega⟩ ⟨Nat.zero_le _, Nat.zero_le _⟩ hl.1 (Nat.le_of_ble_eq_true rfl) dX12_readBracket_1 (fun H locs hH hS => ?_)
  refine lv_if_ne (tgt := 9) hx hb dX12_readBracket_4 (by decide) (fun c3 => ?_) (fun c3 => ?_)
  · have hm := m_ite_f hm c3
    refine lv_aload_n hx hb dX12_readBracket_9 rfl (lv_at hl 0 rfl) ?_
    refine lv_bipush (v := (41 : Int32)) hx hb dX12_readBracket_10 (by decide) ?_
    obtain ⟨v5, S4, e_S4, hm⟩ := m_call_of hm
    refine n_cVi X hH hS (k := 12) (c_X12_isSign (a := a) hT hk_a e_S4) mw_X12_isSign in_8_26 hk_a (by decide) rfl rfl rfl ⟨rfl, rfl⟩ ⟨by simp only [rm_X12_readBracket, rm_X12_isSign]; omega, by simp only [rm_X12_readBracket, rm_X12_isSign]; omega⟩ ⟨Nat.zero_le _, Nat.zero_le _⟩ hl.1 (Nat.le_of_ble_eq_true rfl) dX12_readBracket_12 (fun H locs hH hS => ?_)
    refine lv_if_ne (tgt := 24) hx hb dX12_readBracket_15 (by decide) (fun c6 => ?_) (fun c6 => ?_)
    · have hm := m_ite_f hm c6
      refine lv_aload_n hx hb dX12_readBracket_24 rfl (lv_at hl 0 rfl) ?_
      obtain ⟨S7, e_S7, hm⟩ := m_cal0_of hm
      refine r_cVv X hH hS (k := 12) (c_X12_go (a := a) hT hk_a e_S7) mw_X12_go in_7_181 hk_a (by decide) rfl rfl rfl ⟨rfl, rfl⟩ ⟨by simp only [rm_X12_readBracket, rm_X12_go]; omega, by simp only [rm_X12_readBracket, rm_X12_go]; omega⟩ ⟨Nat.zero_le _, Nat.zero_le _⟩ hl.1 (Nat.le_of_ble_eq_true rfl) dX12_readBracket_25 (fun H locs hH hS => ?_)
      refine lv_iconst (v := (1 : Int32)) hx hb dX12_readBracket_28 (by decide) ?_
      exact r_zret X hr hH hS hm dX12_readBracket_29
    · have hm := m_ite_t hm c6
      refine lv_aload_n hx hb dX12_readBracket_18 rfl (lv_at hl 0 rfl) ?_
      refine lv_iconst (v := (1 : Int32)) hx hb dX12_readBracket_19 (by decide) ?_
      obtain ⟨v9, S8, e_S8, hm⟩ := m_call_of hm
      refine n_cVi X hH hS (k := 12) (c_X12_bad (a := a) hT hk_a e_S8) mw_X12_bad in_7_219 hk_a (by decide) rfl rfl rfl ⟨rfl, rfl⟩ ⟨by simp only [rm_X12_readBracket, rm_X12_bad]; omega, by simp only [rm_X12_readBracket, rm_X12_bad]; omega⟩ ⟨Nat.zero_le _, Nat.zero_le _⟩ hl.1 (Nat.le_of_ble_eq_true rfl) dX12_readBracket_20 (fun H locs hH hS => ?_)
      exact r_zret X hr hH hS hm dX12_readBracket_23
  · have hm := m_ite_t hm c3
    refine lv_iconst (v := (0 : Int32)) hx hb dX12_readBracket_7 (by decide) ?_
    exact r_zret X hr hH hS hm dX12_readBracket_8
def rm_X12_readNot (r : Room) : Room := { frames := r.frames + 1, cells := 0, slots := 0, locals := r.locals + 25 }
def f_X12_readNot (F : Nat → m_M → Option (Int32 × m_M)) (a : Nat) (S : m_M)  : Option (Int32 × m_M) :=
    m_call (F a S) fun v2 S1 =>
    if v2 = 0 then (
    if (0 : Int32) = 0 ∨ (0 : Int32) = 1 then some ((0 : Int32), S1) else none) else (
    m_call (f_X12_saysOne a S1 (1 : Int32) (m_ri S1 a 50) (0 : Int32) (0 : Int32)) fun v5 S4 =>
    m_let (m_si S4 a 50 v5) fun S6 =>
    if (1 : Int32) = 0 ∨ (1 : Int32) = 1 then some ((1 : Int32), S6) else none)
set_option maxHeartbeats 4000000 in
set_option maxRecDepth 100000 in
theorem c_X12_readNot {l : Launch} {G : m_G} {nx : Nat} {κ : Nat → Nat} {F : Nat → m_M → Option (Int32 × m_M)} {rF : Room} (hrF : rF.cells = 0 ∧ rF.slots = 0) (hF : ∀ (a : Nat) (S : m_M)  (res : (Int32 × m_M)), κ a = 13 → F a S = some res → m_Ci l yX12_readSaid cX12_readSaid 4 (some .boolean) rF G nx κ [.ref a] S res) {a : Nat} {S : m_M}  {res : (Int32 × m_M)} (hT : m_Str κ) (hk_a : κ a = 13) (hm : f_X12_readNot F a S = some res) : m_Ci l yX12_readNot cX12_readNot 1 (some .boolean) (rm_X12_readNot rF) G nx κ [.ref a] S res := by
  refine m_Ci.of (by decide) (Nat.le_of_ble_eq_true rfl) ?_
  intro p e s m args below meth c ls X hr hH hl
  have hx := X.1.1
  have hb := X.1.2.1
  have hS : m_S G s s.heap [] := va_S.rf
  have hl : lv_has ls 1 [(0, .ref a)] := hl
  rw [f_X12_readNot] at hm
  refine lv_aload_n hx hb dX12_readNot_0 rfl (lv_at hl 0 rfl) ?_
  obtain ⟨v2, S1, e_S1, hm⟩ := m_call_of hm
  refine n_cVi X hH hS (k := 12) (hF a S _ hk_a e_S1) mw_X12_readSaid in_9_73 hk_a (by decide) rfl rfl rfl hrF ⟨by simp only [rm_X12_readNot]; omega, by simp only [rm_X12_readNot]; omega⟩ ⟨Nat.zero_le _, Nat.zero_le _⟩ hl.1 (Nat.le_of_ble_eq_true rfl) dX12_readNot_1 (fun H locs hH hS => ?_)
  refine lv_if_ne (tgt := 9) hx hb dX12_readNot_4 (by decide) (fun c3 => ?_) (fun c3 => ?_)
  · have hm := m_ite_f hm c3
    refine lv_aload_n hx hb dX12_readNot_9 rfl (lv_at hl 0 rfl) ?_
    refine lv_aload_n hx hb dX12_readNot_10 rfl (lv_at hl 0 rfl) ?_
    refine lv_iconst (v := (1 : Int32)) hx hb dX12_readNot_11 (by decide) ?_
    refine lv_aload_n hx hb dX12_readNot_12 rfl (lv_at hl 0 rfl) ?_
    refine r_geti X hH (k := 12) (a := a) (j := 50) hk_a (by decide) rfl m_wi12 (by decide) in_7_65 rfl rfl dX12_readNot_13 ?_
    refine lv_iconst (v := (0 : Int32)) hx hb dX12_readNot_16 (by decide) ?_
    refine lv_iconst (v := (0 : Int32)) hx hb dX12_readNot_17 (by decide) ?_
    obtain ⟨v5, S4, e_S4, hm⟩ := m_call_of hm
    refine n_cVi X hH hS (k := 12) (c_X12_saysOne (a := a) hT hk_a e_S4) mw_X12_saysOne in_9_85 hk_a (by decide) rfl rfl rfl ⟨rfl, rfl⟩ ⟨by simp only [rm_X12_readNot, rm_X12_saysOne]; omega, by simp only [rm_X12_readNot, rm_X12_saysOne]; omega⟩ ⟨Nat.zero_le _, Nat.zero_le _⟩ hl.1 (Nat.le_of_ble_eq_true rfl) dX12_readNot_18 (fun H locs hH hS => ?_)
    obtain ⟨S6, e_S6, hm⟩ := m_let_of hm
    refine n_puti X hH hS tyX12 (k := 12) (a := a) (j := 50) hk_a (by decide) rfl m_wi12 tyX12_ok nmX12 (by decide) in_7_65 rfl rfl rfl ⟨rfl, rfl⟩ e_S6 dX12_readNot_21 (fun H locs hH hS => ?_)
    refine lv_iconst (v := (1 : Int32)) hx hb dX12_readNot_24 (by decide) ?_
    exact r_zret X hr hH hS hm dX12_readNot_25
  · have hm := m_ite_t hm c3
    refine lv_iconst (v := (0 : Int32)) hx hb dX12_readNot_7 (by decide) ?_
    exact r_zret X hr hH hS hm dX12_readNot_8
def rm_X12_readOf : Room := { frames := 4, cells := 0, slots := 0, locals := 88 }
def f_X12_readOf (a : Nat) (S : m_M) (i1 : Int32) : Option (Int32 × m_M) :=
    m_call (f_X12_readFunName a S) fun v2 S1 =>
    if v2 = 0 then (
    if (0 : Int32) = 0 ∨ (0 : Int32) = 1 then some ((0 : Int32), S1) else none) else (
    m_call (f_X12_saysOne a S1 ((50 : Int32) + i1) (m_ri S1 a 13) (0 : Int32) (0 : Int32)) fun v5 S4 =>
    m_let (m_si S4 a 50 v5) fun S6 =>
    if (1 : Int32) = 0 ∨ (1 : Int32) = 1 then some ((1 : Int32), S6) else none)
set_option maxHeartbeats 4000000 in
set_option maxRecDepth 100000 in
theorem c_X12_readOf {l : Launch} {G : m_G} {nx : Nat} {κ : Nat → Nat} {a : Nat} {S : m_M} {i1 : Int32} {res : (Int32 × m_M)} (hT : m_Str κ) (hk_a : κ a = 13) (hm : f_X12_readOf a S i1 = some res) : m_Ci l yX12_readOf cX12_readOf 2 (some .boolean) rm_X12_readOf G nx κ [.ref a, .int i1] S res := by
  refine m_Ci.of (by decide) (Nat.le_of_ble_eq_true rfl) ?_
  intro p e s m args below meth c ls X hr hH hl
  have hx := X.1.1
  have hb := X.1.2.1
  have hS : m_S G s s.heap [] := va_S.rf
  have hl : lv_has ls 2 [(0, .ref a), (1, .int i1)] := hl
  rw [f_X12_readOf] at hm
  refine lv_aload_n hx hb dX12_readOf_0 rfl (lv_at hl 0 rfl) ?_
  obtain ⟨v2, S1, e_S1, hm⟩ := m_call_of hm
  refine n_cVi X hH hS (k := 12) (c_X12_readFunName (a := a) hT hk_a e_S1) mw_X12_readFunName in_9_93 hk_a (by decide) rfl rfl rfl ⟨rfl, rfl⟩ ⟨Nat.le_of_ble_eq_true rfl, Nat.le_of_ble_eq_true rfl⟩ ⟨Nat.zero_le _, Nat.zero_le _⟩ hl.1 (Nat.le_of_ble_eq_true rfl) dX12_readOf_1 (fun H locs hH hS => ?_)
  refine lv_if_ne (tgt := 9) hx hb dX12_readOf_4 (by decide) (fun c3 => ?_) (fun c3 => ?_)
  · have hm := m_ite_f hm c3
    refine lv_aload_n hx hb dX12_readOf_9 rfl (lv_at hl 0 rfl) ?_
    refine lv_aload_n hx hb dX12_readOf_10 rfl (lv_at hl 0 rfl) ?_
    refine lv_bipush (v := (50 : Int32)) hx hb dX12_readOf_11 (by decide) ?_
    refine lv_iload_n hx hb dX12_readOf_13 rfl (lv_at hl 1 rfl) ?_
    refine lv_iadd hx hb dX12_readOf_14 ?_
    refine lv_aload_n hx hb dX12_readOf_15 rfl (lv_at hl 0 rfl) ?_
    refine r_geti X hH (k := 12) (a := a) (j := 13) hk_a (by decide) rfl m_wi12 (by decide) in_7_28 rfl rfl dX12_readOf_16 ?_
    refine lv_iconst (v := (0 : Int32)) hx hb dX12_readOf_19 (by decide) ?_
    refine lv_iconst (v := (0 : Int32)) hx hb dX12_readOf_20 (by decide) ?_
    obtain ⟨v5, S4, e_S4, hm⟩ := m_call_of hm
    refine n_cVi X hH hS (k := 12) (c_X12_saysOne (a := a) hT hk_a e_S4) mw_X12_saysOne in_9_85 hk_a (by decide) rfl rfl rfl ⟨rfl, rfl⟩ ⟨Nat.le_of_ble_eq_true rfl, Nat.le_of_ble_eq_true rfl⟩ ⟨Nat.zero_le _, Nat.zero_le _⟩ hl.1 (Nat.le_of_ble_eq_true rfl) dX12_readOf_21 (fun H locs hH hS => ?_)
    obtain ⟨S6, e_S6, hm⟩ := m_let_of hm
    refine n_puti X hH hS tyX12 (k := 12) (a := a) (j := 50) hk_a (by decide) rfl m_wi12 tyX12_ok nmX12 (by decide) in_7_65 rfl rfl rfl ⟨rfl, rfl⟩ e_S6 dX12_readOf_24 (fun H locs hH hS => ?_)
    refine lv_iconst (v := (1 : Int32)) hx hb dX12_readOf_27 (by decide) ?_
    exact r_zret X hr hH hS hm dX12_readOf_28
  · have hm := m_ite_t hm c3
    refine lv_iconst (v := (0 : Int32)) hx hb dX12_readOf_7 (by decide) ?_
    exact r_zret X hr hH hS hm dX12_readOf_8
def rm_X12_readCompare : Room := { frames := 3, cells := 0, slots := 0, locals := 67 }
def b_X12_readCompare_33 (a : Nat)  (S : m_M) (l1 : Int32) : Option (Int32 × m_M) :=
    m_let (m_ri S a 9) fun v1 =>
    m_cal0 (f_X12_go a S) fun S2 =>
    m_call (f_X12_readNumber a S2 (0 : Int32) (999 : Int32)) fun v4 S3 =>
    if v4 = 0 then (
    if (0 : Int32) = 0 ∨ (0 : Int32) = 1 then some ((0 : Int32), S3) else none) else (
    m_call (f_X12_saysOne a S3 ((50 : Int32) + l1) (0 : Int32) (m_ri S3 a 13) v1) fun v7 S6 =>
    m_let (m_si S6 a 50 v7) fun S8 =>
    if (1 : Int32) = 0 ∨ (1 : Int32) = 1 then some ((1 : Int32), S8) else none)
set_option maxHeartbeats 4000000 in
set_option maxRecDepth 100000 in
theorem k_X12_readCompare_33 {p : Program} {l : Launch} {e : Env} {s : State} {m : MethodId} {args : Array Value} {below : List Frame} {meth : Method} {c : Code} {G : m_G} {nx : Nat} {κ : Nat → Nat} {res : (Int32 × m_M)} {a : Nat} (X : m_Cx p s m args meth c cX12_readCompare 3 RX12 G) (hr : meth.sig.returnType = (some .boolean)) (hT : m_Str κ) (hk_a : κ a = 13)  : ∀ (S : m_M) (l1 : Int32) (H : Heap) (locs : List Loc) (ls : Array Slot), m_H G nx κ S H → m_S G s H locs → lv_has ls 3 [(0, .ref a), (1, .int l1)] → b_X12_readCompare_33 a S l1 = some res → W p l e rm_X12_readCompare s m args below meth c H locs 0 0 (m_Qi below args s G nx κ res) (F0 m 33 ls []) := by
  have hx := X.1.1
  have hb := X.1.2.1
  intro S l1 H locs ls hH hS hl hm
  rw [b_X12_readCompare_33] at hm
  refine lv_aload_n hx hb dX12_readCompare_33 rfl (lv_at hl 0 rfl) ?_
  refine r_geti X hH (k := 12) (a := a) (j := 9) hk_a (by decide) rfl m_wi12 (by decide) in_7_24 rfl rfl dX12_readCompare_34 ?_
  obtain ⟨v1, e_v1, hm⟩ := m_let_of hm
  refine n_topi e_v1 ?_
  refine lv_istore_n (lv' := [(2, .int v1), (0, .ref a), (1, .int l1)]) hx hb dX12_readCompare_37 rfl hl (by decide) rfl (fun ls hl => ?_)
  refine lv_aload_n hx hb dX12_readCompare_38 rfl (lv_at hl 1 rfl) ?_
  obtain ⟨S2, e_S2, hm⟩ := m_cal0_of hm
  refine r_cVv X hH hS (k := 12) (c_X12_go (a := a) hT hk_a e_S2) mw_X12_go in_7_181 hk_a (by decide) rfl rfl rfl ⟨rfl, rfl⟩ ⟨Nat.le_of_ble_eq_true rfl, Nat.le_of_ble_eq_true rfl⟩ ⟨Nat.zero_le _, Nat.zero_le _⟩ hl.1 (Nat.le_of_ble_eq_true rfl) dX12_readCompare_39 (fun H locs hH hS => ?_)
  refine lv_aload_n hx hb dX12_readCompare_42 rfl (lv_at hl 1 rfl) ?_
  refine lv_iconst (v := (0 : Int32)) hx hb dX12_readCompare_43 (by decide) ?_
  refine lv_sipush (v := (999 : Int32)) hx hb dX12_readCompare_44 (by decide) ?_
  obtain ⟨v4, S3, e_S3, hm⟩ := m_call_of hm
  refine n_cVi X hH hS (k := 12) (c_X12_readNumber (a := a) hT hk_a e_S3) mw_X12_readNumber in_9_101 hk_a (by decide) rfl rfl rfl ⟨rfl, rfl⟩ ⟨Nat.le_of_ble_eq_true rfl, Nat.le_of_ble_eq_true rfl⟩ ⟨Nat.zero_le _, Nat.zero_le _⟩ hl.1 (Nat.le_of_ble_eq_true rfl) dX12_readCompare_47 (fun H locs hH hS => ?_)
  refine lv_if_ne (tgt := 55) hx hb dX12_readCompare_50 (by decide) (fun c5 => ?_) (fun c5 => ?_)
  · have hm := m_ite_f hm c5
    refine lv_aload_n hx hb dX12_readCompare_55 rfl (lv_at hl 1 rfl) ?_
    refine lv_aload_n hx hb dX12_readCompare_56 rfl (lv_at hl 1 rfl) ?_
    refine lv_bipush (v := (50 : Int32)) hx hb dX12_readCompare_57 (by decide) ?_
    refine lv_iload_n hx hb dX12_readCompare_59 rfl (lv_at hl 2 rfl) ?_
    refine lv_iadd hx hb dX12_readCompare_60 ?_
    refine lv_iconst (v := (0 : Int32)) hx hb dX12_readCompare_61 (by decide) ?_
    refine lv_aload_n hx hb dX12_readCompare_62 rfl (lv_at hl 1 rfl) ?_
    refine r_geti X hH (k := 12) (a := a) (j := 13) hk_a (by decide) rfl m_wi12 (by decide) in_7_28 rfl rfl dX12_readCompare_63 ?_
    refine lv_iload_n hx hb dX12_readCompare_66 rfl (lv_at hl 0 rfl) ?_
    obtain ⟨v7, S6, e_S6, hm⟩ := m_call_of hm
    refine n_cVi X hH hS (k := 12) (c_X12_saysOne (a := a) hT hk_a e_S6) mw_X12_saysOne in_9_85 hk_a (by decide) rfl rfl rfl ⟨rfl, rfl⟩ ⟨Nat.le_of_ble_eq_true rfl, Nat.le_of_ble_eq_true rfl⟩ ⟨Nat.zero_le _, Nat.zero_le _⟩ hl.1 (Nat.le_of_ble_eq_true rfl) dX12_readCompare_67 (fun H locs hH hS => ?_)
    obtain ⟨S8, e_S8, hm⟩ := m_let_of hm
    refine n_puti X hH hS tyX12 (k := 12) (a := a) (j := 50) hk_a (by decide) rfl m_wi12 tyX12_ok nmX12 (by decide) in_7_65 rfl rfl rfl ⟨rfl, rfl⟩ e_S8 dX12_readCompare_70 (fun H locs hH hS => ?_)
    refine lv_iconst (v := (1 : Int32)) hx hb dX12_readCompare_73 (by decide) ?_
    exact r_zret X hr hH hS hm dX12_readCompare_74
  · have hm := m_ite_t hm c5
    refine lv_iconst (v := (0 : Int32)) hx hb dX12_readCompare_53 (by decide) ?_
    exact r_zret X hr hH hS hm dX12_readCompare_54
def f_X12_readCompare (a : Nat) (S : m_M) (i1 : Int32) : Option (Int32 × m_M) :=
    m_call (f_X12_isSign a S (60 : Int32)) fun v2 S1 =>
    if v2 = 0 then (
    m_call (f_X12_isSign a S1 (61 : Int32)) fun v5 S4 =>
    if v5 = 0 then (
    m_call (f_X12_isSign a S4 (62 : Int32)) fun v8 S7 =>
    if v8 = 0 then (
    m_call (f_X12_bad a S7 (1 : Int32)) fun v11 S10 =>
    if v11 = 0 ∨ v11 = 1 then some (v11, S10) else none) else (
    b_X12_readCompare_33 a S7 i1)) else (
    b_X12_readCompare_33 a S4 i1)) else (
    b_X12_readCompare_33 a S1 i1)
set_option maxHeartbeats 4000000 in
set_option maxRecDepth 100000 in
theorem c_X12_readCompare {l : Launch} {G : m_G} {nx : Nat} {κ : Nat → Nat} {a : Nat} {S : m_M} {i1 : Int32} {res : (Int32 × m_M)} (hT : m_Str κ) (hk_a : κ a = 13) (hm : f_X12_readCompare a S i1 = some res) : m_Ci l yX12_readCompare cX12_readCompare 3 (some .boolean) rm_X12_readCompare G nx κ [.ref a, .int i1] S res := by
  refine m_Ci.of (by decide) (Nat.le_of_ble_eq_true rfl) ?_
  intro p e s m args below meth c ls X hr hH hl
  have hx := X.1.1
  have hb := X.1.2.1
  have hS : m_S G s s.heap [] := va_S.rf
  have hl : lv_has ls 3 [(0, .ref a), (1, .int i1)] := hl
  rw [f_X12_readCompare] at hm
  refine lv_aload_n hx hb dX12_readCompare_0 rfl (lv_at hl 0 rfl) ?_
  refine lv_bipush (v := (60 : Int32)) hx hb dX12_readCompare_1 (by decide) ?_
  obtain ⟨v2, S1, e_S1, hm⟩ := m_call_of hm
  refine n_cVi X hH hS (k := 12) (c_X12_isSign (a := a) hT hk_a e_S1) mw_X12_isSign in_8_26 hk_a (by decide) rfl rfl rfl ⟨rfl, rfl⟩ ⟨Nat.le_of_ble_eq_true rfl, Nat.le_of_ble_eq_true rfl⟩ ⟨Nat.zero_le _, Nat.zero_le _⟩ hl.1 (Nat.le_of_ble_eq_true rfl) dX12_readCompare_3 (fun H locs hH hS => ?_)
  refine lv_if_ne (tgt := 33) hx hb dX12_readCompare_6 (by decide) (fun c3 => ?_) (fun c3 => ?_)
  · have hm := m_ite_f hm c3
    exact k_X12_readCompare_33 (a := a) X hr hT hk_a   S1 i1 _ _ _ hH hS hl hm
  · have hm := m_ite_t hm c3
    refine lv_aload_n hx hb dX12_readCompare_9 rfl (lv_at hl 0 rfl) ?_
    refine lv_bipush (v := (61 : Int32)) hx hb dX12_readCompare_10 (by decide) ?_
    obtain ⟨v5, S4, e_S4, hm⟩ := m_call_of hm
    refine n_cVi X hH hS (k := 12) (c_X12_isSign (a := a) hT hk_a e_S4) mw_X12_isSign in_8_26 hk_a (by decide) rfl rfl rfl ⟨rfl, rfl⟩ ⟨Nat.le_of_ble_eq_true rfl, Nat.le_of_ble_eq_true rfl⟩ ⟨Nat.zero_le _, Nat.zero_le _⟩ hl.1 (Nat.le_of_ble_eq_true rfl) dX12_readCompare_12 (fun H locs hH hS => ?_)
    refine lv_if_ne (tgt := 33) hx hb dX12_readCompare_15 (by decide) (fun c6 => ?_) (fun c6 => ?_)
    · have hm := m_ite_f hm c6
      exact k_X12_readCompare_33 (a := a) X hr hT hk_a   S4 i1 _ _ _ hH hS hl hm
    · have hm := m_ite_t hm c6
      refine lv_aload_n hx hb dX12_readCompare_18 rfl (lv_at hl 0 rfl) ?_
      refine lv_bipush (v := (62 : Int32)) hx hb dX12_readCompare_19 (by decide) ?_
      obtain ⟨v8, S7, e_S7, hm⟩ := m_call_of hm
      refine n_cVi X hH hS (k := 12) (c_X12_isSign (a := a) hT hk_a e_S7) mw_X12_isSign in_8_26 hk_a (by decide) rfl rfl rfl ⟨rfl, rfl⟩ ⟨Nat.le_of_ble_eq_true rfl, Nat.le_of_ble_eq_true rfl⟩ ⟨Nat.zero_le _, Nat.zero_le _⟩ hl.1 (Nat.le_of_ble_eq_true rfl) dX12_readCompare_21 (fun H locs hH hS => ?_)
      refine lv_if_ne (tgt := 33) hx hb dX12_readCompare_24 (by decide) (fun c9 => ?_) (fun c9 => ?_)
      · have hm := m_ite_f hm c9
        exact k_X12_readCompare_33 (a := a) X hr hT hk_a   S7 i1 _ _ _ hH hS hl hm
      · have hm := m_ite_t hm c9
        refine lv_aload_n hx hb dX12_readCompare_27 rfl (lv_at hl 0 rfl) ?_
        refine lv_iconst (v := (1 : Int32)) hx hb dX12_readCompare_28 (by decide) ?_
        obtain ⟨v11, S10, e_S10, hm⟩ := m_call_of hm
        refine n_cVi X hH hS (k := 12) (c_X12_bad (a := a) hT hk_a e_S10) mw_X12_bad in_7_219 hk_a (by decide) rfl rfl rfl ⟨rfl, rfl⟩ ⟨Nat.le_of_ble_eq_true rfl, Nat.le_of_ble_eq_true rfl⟩ ⟨Nat.zero_le _, Nat.zero_le _⟩ hl.1 (Nat.le_of_ble_eq_true rfl) dX12_readCompare_29 (fun H locs hH hS => ?_)
        exact r_zret X hr hH hS hm dX12_readCompare_32
def rm_X12_readSaid_ (r : Room) : Room := { frames := r.frames + 6, cells := 0, slots := 0, locals := r.locals + 130 }
def b_X12_readSaid_64 (F : Nat → m_M → Option (Int32 × m_M)) (a : Nat)  (S : m_M)  : Option (Int32 × m_M) :=
    m_call (f_X12_bad a S (4 : Int32)) fun v2 S1 =>
    if v2 = 0 ∨ v2 = 1 then some (v2, S1) else none
set_option maxHeartbeats 4000000 in
set_option maxRecDepth 100000 in
theorem k_X12_readSaid_64 {p : Program} {l : Launch} {e : Env} {s : State} {m : MethodId} {args : Array Value} {below : List Frame} {meth : Method} {c : Code} {G : m_G} {nx : Nat} {κ : Nat → Nat} {res : (Int32 × m_M)} {F : Nat → m_M → Option (Int32 × m_M)} {a : Nat} (X : m_Cx p s m args meth c cX12_readSaid 4 RX12 G) (hr : meth.sig.returnType = (some .boolean)) (hT : m_Str κ) (rF : Room) (hrF : rF.cells = 0 ∧ rF.slots = 0) (hF : ∀ (a : Nat) (S : m_M)  (res : (Int32 × m_M)), κ a = 13 → F a S = some res → m_Ci l yX12_readSaid cX12_readSaid 4 (some .boolean) rF G nx κ [.ref a] S res) (hk_a : κ a = 13)  : ∀ (S : m_M)  (H : Heap) (locs : List Loc) (ls : Array Slot), m_H G nx κ S H → m_S G s H locs → lv_has ls 4 [(0, .ref a)] → b_X12_readSaid_64 F a S  = some res → W p l e (rm_X12_readSaid_ rF) s m args below meth c H locs 0 0 (m_Qi below args s G nx κ res) (F0 m 64 ls []) := by
  have hx := X.1.1
  have hb := X.1.2.1
  intro S H locs ls hH hS hl hm
  rw [b_X12_readSaid_64] at hm
  refine lv_aload_n hx hb dX12_readSaid_64 rfl (lv_at hl 0 rfl) ?_
  refine lv_iconst (v := (4 : Int32)) hx hb dX12_readSaid_65 (by decide) ?_
  obtain ⟨v2, S1, e_S1, hm⟩ := m_call_of hm
  refine n_cVi X hH hS (k := 12) (c_X12_bad (a := a) hT hk_a e_S1) mw_X12_bad in_7_219 hk_a (by decide) rfl rfl rfl ⟨rfl, rfl⟩ ⟨by simp only [rm_X12_readSaid_, rm_X12_bad]; omega, by simp only [rm_X12_readSaid_, rm_X12_bad]; omega⟩ ⟨Nat.zero_le _, Nat.zero_le _⟩ hl.1 (Nat.le_of_ble_eq_true rfl) dX12_readSaid_66 (fun H locs hH hS => ?_)
  exact r_zret X hr hH hS hm dX12_readSaid_69
def b_X12_readSaid_166 (F : Nat → m_M → Option (Int32 × m_M)) (a : Nat)  (S : m_M) (l3 : Int32) : Option (Int32 × m_M) :=
    m_let (m_si S a 49 ((m_ri S a 49) - (1 : Int32))) fun S1 =>
    if l3 = 0 ∨ l3 = 1 then some (l3, S1) else none
set_option maxHeartbeats 4000000 in
set_option maxRecDepth 100000 in
theorem k_X12_readSaid_166 {p : Program} {l : Launch} {e : Env} {s : State} {m : MethodId} {args : Array Value} {below : List Frame} {meth : Method} {c : Code} {G : m_G} {nx : Nat} {κ : Nat → Nat} {res : (Int32 × m_M)} {F : Nat → m_M → Option (Int32 × m_M)} {a : Nat} (X : m_Cx p s m args meth c cX12_readSaid 4 RX12 G) (hr : meth.sig.returnType = (some .boolean)) (hT : m_Str κ) (rF : Room) (hrF : rF.cells = 0 ∧ rF.slots = 0) (hF : ∀ (a : Nat) (S : m_M)  (res : (Int32 × m_M)), κ a = 13 → F a S = some res → m_Ci l yX12_readSaid cX12_readSaid 4 (some .boolean) rF G nx κ [.ref a] S res) (hk_a : κ a = 13)  : ∀ (S : m_M) (l3 : Int32) (H : Heap) (locs : List Loc) (ls : Array Slot), m_H G nx κ S H → m_S G s H locs → lv_has ls 4 [(0, .ref a), (3, .int l3)] → b_X12_readSaid_166 F a S l3 = some res → W p l e (rm_X12_readSaid_ rF) s m args below meth c H locs 0 0 (m_Qi below args s G nx κ res) (F0 m 166 ls []) := by
  have hx := X.1.1
  have hb := X.1.2.1
  intro S l3 H locs ls hH hS hl hm
  rw [b_X12_readSaid_166] at hm
  refine lv_aload_n hx hb dX12_readSaid_166 rfl (lv_at hl 0 rfl) ?_
  refine lv_dup hx hb dX12_readSaid_167 rfl ?_
  refine r_geti X hH (k := 12) (a := a) (j := 49) hk_a (by decide) rfl m_wi12 (by decide) in_7_64 rfl rfl dX12_readSaid_168 ?_
  refine lv_iconst (v := (1 : Int32)) hx hb dX12_readSaid_171 (by decide) ?_
  refine lv_isub hx hb dX12_readSaid_172 ?_
  obtain ⟨S1, e_S1, hm⟩ := m_let_of hm
  refine n_puti X hH hS tyX12 (k := 12) (a := a) (j := 49) hk_a (by decide) rfl m_wi12 tyX12_ok nmX12 (by decide) in_7_64 rfl rfl rfl ⟨rfl, rfl⟩ e_S1 dX12_readSaid_173 (fun H locs hH hS => ?_)
  refine lv_iload_n hx hb dX12_readSaid_176 rfl (lv_at hl 1 rfl) ?_
  exact r_zret X hr hH hS hm dX12_readSaid_177
def b_X12_readSaid_165 (F : Nat → m_M → Option (Int32 × m_M)) (a : Nat)  (S : m_M) (t0 : Int32) : Option (Int32 × m_M) :=
    b_X12_readSaid_166 F a S t0
set_option maxHeartbeats 4000000 in
set_option maxRecDepth 100000 in
theorem k_X12_readSaid_165 {p : Program} {l : Launch} {e : Env} {s : State} {m : MethodId} {args : Array Value} {below : List Frame} {meth : Method} {c : Code} {G : m_G} {nx : Nat} {κ : Nat → Nat} {res : (Int32 × m_M)} {F : Nat → m_M → Option (Int32 × m_M)} {a : Nat} (X : m_Cx p s m args meth c cX12_readSaid 4 RX12 G) (hr : meth.sig.returnType = (some .boolean)) (hT : m_Str κ) (rF : Room) (hrF : rF.cells = 0 ∧ rF.slots = 0) (hF : ∀ (a : Nat) (S : m_M)  (res : (Int32 × m_M)), κ a = 13 → F a S = some res → m_Ci l yX12_readSaid cX12_readSaid 4 (some .boolean) rF G nx κ [.ref a] S res) (hk_a : κ a = 13)  : ∀ (S : m_M) (t0 : Int32) (H : Heap) (locs : List Loc) (ls : Array Slot), m_H G nx κ S H → m_S G s H locs → lv_has ls 4 [(0, .ref a)] → b_X12_readSaid_165 F a S t0 = some res → W p l e (rm_X12_readSaid_ rF) s m args below meth c H locs 0 0 (m_Qi below args s G nx κ res) (F0 m 165 ls [.int t0]) := by
  have hx := X.1.1
  have hb := X.1.2.1
  intro S t0 H locs ls hH hS hl hm
  rw [b_X12_readSaid_165] at hm
  refine lv_istore_n (lv' := [(3, .int t0), (0, .ref a)]) hx hb dX12_readSaid_165 rfl hl (by decide) rfl (fun ls hl => ?_)
  exact k_X12_readSaid_166 (F := F) (a := a) X hr hT rF hrF hF hk_a   S t0 _ _ _ hH hS (lv_sub hl [1, 0] rfl) hm
def b_X12_readSaid_46 (F : Nat → m_M → Option (Int32 × m_M)) (a : Nat)  (S : m_M) (l1 : Int32) (l2 : Int32) : Option (Int32 × m_M) :=
    if (m_ri S a 48) = (20 : Int32) then (
    b_X12_readSaid_64 F a S) else (
    if (m_ri S a 49) = (8 : Int32) then (
    b_X12_readSaid_64 F a S) else (
    m_let (m_si S a 48 ((m_ri S a 48) + (1 : Int32))) fun S3 =>
    m_let (m_si S3 a 49 ((m_ri S3 a 49) + (1 : Int32))) fun S4 =>
    m_cal0 (f_X12_go a S4) fun S5 =>
    if l1 = 0 then (
    if l2 = (13 : Int32) then (
    m_call (f_X12_readNot F a S5) fun v18 S17 =>
    b_X12_readSaid_166 F a S17 v18) else (
    if (17 : Int32) ≤ l2 then (
    if (19 : Int32) ≤ l2 then (
    m_call (f_X12_readCompare a S5 l2) fun v11 S10 =>
    b_X12_readSaid_165 F a S10 v11) else (
    m_call (f_X12_readOf a S5 l2) fun v13 S12 =>
    b_X12_readSaid_165 F a S12 v13)) else (
    m_call (f_X12_saysOne a S5 ((50 : Int32) + l2) (0 : Int32) (0 : Int32) (0 : Int32)) fun v15 S14 =>
    m_let (m_si S14 a 50 v15) fun S16 =>
    b_X12_readSaid_166 F a S16 (1 : Int32)))) else (
    m_call (f_X12_readBracket F a S5) fun v20 S19 =>
    b_X12_readSaid_166 F a S19 v20)))
set_option maxHeartbeats 4000000 in
set_option maxRecDepth 100000 in
theorem k_X12_readSaid_46 {p : Program} {l : Launch} {e : Env} {s : State} {m : MethodId} {args : Array Value} {below : List Frame} {meth : Method} {c : Code} {G : m_G} {nx : Nat} {κ : Nat → Nat} {res : (Int32 × m_M)} {F : Nat → m_M → Option (Int32 × m_M)} {a : Nat} (X : m_Cx p s m args meth c cX12_readSaid 4 RX12 G) (hr : meth.sig.returnType = (some .boolean)) (hT : m_Str κ) (rF : Room) (hrF : rF.cells = 0 ∧ rF.slots = 0) (hF : ∀ (a : Nat) (S : m_M)  (res : (Int32 × m_M)), κ a = 13 → F a S = some res → m_Ci l yX12_readSaid cX12_readSaid 4 (some .boolean) rF G nx κ [.ref a] S res) (hk_a : κ a = 13)  : ∀ (S : m_M) (l1 : Int32) (l2 : Int32) (H : Heap) (locs : List Loc) (ls : Array Slot), m_H G nx κ S H → m_S G s H locs → lv_has ls 4 [(0, .ref a), (1, .int l1), (2, .int l2)] → b_X12_readSaid_46 F a S l1 l2 = some res → W p l e (rm_X12_readSaid_ rF) s m args below meth c H locs 0 0 (m_Qi below args s G nx κ res) (F0 m 46 ls []) := by
  have hx := X.1.1
  have hb := X.1.2.1
  intro S l1 l2 H locs ls hH hS hl hm
  rw [b_X12_readSaid_46] at hm
  refine lv_aload_n hx hb dX12_readSaid_46 rfl (lv_at hl 0 rfl) ?_
  refine r_geti X hH (k := 12) (a := a) (j := 48) hk_a (by decide) rfl m_wi12 (by decide) in_7_63 rfl rfl dX12_readSaid_47 ?_
  refine lv_bipush (v := (20 : Int32)) hx hb dX12_readSaid_50 (by decide) ?_
  refine lv_icmp_eq (tgt := 64) hx hb dX12_readSaid_52 (by decide) (fun c1 => ?_) (fun c1 => ?_)
  · have hm := m_ite_t hm c1
    exact k_X12_readSaid_64 (F := F) (a := a) X hr hT rF hrF hF hk_a   S _ _ _ hH hS (lv_sub hl [0] rfl) hm
  · have hm := m_ite_f hm c1
    refine lv_aload_n hx hb dX12_readSaid_55 rfl (lv_at hl 0 rfl) ?_
    refine r_geti X hH (k := 12) (a := a) (j := 49) hk_a (by decide) rfl m_wi12 (by decide) in_7_64 rfl rfl dX12_readSaid_56 ?_
    refine lv_bipush (v := (8 : Int32)) hx hb dX12_readSaid_59 (by decide) ?_
    refine lv_icmp_ne (tgt := 70) hx hb dX12_readSaid_61 (by decide) (fun c2 => ?_) (fun c2 => ?_)
    · have hm := m_ite_f hm c2
      refine lv_aload_n hx hb dX12_readSaid_70 rfl (lv_at hl 0 rfl) ?_
      refine lv_dup hx hb dX12_readSaid_71 rfl ?_
      refine r_geti X hH (k := 12) (a := a) (j := 48) hk_a (by decide) rfl m_wi12 (by decide) in_7_63 rfl rfl dX12_readSaid_72 ?_
      refine lv_iconst (v := (1 : Int32)) hx hb dX12_readSaid_75 (by decide) ?_
      refine lv_iadd hx hb dX12_readSaid_76 ?_
      obtain ⟨S3, e_S3, hm⟩ := m_let_of hm
      refine n_puti X hH hS tyX12 (k := 12) (a := a) (j := 48) hk_a (by decide) rfl m_wi12 tyX12_ok nmX12 (by decide) in_7_63 rfl rfl rfl ⟨rfl, rfl⟩ e_S3 dX12_readSaid_77 (fun H locs hH hS => ?_)
      refine lv_aload_n hx hb dX12_readSaid_80 rfl (lv_at hl 0 rfl) ?_
      refine lv_dup hx hb dX12_readSaid_81 rfl ?_
      refine r_geti X hH (k := 12) (a := a) (j := 49) hk_a (by decide) rfl m_wi12 (by decide) in_7_64 rfl rfl dX12_readSaid_82 ?_
      refine lv_iconst (v := (1 : Int32)) hx hb dX12_readSaid_85 (by decide) ?_
      refine lv_iadd hx hb dX12_readSaid_86 ?_
      obtain ⟨S4, e_S4, hm⟩ := m_let_of hm
      refine n_puti X hH hS tyX12 (k := 12) (a := a) (j := 49) hk_a (by decide) rfl m_wi12 tyX12_ok nmX12 (by decide) in_7_64 rfl rfl rfl ⟨rfl, rfl⟩ e_S4 dX12_readSaid_87 (fun H locs hH hS => ?_)
      refine lv_aload_n hx hb dX12_readSaid_90 rfl (lv_at hl 0 rfl) ?_
      obtain ⟨S5, e_S5, hm⟩ := m_cal0_of hm
      refine r_cVv X hH hS (k := 12) (c_X12_go (a := a) hT hk_a e_S5) mw_X12_go in_7_181 hk_a (by decide) rfl rfl rfl ⟨rfl, rfl⟩ ⟨by simp only [rm_X12_readSaid_, rm_X12_go]; omega, by simp only [rm_X12_readSaid_, rm_X12_go]; omega⟩ ⟨Nat.zero_le _, Nat.zero_le _⟩ hl.1 (Nat.le_of_ble_eq_true rfl) dX12_readSaid_91 (fun H locs hH hS => ?_)
      refine lv_iconst (v := (1 : Int32)) hx hb dX12_readSaid_94 (by decide) ?_
      refine lv_istore_n (lv' := [(3, .int (1 : Int32)), (0, .ref a), (1, .int l1), (2, .int l2)]) hx hb dX12_readSaid_95 rfl hl (by decide) rfl (fun ls hl => ?_)
      refine lv_iload_n hx hb dX12_readSaid_96 rfl (lv_at hl 2 rfl) ?_
      refine lv_if_eq (tgt := 108) hx hb dX12_readSaid_97 (by decide) (fun c6 => ?_) (fun c6 => ?_)
      · have hm := m_ite_t hm c6
        refine lv_iload_n hx hb dX12_readSaid_108 rfl (lv_at hl 3 rfl) ?_
        refine lv_bipush (v := (13 : Int32)) hx hb dX12_readSaid_109 (by decide) ?_
        refine lv_icmp_ne (tgt := 122) hx hb dX12_readSaid_111 (by decide) (fun c7 => ?_) (fun c7 => ?_)
        · have hm := m_ite_f hm c7
          refine lv_iload_n hx hb dX12_readSaid_122 rfl (lv_at hl 3 rfl) ?_
          refine lv_bipush (v := (17 : Int32)) hx hb dX12_readSaid_123 (by decide) ?_
          refine lv_icmp_ge (tgt := 146) hx hb dX12_readSaid_125 (by decide) (fun c8 => ?_) (fun c8 => ?_)
          · have hm := m_ite_t hm c8
            refine lv_iload_n hx hb dX12_readSaid_146 rfl (lv_at hl 3 rfl) ?_
            refine lv_bipush (v := (19 : Int32)) hx hb dX12_readSaid_147 (by decide) ?_
            refine lv_icmp_ge (tgt := 160) hx hb dX12_readSaid_149 (by decide) (fun c9 => ?_) (fun c9 => ?_)
            · have hm := m_ite_t hm c9
              refine lv_aload_n hx hb dX12_readSaid_160 rfl (lv_at hl 1 rfl) ?_
              refine lv_iload_n hx hb dX12_readSaid_161 rfl (lv_at hl 3 rfl) ?_
              obtain ⟨v11, S10, e_S10, hm⟩ := m_call_of hm
              refine n_cVi X hH hS (k := 12) (c_X12_readCompare (a := a) hT hk_a e_S10) mw_X12_readCompare in_9_97 hk_a (by decide) rfl rfl rfl ⟨rfl, rfl⟩ ⟨by simp only [rm_X12_readSaid_, rm_X12_readCompare]; omega, by simp only [rm_X12_readSaid_, rm_X12_readCompare]; omega⟩ ⟨Nat.zero_le _, Nat.zero_le _⟩ hl.1 (Nat.le_of_ble_eq_true rfl) dX12_readSaid_162 (fun H locs hH hS => ?_)
              exact k_X12_readSaid_165 (F := F) (a := a) X hr hT rF hrF hF hk_a   S10 v11 _ _ _ hH hS (lv_sub hl [1] rfl) hm
            · have hm := m_ite_f hm c9
              refine lv_aload_n hx hb dX12_readSaid_152 rfl (lv_at hl 1 rfl) ?_
              refine lv_iload_n hx hb dX12_readSaid_153 rfl (lv_at hl 3 rfl) ?_
              obtain ⟨v13, S12, e_S12, hm⟩ := m_call_of hm
              refine n_cVi X hH hS (k := 12) (c_X12_readOf (a := a) hT hk_a e_S12) mw_X12_readOf in_9_89 hk_a (by decide) rfl rfl rfl ⟨rfl, rfl⟩ ⟨by simp only [rm_X12_readSaid_, rm_X12_readOf]; omega, by simp only [rm_X12_readSaid_, rm_X12_readOf]; omega⟩ ⟨Nat.zero_le _, Nat.zero_le _⟩ hl.1 (Nat.le_of_ble_eq_true rfl) dX12_readSaid_154 (fun H locs hH hS => ?_)
              refine lv_goto (tgt := 165) hx hb dX12_readSaid_157 (by decide) ?_
              exact k_X12_readSaid_165 (F := F) (a := a) X hr hT rF hrF hF hk_a   S12 v13 _ _ _ hH hS (lv_sub hl [1] rfl) hm
          · have hm := m_ite_f hm c8
            refine lv_aload_n hx hb dX12_readSaid_128 rfl (lv_at hl 1 rfl) ?_
            refine lv_aload_n hx hb dX12_readSaid_129 rfl (lv_at hl 1 rfl) ?_
            refine lv_bipush (v := (50 : Int32)) hx hb dX12_readSaid_130 (by decide) ?_
            refine lv_iload_n hx hb dX12_readSaid_132 rfl (lv_at hl 3 rfl) ?_
            refine lv_iadd hx hb dX12_readSaid_133 ?_
            refine lv_iconst (v := (0 : Int32)) hx hb dX12_readSaid_134 (by decide) ?_
            refine lv_iconst (v := (0 : Int32)) hx hb dX12_readSaid_135 (by decide) ?_
            refine lv_iconst (v := (0 : Int32)) hx hb dX12_readSaid_136 (by decide) ?_
            obtain ⟨v15, S14, e_S14, hm⟩ := m_call_of hm
            refine n_cVi X hH hS (k := 12) (c_X12_saysOne (a := a) hT hk_a e_S14) mw_X12_saysOne in_9_85 hk_a (by decide) rfl rfl rfl ⟨rfl, rfl⟩ ⟨by simp only [rm_X12_readSaid_, rm_X12_saysOne]; omega, by simp only [rm_X12_readSaid_, rm_X12_saysOne]; omega⟩ ⟨Nat.zero_le _, Nat.zero_le _⟩ hl.1 (Nat.le_of_ble_eq_true rfl) dX12_readSaid_137 (fun H locs hH hS => ?_)
            obtain ⟨S16, e_S16, hm⟩ := m_let_of hm
            refine n_puti X hH hS tyX12 (k := 12) (a := a) (j := 50) hk_a (by decide) rfl m_wi12 tyX12_ok nmX12 (by decide) in_7_65 rfl rfl rfl ⟨rfl, rfl⟩ e_S16 dX12_readSaid_140 (fun H locs hH hS => ?_)
            refine lv_goto (tgt := 166) hx hb dX12_readSaid_143 (by decide) ?_
            exact k_X12_readSaid_166 (F := F) (a := a) X hr hT rF hrF hF hk_a   S16 (1 : Int32) _ _ _ hH hS (lv_sub hl [1, 0] rfl) hm
        · have hm := m_ite_t hm c7
          refine lv_aload_n hx hb dX12_readSaid_114 rfl (lv_at hl 1 rfl) ?_
          obtain ⟨v18, S17, e_S17, hm⟩ := m_call_of hm
          refine n_cVi X hH hS (k := 12) (c_X12_readNot (F := F) (rF := rF) hrF hF (a := a) hT hk_a e_S17) mw_X12_readNot in_9_81 hk_a (by decide) rfl rfl rfl ⟨rfl, rfl⟩ ⟨by simp only [rm_X12_readSaid_, rm_X12_readNot]; omega, by simp only [rm_X12_readSaid_, rm_X12_readNot]; omega⟩ ⟨Nat.zero_le _, Nat.zero_le _⟩ hl.1 (Nat.le_of_ble_eq_true rfl) dX12_readSaid_115 (fun H locs hH hS => ?_)
          refine lv_istore_n (lv' := [(3, .int v18), (0, .ref a), (1, .int l1), (2, .int l2)]) hx hb dX12_readSaid_118 rfl hl (by decide) rfl (fun ls hl => ?_)
          refine lv_goto (tgt := 166) hx hb dX12_readSaid_119 (by decide) ?_
          exact k_X12_readSaid_166 (F := F) (a := a) X hr hT rF hrF hF hk_a   S17 v18 _ _ _ hH hS (lv_sub hl [1, 0] rfl) hm
      · have hm := m_ite_f hm c6
        refine lv_aload_n hx hb dX12_readSaid_100 rfl (lv_at hl 1 rfl) ?_
        obtain ⟨v20, S19, e_S19, hm⟩ := m_call_of hm
        refine n_cVi X hH hS (k := 12) (c_X12_readBracket (F := F) (rF := rF) hrF hF (a := a) hT hk_a e_S19) mw_X12_readBracket in_9_77 hk_a (by decide) rfl rfl rfl ⟨rfl, rfl⟩ ⟨by simp only [rm_X12_readSaid_, rm_X12_readBracket]; omega, by simp only [rm_X12_readSaid_, rm_X12_readBracket]; omega⟩ ⟨Nat.zero_le _, Nat.zero_le _⟩ hl.1 (Nat.le_of_ble_eq_true rfl) dX12_readSaid_101 (fun H locs hH hS => ?_)
        refine lv_istore_n (lv' := [(3, .int v20), (0, .ref a), (1, .int l1), (2, .int l2)]) hx hb dX12_readSaid_104 rfl hl (by decide) rfl (fun ls hl => ?_)
        refine lv_goto (tgt := 166) hx hb dX12_readSaid_105 (by decide) ?_
        exact k_X12_readSaid_166 (F := F) (a := a) X hr hT rF hrF hF hk_a   S19 v20 _ _ _ hH hS (lv_sub hl [1, 0] rfl) hm
    · have hm := m_ite_t hm c2
      exact k_X12_readSaid_64 (F := F) (a := a) X hr hT rF hrF hF hk_a   S _ _ _ hH hS (lv_sub hl [0] rfl) hm
def b_X12_readSaid_30 (F : Nat → m_M → Option (Int32 × m_M)) (a : Nat)  (S : m_M) (l1 : Int32) (l2 : Int32) : Option (Int32 × m_M) :=
    if l1 = 0 then (
    if l2 ≤ (21 : Int32) then (
    b_X12_readSaid_46 F a S l1 l2) else (
    m_call (f_X12_bad a S (1 : Int32)) fun v4 S3 =>
    if v4 = 0 ∨ v4 = 1 then some (v4, S3) else none)) else (
    b_X12_readSaid_46 F a S l1 l2)
set_option maxHeartbeats 4000000 in
set_option maxRecDepth 100000 in
theorem k_X12_readSaid_30 {p : Program} {l : Launch} {e : Env} {s : State} {m : MethodId} {args : Array Value} {below : List Frame} {meth : Method} {c : Code} {G : m_G} {nx : Nat} {κ : Nat → Nat} {res : (Int32 × m_M)} {F : Nat → m_M → Option (Int32 × m_M)} {a : Nat} (X : m_Cx p s m args meth c cX12_readSaid 4 RX12 G) (hr : meth.sig.returnType = (some .boolean)) (hT : m_Str κ) (rF : Room) (hrF : rF.cells = 0 ∧ rF.slots = 0) (hF : ∀ (a : Nat) (S : m_M)  (res : (Int32 × m_M)), κ a = 13 → F a S = some res → m_Ci l yX12_readSaid cX12_readSaid 4 (some .boolean) rF G nx κ [.ref a] S res) (hk_a : κ a = 13)  : ∀ (S : m_M) (l1 : Int32) (l2 : Int32) (H : Heap) (locs : List Loc) (ls : Array Slot), m_H G nx κ S H → m_S G s H locs → lv_has ls 4 [(0, .ref a), (1, .int l1), (2, .int l2)] → b_X12_readSaid_30 F a S l1 l2 = some res → W p l e (rm_X12_readSaid_ rF) s m args below meth c H locs 0 0 (m_Qi below args s G nx κ res) (F0 m 30 ls []) := by
  have hx := X.1.1
  have hb := X.1.2.1
  intro S l1 l2 H locs ls hH hS hl hm
  rw [b_X12_readSaid_30] at hm
  refine lv_iload_n hx hb dX12_readSaid_30 rfl (lv_at hl 1 rfl) ?_
  refine lv_if_ne (tgt := 46) hx hb dX12_readSaid_31 (by decide) (fun c1 => ?_) (fun c1 => ?_)
  · have hm := m_ite_f hm c1
    exact k_X12_readSaid_46 (F := F) (a := a) X hr hT rF hrF hF hk_a   S l1 l2 _ _ _ hH hS hl hm
  · have hm := m_ite_t hm c1
    refine lv_iload_n hx hb dX12_readSaid_34 rfl (lv_at hl 2 rfl) ?_
    refine lv_bipush (v := (21 : Int32)) hx hb dX12_readSaid_35 (by decide) ?_
    refine lv_icmp_le (tgt := 46) hx hb dX12_readSaid_37 (by decide) (fun c2 => ?_) (fun c2 => ?_)
    · have hm := m_ite_t hm c2
      exact k_X12_readSaid_46 (F := F) (a := a) X hr hT rF hrF hF hk_a   S l1 l2 _ _ _ hH hS hl hm
    · have hm := m_ite_f hm c2
      refine lv_aload_n hx hb dX12_readSaid_40 rfl (lv_at hl 0 rfl) ?_
      refine lv_iconst (v := (1 : Int32)) hx hb dX12_readSaid_41 (by decide) ?_
      obtain ⟨v4, S3, e_S3, hm⟩ := m_call_of hm
      refine n_cVi X hH hS (k := 12) (c_X12_bad (a := a) hT hk_a e_S3) mw_X12_bad in_7_219 hk_a (by decide) rfl rfl rfl ⟨rfl, rfl⟩ ⟨by simp only [rm_X12_readSaid_, rm_X12_bad]; omega, by simp only [rm_X12_readSaid_, rm_X12_bad]; omega⟩ ⟨Nat.zero_le _, Nat.zero_le _⟩ hl.1 (Nat.le_of_ble_eq_true rfl) dX12_readSaid_42 (fun H locs hH hS => ?_)
      exact r_zret X hr hH hS hm dX12_readSaid_45
def b_X12_readSaid_10 (F : Nat → m_M → Option (Int32 × m_M)) (a : Nat)  : Nat → m_M → Int32 → Int32 → Option (Int32 × m_M)
  | 0, _, _, _ => none
  | n + 1, S, l1, l2 =>
    if (21 : Int32) < l2 then (
    b_X12_readSaid_30 F a S l1 l2) else (
    m_call (f_X12_isWord a S l2) fun v3 S2 =>
    if v3 = 0 then (
    m_let (l2 + (1 : Int32)) fun v5 =>
    b_X12_readSaid_10 F a n S2 l1 v5) else (
    b_X12_readSaid_30 F a S2 l1 l2))
set_option maxHeartbeats 4000000 in
set_option maxRecDepth 100000 in
theorem k_X12_readSaid_10 {p : Program} {l : Launch} {e : Env} {s : State} {m : MethodId} {args : Array Value} {below : List Frame} {meth : Method} {c : Code} {G : m_G} {nx : Nat} {κ : Nat → Nat} {res : (Int32 × m_M)} {F : Nat → m_M → Option (Int32 × m_M)} {a : Nat} (X : m_Cx p s m args meth c cX12_readSaid 4 RX12 G) (hr : meth.sig.returnType = (some .boolean)) (hT : m_Str κ) (rF : Room) (hrF : rF.cells = 0 ∧ rF.slots = 0) (hF : ∀ (a : Nat) (S : m_M)  (res : (Int32 × m_M)), κ a = 13 → F a S = some res → m_Ci l yX12_readSaid cX12_readSaid 4 (some .boolean) rF G nx κ [.ref a] S res) (hk_a : κ a = 13)  (n : Nat) : ∀ (S : m_M) (l1 : Int32) (l2 : Int32) (H : Heap) (locs : List Loc) (ls : Array Slot), m_H G nx κ S H → m_S G s H locs → lv_has ls 4 [(0, .ref a), (1, .int l1), (2, .int l2)] → b_X12_readSaid_10 F a n S l1 l2 = some res → W p l e (rm_X12_readSaid_ rF) s m args below meth c H locs 0 0 (m_Qi below args s G nx κ res) (F0 m 10 ls []) := by
  have hx := X.1.1
  have hb := X.1.2.1
  induction n with
  | zero => intro S l1 l2 H locs ls hH hS hl hm; have hm : (none : Option (Int32 × m_M)) = some res := hm; cases hm
  | succ n ih =>
    intro S l1 l2 H locs ls hH hS hl hm
    rw [b_X12_readSaid_10] at hm
    refine lv_iload_n hx hb dX12_readSaid_10 rfl (lv_at hl 2 rfl) ?_
    refine lv_bipush (v := (21 : Int32)) hx hb dX12_readSaid_11 (by decide) ?_
    refine lv_icmp_gt (tgt := 30) hx hb dX12_readSaid_13 (by decide) (fun c1 => ?_) (fun c1 => ?_)
    · have hm := m_ite_t hm c1
      exact k_X12_readSaid_30 (F := F) (a := a) X hr hT rF hrF hF hk_a   S l1 l2 _ _ _ hH hS hl hm
    · have hm := m_ite_f hm c1
      refine lv_aload_n hx hb dX12_readSaid_16 rfl (lv_at hl 0 rfl) ?_
      refine lv_iload_n hx hb dX12_readSaid_17 rfl (lv_at hl 2 rfl) ?_
      obtain ⟨v3, S2, e_S2, hm⟩ := m_call_of hm
      refine n_cVi X hH hS (k := 12) (c_X12_isWord (a := a) hT hk_a e_S2) mw_X12_isWord in_7_197 hk_a (by decide) rfl rfl rfl ⟨rfl, rfl⟩ ⟨by simp only [rm_X12_readSaid_, rm_X12_isWord]; omega, by simp only [rm_X12_readSaid_, rm_X12_isWord]; omega⟩ ⟨Nat.zero_le _, Nat.zero_le _⟩ hl.1 (Nat.le_of_ble_eq_true rfl) dX12_readSaid_18 (fun H locs hH hS => ?_)
      refine lv_if_ne (tgt := 30) hx hb dX12_readSaid_21 (by decide) (fun c4 => ?_) (fun c4 => ?_)
      · have hm := m_ite_f hm c4
        exact k_X12_readSaid_30 (F := F) (a := a) X hr hT rF hrF hF hk_a   S2 l1 l2 _ _ _ hH hS hl hm
      · have hm := m_ite_t hm c4
        obtain ⟨v5, e_v5, hm⟩ := m_let_of hm
        refine lv_iinc (v := v5) (lv' := [(2, .int v5), (0, .ref a), (1, .int l1)]) hx hb dX12_readSaid_24 hl (k := 2) rfl (by rw [← e_v5]; rfl) (by decide) rfl (fun ls hl => ?_)
        refine lv_goto (tgt := 10) hx hb dX12_readSaid_27 (by decide) ?_
        exact ih S2 l1 v5 _ _ _ hH hS (lv_sub hl [1, 2, 0] rfl) hm
def g_X12_readSaid (F : Nat → m_M → Option (Int32 × m_M)) (a : Nat) (S : m_M)  : Option (Int32 × m_M) :=
    m_call (f_X12_isSign a S (40 : Int32)) fun v2 S1 =>
    b_X12_readSaid_10 F a m_fu S1 v2 (13 : Int32)
set_option maxHeartbeats 4000000 in
set_option maxRecDepth 100000 in
theorem cg_X12_readSaid {l : Launch} {G : m_G} {nx : Nat} {κ : Nat → Nat} {F : Nat → m_M → Option (Int32 × m_M)} {rF : Room} (hrF : rF.cells = 0 ∧ rF.slots = 0) (hF : ∀ (a : Nat) (S : m_M)  (res : (Int32 × m_M)), κ a = 13 → F a S = some res → m_Ci l yX12_readSaid cX12_readSaid 4 (some .boolean) rF G nx κ [.ref a] S res) {a : Nat} {S : m_M}  {res : (Int32 × m_M)} (hT : m_Str κ) (hk_a : κ a = 13) (hm : g_X12_readSaid F a S = some res) : m_Ci l yX12_readSaid cX12_readSaid 4 (some .boolean) (rm_X12_readSaid_ rF) G nx κ [.ref a] S res := by
  refine m_Ci.of (by decide) (Nat.le_of_ble_eq_true rfl) ?_
  intro p e s m args below meth c ls X hr hH hl
  have hx := X.1.1
  have hb := X.1.2.1
  have hS : m_S G s s.heap [] := va_S.rf
  have hl : lv_has ls 4 [(0, .ref a)] := hl
  rw [g_X12_readSaid] at hm
  refine lv_aload_n hx hb dX12_readSaid_0 rfl (lv_at hl 0 rfl) ?_
  refine lv_bipush (v := (40 : Int32)) hx hb dX12_readSaid_1 (by decide) ?_
  obtain ⟨v2, S1, e_S1, hm⟩ := m_call_of hm
  refine n_cVi X hH hS (k := 12) (c_X12_isSign (a := a) hT hk_a e_S1) mw_X12_isSign in_8_26 hk_a (by decide) rfl rfl rfl ⟨rfl, rfl⟩ ⟨by simp only [rm_X12_readSaid_, rm_X12_isSign]; omega, by simp only [rm_X12_readSaid_, rm_X12_isSign]; omega⟩ ⟨Nat.zero_le _, Nat.zero_le _⟩ hl.1 (Nat.le_of_ble_eq_true rfl) dX12_readSaid_3 (fun H locs hH hS => ?_)
  refine lv_istore_n (lv' := [(1, .int v2), (0, .ref a)]) hx hb dX12_readSaid_6 rfl hl (by decide) rfl (fun ls hl => ?_)
  refine lv_bipush (v := (13 : Int32)) hx hb dX12_readSaid_7 (by decide) ?_
  refine lv_istore_n (lv' := [(2, .int (13 : Int32)), (1, .int v2), (0, .ref a)]) hx hb dX12_readSaid_9 rfl hl (by decide) rfl (fun ls hl => ?_)
  exact k_X12_readSaid_10 (F := F) (a := a) X hr hT rF hrF hF hk_a  m_fu S1 v2 (13 : Int32) _ _ _ hH hS (lv_sub hl [2, 1, 0] rfl) hm
def f_X12_readSaid : Nat → Nat → m_M → Option (Int32 × m_M)
  | 0, _, _ => none
  | d + 1, a, S => g_X12_readSaid (f_X12_readSaid d) a S
def rm_X12_readSaid : Nat → Room
  | 0 => { frames := 0, cells := 0, slots := 0, locals := 0 }
  | d + 1 => rm_X12_readSaid_ (rm_X12_readSaid d)
theorem rd_X12_readSaid (d : Nat) : (rm_X12_readSaid d).cells = 0 ∧ (rm_X12_readSaid d).slots = 0 := by cases d <;> exact ⟨rfl, rfl⟩
theorem c_X12_readSaid {l : Launch} {G : m_G} {nx : Nat} {κ : Nat → Nat} (d : Nat) (hT : m_Str κ) : ∀ (a : Nat) (S : m_M)  (res : (Int32 × m_M)), κ a = 13 → f_X12_readSaid d a S = some res → m_Ci l yX12_readSaid cX12_readSaid 4 (some .boolean) (rm_X12_readSaid d) G nx κ [.ref a] S res := by
  induction d with
  | zero => intro a S res hk_a hm; have hm : (none : Option (Int32 × m_M)) = some res := hm; cases hm
  | succ d ih => intro a S res hk_a hm; exact cg_X12_readSaid (F := f_X12_readSaid d) (rF := rm_X12_readSaid d) (rd_X12_readSaid d) ih hT hk_a hm
def rm_X12_sentence : Room := { frames := 77, cells := 0, slots := 0, locals := 1670 }
def b_X12_sentence_79 (a : Nat)  : Nat → m_M → Int32 → Option (Int32 × m_M)
  | 0, _, _ => none
  | n + 1, S, l1 =>
    if (240 : Int32) ≤ l1 then (
    some ((m_ri S a 48), S)) else (
    (m_ldi S (a + 29) 240 l1).bind fun v2 =>
    (m_sti S (a + 2) 2647 ((2407 : Int32) + l1) v2).bind fun S3 =>
    m_let (l1 + (1 : Int32)) fun v4 =>
    b_X12_sentence_79 a n S3 v4)
set_option maxHeartbeats 4000000 in
set_option maxRecDepth 100000 in
theorem k_X12_sentence_79 {p : Program} {l : Launch} {e : Env} {s : State} {m : MethodId} {args : Array Value} {below : List Frame} {meth : Method} {c : Code} {G : m_G} {nx : Nat} {κ : Nat → Nat} {res : (Int32 × m_M)} {a : Nat} (X : m_Cx p s m args meth c cX12_sentence 2 RX12 G) (hr : meth.sig.returnType = (some .int)) (hT : m_Str κ) (hk_a : κ a = 13)  (n : Nat) : ∀ (S : m_M) (l1 : Int32) (H : Heap) (locs : List Loc) (ls : Array Slot), m_H G nx κ S H → m_S G s H locs → lv_has ls 2 [(0, .ref a), (1, .int l1)] → b_X12_sentence_79 a n S l1 = some res → W p l e rm_X12_sentence s m args below meth c H locs 0 0 (m_Qi below args s G nx κ res) (F0 m 79 ls []) := by
  have hx := X.1.1
  have hb := X.1.2.1
  induction n with
  | zero => intro S l1 H locs ls hH hS hl hm; have hm : (none : Option (Int32 × m_M)) = some res := hm; cases hm
  | succ n ih =>
    intro S l1 H locs ls hH hS hl hm
    rw [b_X12_sentence_79] at hm
    refine lv_iload_n hx hb dX12_sentence_79 rfl (lv_at hl 1 rfl) ?_
    refine lv_sipush (v := (240 : Int32)) hx hb dX12_sentence_80 (by decide) ?_
    refine lv_icmp_ge (tgt := 108) hx hb dX12_sentence_83 (by decide) (fun c1 => ?_) (fun c1 => ?_)
    · have hm := m_ite_t hm c1
      refine lv_aload_n hx hb dX12_sentence_108 rfl (lv_at hl 0 rfl) ?_
      refine r_geti X hH (k := 12) (a := a) (j := 48) hk_a (by decide) rfl m_wi12 (by decide) in_7_63 rfl rfl dX12_sentence_109 ?_
      exact r_iret X hr hH hS hm dX12_sentence_112
    · have hm := m_ite_f hm c1
      refine lv_aload_n hx hb dX12_sentence_86 rfl (lv_at hl 0 rfl) ?_
      refine r_getp X hH (k := 12) (a := a) (j := 14) (b := (a + 2)) (A := 2) (B := 0) hk_a (by decide) rfl m_wi12 (by decide) in_7_29 rfl rfl rfl dX12_sentence_87 ?_
      refine lv_sipush (v := (2407 : Int32)) hx hb dX12_sentence_90 (by decide) ?_
      refine lv_iload_n hx hb dX12_sentence_93 rfl (lv_at hl 1 rfl) ?_
      refine lv_iadd hx hb dX12_sentence_94 ?_
      refine lv_aload_n hx hb dX12_sentence_95 rfl (lv_at hl 0 rfl) ?_
      refine r_getp X hH (k := 12) (a := a) (j := 46) (b := (a + 29)) (A := 29) (B := 0) hk_a (by decide) rfl m_wi12 (by decide) in_7_61 rfl rfl rfl dX12_sentence_96 ?_
      refine lv_iload_n hx hb dX12_sentence_99 rfl (lv_at hl 1 rfl) ?_
      obtain ⟨v2, h_v2, e_v2, hm⟩ := n_ldi hm
      refine n_iald X hH (n := 240) (m_lay_at hT hk_a (by decide) (i := 29) rfl) h_v2 e_v2 dX12_sentence_100 ?_
      obtain ⟨S3, h_S3, e_S3, hm⟩ := n_sti hm
      refine n_iast X hH hS (n := 2647) (m_lay_at hT hk_a (by decide) (i := 2) rfl) h_S3 e_S3 dX12_sentence_101 (fun H locs hH hS => ?_)
      obtain ⟨v4, e_v4, hm⟩ := m_let_of hm
      refine lv_iinc (v := v4) (lv' := [(1, .int v4), (0, .ref a)]) hx hb dX12_sentence_102 hl (k := 1) rfl (by rw [← e_v4]; rfl) (by decide) rfl (fun ls hl => ?_)
      refine lv_goto (tgt := 79) hx hb dX12_sentence_105 (by decide) ?_
      exact ih S3 v4 _ _ _ hH hS (lv_sub hl [1, 0] rfl) hm
def f_X12_sentence (a : Nat) (S : m_M)  : Option (Int32 × m_M) :=
    m_cal0 (f_X12_begin a S (200 : Int32)) fun S1 =>
    m_let (m_si S1 a 47 (0 : Int32)) fun S2 =>
    m_let (m_si S2 a 48 (0 : Int32)) fun S3 =>
    m_let (m_si S3 a 49 (0 : Int32)) fun S4 =>
    m_call (f_X12_readOr (f_X12_readSaid 12) a S4) fun v6 S5 =>
    if v6 = 0 then (
    some (((-1 : Int32) - (m_ri S5 a 11)), S5)) else (
    if (m_ri S5 a 7) = 0 then (
    (m_sti S5 (a + 2) 2647 (2405 : Int32) (1 : Int32)).bind fun S9 =>
    (m_sti S9 (a + 2) 2647 (2406 : Int32) (m_ri S9 a 50)).bind fun S10 =>
    b_X12_sentence_79 a m_fu S10 (0 : Int32)) else (
    m_call (f_X12_bad a S5 (1 : Int32)) fun v12 S11 =>
    some (((-1 : Int32) - (m_ri S11 a 11)), S11)))
set_option maxHeartbeats 4000000 in
set_option maxRecDepth 100000 in
theorem c_X12_sentence {l : Launch} {G : m_G} {nx : Nat} {κ : Nat → Nat} {a : Nat} {S : m_M}  {res : (Int32 × m_M)} (hT : m_Str κ) (hk_a : κ a = 13) (hm : f_X12_sentence a S = some res) : m_Ci l yX12_sentence cX12_sentence 2 (some .int) rm_X12_sentence G nx κ [.ref a] S res := by
  refine m_Ci.of (by decide) (Nat.le_of_ble_eq_true rfl) ?_
  intro p e s m args below meth c ls X hr hH hl
  have hx := X.1.1
  have hb := X.1.2.1
  have hS : m_S G s s.heap [] := va_S.rf
  have hl : lv_has ls 2 [(0, .ref a)] := hl
  rw [f_X12_sentence] at hm
  refine lv_aload_n hx hb dX12_sentence_0 rfl (lv_at hl 0 rfl) ?_
  refine lv_sipush (v := (200 : Int32)) hx hb dX12_sentence_1 (by decide) ?_
  obtain ⟨S1, e_S1, hm⟩ := m_cal0_of hm
  refine r_cVv X hH hS (k := 12) (c_X12_begin (a := a) hT hk_a e_S1) mw_X12_begin in_7_173 hk_a (by decide) rfl rfl rfl ⟨rfl, rfl⟩ ⟨Nat.le_of_ble_eq_true rfl, Nat.le_of_ble_eq_true rfl⟩ ⟨Nat.zero_le _, Nat.zero_le _⟩ hl.1 (Nat.le_of_ble_eq_true rfl) dX12_sentence_4 (fun H locs hH hS => ?_)
  refine lv_aload_n hx hb dX12_sentence_7 rfl (lv_at hl 0 rfl) ?_
  refine lv_iconst (v := (0 : Int32)) hx hb dX12_sentence_8 (by decide) ?_
  obtain ⟨S2, e_S2, hm⟩ := m_let_of hm
  refine n_puti X hH hS tyX12 (k := 12) (a := a) (j := 47) hk_a (by decide) rfl m_wi12 tyX12_ok nmX12 (by decide) in_7_62 rfl rfl rfl ⟨rfl, rfl⟩ e_S2 dX12_sentence_9 (fun H locs hH hS => ?_)
  refine lv_aload_n hx hb dX12_sentence_12 rfl (lv_at hl 0 rfl) ?_
  refine lv_iconst (v := (0 : Int32)) hx hb dX12_sentence_13 (by decide) ?_
  obtain ⟨S3, e_S3, hm⟩ := m_let_of hm
  refine n_puti X hH hS tyX12 (k := 12) (a := a) (j := 48) hk_a (by decide) rfl m_wi12 tyX12_ok nmX12 (by decide) in_7_63 rfl rfl rfl ⟨rfl, rfl⟩ e_S3 dX12_sentence_14 (fun H locs hH hS => ?_)
  refine lv_aload_n hx hb dX12_sentence_17 rfl (lv_at hl 0 rfl) ?_
  refine lv_iconst (v := (0 : Int32)) hx hb dX12_sentence_18 (by decide) ?_
  obtain ⟨S4, e_S4, hm⟩ := m_let_of hm
  refine n_puti X hH hS tyX12 (k := 12) (a := a) (j := 49) hk_a (by decide) rfl m_wi12 tyX12_ok nmX12 (by decide) in_7_64 rfl rfl rfl ⟨rfl, rfl⟩ e_S4 dX12_sentence_19 (fun H locs hH hS => ?_)
  refine lv_aload_n hx hb dX12_sentence_22 rfl (lv_at hl 0 rfl) ?_
  obtain ⟨v6, S5, e_S5, hm⟩ := m_call_of hm
  refine n_cVi X hH hS (k := 12) (c_X12_readOr (F := f_X12_readSaid 12) (rF := rm_X12_readSaid 12) (rd_X12_readSaid 12) (c_X12_readSaid 12 hT) (a := a) hT hk_a e_S5) mw_X12_readOr in_9_65 hk_a (by decide) rfl rfl rfl ⟨rfl, rfl⟩ ⟨Nat.le_of_ble_eq_true rfl, Nat.le_of_ble_eq_true rfl⟩ ⟨Nat.zero_le _, Nat.zero_le _⟩ hl.1 (Nat.le_of_ble_eq_true rfl) dX12_sentence_23 (fun H locs hH hS => ?_)
  refine lv_if_ne (tgt := 36) hx hb dX12_sentence_26 (by decide) (fun c7 => ?_) (fun c7 => ?_)
  · have hm := m_ite_f hm c7
    refine lv_aload_n hx hb dX12_sentence_36 rfl (lv_at hl 0 rfl) ?_
    refine r_geti X hH (k := 12) (a := a) (j := 7) hk_a (by decide) rfl m_wi12 (by decide) in_7_22 rfl rfl dX12_sentence_37 ?_
    refine lv_if_eq (tgt := 56) hx hb dX12_sentence_40 (by decide) (fun c8 => ?_) (fun c8 => ?_)
    · have hm := m_ite_t hm c8
      refine lv_aload_n hx hb dX12_sentence_56 rfl (lv_at hl 0 rfl) ?_
      refine r_getp X hH (k := 12) (a := a) (j := 14) (b := (a + 2)) (A := 2) (B := 0) hk_a (by decide) rfl m_wi12 (by decide) in_7_29 rfl rfl rfl dX12_sentence_57 ?_
      refine lv_sipush (v := (2405 : Int32)) hx hb dX12_sentence_60 (by decide) ?_
      refine lv_iconst (v := (1 : Int32)) hx hb dX12_sentence_63 (by decide) ?_
      obtain ⟨S9, h_S9, e_S9, hm⟩ := n_sti hm
      refine n_iast X hH hS (n := 2647) (m_lay_at hT hk_a (by decide) (i := 2) rfl) h_S9 e_S9 dX12_sentence_64 (fun H locs hH hS => ?_)
      refine lv_aload_n hx hb dX12_sentence_65 rfl (lv_at hl 0 rfl) ?_
      refine r_getp X hH (k := 12) (a := a) (j := 14) (b := (a + 2)) (A := 2) (B := 0) hk_a (by decide) rfl m_wi12 (by decide) in_7_29 rfl rfl rfl dX12_sentence_66 ?_
      refine lv_sipush (v := (2406 : Int32)) hx hb dX12_sentence_69 (by decide) ?_
      refine lv_aload_n hx hb dX12_sentence_72 rfl (lv_at hl 0 rfl) ?_
      refine r_geti X hH (k := 12) (a := a) (j := 50) hk_a (by decide) rfl m_wi12 (by decide) in_7_65 rfl rfl dX12_sentence_73 ?_
      obtain ⟨S10, h_S10, e_S10, hm⟩ := n_sti hm
      refine n_iast X hH hS (n := 2647) (m_lay_at hT hk_a (by decide) (i := 2) rfl) h_S10 e_S10 dX12_sentence_76 (fun H locs hH hS => ?_)
      refine lv_iconst (v := (0 : Int32)) hx hb dX12_sentence_77 (by decide) ?_
      refine lv_istore_n (lv' := [(1, .int (0 : Int32)), (0, .ref a)]) hx hb dX12_sentence_78 rfl hl (by decide) rfl (fun ls hl => ?_)
      exact k_X12_sentence_79 (a := a) X hr hT hk_a  m_fu S10 (0 : Int32) _ _ _ hH hS (lv_sub hl [1, 0] rfl) hm
    · have hm := m_ite_f hm c8
      refine lv_aload_n hx hb dX12_sentence_43 rfl (lv_at hl 0 rfl) ?_
      refine lv_iconst (v := (1 : Int32)) hx hb dX12_sentence_44 (by decide) ?_
      obtain ⟨v12, S11, e_S11, hm⟩ := m_call_of hm
      refine n_cVi X hH hS (k := 12) (c_X12_bad (a := a) hT hk_a e_S11) mw_X12_bad in_7_219 hk_a (by decide) rfl rfl rfl ⟨rfl, rfl⟩ ⟨Nat.le_of_ble_eq_true rfl, Nat.le_of_ble_eq_true rfl⟩ ⟨Nat.zero_le _, Nat.zero_le _⟩ hl.1 (Nat.le_of_ble_eq_true rfl) dX12_sentence_45 (fun H locs hH hS => ?_)
      refine lv_pop hx hb dX12_sentence_48 rfl ?_
      refine lv_iconst (v := (-1 : Int32)) hx hb dX12_sentence_49 (by decide) ?_
      refine lv_aload_n hx hb dX12_sentence_50 rfl (lv_at hl 0 rfl) ?_
      refine r_geti X hH (k := 12) (a := a) (j := 11) hk_a (by decide) rfl m_wi12 (by decide) in_7_26 rfl rfl dX12_sentence_51 ?_
      refine lv_isub hx hb dX12_sentence_54 ?_
      exact r_iret X hr hH hS hm dX12_sentence_55
  · have hm := m_ite_t hm c7
    refine lv_iconst (v := (-1 : Int32)) hx hb dX12_sentence_29 (by decide) ?_
    refine lv_aload_n hx hb dX12_sentence_30 rfl (lv_at hl 0 rfl) ?_
    refine r_geti X hH (k := 12) (a := a) (j := 11) hk_a (by decide) rfl m_wi12 (by decide) in_7_26 rfl rfl dX12_sentence_31 ?_
    refine lv_isub hx hb dX12_sentence_34 ?_
    exact r_iret X hr hH hS hm dX12_sentence_35
def rm_X12_holds_ (r : Room) : Room := { frames := r.frames + 3, cells := 0, slots := 0, locals := r.locals + 65 }
def b_X12_holds_123 (F : Nat → m_M → Int32 → Int32 → Option (Int32 × m_M)) (a : Nat)  (S : m_M) (t0 : Int32) : Option (Int32 × m_M) :=
    if t0 = 0 ∨ t0 = 1 then some (t0, S) else none
set_option maxHeartbeats 4000000 in
set_option maxRecDepth 100000 in
theorem k_X12_holds_123 {p : Program} {l : Launch} {e : Env} {s : State} {m : MethodId} {args : Array Value} {below : List Frame} {meth : Method} {c : Code} {G : m_G} {nx : Nat} {κ : Nat → Nat} {res : (Int32 × m_M)} {F : Nat → m_M → Int32 → Int32 → Option (Int32 × m_M)} {a : Nat} (X : m_Cx p s m args meth c cX12_holds 8 RX12 G) (hr : meth.sig.returnType = (some .boolean)) (hT : m_Str κ) (rF : Room) (hrF : rF.cells = 0 ∧ rF.slots = 0) (hF : ∀ (a : Nat) (S : m_M) (i1 : Int32) (i2 : Int32) (res : (Int32 × m_M)), κ a = 13 → F a S i1 i2 = some res → m_Ci l yX12_holds cX12_holds 8 (some .boolean) rF G nx κ [.ref a, .int i1, .int i2] S res) (hk_a : κ a = 13)  : ∀ (S : m_M) (t0 : Int32) (H : Heap) (locs : List Loc) (ls : Array Slot), m_H G nx κ S H → m_S G s H locs → lv_has ls 8 [] → b_X12_holds_123 F a S t0 = some res → W p l e (rm_X12_holds_ rF) s m args below meth c H locs 0 0 (m_Qi below args s G nx κ res) (F0 m 123 ls [.int t0]) := by
  have hx := X.1.1
  have hb := X.1.2.1
  intro S t0 H locs ls hH hS hl hm
  rw [b_X12_holds_123] at hm
  exact r_zret X hr hH hS hm dX12_holds_123
def b_X12_holds_149 (F : Nat → m_M → Int32 → Int32 → Option (Int32 × m_M)) (a : Nat)  (S : m_M) (t0 : Int32) : Option (Int32 × m_M) :=
    if t0 = 0 ∨ t0 = 1 then some (t0, S) else none
set_option maxHeartbeats 4000000 in
set_option maxRecDepth 100000 in
theorem k_X12_holds_149 {p : Program} {l : Launch} {e : Env} {s : State} {m : MethodId} {args : Array Value} {below : List Frame} {meth : Method} {c : Code} {G : m_G} {nx : Nat} {κ : Nat → Nat} {res : (Int32 × m_M)} {F : Nat → m_M → Int32 → Int32 → Option (Int32 × m_M)} {a : Nat} (X : m_Cx p s m args meth c cX12_holds 8 RX12 G) (hr : meth.sig.returnType = (some .boolean)) (hT : m_Str κ) (rF : Room) (hrF : rF.cells = 0 ∧ rF.slots = 0) (hF : ∀ (a : Nat) (S : m_M) (i1 : Int32) (i2 : Int32) (res : (Int32 × m_M)), κ a = 13 → F a S i1 i2 = some res → m_Ci l yX12_holds cX12_holds 8 (some .boolean) rF G nx κ [.ref a, .int i1, .int i2] S res) (hk_a : κ a = 13)  : ∀ (S : m_M) (t0 : Int32) (H : Heap) (locs : List Loc) (ls : Array Slot), m_H G nx κ S H → m_S G s H locs → lv_has ls 8 [] → b_X12_holds_149 F a S t0 = some res → W p l e (rm_X12_holds_ rF) s m args below meth c H locs 0 0 (m_Qi below args s G nx κ res) (F0 m 149 ls [.int t0]) := by
  have hx := X.1.1
  have hb := X.1.2.1
  intro S t0 H locs ls hH hS hl hm
  rw [b_X12_holds_149] at hm
  exact r_zret X hr hH hS hm dX12_holds_149
def b_X12_holds_148 (F : Nat → m_M → Int32 → Int32 → Option (Int32 × m_M)) (a : Nat)  (S : m_M)  : Option (Int32 × m_M) :=
    b_X12_holds_149 F a S (0 : Int32)
set_option maxHeartbeats 4000000 in
set_option maxRecDepth 100000 in
theorem k_X12_holds_148 {p : Program} {l : Launch} {e : Env} {s : State} {m : MethodId} {args : Array Value} {below : List Frame} {meth : Method} {c : Code} {G : m_G} {nx : Nat} {κ : Nat → Nat} {res : (Int32 × m_M)} {F : Nat → m_M → Int32 → Int32 → Option (Int32 × m_M)} {a : Nat} (X : m_Cx p s m args meth c cX12_holds 8 RX12 G) (hr : meth.sig.returnType = (some .boolean)) (hT : m_Str κ) (rF : Room) (hrF : rF.cells = 0 ∧ rF.slots = 0) (hF : ∀ (a : Nat) (S : m_M) (i1 : Int32) (i2 : Int32) (res : (Int32 × m_M)), κ a = 13 → F a S i1 i2 = some res → m_Ci l yX12_holds cX12_holds 8 (some .boolean) rF G nx κ [.ref a, .int i1, .int i2] S res) (hk_a : κ a = 13)  : ∀ (S : m_M)  (H : Heap) (locs : List Loc) (ls : Array Slot), m_H G nx κ S H → m_S G s H locs → lv_has ls 8 [] → b_X12_holds_148 F a S  = some res → W p l e (rm_X12_holds_ rF) s m args below meth c H locs 0 0 (m_Qi below args s G nx κ res) (F0 m 148 ls []) := by
  have hx := X.1.1
  have hb := X.1.2.1
  intro S H locs ls hH hS hl hm
  rw [b_X12_holds_148] at hm
  refine lv_iconst (v := (0 : Int32)) hx hb dX12_holds_148 (by decide) ?_
  exact k_X12_holds_149 (F := F) (a := a) X hr hT rF hrF hF hk_a   S (0 : Int32) _ _ _ hH hS hl hm
def b_X12_holds_175 (F : Nat → m_M → Int32 → Int32 → Option (Int32 × m_M)) (a : Nat)  (S : m_M) (t0 : Int32) : Option (Int32 × m_M) :=
    if t0 = 0 ∨ t0 = 1 then some (t0, S) else none
set_option maxHeartbeats 4000000 in
set_option maxRecDepth 100000 in
theorem k_X12_holds_175 {p : Program} {l : Launch} {e : Env} {s : State} {m : MethodId} {args : Array Value} {below : List Frame} {meth : Method} {c : Code} {G : m_G} {nx : Nat} {κ : Nat → Nat} {res : (Int32 × m_M)} {F : Nat → m_M → Int32 → Int32 → Option (Int32 × m_M)} {a : Nat} (X : m_Cx p s m args meth c cX12_holds 8 RX12 G) (hr : meth.sig.returnType = (some .boolean)) (hT : m_Str κ) (rF : Room) (hrF : rF.cells = 0 ∧ rF.slots = 0) (hF : ∀ (a : Nat) (S : m_M) (i1 : Int32) (i2 : Int32) (res : (Int32 × m_M)), κ a = 13 → F a S i1 i2 = some res → m_Ci l yX12_holds cX12_holds 8 (some .boolean) rF G nx κ [.ref a, .int i1, .int i2] S res) (hk_a : κ a = 13)  : ∀ (S : m_M) (t0 : Int32) (H : Heap) (locs : List Loc) (ls : Array Slot), m_H G nx κ S H → m_S G s H locs → lv_has ls 8 [] → b_X12_holds_175 F a S t0 = some res → W p l e (rm_X12_holds_ rF) s m args below meth c H locs 0 0 (m_Qi below args s G nx κ res) (F0 m 175 ls [.int t0]) := by
  have hx := X.1.1
  have hb := X.1.2.1
  intro S t0 H locs ls hH hS hl hm
  rw [b_X12_holds_175] at hm
  exact r_zret X hr hH hS hm dX12_holds_175
def b_X12_holds_170 (F : Nat → m_M → Int32 → Int32 → Option (Int32 × m_M)) (a : Nat)  (S : m_M)  : Option (Int32 × m_M) :=
    b_X12_holds_175 F a S (1 : Int32)
set_option maxHeartbeats 4000000 in
set_option maxRecDepth 100000 in
theorem k_X12_holds_170 {p : Program} {l : Launch} {e : Env} {s : State} {m : MethodId} {args : Array Value} {below : List Frame} {meth : Method} {c : Code} {G : m_G} {nx : Nat} {κ : Nat → Nat} {res : (Int32 × m_M)} {F : Nat → m_M → Int32 → Int32 → Option (Int32 × m_M)} {a : Nat} (X : m_Cx p s m args meth c cX12_holds 8 RX12 G) (hr : meth.sig.returnType = (some .boolean)) (hT : m_Str κ) (rF : Room) (hrF : rF.cells = 0 ∧ rF.slots = 0) (hF : ∀ (a : Nat) (S : m_M) (i1 : Int32) (i2 : Int32) (res : (Int32 × m_M)), κ a = 13 → F a S i1 i2 = some res → m_Ci l yX12_holds cX12_holds 8 (some .boolean) rF G nx κ [.ref a, .int i1, .int i2] S res) (hk_a : κ a = 13)  : ∀ (S : m_M)  (H : Heap) (locs : List Loc) (ls : Array Slot), m_H G nx κ S H → m_S G s H locs → lv_has ls 8 [] → b_X12_holds_170 F a S  = some res → W p l e (rm_X12_holds_ rF) s m args below meth c H locs 0 0 (m_Qi below args s G nx κ res) (F0 m 170 ls []) := by
  have hx := X.1.1
  have hb := X.1.2.1
  intro S H locs ls hH hS hl hm
  rw [b_X12_holds_170] at hm
  refine lv_iconst (v := (1 : Int32)) hx hb dX12_holds_170 (by decide) ?_
  refine lv_goto (tgt := 175) hx hb dX12_holds_171 (by decide) ?_
  exact k_X12_holds_175 (F := F) (a := a) X hr hT rF hrF hF hk_a   S (1 : Int32) _ _ _ hH hS hl hm
def b_X12_holds_201 (F : Nat → m_M → Int32 → Int32 → Option (Int32 × m_M)) (a : Nat)  (S : m_M) (t0 : Int32) : Option (Int32 × m_M) :=
    if t0 = 0 ∨ t0 = 1 then some (t0, S) else none
set_option maxHeartbeats 4000000 in
set_option maxRecDepth 100000 in
theorem k_X12_holds_201 {p : Program} {l : Launch} {e : Env} {s : State} {m : MethodId} {args : Array Value} {below : List Frame} {meth : Method} {c : Code} {G : m_G} {nx : Nat} {κ : Nat → Nat} {res : (Int32 × m_M)} {F : Nat → m_M → Int32 → Int32 → Option (Int32 × m_M)} {a : Nat} (X : m_Cx p s m args meth c cX12_holds 8 RX12 G) (hr : meth.sig.returnType = (some .boolean)) (hT : m_Str κ) (rF : Room) (hrF : rF.cells = 0 ∧ rF.slots = 0) (hF : ∀ (a : Nat) (S : m_M) (i1 : Int32) (i2 : Int32) (res : (Int32 × m_M)), κ a = 13 → F a S i1 i2 = some res → m_Ci l yX12_holds cX12_holds 8 (some .boolean) rF G nx κ [.ref a, .int i1, .int i2] S res) (hk_a : κ a = 13)  : ∀ (S : m_M) (t0 : Int32) (H : Heap) (locs : List Loc) (ls : Array Slot), m_H G nx κ S H → m_S G s H locs → lv_has ls 8 [] → b_X12_holds_201 F a S t0 = some res → W p l e (rm_X12_holds_ rF) s m args below meth c H locs 0 0 (m_Qi below args s G nx κ res) (F0 m 201 ls [.int t0]) := by
  have hx := X.1.1
  have hb := X.1.2.1
  intro S t0 H locs ls hH hS hl hm
  rw [b_X12_holds_201] at hm
  exact r_zret X hr hH hS hm dX12_holds_201
def b_X12_holds_338 (F : Nat → m_M → Int32 → Int32 → Option (Int32 × m_M)) (a : Nat)  (S : m_M) (t0 : Int32) : Option (Int32 × m_M) :=
    if t0 = 0 ∨ t0 = 1 then some (t0, S) else none
set_option maxHeartbeats 4000000 in
set_option maxRecDepth 100000 in
theorem k_X12_holds_338 {p : Program} {l : Launch} {e : Env} {s : State} {m : MethodId} {args : Array Value} {below : List Frame} {meth : Method} {c : Code} {G : m_G} {nx : Nat} {κ : Nat → Nat} {res : (Int32 × m_M)} {F : Nat → m_M → Int32 → Int32 → Option (Int32 × m_M)} {a : Nat} (X : m_Cx p s m args meth c cX12_holds 8 RX12 G) (hr : meth.sig.returnType = (some .boolean)) (hT : m_Str κ) (rF : Room) (hrF : rF.cells = 0 ∧ rF.slots = 0) (hF : ∀ (a : Nat) (S : m_M) (i1 : Int32) (i2 : Int32) (res : (Int32 × m_M)), κ a = 13 → F a S i1 i2 = some res → m_Ci l yX12_holds cX12_holds 8 (some .boolean) rF G nx κ [.ref a, .int i1, .int i2] S res) (hk_a : κ a = 13)  : ∀ (S : m_M) (t0 : Int32) (H : Heap) (locs : List Loc) (ls : Array Slot), m_H G nx κ S H → m_S G s H locs → lv_has ls 8 [] → b_X12_holds_338 F a S t0 = some res → W p l e (rm_X12_holds_ rF) s m args below meth c H locs 0 0 (m_Qi below args s G nx κ res) (F0 m 338 ls [.int t0]) := by
  have hx := X.1.1
  have hb := X.1.2.1
  intro S t0 H locs ls hH hS hl hm
  rw [b_X12_holds_338] at hm
  exact r_zret X hr hH hS hm dX12_holds_338
def b_X12_holds_268 (F : Nat → m_M → Int32 → Int32 → Option (Int32 × m_M)) (a : Nat)  (S : m_M) (l3 : Int32) (l5 : Int32) (t0 : Int32) : Option (Int32 × m_M) :=
    (m_ldi S (a + 2) 2647 (l3 + (3 : Int32))).bind fun v1 =>
    if v1 = (60 : Int32) then (
    if l5 ≤ t0 then (
    b_X12_holds_338 F a S (0 : Int32)) else (
    b_X12_holds_338 F a S (1 : Int32))) else (
    (m_ldi S (a + 2) 2647 (l3 + (3 : Int32))).bind fun v3 =>
    if v3 = (61 : Int32) then (
    if t0 = l5 then (
    b_X12_holds_338 F a S (1 : Int32)) else (
    b_X12_holds_338 F a S (0 : Int32))) else (
    if t0 ≤ l5 then (
    b_X12_holds_338 F a S (0 : Int32)) else (
    b_X12_holds_338 F a S (1 : Int32))))
set_option maxHeartbeats 4000000 in
set_option maxRecDepth 100000 in
theorem k_X12_holds_268 {p : Program} {l : Launch} {e : Env} {s : State} {m : MethodId} {args : Array Value} {below : List Frame} {meth : Method} {c : Code} {G : m_G} {nx : Nat} {κ : Nat → Nat} {res : (Int32 × m_M)} {F : Nat → m_M → Int32 → Int32 → Option (Int32 × m_M)} {a : Nat} (X : m_Cx p s m args meth c cX12_holds 8 RX12 G) (hr : meth.sig.returnType = (some .boolean)) (hT : m_Str κ) (rF : Room) (hrF : rF.cells = 0 ∧ rF.slots = 0) (hF : ∀ (a : Nat) (S : m_M) (i1 : Int32) (i2 : Int32) (res : (Int32 × m_M)), κ a = 13 → F a S i1 i2 = some res → m_Ci l yX12_holds cX12_holds 8 (some .boolean) rF G nx κ [.ref a, .int i1, .int i2] S res) (hk_a : κ a = 13)  : ∀ (S : m_M) (l3 : Int32) (l5 : Int32) (t0 : Int32) (H : Heap) (locs : List Loc) (ls : Array Slot), m_H G nx κ S H → m_S G s H locs → lv_has ls 8 [(0, .ref a), (3, .int l3), (5, .int l5)] → b_X12_holds_268 F a S l3 l5 t0 = some res → W p l e (rm_X12_holds_ rF) s m args below meth c H locs 0 0 (m_Qi below args s G nx κ res) (F0 m 268 ls [.int t0]) := by
  have hx := X.1.1
  have hb := X.1.2.1
  intro S l3 l5 t0 H locs ls hH hS hl hm
  rw [b_X12_holds_268] at hm
  refine lv_istore (lv' := [(7, .int t0), (0, .ref a), (3, .int l3), (5, .int l5)]) hx hb dX12_holds_268 hl (by decide) rfl (fun ls hl => ?_)
  refine lv_aload_n hx hb dX12_holds_270 rfl (lv_at hl 1 rfl) ?_
  refine r_getp X hH (k := 12) (a := a) (j := 14) (b := (a + 2)) (A := 2) (B := 0) hk_a (by decide) rfl m_wi12 (by decide) in_7_29 rfl rfl rfl dX12_holds_271 ?_
  refine lv_iload_n hx hb dX12_holds_274 rfl (lv_at hl 2 rfl) ?_
  refine lv_iconst (v := (3 : Int32)) hx hb dX12_holds_275 (by decide) ?_
  refine lv_iadd hx hb dX12_holds_276 ?_
  obtain ⟨v1, h_v1, e_v1, hm⟩ := n_ldi hm
  refine n_iald X hH (n := 2647) (m_lay_at hT hk_a (by decide) (i := 2) rfl) h_v1 e_v1 dX12_holds_277 ?_
  refine lv_bipush (v := (60 : Int32)) hx hb dX12_holds_278 (by decide) ?_
  refine lv_icmp_ne (tgt := 298) hx hb dX12_holds_280 (by decide) (fun c2 => ?_) (fun c2 => ?_)
  · have hm := m_ite_f hm c2
    refine lv_aload_n hx hb dX12_holds_298 rfl (lv_at hl 1 rfl) ?_
    refine r_getp X hH (k := 12) (a := a) (j := 14) (b := (a + 2)) (A := 2) (B := 0) hk_a (by decide) rfl m_wi12 (by decide) in_7_29 rfl rfl rfl dX12_holds_299 ?_
    refine lv_iload_n hx hb dX12_holds_302 rfl (lv_at hl 2 rfl) ?_
    refine lv_iconst (v := (3 : Int32)) hx hb dX12_holds_303 (by decide) ?_
    refine lv_iadd hx hb dX12_holds_304 ?_
    obtain ⟨v3, h_v3, e_v3, hm⟩ := n_ldi hm
    refine n_iald X hH (n := 2647) (m_lay_at hT hk_a (by decide) (i := 2) rfl) h_v3 e_v3 dX12_holds_305 ?_
    refine lv_bipush (v := (61 : Int32)) hx hb dX12_holds_306 (by decide) ?_
    refine lv_icmp_ne (tgt := 326) hx hb dX12_holds_308 (by decide) (fun c4 => ?_) (fun c4 => ?_)
    · have hm := m_ite_f hm c4
      refine lv_iload hx hb dX12_holds_326 (lv_at hl 0 rfl) ?_
      refine lv_iload hx hb dX12_holds_328 (lv_at hl 3 rfl) ?_
      refine lv_icmp_le (tgt := 337) hx hb dX12_holds_330 (by decide) (fun c5 => ?_) (fun c5 => ?_)
      · have hm := m_ite_t hm c5
        refine lv_iconst (v := (0 : Int32)) hx hb dX12_holds_337 (by decide) ?_
        exact k_X12_holds_338 (F := F) (a := a) X hr hT rF hrF hF hk_a   S (0 : Int32) _ _ _ hH hS (lv_sub hl [] rfl) hm
      · have hm := m_ite_f hm c5
        refine lv_iconst (v := (1 : Int32)) hx hb dX12_holds_333 (by decide) ?_
        refine lv_goto (tgt := 338) hx hb dX12_holds_334 (by decide) ?_
        exact k_X12_holds_338 (F := F) (a := a) X hr hT rF hrF hF hk_a   S (1 : Int32) _ _ _ hH hS (lv_sub hl [] rfl) hm
    · have hm := m_ite_t hm c4
      refine lv_iload hx hb dX12_holds_311 (lv_at hl 0 rfl) ?_
      refine lv_iload hx hb dX12_holds_313 (lv_at hl 3 rfl) ?_
      refine lv_icmp_ne (tgt := 322) hx hb dX12_holds_315 (by decide) (fun c6 => ?_) (fun c6 => ?_)
      · have hm := m_ite_f hm c6
        refine lv_iconst (v := (0 : Int32)) hx hb dX12_holds_322 (by decide) ?_
        refine lv_goto (tgt := 338) hx hb dX12_holds_323 (by decide) ?_
        exact k_X12_holds_338 (F := F) (a := a) X hr hT rF hrF hF hk_a   S (0 : Int32) _ _ _ hH hS (lv_sub hl [] rfl) hm
      · have hm := m_ite_t hm c6
        refine lv_iconst (v := (1 : Int32)) hx hb dX12_holds_318 (by decide) ?_
        refine lv_goto (tgt := 338) hx hb dX12_holds_319 (by decide) ?_
        exact k_X12_holds_338 (F := F) (a := a) X hr hT rF hrF hF hk_a   S (1 : Int32) _ _ _ hH hS (lv_sub hl [] rfl) hm
  · have hm := m_ite_t hm c2
    refine lv_iload hx hb dX12_holds_283 (lv_at hl 0 rfl) ?_
    refine lv_iload hx hb dX12_holds_285 (lv_at hl 3 rfl) ?_
    refine lv_icmp_ge (tgt := 294) hx hb dX12_holds_287 (by decide) (fun c7 => ?_) (fun c7 => ?_)
    · have hm := m_ite_t hm c7
      refine lv_iconst (v := (0 : Int32)) hx hb dX12_holds_294 (by decide) ?_
      refine lv_goto (tgt := 338) hx hb dX12_holds_295 (by decide) ?_
      exact k_X12_holds_338 (F := F) (a := a) X hr hT rF hrF hF hk_a   S (0 : Int32) _ _ _ hH hS (lv_sub hl [] rfl) hm
    · have hm := m_ite_f hm c7
      refine lv_iconst (v := (1 : Int32)) hx hb dX12_holds_290 (by decide) ?_
      refine lv_goto (tgt := 338) hx hb dX12_holds_291 (by decide) ?_
      exact k_X12_holds_338 (F := F) (a := a) X hr hT rF hrF hF hk_a   S (1 : Int32) _ _ _ hH hS (lv_sub hl [] rfl) hm
def g_X12_holds (F : Nat → m_M → Int32 → Int32 → Option (Int32 × m_M)) (a : Nat) (S : m_M) (i1 : Int32) (i2 : Int32) : Option (Int32 × m_M) :=
    m_let ((2407 : Int32) + ((4 : Int32) * i1)) fun v1 =>
    (m_ldi S (a + 2) 2647 (v1 + (1 : Int32))).bind fun v2 =>
    (m_ldi S (a + 2) 2647 (v1 + (2 : Int32))).bind fun v3 =>
    (m_ldi S (a + 2) 2647 v1).bind fun v4 =>
    if v4 = (1 : Int32) then (
    m_call (F a S v2 i2) fun v7 S6 =>
    if v7 = 0 then (
    b_X12_holds_123 F a S6 (1 : Int32)) else (
    b_X12_holds_123 F a S6 (0 : Int32))) else (
    if v4 = (2 : Int32) then (
    m_call (F a S v2 i2) fun v11 S10 =>
    if v11 = 0 then (
    b_X12_holds_148 F a S10) else (
    m_call (F a S10 v3 i2) fun v14 S13 =>
    if v14 = 0 then (
    b_X12_holds_148 F a S13) else (
    b_X12_holds_149 F a S13 (1 : Int32)))) else (
    if v4 = (3 : Int32) then (
    m_call (F a S v2 i2) fun v18 S17 =>
    if v18 = 0 then (
    m_call (F a S17 v3 i2) fun v21 S20 =>
    if v21 = 0 then (
    b_X12_holds_175 F a S20 (0 : Int32)) else (
    b_X12_holds_170 F a S20)) else (
    b_X12_holds_170 F a S17)) else (
    if v4 = (64 : Int32) then (
    m_call (f_X12_isFinite a S i2) fun v25 S24 =>
    if v25 = 0 ∨ v25 = 1 then some (v25, S24) else none) else (
    if v4 = (65 : Int32) then (
    m_call (f_X12_isOuter a S i2) fun v28 S27 =>
    if v28 = 0 ∨ v28 = 1 then some (v28, S27) else none) else (
    if v4 = (66 : Int32) then (
    m_call (f_X12_roomsOf a S i2) fun v31 S30 =>
    if v31 ≤ 0 then (
    b_X12_holds_201 F a S30 (0 : Int32)) else (
    b_X12_holds_201 F a S30 (1 : Int32))) else (
    if v4 = (67 : Int32) then (
    (m_ldi S (a + 19) 5 v2).bind fun v34 =>
    m_call (f_X12_has S v34 i2) fun v36 S35 =>
    if v36 = 0 ∨ v36 = 1 then some (v36, S35) else none) else (
    if v4 = (68 : Int32) then (
    (m_ldi S (a + 22) 24 i2).bind fun v38 =>
    m_call (f_X12_has S v38 v2) fun v40 S39 =>
    if v40 = 0 ∨ v40 = 1 then some (v40, S39) else none) else (
    (m_ldi S (a + 2) 2647 v1).bind fun v41 =>
    m_let (v41 - (50 : Int32)) fun v42 =>
    if v42 = (19 : Int32) then (
    m_call (f_X12_cellsOf a S i2) fun v48 S47 =>
    b_X12_holds_268 F a S47 v1 v3 v48) else (
    if v42 = (20 : Int32) then (
    m_call (f_X12_roomsOf a S i2) fun v46 S45 =>
    b_X12_holds_268 F a S45 v1 v3 v46) else (
    b_X12_holds_268 F a S v1 v3 i2))))))))))
set_option maxHeartbeats 4000000 in
set_option maxRecDepth 100000 in
theorem cg_X12_holds {l : Launch} {G : m_G} {nx : Nat} {κ : Nat → Nat} {F : Nat → m_M → Int32 → Int32 → Option (Int32 × m_M)} {rF : Room} (hrF : rF.cells = 0 ∧ rF.slots = 0) (hF : ∀ (a : Nat) (S : m_M) (i1 : Int32) (i2 : Int32) (res : (Int32 × m_M)), κ a = 13 → F a S i1 i2 = some res → m_Ci l yX12_holds cX12_holds 8 (some .boolean) rF G nx κ [.ref a, .int i1, .int i2] S res) {a : Nat} {S : m_M} {i1 : Int32} {i2 : Int32} {res : (Int32 × m_M)} (hT : m_Str κ) (hk_a : κ a = 13) (hm : g_X12_holds F a S i1 i2 = some res) : m_Ci l yX12_holds cX12_holds 8 (some .boolean) (rm_X12_holds_ rF) G nx κ [.ref a, .int i1, .int i2] S res := by
  refine m_Ci.of (by decide) (Nat.le_of_ble_eq_true rfl) ?_
  intro p e s m args below meth c ls X hr hH hl
  have hx := X.1.1
  have hb := X.1.2.1
  have hS : m_S G s s.heap [] := va_S.rf
  have hl : lv_has ls 8 [(0, .ref a), (1, .int i1), (2, .int i2)] := hl
  rw [g_X12_holds] at hm
  refine lv_sipush (v := (2407 : Int32)) hx hb dX12_holds_0 (by decide) ?_
  refine lv_iconst (v := (4 : Int32)) hx hb dX12_holds_3 (by decide) ?_
  refine lv_iload_n hx hb dX12_holds_4 rfl (lv_at hl 1 rfl) ?_
  refine lv_imul hx hb dX12_holds_5 ?_
  refine lv_iadd hx hb dX12_holds_6 ?_
  obtain ⟨v1, e_v1, hm⟩ := m_let_of hm
  refine n_topi e_v1 ?_
  refine lv_istore_n (lv' := [(3, .int v1), (0, .ref a), (1, .int i1), (2, .int i2)]) hx hb dX12_holds_7 rfl hl (by decide) rfl (fun ls hl => ?_)
  refine lv_aload_n hx hb dX12_holds_8 rfl (lv_at hl 1 rfl) ?_
  refine r_getp X hH (k := 12) (a := a) (j := 14) (b := (a + 2)) (A := 2) (B := 0) hk_a (by decide) rfl m_wi12 (by decide) in_7_29 rfl rfl rfl dX12_holds_9 ?_
  refine lv_iload_n hx hb dX12_holds_12 rfl (lv_at hl 0 rfl) ?_
  refine lv_iconst (v := (1 : Int32)) hx hb dX12_holds_13 (by decide) ?_
  refine lv_iadd hx hb dX12_holds_14 ?_
  obtain ⟨v2, h_v2, e_v2, hm⟩ := n_ldi hm
  refine n_iald X hH (n := 2647) (m_lay_at hT hk_a (by decide) (i := 2) rfl) h_v2 e_v2 dX12_holds_15 ?_
  refine lv_istore (lv' := [(4, .int v2), (3, .int v1), (0, .ref a), (1, .int i1), (2, .int i2)]) hx hb dX12_holds_16 hl (by decide) rfl (fun ls hl => ?_)
  refine lv_aload_n hx hb dX12_holds_18 rfl (lv_at hl 2 rfl) ?_
  refine r_getp X hH (k := 12) (a := a) (j := 14) (b := (a + 2)) (A := 2) (B := 0) hk_a (by decide) rfl m_wi12 (by decide) in_7_29 rfl rfl rfl dX12_holds_19 ?_
  refine lv_iload_n hx hb dX12_holds_22 rfl (lv_at hl 1 rfl) ?_
  refine lv_iconst (v := (2 : Int32)) hx hb dX12_holds_23 (by decide) ?_
  refine lv_iadd hx hb dX12_holds_24 ?_
  obtain ⟨v3, h_v3, e_v3, hm⟩ := n_ldi hm
  refine n_iald X hH (n := 2647) (m_lay_at hT hk_a (by decide) (i := 2) rfl) h_v3 e_v3 dX12_holds_25 ?_
  refine lv_istore (lv' := [(5, .int v3), (4, .int v2), (3, .int v1), (0, .ref a), (1, .int i1), (2, .int i2)]) hx hb dX12_holds_26 hl (by decide) rfl (fun ls hl => ?_)
  refine lv_aload_n hx hb dX12_holds_28 rfl (lv_at hl 3 rfl) ?_
  refine r_getp X hH (k := 12) (a := a) (j := 14) (b := (a + 2)) (A := 2) (B := 0) hk_a (by decide) rfl m_wi12 (by decide) in_7_29 rfl rfl rfl dX12_holds_29 ?_
  refine lv_iload_n hx hb dX12_holds_32 rfl (lv_at hl 2 rfl) ?_
  obtain ⟨v4, h_v4, e_v4, hm⟩ := n_ldi hm
  refine n_iald X hH (n := 2647) (m_lay_at hT hk_a (by decide) (i := 2) rfl) h_v4 e_v4 dX12_holds_33 ?_
  by_cases c5 : v4 = (1 : Int32)
  · have hm := m_ite_t hm c5
    refine lv_lookup (off := 74) (tgt := 108) hx hb dX12_holds_34 (by decide) (by rw [c5]; decide) (by decide) ?_
    refine lv_aload_n hx hb dX12_holds_108 rfl (lv_at hl 3 rfl) ?_
    refine lv_iload hx hb dX12_holds_109 (lv_at hl 1 rfl) ?_
    refine lv_iload_n hx hb dX12_holds_111 rfl (lv_at hl 5 rfl) ?_
    obtain ⟨v7, S6, e_S6, hm⟩ := m_call_of hm
    refine n_cVi X hH hS (k := 12) (hF a S v2 i2 _ hk_a e_S6) mw_X12_holds in_9_109 hk_a (by decide) rfl rfl rfl hrF ⟨by simp only [rm_X12_holds_]; omega, by simp only [rm_X12_holds_]; omega⟩ ⟨Nat.zero_le _, Nat.zero_le _⟩ hl.1 (Nat.le_of_ble_eq_true rfl) dX12_holds_112 (fun H locs hH hS => ?_)
    refine lv_if_ne (tgt := 122) hx hb dX12_holds_115 (by decide) (fun c8 => ?_) (fun c8 => ?_)
    · have hm := m_ite_f hm c8
      refine lv_iconst (v := (0 : Int32)) hx hb dX12_holds_122 (by decide) ?_
      exact k_X12_holds_123 (F := F) (a := a) X hr hT rF hrF hF hk_a   S6 (0 : Int32) _ _ _ hH hS (lv_sub hl [] rfl) hm
    · have hm := m_ite_t hm c8
      refine lv_iconst (v := (1 : Int32)) hx hb dX12_holds_118 (by decide) ?_
      refine lv_goto (tgt := 123) hx hb dX12_holds_119 (by decide) ?_
      exact k_X12_holds_123 (F := F) (a := a) X hr hT rF hrF hF hk_a   S6 (1 : Int32) _ _ _ hH hS (lv_sub hl [] rfl) hm
  · have hm := m_ite_f hm c5
    by_cases c9 : v4 = (2 : Int32)
    · have hm := m_ite_t hm c9
      refine lv_lookup (off := 90) (tgt := 124) hx hb dX12_holds_34 (by decide) (by rw [c9]; decide) (by decide) ?_
      refine lv_aload_n hx hb dX12_holds_124 rfl (lv_at hl 3 rfl) ?_
      refine lv_iload hx hb dX12_holds_125 (lv_at hl 1 rfl) ?_
      refine lv_iload_n hx hb dX12_holds_127 rfl (lv_at hl 5 rfl) ?_
      obtain ⟨v11, S10, e_S10, hm⟩ := m_call_of hm
      refine n_cVi X hH hS (k := 12) (hF a S v2 i2 _ hk_a e_S10) mw_X12_holds in_9_109 hk_a (by decide) rfl rfl rfl hrF ⟨by simp only [rm_X12_holds_]; omega, by simp only [rm_X12_holds_]; omega⟩ ⟨Nat.zero_le _, Nat.zero_le _⟩ hl.1 (Nat.le_of_ble_eq_true rfl) dX12_holds_128 (fun H locs hH hS => ?_)
      refine lv_if_eq (tgt := 148) hx hb dX12_holds_131 (by decide) (fun c12 => ?_) (fun c12 => ?_)
      · have hm := m_ite_t hm c12
        exact k_X12_holds_148 (F := F) (a := a) X hr hT rF hrF hF hk_a   S10 _ _ _ hH hS (lv_sub hl [] rfl) hm
      · have hm := m_ite_f hm c12
        refine lv_aload_n hx hb dX12_holds_134 rfl (lv_at hl 3 rfl) ?_
        refine lv_iload hx hb dX12_holds_135 (lv_at hl 0 rfl) ?_
        refine lv_iload_n hx hb dX12_holds_137 rfl (lv_at hl 5 rfl) ?_
        obtain ⟨v14, S13, e_S13, hm⟩ := m_call_of hm
        refine n_cVi X hH hS (k := 12) (hF a S10 v3 i2 _ hk_a e_S13) mw_X12_holds in_9_109 hk_a (by decide) rfl rfl rfl hrF ⟨by simp only [rm_X12_holds_]; omega, by simp only [rm_X12_holds_]; omega⟩ ⟨Nat.zero_le _, Nat.zero_le _⟩ hl.1 (Nat.le_of_ble_eq_true rfl) dX12_holds_138 (fun H locs hH hS => ?_)
        refine lv_if_eq (tgt := 148) hx hb dX12_holds_141 (by decide) (fun c15 => ?_) (fun c15 => ?_)
        · have hm := m_ite_t hm c15
          exact k_X12_holds_148 (F := F) (a := a) X hr hT rF hrF hF hk_a   S13 _ _ _ hH hS (lv_sub hl [] rfl) hm
        · have hm := m_ite_f hm c15
          refine lv_iconst (v := (1 : Int32)) hx hb dX12_holds_144 (by decide) ?_
          refine lv_goto (tgt := 149) hx hb dX12_holds_145 (by decide) ?_
          exact k_X12_holds_149 (F := F) (a := a) X hr hT rF hrF hF hk_a   S13 (1 : Int32) _ _ _ hH hS (lv_sub hl [] rfl) hm
    · have hm := m_ite_f hm c9
      by_cases c16 : v4 = (3 : Int32)
      · have hm := m_ite_t hm c16
        refine lv_lookup (off := 116) (tgt := 150) hx hb dX12_holds_34 (by decide) (by rw [c16]; decide) (by decide) ?_
        refine lv_aload_n hx hb dX12_holds_150 rfl (lv_at hl 3 rfl) ?_
        refine lv_iload hx hb dX12_holds_151 (lv_at hl 1 rfl) ?_
        refine lv_iload_n hx hb dX12_holds_153 rfl (lv_at hl 5 rfl) ?_
        obtain ⟨v18, S17, e_S17, hm⟩ := m_call_of hm
        refine n_cVi X hH hS (k := 12) (hF a S v2 i2 _ hk_a e_S17) mw_X12_holds in_9_109 hk_a (by decide) rfl rfl rfl hrF ⟨by simp only [rm_X12_holds_]; omega, by simp only [rm_X12_holds_]; omega⟩ ⟨Nat.zero_le _, Nat.zero_le _⟩ hl.1 (Nat.le_of_ble_eq_true rfl) dX12_holds_154 (fun H locs hH hS => ?_)
        refine lv_if_ne (tgt := 170) hx hb dX12_holds_157 (by decide) (fun c19 => ?_) (fun c19 => ?_)
        · have hm := m_ite_f hm c19
          exact k_X12_holds_170 (F := F) (a := a) X hr hT rF hrF hF hk_a   S17 _ _ _ hH hS (lv_sub hl [] rfl) hm
        · have hm := m_ite_t hm c19
          refine lv_aload_n hx hb dX12_holds_160 rfl (lv_at hl 3 rfl) ?_
          refine lv_iload hx hb dX12_holds_161 (lv_at hl 0 rfl) ?_
          refine lv_iload_n hx hb dX12_holds_163 rfl (lv_at hl 5 rfl) ?_
          obtain ⟨v21, S20, e_S20, hm⟩ := m_call_of hm
          refine n_cVi X hH hS (k := 12) (hF a S17 v3 i2 _ hk_a e_S20) mw_X12_holds in_9_109 hk_a (by decide) rfl rfl rfl hrF ⟨by simp only [rm_X12_holds_]; omega, by simp only [rm_X12_holds_]; omega⟩ ⟨Nat.zero_le _, Nat.zero_le _⟩ hl.1 (Nat.le_of_ble_eq_true rfl) dX12_holds_164 (fun H locs hH hS => ?_)
          refine lv_if_eq (tgt := 174) hx hb dX12_holds_167 (by decide) (fun c22 => ?_) (fun c22 => ?_)
          · have hm := m_ite_t hm c22
            refine lv_iconst (v := (0 : Int32)) hx hb dX12_holds_174 (by decide) ?_
            exact k_X12_holds_175 (F := F) (a := a) X hr hT rF hrF hF hk_a   S20 (0 : Int32) _ _ _ hH hS (lv_sub hl [] rfl) hm
          · have hm := m_ite_f hm c22
            exact k_X12_holds_170 (F := F) (a := a) X hr hT rF hrF hF hk_a   S20 _ _ _ hH hS (lv_sub hl [] rfl) hm
      · have hm := m_ite_f hm c16
        by_cases c23 : v4 = (64 : Int32)
        · have hm := m_ite_t hm c23
          refine lv_lookup (off := 142) (tgt := 176) hx hb dX12_holds_34 (by decide) (by rw [c23]; decide) (by decide) ?_
          refine lv_aload_n hx hb dX12_holds_176 rfl (lv_at hl 3 rfl) ?_
          refine lv_iload_n hx hb dX12_holds_177 rfl (lv_at hl 5 rfl) ?_
          obtain ⟨v25, S24, e_S24, hm⟩ := m_call_of hm
          refine n_cVi X hH hS (k := 12) (c_X12_isFinite (a := a) hT hk_a e_S24) mw_X12_isFinite in_8_73 hk_a (by decide) rfl rfl rfl ⟨rfl, rfl⟩ ⟨by simp only [rm_X12_holds_, rm_X12_isFinite]; omega, by simp only [rm_X12_holds_, rm_X12_isFinite]; omega⟩ ⟨Nat.zero_le _, Nat.zero_le _⟩ hl.1 (Nat.le_of_ble_eq_true rfl) dX12_holds_178 (fun H locs hH hS => ?_)
          exact r_zret X hr hH hS hm dX12_holds_181
        · have hm := m_ite_f hm c23
          by_cases c26 : v4 = (65 : Int32)
          · have hm := m_ite_t hm c26
            refine lv_lookup (off := 148) (tgt := 182) hx hb dX12_holds_34 (by decide) (by rw [c26]; decide) (by decide) ?_
            refine lv_aload_n hx hb dX12_holds_182 rfl (lv_at hl 3 rfl) ?_
            refine lv_iload_n hx hb dX12_holds_183 rfl (lv_at hl 5 rfl) ?_
            obtain ⟨v28, S27, e_S27, hm⟩ := m_call_of hm
            refine n_cVi X hH hS (k := 12) (c_X12_isOuter (a := a) hT hk_a e_S27) mw_X12_isOuter in_8_77 hk_a (by decide) rfl rfl rfl ⟨rfl, rfl⟩ ⟨by simp only [rm_X12_holds_, rm_X12_isOuter]; omega, by simp only [rm_X12_holds_, rm_X12_isOuter]; omega⟩ ⟨Nat.zero_le _, Nat.zero_le _⟩ hl.1 (Nat.le_of_ble_eq_true rfl) dX12_holds_184 (fun H locs hH hS => ?_)
            exact r_zret X hr hH hS hm dX12_holds_187
          · have hm := m_ite_f hm c26
            by_cases c29 : v4 = (66 : Int32)
            · have hm := m_ite_t hm c29
              refine lv_lookup (off := 154) (tgt := 188) hx hb dX12_holds_34 (by decide) (by rw [c29]; decide) (by decide) ?_
              refine lv_aload_n hx hb dX12_holds_188 rfl (lv_at hl 3 rfl) ?_
              refine lv_iload_n hx hb dX12_holds_189 rfl (lv_at hl 5 rfl) ?_
              obtain ⟨v31, S30, e_S30, hm⟩ := m_call_of hm
              refine n_cVi X hH hS (k := 12) (c_X12_roomsOf (a := a) hT hk_a e_S30) mw_X12_roomsOf in_8_88 hk_a (by decide) rfl rfl rfl ⟨rfl, rfl⟩ ⟨by simp only [rm_X12_holds_, rm_X12_roomsOf]; omega, by simp only [rm_X12_holds_, rm_X12_roomsOf]; omega⟩ ⟨Nat.zero_le _, Nat.zero_le _⟩ hl.1 (Nat.le_of_ble_eq_true rfl) dX12_holds_190 (fun H locs hH hS => ?_)
              refine lv_if_le (tgt := 200) hx hb dX12_holds_193 (by decide) (fun c32 => ?_) (fun c32 => ?_)
              · have hm := m_ite_t hm c32
                refine lv_iconst (v := (0 : Int32)) hx hb dX12_holds_200 (by decide) ?_
                exact k_X12_holds_201 (F := F) (a := a) X hr hT rF hrF hF hk_a   S30 (0 : Int32) _ _ _ hH hS (lv_sub hl [] rfl) hm
              · have hm := m_ite_f hm c32
                refine lv_iconst (v := (1 : Int32)) hx hb dX12_holds_196 (by decide) ?_
                refine lv_goto (tgt := 201) hx hb dX12_holds_197 (by decide) ?_
                exact k_X12_holds_201 (F := F) (a := a) X hr hT rF hrF hF hk_a   S30 (1 : Int32) _ _ _ hH hS (lv_sub hl [] rfl) hm
            · have hm := m_ite_f hm c29
              by_cases c33 : v4 = (67 : Int32)
              · have hm := m_ite_t hm c33
                refine lv_lookup (off := 168) (tgt := 202) hx hb dX12_holds_34 (by decide) (by rw [c33]; decide) (by decide) ?_
                refine lv_aload_n hx hb dX12_holds_202 rfl (lv_at hl 3 rfl) ?_
                refine r_getp X hH (k := 12) (a := a) (j := 32) (b := (a + 19)) (A := 19) (B := 0) hk_a (by decide) rfl m_wi12 (by decide) in_7_47 rfl rfl rfl dX12_holds_203 ?_
                refine lv_iload hx hb dX12_holds_206 (lv_at hl 1 rfl) ?_
                obtain ⟨v34, h_v34, e_v34, hm⟩ := n_ldi hm
                refine n_iald X hH (n := 5) (m_lay_at hT hk_a (by decide) (i := 19) rfl) h_v34 e_v34 dX12_holds_208 ?_
                refine lv_iload_n hx hb dX12_holds_209 rfl (lv_at hl 5 rfl) ?_
                obtain ⟨v36, S35, e_S35, hm⟩ := m_call_of hm
                refine n_cSi X hH hS (c_X12_has  hT  e_S35) mw_X12_has in_7_0 rfl ⟨rfl, rfl⟩ ⟨by simp only [rm_X12_holds_, rm_X12_has]; omega, by simp only [rm_X12_holds_, rm_X12_has]; omega⟩ ⟨Nat.zero_le _, Nat.zero_le _⟩ hl.1 (Nat.le_of_ble_eq_true rfl) dX12_holds_210 (fun H locs hH hS => ?_)
                exact r_zret X hr hH hS hm dX12_holds_213
              · have hm := m_ite_f hm c33
                by_cases c37 : v4 = (68 : Int32)
                · have hm := m_ite_t hm c37
                  refine lv_lookup (off := 180) (tgt := 214) hx hb dX12_holds_34 (by decide) (by rw [c37]; decide) (by decide) ?_
                  refine lv_aload_n hx hb dX12_holds_214 rfl (lv_at hl 3 rfl) ?_
                  refine r_getp X hH (k := 12) (a := a) (j := 35) (b := (a + 22)) (A := 22) (B := 0) hk_a (by decide) rfl m_wi12 (by decide) in_7_50 rfl rfl rfl dX12_holds_215 ?_
                  refine lv_iload_n hx hb dX12_holds_218 rfl (lv_at hl 5 rfl) ?_
                  obtain ⟨v38, h_v38, e_v38, hm⟩ := n_ldi hm
                  refine n_iald X hH (n := 24) (m_lay_at hT hk_a (by decide) (i := 22) rfl) h_v38 e_v38 dX12_holds_219 ?_
                  refine lv_iload hx hb dX12_holds_220 (lv_at hl 1 rfl) ?_
                  obtain ⟨v40, S39, e_S39, hm⟩ := m_call_of hm
                  refine n_cSi X hH hS (c_X12_has  hT  e_S39) mw_X12_has in_7_0 rfl ⟨rfl, rfl⟩ ⟨by simp only [rm_X12_holds_, rm_X12_has]; omega, by simp only [rm_X12_holds_, rm_X12_has]; omega⟩ ⟨Nat.zero_le _, Nat.zero_le _⟩ hl.1 (Nat.le_of_ble_eq_true rfl) dX12_holds_222 (fun H locs hH hS => ?_)
                  exact r_zret X hr hH hS hm dX12_holds_225
                · have hm := m_ite_f hm c37
                  refine lv_lookup (off := 192) (tgt := 226) hx hb dX12_holds_34 (by decide) (by exact (lv_osw (a := 1) c5 (by decide)).trans ((lv_osw (a := 2) c9 (by decide)).trans ((lv_osw (a := 3) c16 (by decide)).trans ((lv_osw (a := 64) c23 (by decide)).trans ((lv_osw (a := 65) c26 (by decide)).trans ((lv_osw (a := 66) c29 (by decide)).trans ((lv_osw (a := 67) c33 (by decide)).trans ((lv_osw (a := 68) c37 (by decide)).trans (rfl))))))))) (by decide) ?_
                  refine lv_aload_n hx hb dX12_holds_226 rfl (lv_at hl 3 rfl) ?_
                  refine r_getp X hH (k := 12) (a := a) (j := 14) (b := (a + 2)) (A := 2) (B := 0) hk_a (by decide) rfl m_wi12 (by decide) in_7_29 rfl rfl rfl dX12_holds_227 ?_
                  refine lv_iload_n hx hb dX12_holds_230 rfl (lv_at hl 2 rfl) ?_
                  obtain ⟨v41, h_v41, e_v41, hm⟩ := n_ldi hm
                  refine n_iald X hH (n := 2647) (m_lay_at hT hk_a (by decide) (i := 2) rfl) h_v41 e_v41 dX12_holds_231 ?_
                  refine lv_bipush (v := (50 : Int32)) hx hb dX12_holds_232 (by decide) ?_
                  refine lv_isub hx hb dX12_holds_234 ?_
                  obtain ⟨v42, e_v42, hm⟩ := m_let_of hm
                  refine n_topi e_v42 ?_
                  refine lv_istore (lv' := [(6, .int v42), (5, .int v3), (4, .int v2), (3, .int v1), (0, .ref a), (1, .int i1), (2, .int i2)]) hx hb dX12_holds_235 hl (by decide) rfl (fun ls hl => ?_)
                  refine lv_iload hx hb dX12_holds_237 (lv_at hl 0 rfl) ?_
                  refine lv_bipush (v := (19 : Int32)) hx hb dX12_holds_239 (by decide) ?_
                  refine lv_icmp_ne (tgt := 252) hx hb dX12_holds_241 (by decide) (fun c43 => ?_) (fun c43 => ?_)
                  · have hm := m_ite_f hm c43
                    refine lv_iload hx hb dX12_holds_252 (lv_at hl 0 rfl) ?_
                    refine lv_bipush (v := (20 : Int32)) hx hb dX12_holds_254 (by decide) ?_
                    refine lv_icmp_ne (tgt := 267) hx hb dX12_holds_256 (by decide) (fun c44 => ?_) (fun c44 => ?_)
                    · have hm := m_ite_f hm c44
                      refine lv_iload_n hx hb dX12_holds_267 rfl (lv_at hl 6 rfl) ?_
                      exact k_X12_holds_268 (F := F) (a := a) X hr hT rF hrF hF hk_a   S v1 v3 i2 _ _ _ hH hS (lv_sub hl [4, 3, 1] rfl) hm
                    · have hm := m_ite_t hm c44
                      refine lv_aload_n hx hb dX12_holds_259 rfl (lv_at hl 4 rfl) ?_
                      refine lv_iload_n hx hb dX12_holds_260 rfl (lv_at hl 6 rfl) ?_
                      obtain ⟨v46, S45, e_S45, hm⟩ := m_call_of hm
                      refine n_cVi X hH hS (k := 12) (c_X12_roomsOf (a := a) hT hk_a e_S45) mw_X12_roomsOf in_8_88 hk_a (by decide) rfl rfl rfl ⟨rfl, rfl⟩ ⟨by simp only [rm_X12_holds_, rm_X12_roomsOf]; omega, by simp only [rm_X12_holds_, rm_X12_roomsOf]; omega⟩ ⟨Nat.zero_le _, Nat.zero_le _⟩ hl.1 (Nat.le_of_ble_eq_true rfl) dX12_holds_261 (fun H locs hH hS => ?_)
                      refine lv_goto (tgt := 268) hx hb dX12_holds_264 (by decide) ?_
                      exact k_X12_holds_268 (F := F) (a := a) X hr hT rF hrF hF hk_a   S45 v1 v3 v46 _ _ _ hH hS (lv_sub hl [4, 3, 1] rfl) hm
                  · have hm := m_ite_t hm c43
                    refine lv_aload_n hx hb dX12_holds_244 rfl (lv_at hl 4 rfl) ?_
                    refine lv_iload_n hx hb dX12_holds_245 rfl (lv_at hl 6 rfl) ?_
                    obtain ⟨v48, S47, e_S47, hm⟩ := m_call_of hm
                    refine n_cVi X hH hS (k := 12) (c_X12_cellsOf (a := a) hT hk_a e_S47) mw_X12_cellsOf in_8_92 hk_a (by decide) rfl rfl rfl ⟨rfl, rfl⟩ ⟨by simp only [rm_X12_holds_, rm_X12_cellsOf]; omega, by simp only [rm_X12_holds_, rm_X12_cellsOf]; omega⟩ ⟨Nat.zero_le _, Nat.zero_le _⟩ hl.1 (Nat.le_of_ble_eq_true rfl) dX12_holds_246 (fun H locs hH hS => ?_)
                    refine lv_goto (tgt := 268) hx hb dX12_holds_249 (by decide) ?_
                    exact k_X12_holds_268 (F := F) (a := a) X hr hT rF hrF hF hk_a   S47 v1 v3 v48 _ _ _ hH hS (lv_sub hl [4, 3, 1] rfl) hm
def f_X12_holds : Nat → Nat → m_M → Int32 → Int32 → Option (Int32 × m_M)
  | 0, _, _, _, _ => none
  | d + 1, a, S, i1, i2 => g_X12_holds (f_X12_holds d) a S i1 i2
def rm_X12_holds : Nat → Room
  | 0 => { frames := 0, cells := 0, slots := 0, locals := 0 }
  | d + 1 => rm_X12_holds_ (rm_X12_holds d)
theorem rd_X12_holds (d : Nat) : (rm_X12_holds d).cells = 0 ∧ (rm_X12_holds d).slots = 0 := by cases d <;> exact ⟨rfl, rfl⟩
theorem c_X12_holds {l : Launch} {G : m_G} {nx : Nat} {κ : Nat → Nat} (d : Nat) (hT : m_Str κ) : ∀ (a : Nat) (S : m_M) (i1 : Int32) (i2 : Int32) (res : (Int32 × m_M)), κ a = 13 → f_X12_holds d a S i1 i2 = some res → m_Ci l yX12_holds cX12_holds 8 (some .boolean) (rm_X12_holds d) G nx κ [.ref a, .int i1, .int i2] S res := by
  induction d with
  | zero => intro a S i1 i2 res hk_a hm; have hm : (none : Option (Int32 × m_M)) = some res := hm; cases hm
  | succ d ih => intro a S i1 i2 res hk_a hm; exact cg_X12_holds (F := f_X12_holds d) (rF := rm_X12_holds d) (rd_X12_holds d) ih hT hk_a hm
def rm_X12_said : Room := { frames := 193, cells := 0, slots := 0, locals := 4187 }
def b_X12_said_61 (a : Nat) (K_22 : m_M → Int32 → Int32 → Int32 → Option (Int32 × m_M)) (S : m_M) (l1 : Int32) (l2 : Int32) (l3 : Int32) : Option (Int32 × m_M) :=
    m_let (l3 + (1 : Int32)) fun v1 =>
    K_22 S l1 l2 v1
set_option maxHeartbeats 4000000 in
set_option maxRecDepth 100000 in
theorem k_X12_said_61 {p : Program} {l : Launch} {e : Env} {s : State} {m : MethodId} {args : Array Value} {below : List Frame} {meth : Method} {c : Code} {G : m_G} {nx : Nat} {κ : Nat → Nat} {res : (Int32 × m_M)} {a : Nat} (X : m_Cx p s m args meth c cX12_said 4 RX12 G) (hr : meth.sig.returnType = (some .int)) (hT : m_Str κ) (hk_a : κ a = 13) (K_22 : m_M → Int32 → Int32 → Int32 → Option (Int32 × m_M)) (hK_22 : ∀ (S : m_M) (l1 : Int32) (l2 : Int32) (l3 : Int32) (H : Heap) (locs : List Loc) (ls : Array Slot), m_H G nx κ S H → m_S G s H locs → lv_has ls 4 [(0, .ref a), (1, .int l1), (2, .int l2), (3, .int l3)] → K_22 S l1 l2 l3 = some res → W p l e rm_X12_said s m args below meth c H locs 0 0 (m_Qi below args s G nx κ res) (F0 m 22 ls [])) : ∀ (S : m_M) (l1 : Int32) (l2 : Int32) (l3 : Int32) (H : Heap) (locs : List Loc) (ls : Array Slot), m_H G nx κ S H → m_S G s H locs → lv_has ls 4 [(0, .ref a), (1, .int l1), (2, .int l2), (3, .int l3)] → b_X12_said_61 a K_22 S l1 l2 l3 = some res → W p l e rm_X12_said s m args below meth c H locs 0 0 (m_Qi below args s G nx κ res) (F0 m 61 ls []) := by
  have hx := X.1.1
  have hb := X.1.2.1
  intro S l1 l2 l3 H locs ls hH hS hl hm
  rw [b_X12_said_61] at hm
  obtain ⟨v1, e_v1, hm⟩ := m_let_of hm
  refine lv_iinc (v := v1) (lv' := [(3, .int v1), (0, .ref a), (1, .int l1), (2, .int l2)]) hx hb dX12_said_61 hl (k := 3) rfl (by rw [← e_v1]; rfl) (by decide) rfl (fun ls hl => ?_)
  refine lv_goto (tgt := 22) hx hb dX12_said_64 (by decide) ?_
  exact hK_22 S l1 l2 v1 _ _ _ hH hS (lv_sub hl [1, 2, 3, 0] rfl) hm
def b_X12_said_77 (a : Nat)  (S : m_M) (t0 : Int32) : Option (Int32 × m_M) :=
    some (t0, S)
set_option maxHeartbeats 4000000 in
set_option maxRecDepth 100000 in
theorem k_X12_said_77 {p : Program} {l : Launch} {e : Env} {s : State} {m : MethodId} {args : Array Value} {below : List Frame} {meth : Method} {c : Code} {G : m_G} {nx : Nat} {κ : Nat → Nat} {res : (Int32 × m_M)} {a : Nat} (X : m_Cx p s m args meth c cX12_said 4 RX12 G) (hr : meth.sig.returnType = (some .int)) (hT : m_Str κ) (hk_a : κ a = 13)  : ∀ (S : m_M) (t0 : Int32) (H : Heap) (locs : List Loc) (ls : Array Slot), m_H G nx κ S H → m_S G s H locs → lv_has ls 4 [] → b_X12_said_77 a S t0 = some res → W p l e rm_X12_said s m args below meth c H locs 0 0 (m_Qi below args s G nx κ res) (F0 m 77 ls [.int t0]) := by
  have hx := X.1.1
  have hb := X.1.2.1
  intro S t0 H locs ls hH hS hl hm
  rw [b_X12_said_77] at hm
  exact r_iret X hr hH hS hm dX12_said_77
def b_X12_said_22 (a : Nat)  : Nat → m_M → Int32 → Int32 → Int32 → Option (Int32 × m_M)
  | 0, _, _, _, _ => none
  | n + 1, S, l1, l2, l3 =>
    (m_ldi S (a + 2) 2647 (2 : Int32)).bind fun v1 =>
    if v1 ≤ l3 then (
    if l1 = (-1 : Int32) then (
    b_X12_said_77 a S l2) else (
    b_X12_said_77 a S (-1 : Int32))) else (
    (m_ldi S (a + 2) 2647 (2406 : Int32)).bind fun v4 =>
    m_call (f_X12_holds 64 a S v4 l3) fun v6 S5 =>
    if v6 = 0 then (
    b_X12_said_61 a (b_X12_said_22 a n) S5 l1 l2 l3) else (
    if l2 = l1 then (
    some (l3, S5)) else (
    m_let (l2 + (1 : Int32)) fun v9 =>
    b_X12_said_61 a (b_X12_said_22 a n) S5 l1 v9 l3)))
set_option maxHeartbeats 4000000 in
set_option maxRecDepth 100000 in
theorem k_X12_said_22 {p : Program} {l : Launch} {e : Env} {s : State} {m : MethodId} {args : Array Value} {below : List Frame} {meth : Method} {c : Code} {G : m_G} {nx : Nat} {κ : Nat → Nat} {res : (Int32 × m_M)} {a : Nat} (X : m_Cx p s m args meth c cX12_said 4 RX12 G) (hr : meth.sig.returnType = (some .int)) (hT : m_Str κ) (hk_a : κ a = 13)  (n : Nat) : ∀ (S : m_M) (l1 : Int32) (l2 : Int32) (l3 : Int32) (H : Heap) (locs : List Loc) (ls : Array Slot), m_H G nx κ S H → m_S G s H locs → lv_has ls 4 [(0, .ref a), (1, .int l1), (2, .int l2), (3, .int l3)] → b_X12_said_22 a n S l1 l2 l3 = some res → W p l e rm_X12_said s m args below meth c H locs 0 0 (m_Qi below args s G nx κ res) (F0 m 22 ls []) := by
  have hx := X.1.1
  have hb := X.1.2.1
  induction n with
  | zero => intro S l1 l2 l3 H locs ls hH hS hl hm; have hm : (none : Option (Int32 × m_M)) = some res := hm; cases hm
  | succ n ih =>
    intro S l1 l2 l3 H locs ls hH hS hl hm
    rw [b_X12_said_22] at hm
    refine lv_iload_n hx hb dX12_said_22 rfl (lv_at hl 3 rfl) ?_
    refine lv_aload_n hx hb dX12_said_23 rfl (lv_at hl 0 rfl) ?_
    refine r_getp X hH (k := 12) (a := a) (j := 14) (b := (a + 2)) (A := 2) (B := 0) hk_a (by decide) rfl m_wi12 (by decide) in_7_29 rfl rfl rfl dX12_said_24 ?_
    refine lv_iconst (v := (2 : Int32)) hx hb dX12_said_27 (by decide) ?_
    obtain ⟨v1, h_v1, e_v1, hm⟩ := n_ldi hm
    refine n_iald X hH (n := 2647) (m_lay_at hT hk_a (by decide) (i := 2) rfl) h_v1 e_v1 dX12_said_28 ?_
    refine lv_icmp_ge (tgt := 67) hx hb dX12_said_29 (by decide) (fun c2 => ?_) (fun c2 => ?_)
    · have hm := m_ite_t hm c2
      refine lv_iload_n hx hb dX12_said_67 rfl (lv_at hl 1 rfl) ?_
      refine lv_iconst (v := (-1 : Int32)) hx hb dX12_said_68 (by decide) ?_
      refine lv_icmp_ne (tgt := 76) hx hb dX12_said_69 (by decide) (fun c3 => ?_) (fun c3 => ?_)
      · have hm := m_ite_f hm c3
        refine lv_iconst (v := (-1 : Int32)) hx hb dX12_said_76 (by decide) ?_
        exact k_X12_said_77 (a := a) X hr hT hk_a   S (-1 : Int32) _ _ _ hH hS (lv_sub hl [] rfl) hm
      · have hm := m_ite_t hm c3
        refine lv_iload_n hx hb dX12_said_72 rfl (lv_at hl 2 rfl) ?_
        refine lv_goto (tgt := 77) hx hb dX12_said_73 (by decide) ?_
        exact k_X12_said_77 (a := a) X hr hT hk_a   S l2 _ _ _ hH hS (lv_sub hl [] rfl) hm
    · have hm := m_ite_f hm c2
      refine lv_aload_n hx hb dX12_said_32 rfl (lv_at hl 0 rfl) ?_
      refine lv_aload_n hx hb dX12_said_33 rfl (lv_at hl 0 rfl) ?_
      refine r_getp X hH (k := 12) (a := a) (j := 14) (b := (a + 2)) (A := 2) (B := 0) hk_a (by decide) rfl m_wi12 (by decide) in_7_29 rfl rfl rfl dX12_said_34 ?_
      refine lv_sipush (v := (2406 : Int32)) hx hb dX12_said_37 (by decide) ?_
      obtain ⟨v4, h_v4, e_v4, hm⟩ := n_ldi hm
      refine n_iald X hH (n := 2647) (m_lay_at hT hk_a (by decide) (i := 2) rfl) h_v4 e_v4 dX12_said_40 ?_
      refine lv_iload_n hx hb dX12_said_41 rfl (lv_at hl 3 rfl) ?_
      obtain ⟨v6, S5, e_S5, hm⟩ := m_call_of hm
      refine n_cVi X hH hS (k := 12) (c_X12_holds 64 hT a S v4 l3 _ hk_a e_S5) mw_X12_holds in_9_109 hk_a (by decide) rfl rfl rfl (rd_X12_holds 64) ⟨Nat.le_of_ble_eq_true rfl, Nat.le_of_ble_eq_true rfl⟩ ⟨Nat.zero_le _, Nat.zero_le _⟩ hl.1 (Nat.le_of_ble_eq_true rfl) dX12_said_42 (fun H locs hH hS => ?_)
      refine lv_if_ne (tgt := 51) hx hb dX12_said_45 (by decide) (fun c7 => ?_) (fun c7 => ?_)
      · have hm := m_ite_f hm c7
        refine lv_iload_n hx hb dX12_said_51 rfl (lv_at hl 2 rfl) ?_
        refine lv_iload_n hx hb dX12_said_52 rfl (lv_at hl 1 rfl) ?_
        refine lv_icmp_ne (tgt := 58) hx hb dX12_said_53 (by decide) (fun c8 => ?_) (fun c8 => ?_)
        · have hm := m_ite_f hm c8
          obtain ⟨v9, e_v9, hm⟩ := m_let_of hm
          refine lv_iinc (v := v9) (lv' := [(2, .int v9), (0, .ref a), (1, .int l1), (3, .int l3)]) hx hb dX12_said_58 hl (k := 2) rfl (by rw [← e_v9]; rfl) (by decide) rfl (fun ls hl => ?_)
          exact k_X12_said_61 (a := a) X hr hT hk_a (b_X12_said_22 a n) ih  S5 l1 v9 l3 _ _ _ hH hS (lv_sub hl [1, 2, 0, 3] rfl) hm
        · have hm := m_ite_t hm c8
          refine lv_iload_n hx hb dX12_said_56 rfl (lv_at hl 3 rfl) ?_
          exact r_iret X hr hH hS hm dX12_said_57
      · have hm := m_ite_t hm c7
        refine lv_goto (tgt := 61) hx hb dX12_said_48 (by decide) ?_
        exact k_X12_said_61 (a := a) X hr hT hk_a (b_X12_said_22 a n) ih  S5 l1 l2 l3 _ _ _ hH hS hl hm
def f_X12_said (a : Nat) (S : m_M) (i1 : Int32) : Option (Int32 × m_M) :=
    m_let (m_si S a 0 (0 : Int32)) fun S1 =>
    (m_ldi S1 (a + 2) 2647 (2405 : Int32)).bind fun v2 =>
    if v2 = 0 then (
    some ((-1 : Int32), S1)) else (
    b_X12_said_22 a m_fu S1 i1 (0 : Int32) (0 : Int32))
set_option maxHeartbeats 4000000 in
set_option maxRecDepth 100000 in
theorem c_X12_said {l : Launch} {G : m_G} {nx : Nat} {κ : Nat → Nat} {a : Nat} {S : m_M} {i1 : Int32} {res : (Int32 × m_M)} (hT : m_Str κ) (hk_a : κ a = 13) (hm : f_X12_said a S i1 = some res) : m_Ci l yX12_said cX12_said 4 (some .int) rm_X12_said G nx κ [.ref a, .int i1] S res := by
  refine m_Ci.of (by decide) (Nat.le_of_ble_eq_true rfl) ?_
  intro p e s m args below meth c ls X hr hH hl
  have hx := X.1.1
  have hb := X.1.2.1
  have hS : m_S G s s.heap [] := va_S.rf
  have hl : lv_has ls 4 [(0, .ref a), (1, .int i1)] := hl
  rw [f_X12_said] at hm
  refine lv_aload_n hx hb dX12_said_0 rfl (lv_at hl 0 rfl) ?_
  refine lv_iconst (v := (0 : Int32)) hx hb dX12_said_1 (by decide) ?_
  obtain ⟨S1, e_S1, hm⟩ := m_let_of hm
  refine n_puti X hH hS tyX12 (k := 12) (a := a) (j := 0) hk_a (by decide) rfl m_wi12 tyX12_ok nmX12 (by decide) in_7_15 rfl rfl rfl ⟨rfl, rfl⟩ e_S1 dX12_said_2 (fun H locs hH hS => ?_)
  refine lv_aload_n hx hb dX12_said_5 rfl (lv_at hl 0 rfl) ?_
  refine r_getp X hH (k := 12) (a := a) (j := 14) (b := (a + 2)) (A := 2) (B := 0) hk_a (by decide) rfl m_wi12 (by decide) in_7_29 rfl rfl rfl dX12_said_6 ?_
  refine lv_sipush (v := (2405 : Int32)) hx hb dX12_said_9 (by decide) ?_
  obtain ⟨v2, h_v2, e_v2, hm⟩ := n_ldi hm
  refine n_iald X hH (n := 2647) (m_lay_at hT hk_a (by decide) (i := 2) rfl) h_v2 e_v2 dX12_said_12 ?_
  refine lv_if_ne (tgt := 18) hx hb dX12_said_13 (by decide) (fun c3 => ?_) (fun c3 => ?_)
  · have hm := m_ite_f hm c3
    refine lv_iconst (v := (0 : Int32)) hx hb dX12_said_18 (by decide) ?_
    refine lv_istore_n (lv' := [(2, .int (0 : Int32)), (0, .ref a), (1, .int i1)]) hx hb dX12_said_19 rfl hl (by decide) rfl (fun ls hl => ?_)
    refine lv_iconst (v := (0 : Int32)) hx hb dX12_said_20 (by decide) ?_
    refine lv_istore_n (lv' := [(3, .int (0 : Int32)), (2, .int (0 : Int32)), (0, .ref a), (1, .int i1)]) hx hb dX12_said_21 rfl hl (by decide) rfl (fun ls hl => ?_)
    exact k_X12_said_22 (a := a) X hr hT hk_a  m_fu S1 i1 (0 : Int32) (0 : Int32) _ _ _ hH hS (lv_sub hl [2, 3, 1, 0] rfl) hm
  · have hm := m_ite_t hm c3
    refine lv_iconst (v := (-1 : Int32)) hx hb dX12_said_16 (by decide) ?_
    exact r_iret X hr hH hS hm dX12_said_17
def rm_X12_image : Room := { frames := 1, cells := 0, slots := 0, locals := 22 }
def b_X12_image_51 (a : Nat)  : Nat → m_M → Int32 → Int32 → Option (Int32 × m_M)
  | 0, _, _, _ => none
  | n + 1, S, l1, l2 =>
    if (5 : Int32) ≤ l2 then (
    (m_sti S (a + 11) 2 l1 (vp_nar .boolean (1 : Int32))).bind fun S2 =>
    if (1 : Int32) = 0 ∨ (1 : Int32) = 1 then some ((1 : Int32), S2) else none) else (
    (m_ldj S (a + 7) 5 l2).bind fun v3 =>
    (m_stj S (a + 9) 10 (((5 : Int32) * l1) + l2) v3).bind fun S4 =>
    m_let (l2 + (1 : Int32)) fun v5 =>
    b_X12_image_51 a n S4 l1 v5)
set_option maxHeartbeats 4000000 in
set_option maxRecDepth 100000 in
theorem k_X12_image_51 {p : Program} {l : Launch} {e : Env} {s : State} {m : MethodId} {args : Array Value} {below : List Frame} {meth : Method} {c : Code} {G : m_G} {nx : Nat} {κ : Nat → Nat} {res : (Int32 × m_M)} {a : Nat} (X : m_Cx p s m args meth c cX12_image 3 RX12 G) (hr : meth.sig.returnType = (some .boolean)) (hT : m_Str κ) (hk_a : κ a = 13)  (n : Nat) : ∀ (S : m_M) (l1 : Int32) (l2 : Int32) (H : Heap) (locs : List Loc) (ls : Array Slot), m_H G nx κ S H → m_S G s H locs → lv_has ls 3 [(0, .ref a), (1, .int l1), (2, .int l2)] → b_X12_image_51 a n S l1 l2 = some res → W p l e rm_X12_image s m args below meth c H locs 0 0 (m_Qi below args s G nx κ res) (F0 m 51 ls []) := by
  have hx := X.1.1
  have hb := X.1.2.1
  induction n with
  | zero => intro S l1 l2 H locs ls hH hS hl hm; have hm : (none : Option (Int32 × m_M)) = some res := hm; cases hm
  | succ n ih =>
    intro S l1 l2 H locs ls hH hS hl hm
    rw [b_X12_image_51] at hm
    refine lv_iload_n hx hb dX12_image_51 rfl (lv_at hl 2 rfl) ?_
    refine lv_iconst (v := (5 : Int32)) hx hb dX12_image_52 (by decide) ?_
    refine lv_icmp_ge (tgt := 78) hx hb dX12_image_53 (by decide) (fun c1 => ?_) (fun c1 => ?_)
    · have hm := m_ite_t hm c1
      refine lv_aload_n hx hb dX12_image_78 rfl (lv_at hl 0 rfl) ?_
      refine r_getp X hH (k := 12) (a := a) (j := 23) (b := (a + 11)) (A := 11) (B := 0) hk_a (by decide) rfl m_wi12 (by decide) in_7_38 rfl rfl rfl dX12_image_79 ?_
      refine lv_iload_n hx hb dX12_image_82 rfl (lv_at hl 1 rfl) ?_
      refine lv_iconst (v := (1 : Int32)) hx hb dX12_image_83 (by decide) ?_
      obtain ⟨S2, h_S2, e_S2, hm⟩ := n_sti hm
      refine n_zast X hH hS (n := 2) (m_lay_at hT hk_a (by decide) (i := 11) rfl) h_S2 e_S2 dX12_image_84 (fun H locs hH hS => ?_)
      refine lv_iconst (v := (1 : Int32)) hx hb dX12_image_85 (by decide) ?_
      exact r_zret X hr hH hS hm dX12_image_86
    · have hm := m_ite_f hm c1
      refine lv_aload_n hx hb dX12_image_56 rfl (lv_at hl 0 rfl) ?_
      refine r_getp X hH (k := 12) (a := a) (j := 21) (b := (a + 9)) (A := 9) (B := 0) hk_a (by decide) rfl m_wi12 (by decide) in_7_36 rfl rfl rfl dX12_image_57 ?_
      refine lv_iconst (v := (5 : Int32)) hx hb dX12_image_60 (by decide) ?_
      refine lv_iload_n hx hb dX12_image_61 rfl (lv_at hl 1 rfl) ?_
      refine lv_imul hx hb dX12_image_62 ?_
      refine lv_iload_n hx hb dX12_image_63 rfl (lv_at hl 2 rfl) ?_
      refine lv_iadd hx hb dX12_image_64 ?_
      refine lv_aload_n hx hb dX12_image_65 rfl (lv_at hl 0 rfl) ?_
      refine r_getp X hH (k := 12) (a := a) (j := 19) (b := (a + 7)) (A := 7) (B := 0) hk_a (by decide) rfl m_wi12 (by decide) in_7_34 rfl rfl rfl dX12_image_66 ?_
      refine lv_iload_n hx hb dX12_image_69 rfl (lv_at hl 2 rfl) ?_
      obtain ⟨v3, h_v3, e_v3, hm⟩ := n_ldj hm
      refine n_lald X hH (n := 5) (m_lay_at hT hk_a (by decide) (i := 7) rfl) h_v3 e_v3 dX12_image_70 ?_
      obtain ⟨S4, h_S4, e_S4, hm⟩ := n_stj hm
      refine n_last X hH hS (n := 10) (m_lay_at hT hk_a (by decide) (i := 9) rfl) h_S4 e_S4 dX12_image_71 (fun H locs hH hS => ?_)
      obtain ⟨v5, e_v5, hm⟩ := m_let_of hm
      refine lv_iinc (v := v5) (lv' := [(2, .int v5), (0, .ref a), (1, .int l1)]) hx hb dX12_image_72 hl (k := 2) rfl (by rw [← e_v5]; rfl) (by decide) rfl (fun ls hl => ?_)
      refine lv_goto (tgt := 51) hx hb dX12_image_75 (by decide) ?_
      exact ih S4 l1 v5 _ _ _ hH hS (lv_sub hl [1, 2, 0] rfl) hm
def b_X12_image_18 (a : Nat)  : Nat → m_M → Int32 → Int32 → Option (Int32 × m_M)
  | 0, _, _, _ => none
  | n + 1, S, l1, l2 =>
    if (2647 : Int32) ≤ l2 then (
    b_X12_image_51 a m_fu S l1 (0 : Int32)) else (
    (m_ldi S (a + 2) 2647 l2).bind fun v2 =>
    (m_sti S (a + 4) 5294 (((2647 : Int32) * l1) + l2) v2).bind fun S3 =>
    m_let (l2 + (1 : Int32)) fun v4 =>
    b_X12_image_18 a n S3 l1 v4)
set_option maxHeartbeats 4000000 in
set_option maxRecDepth 100000 in
theorem k_X12_image_18 {p : Program} {l : Launch} {e : Env} {s : State} {m : MethodId} {args : Array Value} {below : List Frame} {meth : Method} {c : Code} {G : m_G} {nx : Nat} {κ : Nat → Nat} {res : (Int32 × m_M)} {a : Nat} (X : m_Cx p s m args meth c cX12_image 3 RX12 G) (hr : meth.sig.returnType = (some .boolean)) (hT : m_Str κ) (hk_a : κ a = 13)  (n : Nat) : ∀ (S : m_M) (l1 : Int32) (l2 : Int32) (H : Heap) (locs : List Loc) (ls : Array Slot), m_H G nx κ S H → m_S G s H locs → lv_has ls 3 [(0, .ref a), (1, .int l1), (2, .int l2)] → b_X12_image_18 a n S l1 l2 = some res → W p l e rm_X12_image s m args below meth c H locs 0 0 (m_Qi below args s G nx κ res) (F0 m 18 ls []) := by
  have hx := X.1.1
  have hb := X.1.2.1
  induction n with
  | zero => intro S l1 l2 H locs ls hH hS hl hm; have hm : (none : Option (Int32 × m_M)) = some res := hm; cases hm
  | succ n ih =>
    intro S l1 l2 H locs ls hH hS hl hm
    rw [b_X12_image_18] at hm
    refine lv_iload_n hx hb dX12_image_18 rfl (lv_at hl 2 rfl) ?_
    refine lv_sipush (v := (2647 : Int32)) hx hb dX12_image_19 (by decide) ?_
    refine lv_icmp_ge (tgt := 49) hx hb dX12_image_22 (by decide) (fun c1 => ?_) (fun c1 => ?_)
    · have hm := m_ite_t hm c1
      refine lv_iconst (v := (0 : Int32)) hx hb dX12_image_49 (by decide) ?_
      refine lv_istore_n (lv' := [(2, .int (0 : Int32)), (0, .ref a), (1, .int l1)]) hx hb dX12_image_50 rfl hl (by decide) rfl (fun ls hl => ?_)
      exact k_X12_image_51 (a := a) X hr hT hk_a  m_fu S l1 (0 : Int32) _ _ _ hH hS (lv_sub hl [1, 2, 0] rfl) hm
    · have hm := m_ite_f hm c1
      refine lv_aload_n hx hb dX12_image_25 rfl (lv_at hl 0 rfl) ?_
      refine r_getp X hH (k := 12) (a := a) (j := 16) (b := (a + 4)) (A := 4) (B := 0) hk_a (by decide) rfl m_wi12 (by decide) in_7_31 rfl rfl rfl dX12_image_26 ?_
      refine lv_sipush (v := (2647 : Int32)) hx hb dX12_image_29 (by decide) ?_
      refine lv_iload_n hx hb dX12_image_32 rfl (lv_at hl 1 rfl) ?_
      refine lv_imul hx hb dX12_image_33 ?_
      refine lv_iload_n hx hb dX12_image_34 rfl (lv_at hl 2 rfl) ?_
      refine lv_iadd hx hb dX12_image_35 ?_
      refine lv_aload_n hx hb dX12_image_36 rfl (lv_at hl 0 rfl) ?_
      refine r_getp X hH (k := 12) (a := a) (j := 14) (b := (a + 2)) (A := 2) (B := 0) hk_a (by decide) rfl m_wi12 (by decide) in_7_29 rfl rfl rfl dX12_image_37 ?_
      refine lv_iload_n hx hb dX12_image_40 rfl (lv_at hl 2 rfl) ?_
      obtain ⟨v2, h_v2, e_v2, hm⟩ := n_ldi hm
      refine n_iald X hH (n := 2647) (m_lay_at hT hk_a (by decide) (i := 2) rfl) h_v2 e_v2 dX12_image_41 ?_
      obtain ⟨S3, h_S3, e_S3, hm⟩ := n_sti hm
      refine n_iast X hH hS (n := 5294) (m_lay_at hT hk_a (by decide) (i := 4) rfl) h_S3 e_S3 dX12_image_42 (fun H locs hH hS => ?_)
      obtain ⟨v4, e_v4, hm⟩ := m_let_of hm
      refine lv_iinc (v := v4) (lv' := [(2, .int v4), (0, .ref a), (1, .int l1)]) hx hb dX12_image_43 hl (k := 2) rfl (by rw [← e_v4]; rfl) (by decide) rfl (fun ls hl => ?_)
      refine lv_goto (tgt := 18) hx hb dX12_image_46 (by decide) ?_
      exact ih S3 l1 v4 _ _ _ hH hS (lv_sub hl [1, 2, 0] rfl) hm
def f_X12_image (a : Nat) (S : m_M) (i1 : Int32) : Option (Int32 × m_M) :=
    m_let (m_si S a 0 (0 : Int32)) fun S1 =>
    m_call (f_X12_isIn S1 i1 (0 : Int32) (1 : Int32)) fun v3 S2 =>
    if v3 = 0 then (
    if (0 : Int32) = 0 ∨ (0 : Int32) = 1 then some ((0 : Int32), S2) else none) else (
    b_X12_image_18 a m_fu S2 i1 (0 : Int32))
set_option maxHeartbeats 4000000 in
set_option maxRecDepth 100000 in
theorem c_X12_image {l : Launch} {G : m_G} {nx : Nat} {κ : Nat → Nat} {a : Nat} {S : m_M} {i1 : Int32} {res : (Int32 × m_M)} (hT : m_Str κ) (hk_a : κ a = 13) (hm : f_X12_image a S i1 = some res) : m_Ci l yX12_image cX12_image 3 (some .boolean) rm_X12_image G nx κ [.ref a, .int i1] S res := by
  refine m_Ci.of (by decide) (Nat.le_of_ble_eq_true rfl) ?_
  intro p e s m args below meth c ls X hr hH hl
  have hx := X.1.1
  have hb := X.1.2.1
  have hS : m_S G s s.heap [] := va_S.rf
  have hl : lv_has ls 3 [(0, .ref a), (1, .int i1)] := hl
  rw [f_X12_image] at hm
  refine lv_aload_n hx hb dX12_image_0 rfl (lv_at hl 0 rfl) ?_
  refine lv_iconst (v := (0 : Int32)) hx hb dX12_image_1 (by decide) ?_
  obtain ⟨S1, e_S1, hm⟩ := m_let_of hm
  refine n_puti X hH hS tyX12 (k := 12) (a := a) (j := 0) hk_a (by decide) rfl m_wi12 tyX12_ok nmX12 (by decide) in_7_15 rfl rfl rfl ⟨rfl, rfl⟩ e_S1 dX12_image_2 (fun H locs hH hS => ?_)
  refine lv_iload_n hx hb dX12_image_5 rfl (lv_at hl 1 rfl) ?_
  refine lv_iconst (v := (0 : Int32)) hx hb dX12_image_6 (by decide) ?_
  refine lv_iconst (v := (1 : Int32)) hx hb dX12_image_7 (by decide) ?_
  obtain ⟨v3, S2, e_S2, hm⟩ := m_call_of hm
  refine n_cSi X hH hS (c_X12_isIn  hT  e_S2) mw_X12_isIn in_8_42 rfl ⟨rfl, rfl⟩ ⟨Nat.le_of_ble_eq_true rfl, Nat.le_of_ble_eq_true rfl⟩ ⟨Nat.zero_le _, Nat.zero_le _⟩ hl.1 (Nat.le_of_ble_eq_true rfl) dX12_image_8 (fun H locs hH hS => ?_)
  refine lv_if_ne (tgt := 16) hx hb dX12_image_11 (by decide) (fun c4 => ?_) (fun c4 => ?_)
  · have hm := m_ite_f hm c4
    refine lv_iconst (v := (0 : Int32)) hx hb dX12_image_16 (by decide) ?_
    refine lv_istore_n (lv' := [(2, .int (0 : Int32)), (0, .ref a), (1, .int i1)]) hx hb dX12_image_17 rfl hl (by decide) rfl (fun ls hl => ?_)
    exact k_X12_image_18 (a := a) X hr hT hk_a  m_fu S2 i1 (0 : Int32) _ _ _ hH hS (lv_sub hl [1, 2, 0] rfl) hm
  · have hm := m_ite_t hm c4
    refine lv_iconst (v := (0 : Int32)) hx hb dX12_image_14 (by decide) ?_
    exact r_zret X hr hH hS hm dX12_image_15
def rm_X12_restore : Room := { frames := 203, cells := 0, slots := 0, locals := 5275 }
def b_X12_restore_23 (a : Nat)  (S : m_M)  : Option (Int32 × m_M) :=
    if (0 : Int32) = 0 ∨ (0 : Int32) = 1 then some ((0 : Int32), S) else none
set_option maxHeartbeats 4000000 in
set_option maxRecDepth 100000 in
theorem k_X12_restore_23 {p : Program} {l : Launch} {e : Env} {s : State} {m : MethodId} {args : Array Value} {below : List Frame} {meth : Method} {c : Code} {G : m_G} {nx : Nat} {κ : Nat → Nat} {res : (Int32 × m_M)} {a : Nat} (X : m_Cx p s m args meth c cX12_restore 3 RX12 G) (hr : meth.sig.returnType = (some .boolean)) (hT : m_Str κ) (hk_a : κ a = 13)  : ∀ (S : m_M)  (H : Heap) (locs : List Loc) (ls : Array Slot), m_H G nx κ S H → m_S G s H locs → lv_has ls 3 [] → b_X12_restore_23 a S  = some res → W p l e rm_X12_restore s m args below meth c H locs 0 0 (m_Qi below args s G nx κ res) (F0 m 23 ls []) := by
  have hx := X.1.1
  have hb := X.1.2.1
  intro S H locs ls hH hS hl hm
  rw [b_X12_restore_23] at hm
  refine lv_iconst (v := (0 : Int32)) hx hb dX12_restore_23 (by decide) ?_
  exact r_zret X hr hH hS hm dX12_restore_24
def b_X12_restore_60 (a : Nat)  : Nat → m_M → Int32 → Int32 → Option (Int32 × m_M)
  | 0, _, _, _ => none
  | n + 1, S, l1, l2 =>
    if (5 : Int32) ≤ l2 then (
    m_cal0 (f_X12_layRegions a S) fun S2 =>
    m_let (m_si S2 a 24 (0 : Int32)) fun S3 =>
    if (1 : Int32) = 0 ∨ (1 : Int32) = 1 then some ((1 : Int32), S3) else none) else (
    (m_ldj S (a + 9) 10 (((5 : Int32) * l1) + l2)).bind fun v4 =>
    (m_stj S (a + 7) 5 l2 v4).bind fun S5 =>
    m_let (l2 + (1 : Int32)) fun v6 =>
    b_X12_restore_60 a n S5 l1 v6)
set_option maxHeartbeats 4000000 in
set_option maxRecDepth 100000 in
theorem k_X12_restore_60 {p : Program} {l : Launch} {e : Env} {s : State} {m : MethodId} {args : Array Value} {below : List Frame} {meth : Method} {c : Code} {G : m_G} {nx : Nat} {κ : Nat → Nat} {res : (Int32 × m_M)} {a : Nat} (X : m_Cx p s m args meth c cX12_restore 3 RX12 G) (hr : meth.sig.returnType = (some .boolean)) (hT : m_Str κ) (hk_a : κ a = 13)  (n : Nat) : ∀ (S : m_M) (l1 : Int32) (l2 : Int32) (H : Heap) (locs : List Loc) (ls : Array Slot), m_H G nx κ S H → m_S G s H locs → lv_has ls 3 [(0, .ref a), (1, .int l1), (2, .int l2)] → b_X12_restore_60 a n S l1 l2 = some res → W p l e rm_X12_restore s m args below meth c H locs 0 0 (m_Qi below args s G nx κ res) (F0 m 60 ls []) := by
  have hx := X.1.1
  have hb := X.1.2.1
  induction n with
  | zero => intro S l1 l2 H locs ls hH hS hl hm; have hm : (none : Option (Int32 × m_M)) = some res := hm; cases hm
  | succ n ih =>
    intro S l1 l2 H locs ls hH hS hl hm
    rw [b_X12_restore_60] at hm
    refine lv_iload_n hx hb dX12_restore_60 rfl (lv_at hl 2 rfl) ?_
    refine lv_iconst (v := (5 : Int32)) hx hb dX12_restore_61 (by decide) ?_
    refine lv_icmp_ge (tgt := 87) hx hb dX12_restore_62 (by decide) (fun c1 => ?_) (fun c1 => ?_)
    · have hm := m_ite_t hm c1
      refine lv_aload_n hx hb dX12_restore_87 rfl (lv_at hl 0 rfl) ?_
      obtain ⟨S2, e_S2, hm⟩ := m_cal0_of hm
      refine r_cVv X hH hS (k := 12) (c_X12_layRegions (a := a) hT hk_a e_S2) mw_X12_layRegions in_6_188 hk_a (by decide) rfl rfl rfl ⟨rfl, rfl⟩ ⟨Nat.le_of_ble_eq_true rfl, Nat.le_of_ble_eq_true rfl⟩ ⟨Nat.zero_le _, Nat.zero_le _⟩ hl.1 (Nat.le_of_ble_eq_true rfl) dX12_restore_88 (fun H locs hH hS => ?_)
      refine lv_aload_n hx hb dX12_restore_91 rfl (lv_at hl 0 rfl) ?_
      refine lv_iconst (v := (0 : Int32)) hx hb dX12_restore_92 (by decide) ?_
      obtain ⟨S3, e_S3, hm⟩ := m_let_of hm
      refine n_puti X hH hS tyX12 (k := 12) (a := a) (j := 24) hk_a (by decide) rfl m_wi12 tyX12_ok nmX12 (by decide) in_7_39 rfl rfl rfl ⟨rfl, rfl⟩ e_S3 dX12_restore_93 (fun H locs hH hS => ?_)
      refine lv_iconst (v := (1 : Int32)) hx hb dX12_restore_96 (by decide) ?_
      exact r_zret X hr hH hS hm dX12_restore_97
    · have hm := m_ite_f hm c1
      refine lv_aload_n hx hb dX12_restore_65 rfl (lv_at hl 0 rfl) ?_
      refine r_getp X hH (k := 12) (a := a) (j := 19) (b := (a + 7)) (A := 7) (B := 0) hk_a (by decide) rfl m_wi12 (by decide) in_7_34 rfl rfl rfl dX12_restore_66 ?_
      refine lv_iload_n hx hb dX12_restore_69 rfl (lv_at hl 2 rfl) ?_
      refine lv_aload_n hx hb dX12_restore_70 rfl (lv_at hl 0 rfl) ?_
      refine r_getp X hH (k := 12) (a := a) (j := 21) (b := (a + 9)) (A := 9) (B := 0) hk_a (by decide) rfl m_wi12 (by decide) in_7_36 rfl rfl rfl dX12_restore_71 ?_
      refine lv_iconst (v := (5 : Int32)) hx hb dX12_restore_74 (by decide) ?_
      refine lv_iload_n hx hb dX12_restore_75 rfl (lv_at hl 1 rfl) ?_
      refine lv_imul hx hb dX12_restore_76 ?_
      refine lv_iload_n hx hb dX12_restore_77 rfl (lv_at hl 2 rfl) ?_
      refine lv_iadd hx hb dX12_restore_78 ?_
      obtain ⟨v4, h_v4, e_v4, hm⟩ := n_ldj hm
      refine n_lald X hH (n := 10) (m_lay_at hT hk_a (by decide) (i := 9) rfl) h_v4 e_v4 dX12_restore_79 ?_
      obtain ⟨S5, h_S5, e_S5, hm⟩ := n_stj hm
      refine n_last X hH hS (n := 5) (m_lay_at hT hk_a (by decide) (i := 7) rfl) h_S5 e_S5 dX12_restore_80 (fun H locs hH hS => ?_)
      obtain ⟨v6, e_v6, hm⟩ := m_let_of hm
      refine lv_iinc (v := v6) (lv' := [(2, .int v6), (0, .ref a), (1, .int l1)]) hx hb dX12_restore_81 hl (k := 2) rfl (by rw [← e_v6]; rfl) (by decide) rfl (fun ls hl => ?_)
      refine lv_goto (tgt := 60) hx hb dX12_restore_84 (by decide) ?_
      exact ih S5 l1 v6 _ _ _ hH hS (lv_sub hl [1, 2, 0] rfl) hm
def b_X12_restore_27 (a : Nat)  : Nat → m_M → Int32 → Int32 → Option (Int32 × m_M)
  | 0, _, _, _ => none
  | n + 1, S, l1, l2 =>
    if (2647 : Int32) ≤ l2 then (
    b_X12_restore_60 a m_fu S l1 (0 : Int32)) else (
    (m_ldi S (a + 4) 5294 (((2647 : Int32) * l1) + l2)).bind fun v2 =>
    (m_sti S (a + 2) 2647 l2 v2).bind fun S3 =>
    m_let (l2 + (1 : Int32)) fun v4 =>
    b_X12_restore_27 a n S3 l1 v4)
set_option maxHeartbeats 4000000 in
set_option maxRecDepth 100000 in
theorem k_X12_restore_27 {p : Program} {l : Launch} {e : Env} {s : State} {m : MethodId} {args : Array Value} {below : List Frame} {meth : Method} {c : Code} {G : m_G} {nx : Nat} {κ : Nat → Nat} {res : (Int32 × m_M)} {a : Nat} (X : m_Cx p s m args meth c cX12_restore 3 RX12 G) (hr : meth.sig.returnType = (some .boolean)) (hT : m_Str κ) (hk_a : κ a = 13)  (n : Nat) : ∀ (S : m_M) (l1 : Int32) (l2 : Int32) (H : Heap) (locs : List Loc) (ls : Array Slot), m_H G nx κ S H → m_S G s H locs → lv_has ls 3 [(0, .ref a), (1, .int l1), (2, .int l2)] → b_X12_restore_27 a n S l1 l2 = some res → W p l e rm_X12_restore s m args below meth c H locs 0 0 (m_Qi below args s G nx κ res) (F0 m 27 ls []) := by
  have hx := X.1.1
  have hb := X.1.2.1
  induction n with
  | zero => intro S l1 l2 H locs ls hH hS hl hm; have hm : (none : Option (Int32 × m_M)) = some res := hm; cases hm
  | succ n ih =>
    intro S l1 l2 H locs ls hH hS hl hm
    rw [b_X12_restore_27] at hm
    refine lv_iload_n hx hb dX12_restore_27 rfl (lv_at hl 2 rfl) ?_
    refine lv_sipush (v := (2647 : Int32)) hx hb dX12_restore_28 (by decide) ?_
    refine lv_icmp_ge (tgt := 58) hx hb dX12_restore_31 (by decide) (fun c1 => ?_) (fun c1 => ?_)
    · have hm := m_ite_t hm c1
      refine lv_iconst (v := (0 : Int32)) hx hb dX12_restore_58 (by decide) ?_
      refine lv_istore_n (lv' := [(2, .int (0 : Int32)), (0, .ref a), (1, .int l1)]) hx hb dX12_restore_59 rfl hl (by decide) rfl (fun ls hl => ?_)
      exact k_X12_restore_60 (a := a) X hr hT hk_a  m_fu S l1 (0 : Int32) _ _ _ hH hS (lv_sub hl [1, 2, 0] rfl) hm
    · have hm := m_ite_f hm c1
      refine lv_aload_n hx hb dX12_restore_34 rfl (lv_at hl 0 rfl) ?_
      refine r_getp X hH (k := 12) (a := a) (j := 14) (b := (a + 2)) (A := 2) (B := 0) hk_a (by decide) rfl m_wi12 (by decide) in_7_29 rfl rfl rfl dX12_restore_35 ?_
      refine lv_iload_n hx hb dX12_restore_38 rfl (lv_at hl 2 rfl) ?_
      refine lv_aload_n hx hb dX12_restore_39 rfl (lv_at hl 0 rfl) ?_
      refine r_getp X hH (k := 12) (a := a) (j := 16) (b := (a + 4)) (A := 4) (B := 0) hk_a (by decide) rfl m_wi12 (by decide) in_7_31 rfl rfl rfl dX12_restore_40 ?_
      refine lv_sipush (v := (2647 : Int32)) hx hb dX12_restore_43 (by decide) ?_
      refine lv_iload_n hx hb dX12_restore_46 rfl (lv_at hl 1 rfl) ?_
      refine lv_imul hx hb dX12_restore_47 ?_
      refine lv_iload_n hx hb dX12_restore_48 rfl (lv_at hl 2 rfl) ?_
      refine lv_iadd hx hb dX12_restore_49 ?_
      obtain ⟨v2, h_v2, e_v2, hm⟩ := n_ldi hm
      refine n_iald X hH (n := 5294) (m_lay_at hT hk_a (by decide) (i := 4) rfl) h_v2 e_v2 dX12_restore_50 ?_
      obtain ⟨S3, h_S3, e_S3, hm⟩ := n_sti hm
      refine n_iast X hH hS (n := 2647) (m_lay_at hT hk_a (by decide) (i := 2) rfl) h_S3 e_S3 dX12_restore_51 (fun H locs hH hS => ?_)
      obtain ⟨v4, e_v4, hm⟩ := m_let_of hm
      refine lv_iinc (v := v4) (lv' := [(2, .int v4), (0, .ref a), (1, .int l1)]) hx hb dX12_restore_52 hl (k := 2) rfl (by rw [← e_v4]; rfl) (by decide) rfl (fun ls hl => ?_)
      refine lv_goto (tgt := 27) hx hb dX12_restore_55 (by decide) ?_
      exact ih S3 l1 v4 _ _ _ hH hS (lv_sub hl [1, 2, 0] rfl) hm
def f_X12_restore (a : Nat) (S : m_M) (i1 : Int32) : Option (Int32 × m_M) :=
    m_let (m_si S a 0 (0 : Int32)) fun S1 =>
    m_call (f_X12_isIn S1 i1 (0 : Int32) (1 : Int32)) fun v3 S2 =>
    if v3 = 0 then (
    b_X12_restore_23 a S2) else (
    (m_ldi S2 (a + 11) 2 i1).bind fun v5 =>
    if v5 = 0 then (
    b_X12_restore_23 a S2) else (
    b_X12_restore_27 a m_fu S2 i1 (0 : Int32)))
set_option maxHeartbeats 4000000 in
set_option maxRecDepth 100000 in
theorem c_X12_restore {l : Launch} {G : m_G} {nx : Nat} {κ : Nat → Nat} {a : Nat} {S : m_M} {i1 : Int32} {res : (Int32 × m_M)} (hT : m_Str κ) (hk_a : κ a = 13) (hm : f_X12_restore a S i1 = some res) : m_Ci l yX12_restore cX12_restore 3 (some .boolean) rm_X12_restore G nx κ [.ref a, .int i1] S res := by
  refine m_Ci.of (by decide) (Nat.le_of_ble_eq_true rfl) ?_
  intro p e s m args below meth c ls X hr hH hl
  have hx := X.1.1
  have hb := X.1.2.1
  have hS : m_S G s s.heap [] := va_S.rf
  have hl : lv_has ls 3 [(0, .ref a), (1, .int i1)] := hl
  rw [f_X12_restore] at hm
  refine lv_aload_n hx hb dX12_restore_0 rfl (lv_at hl 0 rfl) ?_
  refine lv_iconst (v := (0 : Int32)) hx hb dX12_restore_1 (by decide) ?_
  obtain ⟨S1, e_S1, hm⟩ := m_let_of hm
  refine n_puti X hH hS tyX12 (k := 12) (a := a) (j := 0) hk_a (by decide) rfl m_wi12 tyX12_ok nmX12 (by decide) in_7_15 rfl rfl rfl ⟨rfl, rfl⟩ e_S1 dX12_restore_2 (fun H locs hH hS => ?_)
  refine lv_iload_n hx hb dX12_restore_5 rfl (lv_at hl 1 rfl) ?_
  refine lv_iconst (v := (0 : Int32)) hx hb dX12_restore_6 (by decide) ?_
  refine lv_iconst (v := (1 : Int32)) hx hb dX12_restore_7 (by decide) ?_
  obtain ⟨v3, S2, e_S2, hm⟩ := m_call_of hm
  refine n_cSi X hH hS (c_X12_isIn  hT  e_S2) mw_X12_isIn in_8_42 rfl ⟨rfl, rfl⟩ ⟨Nat.le_of_ble_eq_true rfl, Nat.le_of_ble_eq_true rfl⟩ ⟨Nat.zero_le _, Nat.zero_le _⟩ hl.1 (Nat.le_of_ble_eq_true rfl) dX12_restore_8 (fun H locs hH hS => ?_)
  refine lv_if_eq (tgt := 23) hx hb dX12_restore_11 (by decide) (fun c4 => ?_) (fun c4 => ?_)
  · have hm := m_ite_t hm c4
    exact k_X12_restore_23 (a := a) X hr hT hk_a   S2 _ _ _ hH hS (lv_sub hl [] rfl) hm
  · have hm := m_ite_f hm c4
    refine lv_aload_n hx hb dX12_restore_14 rfl (lv_at hl 0 rfl) ?_
    refine r_getp X hH (k := 12) (a := a) (j := 23) (b := (a + 11)) (A := 11) (B := 0) hk_a (by decide) rfl m_wi12 (by decide) in_7_38 rfl rfl rfl dX12_restore_15 ?_
    refine lv_iload_n hx hb dX12_restore_18 rfl (lv_at hl 1 rfl) ?_
    obtain ⟨v5, h_v5, e_v5, hm⟩ := n_ldi hm
    refine n_zald X hH (n := 2) (m_lay_at hT hk_a (by decide) (i := 11) rfl) h_v5 e_v5 dX12_restore_19 ?_
    refine lv_if_ne (tgt := 25) hx hb dX12_restore_20 (by decide) (fun c6 => ?_) (fun c6 => ?_)
    · have hm := m_ite_f hm c6
      refine lv_iconst (v := (0 : Int32)) hx hb dX12_restore_25 (by decide) ?_
      refine lv_istore_n (lv' := [(2, .int (0 : Int32)), (0, .ref a), (1, .int i1)]) hx hb dX12_restore_26 rfl hl (by decide) rfl (fun ls hl => ?_)
      exact k_X12_restore_27 (a := a) X hr hT hk_a  m_fu S2 i1 (0 : Int32) _ _ _ hH hS (lv_sub hl [1, 2, 0] rfl) hm
    · have hm := m_ite_t hm c6
      exact k_X12_restore_23 (a := a) X hr hT hk_a   S2 _ _ _ hH hS (lv_sub hl [] rfl) hm
def rm_X12_count : Room := { frames := 4, cells := 0, slots := 0, locals := 87 }
def f_X12_count (a : Nat) (S : m_M) (i1 : Int32) : Option (Int32 × m_M) :=
    m_let (m_si S a 0 (0 : Int32)) fun S1 =>
    if i1 = (0 : Int32) then (
    (m_ldi S1 (a + 2) 2647 (0 : Int32)).bind fun v3 =>
    some (v3, S1)) else (
    if i1 = (1 : Int32) then (
    (m_ldi S1 (a + 2) 2647 (1 : Int32)).bind fun v5 =>
    some (v5, S1)) else (
    if i1 = (2 : Int32) then (
    (m_ldi S1 (a + 2) 2647 (2 : Int32)).bind fun v7 =>
    some (v7, S1)) else (
    if i1 = (3 : Int32) then (
    m_call (f_X12_finiteMany a S1) fun v10 S9 =>
    some (v10, S9)) else (
    if i1 = (4 : Int32) then (
    some ((m_ri S1 a 2), S1)) else (
    some ((-1 : Int32), S1))))))
set_option maxHeartbeats 4000000 in
set_option maxRecDepth 100000 in
theorem c_X12_count {l : Launch} {G : m_G} {nx : Nat} {κ : Nat → Nat} {a : Nat} {S : m_M} {i1 : Int32} {res : (Int32 × m_M)} (hT : m_Str κ) (hk_a : κ a = 13) (hm : f_X12_count a S i1 = some res) : m_Ci l yX12_count cX12_count 2 (some .int) rm_X12_count G nx κ [.ref a, .int i1] S res := by
  refine m_Ci.of (by decide) (Nat.le_of_ble_eq_true rfl) ?_
  intro p e s m args below meth c ls X hr hH hl
  have hx := X.1.1
  have hb := X.1.2.1
  have hS : m_S G s s.heap [] := va_S.rf
  have hl : lv_has ls 2 [(0, .ref a), (1, .int i1)] := hl
  rw [f_X12_count] at hm
  refine lv_aload_n hx hb dX12_count_0 rfl (lv_at hl 0 rfl) ?_
  refine lv_iconst (v := (0 : Int32)) hx hb dX12_count_1 (by decide) ?_
  obtain ⟨S1, e_S1, hm⟩ := m_let_of hm
  refine n_puti X hH hS tyX12 (k := 12) (a := a) (j := 0) hk_a (by decide) rfl m_wi12 tyX12_ok nmX12 (by decide) in_7_15 rfl rfl rfl ⟨rfl, rfl⟩ e_S1 dX12_count_2 (fun H locs hH hS => ?_)
  refine lv_iload_n hx hb dX12_count_5 rfl (lv_at hl 1 rfl) ?_
  by_cases c2 : i1 = (0 : Int32)
  · have hm := m_ite_t hm c2
    refine lv_tableIn (off := 34) (tgt := 40) hx hb dX12_count_6 (by rw [c2]; decide) (by rw [c2]; decide) (by rw [c2]; rfl) (by decide) ?_
    refine lv_aload_n hx hb dX12_count_40 rfl (lv_at hl 0 rfl) ?_
    refine r_getp X hH (k := 12) (a := a) (j := 14) (b := (a + 2)) (A := 2) (B := 0) hk_a (by decide) rfl m_wi12 (by decide) in_7_29 rfl rfl rfl dX12_count_41 ?_
    refine lv_iconst (v := (0 : Int32)) hx hb dX12_count_44 (by decide) ?_
    obtain ⟨v3, h_v3, e_v3, hm⟩ := n_ldi hm
    refine n_iald X hH (n := 2647) (m_lay_at hT hk_a (by decide) (i := 2) rfl) h_v3 e_v3 dX12_count_45 ?_
    exact r_iret X hr hH hS hm dX12_count_46
  · have hm := m_ite_f hm c2
    by_cases c4 : i1 = (1 : Int32)
    · have hm := m_ite_t hm c4
      refine lv_tableIn (off := 41) (tgt := 47) hx hb dX12_count_6 (by rw [c4]; decide) (by rw [c4]; decide) (by rw [c4]; rfl) (by decide) ?_
      refine lv_aload_n hx hb dX12_count_47 rfl (lv_at hl 0 rfl) ?_
      refine r_getp X hH (k := 12) (a := a) (j := 14) (b := (a + 2)) (A := 2) (B := 0) hk_a (by decide) rfl m_wi12 (by decide) in_7_29 rfl rfl rfl dX12_count_48 ?_
      refine lv_iconst (v := (1 : Int32)) hx hb dX12_count_51 (by decide) ?_
      obtain ⟨v5, h_v5, e_v5, hm⟩ := n_ldi hm
      refine n_iald X hH (n := 2647) (m_lay_at hT hk_a (by decide) (i := 2) rfl) h_v5 e_v5 dX12_count_52 ?_
      exact r_iret X hr hH hS hm dX12_count_53
    · have hm := m_ite_f hm c4
      by_cases c6 : i1 = (2 : Int32)
      · have hm := m_ite_t hm c6
        refine lv_tableIn (off := 48) (tgt := 54) hx hb dX12_count_6 (by rw [c6]; decide) (by rw [c6]; decide) (by rw [c6]; rfl) (by decide) ?_
        refine lv_aload_n hx hb dX12_count_54 rfl (lv_at hl 0 rfl) ?_
        refine r_getp X hH (k := 12) (a := a) (j := 14) (b := (a + 2)) (A := 2) (B := 0) hk_a (by decide) rfl m_wi12 (by decide) in_7_29 rfl rfl rfl dX12_count_55 ?_
        refine lv_iconst (v := (2 : Int32)) hx hb dX12_count_58 (by decide) ?_
        obtain ⟨v7, h_v7, e_v7, hm⟩ := n_ldi hm
        refine n_iald X hH (n := 2647) (m_lay_at hT hk_a (by decide) (i := 2) rfl) h_v7 e_v7 dX12_count_59 ?_
        exact r_iret X hr hH hS hm dX12_count_60
      · have hm := m_ite_f hm c6
        by_cases c8 : i1 = (3 : Int32)
        · have hm := m_ite_t hm c8
          refine lv_tableIn (off := 55) (tgt := 61) hx hb dX12_count_6 (by rw [c8]; decide) (by rw [c8]; decide) (by rw [c8]; rfl) (by decide) ?_
          refine lv_aload_n hx hb dX12_count_61 rfl (lv_at hl 0 rfl) ?_
          obtain ⟨v10, S9, e_S9, hm⟩ := m_call_of hm
          refine n_cVi X hH hS (k := 12) (c_X12_finiteMany (a := a) hT hk_a e_S9) mw_X12_finiteMany in_9_125 hk_a (by decide) rfl rfl rfl ⟨rfl, rfl⟩ ⟨Nat.le_of_ble_eq_true rfl, Nat.le_of_ble_eq_true rfl⟩ ⟨Nat.zero_le _, Nat.zero_le _⟩ hl.1 (Nat.le_of_ble_eq_true rfl) dX12_count_62 (fun H locs hH hS => ?_)
          exact r_iret X hr hH hS hm dX12_count_65
        · have hm := m_ite_f hm c8
          by_cases c11 : i1 = (4 : Int32)
          · have hm := m_ite_t hm c11
            refine lv_tableIn (off := 60) (tgt := 66) hx hb dX12_count_6 (by rw [c11]; decide) (by rw [c11]; decide) (by rw [c11]; rfl) (by decide) ?_
            refine lv_aload_n hx hb dX12_count_66 rfl (lv_at hl 0 rfl) ?_
            refine r_geti X hH (k := 12) (a := a) (j := 2) hk_a (by decide) rfl m_wi12 (by decide) in_7_17 rfl rfl dX12_count_67 ?_
            exact r_iret X hr hH hS hm dX12_count_70
          · have hm := m_ite_f hm c11
            refine lv_tableOut (tgt := 71) hx hb dX12_count_6 (by have h_c2 := lv_neT (a := 0) c2 rfl; have h_c4 := lv_neT (a := 1) c4 rfl; have h_c6 := lv_neT (a := 2) c6 rfl; have h_c8 := lv_neT (a := 3) c8 rfl; have h_c11 := lv_neT (a := 4) c11 rfl; omega) (by decide) ?_
            refine lv_iconst (v := (-1 : Int32)) hx hb dX12_count_71 (by decide) ?_
            exact r_iret X hr hH hS hm dX12_count_72
