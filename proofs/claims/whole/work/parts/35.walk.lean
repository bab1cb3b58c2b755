def rm_X12_readFun : Room := { frames := 3, cells := 0, slots := 0, locals := 68 }
def b_X12_readFun_123 (a : Nat)  : Nat → m_M → Option (Int32 × m_M)
  | 0, _ => none
  | n + 1, S =>
    m_call (f_X12_isName a S) fun v2 S1 =>
    if v2 = 0 then (
    if (1 : Int32) = 0 ∨ (1 : Int32) = 1 then some ((1 : Int32), S1) else none) else (
    m_call (f_X12_readParameter a S1) fun v5 S4 =>
    if v5 = 0 then (
    if (0 : Int32) = 0 ∨ (0 : Int32) = 1 then some ((0 : Int32), S4) else none) else (
    b_X12_readFun_123 a n S4))
set_option maxHeartbeats 4000000 in
set_option maxRecDepth 100000 in
theorem k_X12_readFun_123 {p : Program} {l : Launch} {e : Env} {s : State} {m : MethodId} {args : Array Value} {below : List Frame} {meth : Method} {c : Code} {G : m_G} {nx : Nat} {κ : Nat → Nat} {res : (Int32 × m_M)} {a : Nat} (X : m_Cx p s m args meth c cX12_readFun 1 RX12 G) (hr : meth.sig.returnType = (some .boolean)) (hT : m_Str κ) (hk_a : κ a = 13)  (n : Nat) : ∀ (S : m_M)  (H : Heap) (locs : List Loc) (ls : Array Slot), m_H G nx κ S H → m_S G s H locs → lv_has ls 1 [(0, .ref a)] → b_X12_readFun_123 a n S  = some res → W p l e rm_X12_readFun s m args below meth c H locs 0 0 (m_Qi below args s G nx κ res) (F0 m 123 ls []) := by
  have hx := X.1.1
  have hb := X.1.2.1
  induction n with
  | zero => intro S H locs ls hH hS hl hm; have hm : (none : Option (Int32 × m_M)) = some res := hm; cases hm
  | succ n ih =>
    intro S H locs ls hH hS hl hm
    rw [b_X12_readFun_123] at hm
    refine lv_aload_n hx hb dX12_readFun_123 rfl (lv_at hl 0 rfl) ?_
    obtain ⟨v2, S1, e_S1, hm⟩ := m_call_of hm
    refine n_cVi X hH hS (k := 12) (c_X12_isName (a := a) hT hk_a e_S1) mw_X12_isName in_7_223 hk_a (by decide) rfl rfl rfl ⟨rfl, rfl⟩ ⟨Nat.le_of_ble_eq_true rfl, Nat.le_of_ble_eq_true rfl⟩ ⟨Nat.zero_le _, Nat.zero_le _⟩ hl.1 (Nat.le_of_ble_eq_true rfl) dX12_readFun_124 (fun H locs hH hS => ?_)
    refine lv_if_eq (tgt := 139) hx hb dX12_readFun_127 (by decide) (fun c3 => ?_) (fun c3 => ?_)
    · have hm := m_ite_t hm c3
      refine lv_iconst (v := (1 : Int32)) hx hb dX12_readFun_139 (by decide) ?_
      exact r_zret X hr hH hS hm dX12_readFun_140
    · have hm := m_ite_f hm c3
      refine lv_aload_n hx hb dX12_readFun_130 rfl (lv_at hl 0 rfl) ?_
      obtain ⟨v5, S4, e_S4, hm⟩ := m_call_of hm
      refine n_cVi X hH hS (k := 12) (c_X12_readParameter (a := a) hT hk_a e_S4) mw_X12_readParameter in_7_230 hk_a (by decide) rfl rfl rfl ⟨rfl, rfl⟩ ⟨Nat.le_of_ble_eq_true rfl, Nat.le_of_ble_eq_true rfl⟩ ⟨Nat.zero_le _, Nat.zero_le _⟩ hl.1 (Nat.le_of_ble_eq_true rfl) dX12_readFun_131 (fun H locs hH hS => ?_)
      refine lv_if_ne (tgt := 123) hx hb dX12_readFun_134 (by decide) (fun c6 => ?_) (fun c6 => ?_)
      · have hm := m_ite_f hm c6
        exact ih S4 _ _ _ hH hS hl hm
      · have hm := m_ite_t hm c6
        refine lv_iconst (v := (0 : Int32)) hx hb dX12_readFun_137 (by decide) ?_
        exact r_zret X hr hH hS hm dX12_readFun_138
def f_X12_readFun (a : Nat) (S : m_M)  : Option (Int32 × m_M) :=
    m_call (f_X12_isBare a S) fun v2 S1 =>
    if v2 = 0 then (
    (m_ldi S1 (a + 3) 210 (0 : Int32)).bind fun v4 =>
    if v4 = (5 : Int32) then (
    m_call (f_X12_bad a S1 (4 : Int32)) fun v27 S26 =>
    if v27 = 0 ∨ v27 = 1 then some (v27, S26) else none) else (
    m_cal0 (f_X12_go a S1) fun S6 =>
    m_call (f_X12_isName a S6) fun v8 S7 =>
    if v8 = 0 then (
    m_call (f_X12_bad a S7 (1 : Int32)) fun v25 S24 =>
    if v25 = 0 ∨ v25 = 1 then some (v25, S24) else none) else (
    (m_ldi S7 (a + 3) 210 (0 : Int32)).bind fun v10 =>
    m_call (f_X12_findIn (a + 8) 5 S7 (0 : Int32) v10 (m_rj S7 a 12)) fun v12 S11 =>
    if v12 = (-1 : Int32) then (
    (m_ldi S11 (a + 3) 210 (0 : Int32)).bind fun v14 =>
    (m_stj S11 (a + 8) 5 v14 (m_rj S11 a 12)).bind fun S15 =>
    (m_ldi S15 (a + 3) 210 (0 : Int32)).bind fun v16 =>
    (m_ldi S15 (a + 3) 210 (1 : Int32)).bind fun v17 =>
    (m_sti S15 (a + 3) 210 ((8 : Int32) + v16) v17).bind fun S18 =>
    (m_ldi S18 (a + 3) 210 (0 : Int32)).bind fun v19 =>
    (m_sti S18 (a + 3) 210 (0 : Int32) (v19 + (1 : Int32))).bind fun S20 =>
    m_cal0 (f_X12_go a S20) fun S21 =>
    b_X12_readFun_123 a m_fu S21) else (
    m_call (f_X12_bad a S11 (3 : Int32)) fun v23 S22 =>
    if v23 = 0 ∨ v23 = 1 then some (v23, S22) else none)))) else (
    m_call (f_X12_bad a S1 (3 : Int32)) fun v29 S28 =>
    if v29 = 0 ∨ v29 = 1 then some (v29, S28) else none)
set_option maxHeartbeats 4000000 in
set_option maxRecDepth 100000 in
theorem c_X12_readFun {l : Launch} {G : m_G} {nx : Nat} {κ : Nat → Nat} {a : Nat} {S : m_M}  {res : (Int32 × m_M)} (hT : m_Str κ) (hk_a : κ a = 13) (hm : f_X12_readFun a S = some res) : m_Ci l yX12_readFun cX12_readFun 1 (some .boolean) rm_X12_readFun G nx κ [.ref a] S res := by
  refine m_Ci.of (by decide) (Nat.le_of_ble_eq_true rfl) ?_
  intro p e s m args below meth c ls X hr hH hl
  have hx := X.1.1
  have hb := X.1.2.1
  have hS : m_S G s s.heap [] := va_S.rf
  have hl : lv_has ls 1 [(0, .ref a)] := hl
  rw [f_X12_readFun] at hm
  refine lv_aload_n hx hb dX12_readFun_0 rfl (lv_at hl 0 rfl) ?_
  obtain ⟨v2, S1, e_S1, hm⟩ := m_call_of hm
  refine n_cVi X hH hS (k := 12) (c_X12_isBare (a := a) hT hk_a e_S1) mw_X12_isBare in_7_211 hk_a (by decide) rfl rfl rfl ⟨rfl, rfl⟩ ⟨Nat.le_of_ble_eq_true rfl, Nat.le_of_ble_eq_true rfl⟩ ⟨Nat.zero_le _, Nat.zero_le _⟩ hl.1 (Nat.le_of_ble_eq_true rfl) dX12_readFun_1 (fun H locs hH hS => ?_)
  refine lv_if_eq (tgt := 13) hx hb dX12_readFun_4 (by decide) (fun c3 => ?_) (fun c3 => ?_)
  · have hm := m_ite_t hm c3
    refine lv_aload_n hx hb dX12_readFun_13 rfl (lv_at hl 0 rfl) ?_
    refine r_getp X hH (k := 12) (a := a) (j := 15) (b := (a + 3)) (A := 3) (B := 0) hk_a (by decide) rfl m_wi12 (by decide) in_7_30 rfl rfl rfl dX12_readFun_14 ?_
    refine lv_iconst (v := (0 : Int32)) hx hb dX12_readFun_17 (by decide) ?_
    obtain ⟨v4, h_v4, e_v4, hm⟩ := n_ldi hm
    refine n_iald X hH (n := 210) (m_lay_at hT hk_a (by decide) (i := 3) rfl) h_v4 e_v4 dX12_readFun_18 ?_
    refine lv_iconst (v := (5 : Int32)) hx hb dX12_readFun_19 (by decide) ?_
    refine lv_icmp_ne (tgt := 29) hx hb dX12_readFun_20 (by decide) (fun c5 => ?_) (fun c5 => ?_)
    · have hm := m_ite_f hm c5
      refine lv_aload_n hx hb dX12_readFun_29 rfl (lv_at hl 0 rfl) ?_
      obtain ⟨S6, e_S6, hm⟩ := m_cal0_of hm
      refine r_cVv X hH hS (k := 12) (c_X12_go (a := a) hT hk_a e_S6) mw_X12_go in_7_181 hk_a (by decide) rfl rfl rfl ⟨rfl, rfl⟩ ⟨Nat.le_of_ble_eq_true rfl, Nat.le_of_ble_eq_true rfl⟩ ⟨Nat.zero_le _, Nat.zero_le _⟩ hl.1 (Nat.le_of_ble_eq_true rfl) dX12_readFun_30 (fun H locs hH hS => ?_)
      refine lv_aload_n hx hb dX12_readFun_33 rfl (lv_at hl 0 rfl) ?_
      obtain ⟨v8, S7, e_S7, hm⟩ := m_call_of hm
      refine n_cVi X hH hS (k := 12) (c_X12_isName (a := a) hT hk_a e_S7) mw_X12_isName in_7_223 hk_a (by decide) rfl rfl rfl ⟨rfl, rfl⟩ ⟨Nat.le_of_ble_eq_true rfl, Nat.le_of_ble_eq_true rfl⟩ ⟨Nat.zero_le _, Nat.zero_le _⟩ hl.1 (Nat.le_of_ble_eq_true rfl) dX12_readFun_34 (fun H locs hH hS => ?_)
      refine lv_if_ne (tgt := 46) hx hb dX12_readFun_37 (by decide) (fun c9 => ?_) (fun c9 => ?_)
      · have hm := m_ite_f hm c9
        refine lv_aload_n hx hb dX12_readFun_46 rfl (lv_at hl 0 rfl) ?_
        refine r_getp X hH (k := 12) (a := a) (j := 20) (b := (a + 8)) (A := 8) (B := 0) hk_a (by decide) rfl m_wi12 (by decide) in_7_35 rfl rfl rfl dX12_readFun_47 ?_
        refine lv_iconst (v := (0 : Int32)) hx hb dX12_readFun_50 (by decide) ?_
        refine lv_aload_n hx hb dX12_readFun_51 rfl (lv_at hl 0 rfl) ?_
        refine r_getp X hH (k := 12) (a := a) (j := 15) (b := (a + 3)) (A := 3) (B := 0) hk_a (by decide) rfl m_wi12 (by decide) in_7_30 rfl rfl rfl dX12_readFun_52 ?_
        refine lv_iconst (v := (0 : Int32)) hx hb dX12_readFun_55 (by decide) ?_
        obtain ⟨v10, h_v10, e_v10, hm⟩ := n_ldi hm
        refine n_iald X hH (n := 210) (m_lay_at hT hk_a (by decide) (i := 3) rfl) h_v10 e_v10 dX12_readFun_56 ?_
        refine lv_aload_n hx hb dX12_readFun_57 rfl (lv_at hl 0 rfl) ?_
        refine r_getj X hH (k := 12) (a := a) (j := 12) hk_a (by decide) rfl m_wi12 (by decide) in_7_27 rfl rfl dX12_readFun_58 ?_
        obtain ⟨v12, S11, e_S11, hm⟩ := m_call_of hm
        refine n_cSi X hH hS (c_X12_findIn (o0 := (a + 8)) (n0 := 5) hT (m_lay_at hT hk_a (by decide) (i := 8) rfl) e_S11) mw_X12_findIn in_7_227 rfl ⟨rfl, rfl⟩ ⟨Nat.le_of_ble_eq_true rfl, Nat.le_of_ble_eq_true rfl⟩ ⟨Nat.zero_le _, Nat.zero_le _⟩ hl.1 (Nat.le_of_ble_eq_true rfl) dX12_readFun_61 (fun H locs hH hS => ?_)
        refine lv_iconst (v := (-1 : Int32)) hx hb dX12_readFun_64 (by decide) ?_
        refine lv_icmp_eq (tgt := 74) hx hb dX12_readFun_65 (by decide) (fun c13 => ?_) (fun c13 => ?_)
        · have hm := m_ite_t hm c13
          refine lv_aload_n hx hb dX12_readFun_74 rfl (lv_at hl 0 rfl) ?_
          refine r_getp X hH (k := 12) (a := a) (j := 20) (b := (a + 8)) (A := 8) (B := 0) hk_a (by decide) rfl m_wi12 (by decide) in_7_35 rfl rfl rfl dX12_readFun_75 ?_
          refine lv_aload_n hx hb dX12_readFun_78 rfl (lv_at hl 0 rfl) ?_
          refine r_getp X hH (k := 12) (a := a) (j := 15) (b := (a + 3)) (A := 3) (B := 0) hk_a (by decide) rfl m_wi12 (by decide) in_7_30 rfl rfl rfl dX12_readFun_79 ?_
          refine lv_iconst (v := (0 : Int32)) hx hb dX12_readFun_82 (by decide) ?_
          obtain ⟨v14, h_v14, e_v14, hm⟩ := n_ldi hm
          refine n_iald X hH (n := 210) (m_lay_at hT hk_a (by decide) (i := 3) rfl) h_v14 e_v14 dX12_readFun_83 ?_
          refine lv_aload_n hx hb dX12_readFun_84 rfl (lv_at hl 0 rfl) ?_
          refine r_getj X hH (k := 12) (a := a) (j := 12) hk_a (by decide) rfl m_wi12 (by decide) in_7_27 rfl rfl dX12_readFun_85 ?_
          obtain ⟨S15, h_S15, e_S15, hm⟩ := n_stj hm
          refine n_last X hH hS (n := 5) (m_lay_at hT hk_a (by decide) (i := 8) rfl) h_S15 e_S15 dX12_readFun_88 (fun H locs hH hS => ?_)
          refine lv_aload_n hx hb dX12_readFun_89 rfl (lv_at hl 0 rfl) ?_
          refine r_getp X hH (k := 12) (a := a) (j := 15) (b := (a + 3)) (A := 3) (B := 0) hk_a (by decide) rfl m_wi12 (by decide) in_7_30 rfl rfl rfl dX12_readFun_90 ?_
          refine lv_bipush (v := (8 : Int32)) hx hb dX12_readFun_93 (by decide) ?_
          refine lv_aload_n hx hb dX12_readFun_95 rfl (lv_at hl 0 rfl) ?_
          refine r_getp X hH (k := 12) (a := a) (j := 15) (b := (a + 3)) (A := 3) (B := 0) hk_a (by decide) rfl m_wi12 (by decide) in_7_30 rfl rfl rfl dX12_readFun_96 ?_
          refine lv_iconst (v := (0 : Int32)) hx hb dX12_readFun_99 (by decide) ?_
          obtain ⟨v16, h_v16, e_v16, hm⟩ := n_ldi hm
          refine n_iald X hH (n := 210) (m_lay_at hT hk_a (by decide) (i := 3) rfl) h_v16 e_v16 dX12_readFun_100 ?_
          refine lv_iadd hx hb dX12_readFun_101 ?_
          refine lv_aload_n hx hb dX12_readFun_102 rfl (lv_at hl 0 rfl) ?_
          refine r_getp X hH (k := 12) (a := a) (j := 15) (b := (a + 3)) (A := 3) (B := 0) hk_a (by decide) rfl m_wi12 (by decide) in_7_30 rfl rfl rfl dX12_readFun_103 ?_
          refine lv_iconst (v := (1 : Int32)) hx hb dX12_readFun_106 (by decide) ?_
          obtain ⟨v17, h_v17, e_v17, hm⟩ := n_ldi hm
          refine n_iald X hH (n := 210) (m_lay_at hT hk_a (by decide) (i := 3) rfl) h_v17 e_v17 dX12_readFun_107 ?_
          obtain ⟨S18, h_S18, e_S18, hm⟩ := n_sti hm
          refine n_iast X hH hS (n := 210) (m_lay_at hT hk_a (by decide) (i := 3) rfl) h_S18 e_S18 dX12_readFun_108 (fun H locs hH hS => ?_)
          refine lv_aload_n hx hb dX12_readFun_109 rfl (lv_at hl 0 rfl) ?_
          refine r_getp X hH (k := 12) (a := a) (j := 15) (b := (a + 3)) (A := 3) (B := 0) hk_a (by decide) rfl m_wi12 (by decide) in_7_30 rfl rfl rfl dX12_readFun_110 ?_
          refine lv_iconst (v := (0 : Int32)) hx hb dX12_readFun_113 (by decide) ?_
          refine lv_dup2_11 hx hb dX12_readFun_114 rfl rfl ?_
          obtain ⟨v19, h_v19, e_v19, hm⟩ := n_ldi hm
          refine n_iald X hH (n := 210) (m_lay_at hT hk_a (by decide) (i := 3) rfl) h_v19 e_v19 dX12_readFun_115 ?_
          refine lv_iconst (v := (1 : Int32)) hx hb dX12_readFun_116 (by decide) ?_
          refine lv_iadd hx hb dX12_readFun_117 ?_
          obtain ⟨S20, h_S20, e_S20, hm⟩ := n_sti hm
          refine n_iast X hH hS (n := 210) (m_lay_at hT hk_a (by decide) (i := 3) rfl) h_S20 e_S20 dX12_readFun_118 (fun H locs hH hS => ?_)
          refine lv_aload_n hx hb dX12_readFun_119 rfl (lv_at hl 0 rfl) ?_
          obtain ⟨S21, e_S21, hm⟩ := m_cal0_of hm
          refine r_cVv X hH hS (k := 12) (c_X12_go (a := a) hT hk_a e_S21) mw_X12_go in_7_181 hk_a (by decide) rfl rfl rfl ⟨rfl, rfl⟩ ⟨Nat.le_of_ble_eq_true rfl, Nat.le_of_ble_eq_true rfl⟩ ⟨Nat.zero_le _, Nat.zero_le _⟩ hl.1 (Nat.le_of_ble_eq_true rfl) dX12_readFun_120 (fun H locs hH hS => ?_)
          exact k_X12_readFun_123 (a := a) X hr hT hk_a  m_fu S21 _ _ _ hH hS hl hm
        · have hm := m_ite_f hm c13
          refine lv_aload_n hx hb dX12_readFun_68 rfl (lv_at hl 0 rfl) ?_
          refine lv_iconst (v := (3 : Int32)) hx hb dX12_readFun_69 (by decide) ?_
          obtain ⟨v23, S22, e_S22, hm⟩ := m_call_of hm
          refine n_cVi X hH hS (k := 12) (c_X12_bad (a := a) hT hk_a e_S22) mw_X12_bad in_7_219 hk_a (by decide) rfl rfl rfl ⟨rfl, rfl⟩ ⟨Nat.le_of_ble_eq_true rfl, Nat.le_of_ble_eq_true rfl⟩ ⟨Nat.zero_le _, Nat.zero_le _⟩ hl.1 (Nat.le_of_ble_eq_true rfl) dX12_readFun_70 (fun H locs hH hS => ?_)
          exact r_zret X hr hH hS hm dX12_readFun_73
      · have hm := m_ite_t hm c9
        refine lv_aload_n hx hb dX12_readFun_40 rfl (lv_at hl 0 rfl) ?_
        refine lv_iconst (v := (1 : Int32)) hx hb dX12_readFun_41 (by decide) ?_
        obtain ⟨v25, S24, e_S24, hm⟩ := m_call_of hm
        refine n_cVi X hH hS (k := 12) (c_X12_bad (a := a) hT hk_a e_S24) mw_X12_bad in_7_219 hk_a (by decide) rfl rfl rfl ⟨rfl, rfl⟩ ⟨Nat.le_of_ble_eq_true rfl, Nat.le_of_ble_eq_true rfl⟩ ⟨Nat.zero_le _, Nat.zero_le _⟩ hl.1 (Nat.le_of_ble_eq_true rfl) dX12_readFun_42 (fun H locs hH hS => ?_)
        exact r_zret X hr hH hS hm dX12_readFun_45
    · have hm := m_ite_t hm c5
      refine lv_aload_n hx hb dX12_readFun_23 rfl (lv_at hl 0 rfl) ?_
      refine lv_iconst (v := (4 : Int32)) hx hb dX12_readFun_24 (by decide) ?_
      obtain ⟨v27, S26, e_S26, hm⟩ := m_call_of hm
      refine n_cVi X hH hS (k := 12) (c_X12_bad (a := a) hT hk_a e_S26) mw_X12_bad in_7_219 hk_a (by decide) rfl rfl rfl ⟨rfl, rfl⟩ ⟨Nat.le_of_ble_eq_true rfl, Nat.le_of_ble_eq_true rfl⟩ ⟨Nat.zero_le _, Nat.zero_le _⟩ hl.1 (Nat.le_of_ble_eq_true rfl) dX12_readFun_25 (fun H locs hH hS => ?_)
      exact r_zret X hr hH hS hm dX12_readFun_28
  · have hm := m_ite_f hm c3
    refine lv_aload_n hx hb dX12_readFun_7 rfl (lv_at hl 0 rfl) ?_
    refine lv_iconst (v := (3 : Int32)) hx hb dX12_readFun_8 (by decide) ?_
    obtain ⟨v29, S28, e_S28, hm⟩ := m_call_of hm
    refine n_cVi X hH hS (k := 12) (c_X12_bad (a := a) hT hk_a e_S28) mw_X12_bad in_7_219 hk_a (by decide) rfl rfl rfl ⟨rfl, rfl⟩ ⟨Nat.le_of_ble_eq_true rfl, Nat.le_of_ble_eq_true rfl⟩ ⟨Nat.zero_le _, Nat.zero_le _⟩ hl.1 (Nat.le_of_ble_eq_true rfl) dX12_readFun_9 (fun H locs hH hS => ?_)
    exact r_zret X hr hH hS hm dX12_readFun_12
def rm_X12_readVar : Room := { frames := 3, cells := 0, slots := 0, locals := 68 }
def f_X12_readVar (a : Nat) (S : m_M) (i1 : Int32) (i2 : Int32) : Option (Int32 × m_M) :=
    m_call (f_X12_isName a S) fun v2 S1 =>
    if v2 = 0 then (
    m_call (f_X12_bad a S1 (1 : Int32)) fun v12 S11 =>
    if v12 = 0 ∨ v12 = 1 then some (v12, S11) else none) else (
    m_call (f_X12_findVar a S1) fun v5 S4 =>
    if v5 = (-1 : Int32) then (
    m_call (f_X12_bad a S4 (3 : Int32)) fun v10 S9 =>
    if v10 = 0 ∨ v10 = 1 then some (v10, S9) else none) else (
    (m_sti S4 (a + 3) 210 (((66 : Int32) + ((5 : Int32) * i1)) + i2) v5).bind fun S7 =>
    m_cal0 (f_X12_go a S7) fun S8 =>
    if (1 : Int32) = 0 ∨ (1 : Int32) = 1 then some ((1 : Int32), S8) else none))
set_option maxHeartbeats 4000000 in
set_option maxRecDepth 100000 in
theorem c_X12_readVar {l : Launch} {G : m_G} {nx : Nat} {κ : Nat → Nat} {a : Nat} {S : m_M} {i1 : Int32} {i2 : Int32} {res : (Int32 × m_M)} (hT : m_Str κ) (hk_a : κ a = 13) (hm : f_X12_readVar a S i1 i2 = some res) : m_Ci l yX12_readVar cX12_readVar 4 (some .boolean) rm_X12_readVar G nx κ [.ref a, .int i1, .int i2] S res := by
  refine m_Ci.of (by decide) (Nat.le_of_ble_eq_true rfl) ?_
  intro p e s m args below meth c ls X hr hH hl
  have hx := X.1.1
  have hb := X.1.2.1
  have hS : m_S G s s.heap [] := va_S.rf
  have hl : lv_has ls 4 [(0, .ref a), (1, .int i1), (2, .int i2)] := hl
  rw [f_X12_readVar] at hm
  refine lv_aload_n hx hb dX12_readVar_0 rfl (lv_at hl 0 rfl) ?_
  obtain ⟨v2, S1, e_S1, hm⟩ := m_call_of hm
  refine n_cVi X hH hS (k := 12) (c_X12_isName (a := a) hT hk_a e_S1) mw_X12_isName in_7_223 hk_a (by decide) rfl rfl rfl ⟨rfl, rfl⟩ ⟨Nat.le_of_ble_eq_true rfl, Nat.le_of_ble_eq_true rfl⟩ ⟨Nat.zero_le _, Nat.zero_le _⟩ hl.1 (Nat.le_of_ble_eq_true rfl) dX12_readVar_1 (fun H locs hH hS => ?_)
  refine lv_if_ne (tgt := 13) hx hb dX12_readVar_4 (by decide) (fun c3 => ?_) (fun c3 => ?_)
  · have hm := m_ite_f hm c3
    refine lv_aload_n hx hb dX12_readVar_13 rfl (lv_at hl 0 rfl) ?_
    obtain ⟨v5, S4, e_S4, hm⟩ := m_call_of hm
    refine n_cVi X hH hS (k := 12) (c_X12_findVar (a := a) hT hk_a e_S4) mw_X12_findVar in_7_234 hk_a (by decide) rfl rfl rfl ⟨rfl, rfl⟩ ⟨Nat.le_of_ble_eq_true rfl, Nat.le_of_ble_eq_true rfl⟩ ⟨Nat.zero_le _, Nat.zero_le _⟩ hl.1 (Nat.le_of_ble_eq_true rfl) dX12_readVar_14 (fun H locs hH hS => ?_)
    refine lv_istore_n (lv' := [(3, .int v5), (0, .ref a), (1, .int i1), (2, .int i2)]) hx hb dX12_readVar_17 rfl hl (by decide) rfl (fun ls hl => ?_)
    refine lv_iload_n hx hb dX12_readVar_18 rfl (lv_at hl 0 rfl) ?_
    refine lv_iconst (v := (-1 : Int32)) hx hb dX12_readVar_19 (by decide) ?_
    refine lv_icmp_ne (tgt := 29) hx hb dX12_readVar_20 (by decide) (fun c6 => ?_) (fun c6 => ?_)
    · have hm := m_ite_f hm c6
      refine lv_aload_n hx hb dX12_readVar_29 rfl (lv_at hl 1 rfl) ?_
      refine r_getp X hH (k := 12) (a := a) (j := 15) (b := (a + 3)) (A := 3) (B := 0) hk_a (by decide) rfl m_wi12 (by decide) in_7_30 rfl rfl rfl dX12_readVar_30 ?_
      refine lv_bipush (v := (66 : Int32)) hx hb dX12_readVar_33 (by decide) ?_
      refine lv_iconst (v := (5 : Int32)) hx hb dX12_readVar_35 (by decide) ?_
      refine lv_iload_n hx hb dX12_readVar_36 rfl (lv_at hl 2 rfl) ?_
      refine lv_imul hx hb dX12_readVar_37 ?_
      refine lv_iadd hx hb dX12_readVar_38 ?_
      refine lv_iload_n hx hb dX12_readVar_39 rfl (lv_at hl 3 rfl) ?_
      refine lv_iadd hx hb dX12_readVar_40 ?_
      refine lv_iload_n hx hb dX12_readVar_41 rfl (lv_at hl 0 rfl) ?_
      obtain ⟨S7, h_S7, e_S7, hm⟩ := n_sti hm
      refine n_iast X hH hS (n := 210) (m_lay_at hT hk_a (by decide) (i := 3) rfl) h_S7 e_S7 dX12_readVar_42 (fun H locs hH hS => ?_)
      refine lv_aload_n hx hb dX12_readVar_43 rfl (lv_at hl 1 rfl) ?_
      obtain ⟨S8, e_S8, hm⟩ := m_cal0_of hm
      refine r_cVv X hH hS (k := 12) (c_X12_go (a := a) hT hk_a e_S8) mw_X12_go in_7_181 hk_a (by decide) rfl rfl rfl ⟨rfl, rfl⟩ ⟨Nat.le_of_ble_eq_true rfl, Nat.le_of_ble_eq_true rfl⟩ ⟨Nat.zero_le _, Nat.zero_le _⟩ hl.1 (Nat.le_of_ble_eq_true rfl) dX12_readVar_44 (fun H locs hH hS => ?_)
      refine lv_iconst (v := (1 : Int32)) hx hb dX12_readVar_47 (by decide) ?_
      exact r_zret X hr hH hS hm dX12_readVar_48
    · have hm := m_ite_t hm c6
      refine lv_aload_n hx hb dX12_readVar_23 rfl (lv_at hl 1 rfl) ?_
      refine lv_iconst (v := (3 : Int32)) hx hb dX12_readVar_24 (by decide) ?_
      obtain ⟨v10, S9, e_S9, hm⟩ := m_call_of hm
      refine n_cVi X hH hS (k := 12) (c_X12_bad (a := a) hT hk_a e_S9) mw_X12_bad in_7_219 hk_a (by decide) rfl rfl rfl ⟨rfl, rfl⟩ ⟨Nat.le_of_ble_eq_true rfl, Nat.le_of_ble_eq_true rfl⟩ ⟨Nat.zero_le _, Nat.zero_le _⟩ hl.1 (Nat.le_of_ble_eq_true rfl) dX12_readVar_25 (fun H locs hH hS => ?_)
      exact r_zret X hr hH hS hm dX12_readVar_28
  · have hm := m_ite_t hm c3
    refine lv_aload_n hx hb dX12_readVar_7 rfl (lv_at hl 0 rfl) ?_
    refine lv_iconst (v := (1 : Int32)) hx hb dX12_readVar_8 (by decide) ?_
    obtain ⟨v12, S11, e_S11, hm⟩ := m_call_of hm
    refine n_cVi X hH hS (k := 12) (c_X12_bad (a := a) hT hk_a e_S11) mw_X12_bad in_7_219 hk_a (by decide) rfl rfl rfl ⟨rfl, rfl⟩ ⟨Nat.le_of_ble_eq_true rfl, Nat.le_of_ble_eq_true rfl⟩ ⟨Nat.zero_le _, Nat.zero_le _⟩ hl.1 (Nat.le_of_ble_eq_true rfl) dX12_readVar_9 (fun H locs hH hS => ?_)
    exact r_zret X hr hH hS hm dX12_readVar_12
def rm_X12_readVars : Room := { frames := 4, cells := 0, slots := 0, locals := 91 }
def b_X12_readVars_3 (a : Nat)  : Nat → m_M → Int32 → Int32 → Int32 → Int32 → Option (Int32 × m_M)
  | 0, _, _, _, _, _ => none
  | n + 1, S, l1, l2, l3, l4 =>
    if l3 ≤ l4 then (
    if (1 : Int32) = 0 ∨ (1 : Int32) = 1 then some ((1 : Int32), S) else none) else (
    m_call (f_X12_readVar a S l1 (l2 + l4)) fun v3 S2 =>
    if v3 = 0 then (
    if (0 : Int32) = 0 ∨ (0 : Int32) = 1 then some ((0 : Int32), S2) else none) else (
    m_let (l4 + (1 : Int32)) fun v5 =>
    b_X12_readVars_3 a n S2 l1 l2 l3 v5))
set_option maxHeartbeats 4000000 in
set_option maxRecDepth 100000 in
theorem k_X12_readVars_3 {p : Program} {l : Launch} {e : Env} {s : State} {m : MethodId} {args : Array Value} {below : List Frame} {meth : Method} {c : Code} {G : m_G} {nx : Nat} {κ : Nat → Nat} {res : (Int32 × m_M)} {a : Nat} (X : m_Cx p s m args meth c cX12_readVars 5 RX12 G) (hr : meth.sig.returnType = (some .boolean)) (hT : m_Str κ) (hk_a : κ a = 13)  (n : Nat) : ∀ (S : m_M) (l1 : Int32) (l2 : Int32) (l3 : Int32) (l4 : Int32) (H : Heap) (locs : List Loc) (ls : Array Slot), m_H G nx κ S H → m_S G s H locs → lv_has ls 5 [(0, .ref a), (1, .int l1), (2, .int l2), (3, .int l3), (4, .int l4)] → b_X12_readVars_3 a n S l1 l2 l3 l4 = some res → W p l e rm_X12_readVars s m args below meth c H locs 0 0 (m_Qi below args s G nx κ res) (F0 m 3 ls []) := by
  have hx := X.1.1
  have hb := X.1.2.1
  induction n with
  | zero => intro S l1 l2 l3 l4 H locs ls hH hS hl hm; have hm : (none : Option (Int32 × m_M)) = some res := hm; cases hm
  | succ n ih =>
    intro S l1 l2 l3 l4 H locs ls hH hS hl hm
    rw [b_X12_readVars_3] at hm
    refine lv_iload hx hb dX12_readVars_3 (lv_at hl 4 rfl) ?_
    refine lv_iload_n hx hb dX12_readVars_5 rfl (lv_at hl 3 rfl) ?_
    refine lv_icmp_ge (tgt := 29) hx hb dX12_readVars_6 (by decide) (fun c1 => ?_) (fun c1 => ?_)
    · have hm := m_ite_t hm c1
      refine lv_iconst (v := (1 : Int32)) hx hb dX12_readVars_29 (by decide) ?_
      exact r_zret X hr hH hS hm dX12_readVars_30
    · have hm := m_ite_f hm c1
      refine lv_aload_n hx hb dX12_readVars_9 rfl (lv_at hl 0 rfl) ?_
      refine lv_iload_n hx hb dX12_readVars_10 rfl (lv_at hl 1 rfl) ?_
      refine lv_iload_n hx hb dX12_readVars_11 rfl (lv_at hl 2 rfl) ?_
      refine lv_iload hx hb dX12_readVars_12 (lv_at hl 4 rfl) ?_
      refine lv_iadd hx hb dX12_readVars_14 ?_
      obtain ⟨v3, S2, e_S2, hm⟩ := m_call_of hm
      refine n_cVi X hH hS (k := 12) (c_X12_readVar (a := a) hT hk_a e_S2) mw_X12_readVar in_8_6 hk_a (by decide) rfl rfl rfl ⟨rfl, rfl⟩ ⟨Nat.le_of_ble_eq_true rfl, Nat.le_of_ble_eq_true rfl⟩ ⟨Nat.zero_le _, Nat.zero_le _⟩ hl.1 (Nat.le_of_ble_eq_true rfl) dX12_readVars_15 (fun H locs hH hS => ?_)
      refine lv_if_ne (tgt := 23) hx hb dX12_readVars_18 (by decide) (fun c4 => ?_) (fun c4 => ?_)
      · have hm := m_ite_f hm c4
        obtain ⟨v5, e_v5, hm⟩ := m_let_of hm
        refine lv_iinc (v := v5) (lv' := [(4, .int v5), (0, .ref a), (1, .int l1), (2, .int l2), (3, .int l3)]) hx hb dX12_readVars_23 hl (k := 4) rfl (by rw [← e_v5]; rfl) (by decide) rfl (fun ls hl => ?_)
        refine lv_goto (tgt := 3) hx hb dX12_readVars_26 (by decide) ?_
        exact ih S2 l1 l2 l3 v5 _ _ _ hH hS (lv_sub hl [1, 2, 3, 4, 0] rfl) hm
      · have hm := m_ite_t hm c4
        refine lv_iconst (v := (0 : Int32)) hx hb dX12_readVars_21 (by decide) ?_
        exact r_zret X hr hH hS hm dX12_readVars_22
def f_X12_readVars (a : Nat) (S : m_M) (i1 : Int32) (i2 : Int32) (i3 : Int32) : Option (Int32 × m_M) :=
    b_X12_readVars_3 a m_fu S i1 i2 i3 (0 : Int32)
set_option maxHeartbeats 4000000 in
set_option maxRecDepth 100000 in
theorem c_X12_readVars {l : Launch} {G : m_G} {nx : Nat} {κ : Nat → Nat} {a : Nat} {S : m_M} {i1 : Int32} {i2 : Int32} {i3 : Int32} {res : (Int32 × m_M)} (hT : m_Str κ) (hk_a : κ a = 13) (hm : f_X12_readVars a S i1 i2 i3 = some res) : m_Ci l yX12_readVars cX12_readVars 5 (some .boolean) rm_X12_readVars G nx κ [.ref a, .int i1, .int i2, .int i3] S res := by
  refine m_Ci.of (by decide) (Nat.le_of_ble_eq_true rfl) ?_
  intro p e s m args below meth c ls X hr hH hl
  have hx := X.1.1
  have hb := X.1.2.1
  have hS : m_S G s s.heap [] := va_S.rf
  have hl : lv_has ls 5 [(0, .ref a), (1, .int i1), (2, .int i2), (3, .int i3)] := hl
  rw [f_X12_readVars] at hm
  refine lv_iconst (v := (0 : Int32)) hx hb dX12_readVars_0 (by decide) ?_
  refine lv_istore (lv' := [(4, .int (0 : Int32)), (0, .ref a), (1, .int i1), (2, .int i2), (3, .int i3)]) hx hb dX12_readVars_1 hl (by decide) rfl (fun ls hl => ?_)
  exact k_X12_readVars_3 (a := a) X hr hT hk_a  m_fu S i1 i2 i3 (0 : Int32) _ _ _ hH hS (lv_sub hl [1, 2, 3, 4, 0] rfl) hm
def rm_X12_readCalled : Room := { frames := 5, cells := 0, slots := 0, locals := 115 }
def f_X12_readCalled (a : Nat) (S : m_M) (i1 : Int32) (i2 : Int32) : Option (Int32 × m_M) :=
    m_call (f_X12_isName a S) fun v2 S1 =>
    if v2 = 0 then (
    m_call (f_X12_bad a S1 (1 : Int32)) fun v16 S15 =>
    if v16 = 0 ∨ v16 = 1 then some (v16, S15) else none) else (
    (m_ldi S1 (a + 3) 210 (0 : Int32)).bind fun v4 =>
    m_call (f_X12_findIn (a + 8) 5 S1 (0 : Int32) v4 (m_rj S1 a 12)) fun v6 S5 =>
    if v6 = (-1 : Int32) then (
    m_call (f_X12_bad a S5 (3 : Int32)) fun v14 S13 =>
    if v14 = 0 ∨ v14 = 1 then some (v14, S13) else none) else (
    (m_sti S5 (a + 3) 210 ((42 : Int32) + i1) v6).bind fun S8 =>
    m_cal0 (f_X12_go a S8) fun S9 =>
    (m_ldi S9 (a + 3) 210 ((3 : Int32) + v6)).bind fun v10 =>
    m_call (f_X12_readVars a S9 i1 i2 v10) fun v12 S11 =>
    if v12 = 0 ∨ v12 = 1 then some (v12, S11) else none))
set_option maxHeartbeats 4000000 in
set_option maxRecDepth 100000 in
theorem c_X12_readCalled {l : Launch} {G : m_G} {nx : Nat} {κ : Nat → Nat} {a : Nat} {S : m_M} {i1 : Int32} {i2 : Int32} {res : (Int32 × m_M)} (hT : m_Str κ) (hk_a : κ a = 13) (hm : f_X12_readCalled a S i1 i2 = some res) : m_Ci l yX12_readCalled cX12_readCalled 4 (some .boolean) rm_X12_readCalled G nx κ [.ref a, .int i1, .int i2] S res := by
  refine m_Ci.of (by decide) (Nat.le_of_ble_eq_true rfl) ?_
  intro p e s m args below meth c ls X hr hH hl
  have hx := X.1.1
  have hb := X.1.2.1
  have hS : m_S G s s.heap [] := va_S.rf
  have hl : lv_has ls 4 [(0, .ref a), (1, .int i1), (2, .int i2)] := hl
  rw [f_X12_readCalled] at hm
  refine lv_aload_n hx hb dX12_readCalled_0 rfl (lv_at hl 0 rfl) ?_
  obtain ⟨v2, S1, e_S1, hm⟩ := m_call_of hm
  refine n_cVi X hH hS (k := 12) (c_X12_isName (a := a) hT hk_a e_S1) mw_X12_isName in_7_223 hk_a (by decide) rfl rfl rfl ⟨rfl, rfl⟩ ⟨Nat.le_of_ble_eq_true rfl, Nat.le_of_ble_eq_true rfl⟩ ⟨Nat.zero_le _, Nat.zero_le _⟩ hl.1 (Nat.le_of_ble_eq_true rfl) dX12_readCalled_1 (fun H locs hH hS => ?_)
  refine lv_if_ne (tgt := 13) hx hb dX12_readCalled_4 (by decide) (fun c3 => ?_) (fun c3 => ?_)
  · have hm := m_ite_f hm c3
    refine lv_aload_n hx hb dX12_readCalled_13 rfl (lv_at hl 0 rfl) ?_
    refine r_getp X hH (k := 12) (a := a) (j := 20) (b := (a + 8)) (A := 8) (B := 0) hk_a (by decide) rfl m_wi12 (by decide) in_7_35 rfl rfl rfl dX12_readCalled_14 ?_
    refine lv_iconst (v := (0 : Int32)) hx hb dX12_readCalled_17 (by decide) ?_
    refine lv_aload_n hx hb dX12_readCalled_18 rfl (lv_at hl 0 rfl) ?_
    refine r_getp X hH (k := 12) (a := a) (j := 15) (b := (a + 3)) (A := 3) (B := 0) hk_a (by decide) rfl m_wi12 (by decide) in_7_30 rfl rfl rfl dX12_readCalled_19 ?_
    refine lv_iconst (v := (0 : Int32)) hx hb dX12_readCalled_22 (by decide) ?_
    obtain ⟨v4, h_v4, e_v4, hm⟩ := n_ldi hm
    refine n_iald X hH (n := 210) (m_lay_at hT hk_a (by decide) (i := 3) rfl) h_v4 e_v4 dX12_readCalled_23 ?_
    refine lv_aload_n hx hb dX12_readCalled_24 rfl (lv_at hl 0 rfl) ?_
    refine r_getj X hH (k := 12) (a := a) (j := 12) hk_a (by decide) rfl m_wi12 (by decide) in_7_27 rfl rfl dX12_readCalled_25 ?_
    obtain ⟨v6, S5, e_S5, hm⟩ := m_call_of hm
    refine n_cSi X hH hS (c_X12_findIn (o0 := (a + 8)) (n0 := 5) hT (m_lay_at hT hk_a (by decide) (i := 8) rfl) e_S5) mw_X12_findIn in_7_227 rfl ⟨rfl, rfl⟩ ⟨Nat.le_of_ble_eq_true rfl, Nat.le_of_ble_eq_true rfl⟩ ⟨Nat.zero_le _, Nat.zero_le _⟩ hl.1 (Nat.le_of_ble_eq_true rfl) dX12_readCalled_28 (fun H locs hH hS => ?_)
    refine lv_istore_n (lv' := [(3, .int v6), (0, .ref a), (1, .int i1), (2, .int i2)]) hx hb dX12_readCalled_31 rfl hl (by decide) rfl (fun ls hl => ?_)
    refine lv_iload_n hx hb dX12_readCalled_32 rfl (lv_at hl 0 rfl) ?_
    refine lv_iconst (v := (-1 : Int32)) hx hb dX12_readCalled_33 (by decide) ?_
    refine lv_icmp_ne (tgt := 43) hx hb dX12_readCalled_34 (by decide) (fun c7 => ?_) (fun c7 => ?_)
    · have hm := m_ite_f hm c7
      refine lv_aload_n hx hb dX12_readCalled_43 rfl (lv_at hl 1 rfl) ?_
      refine r_getp X hH (k := 12) (a := a) (j := 15) (b := (a + 3)) (A := 3) (B := 0) hk_a (by decide) rfl m_wi12 (by decide) in_7_30 rfl rfl rfl dX12_readCalled_44 ?_
      refine lv_bipush (v := (42 : Int32)) hx hb dX12_readCalled_47 (by decide) ?_
      refine lv_iload_n hx hb dX12_readCalled_49 rfl (lv_at hl 2 rfl) ?_
      refine lv_iadd hx hb dX12_readCalled_50 ?_
      refine lv_iload_n hx hb dX12_readCalled_51 rfl (lv_at hl 0 rfl) ?_
      obtain ⟨S8, h_S8, e_S8, hm⟩ := n_sti hm
      refine n_iast X hH hS (n := 210) (m_lay_at hT hk_a (by decide) (i := 3) rfl) h_S8 e_S8 dX12_readCalled_52 (fun H locs hH hS => ?_)
      refine lv_aload_n hx hb dX12_readCalled_53 rfl (lv_at hl 1 rfl) ?_
      obtain ⟨S9, e_S9, hm⟩ := m_cal0_of hm
      refine r_cVv X hH hS (k := 12) (c_X12_go (a := a) hT hk_a e_S9) mw_X12_go in_7_181 hk_a (by decide) rfl rfl rfl ⟨rfl, rfl⟩ ⟨Nat.le_of_ble_eq_true rfl, Nat.le_of_ble_eq_true rfl⟩ ⟨Nat.zero_le _, Nat.zero_le _⟩ hl.1 (Nat.le_of_ble_eq_true rfl) dX12_readCalled_54 (fun H locs hH hS => ?_)
      refine lv_aload_n hx hb dX12_readCalled_57 rfl (lv_at hl 1 rfl) ?_
      refine lv_iload_n hx hb dX12_readCalled_58 rfl (lv_at hl 2 rfl) ?_
      refine lv_iload_n hx hb dX12_readCalled_59 rfl (lv_at hl 3 rfl) ?_
      refine lv_aload_n hx hb dX12_readCalled_60 rfl (lv_at hl 1 rfl) ?_
      refine r_getp X hH (k := 12) (a := a) (j := 15) (b := (a + 3)) (A := 3) (B := 0) hk_a (by decide) rfl m_wi12 (by decide) in_7_30 rfl rfl rfl dX12_readCalled_61 ?_
      refine lv_iconst (v := (3 : Int32)) hx hb dX12_readCalled_64 (by decide) ?_
      refine lv_iload_n hx hb dX12_readCalled_65 rfl (lv_at hl 0 rfl) ?_
      refine lv_iadd hx hb dX12_readCalled_66 ?_
      obtain ⟨v10, h_v10, e_v10, hm⟩ := n_ldi hm
      refine n_iald X hH (n := 210) (m_lay_at hT hk_a (by decide) (i := 3) rfl) h_v10 e_v10 dX12_readCalled_67 ?_
      obtain ⟨v12, S11, e_S11, hm⟩ := m_call_of hm
      refine n_cVi X hH hS (k := 12) (c_X12_readVars (a := a) hT hk_a e_S11) mw_X12_readVars in_8_10 hk_a (by decide) rfl rfl rfl ⟨rfl, rfl⟩ ⟨Nat.le_of_ble_eq_true rfl, Nat.le_of_ble_eq_true rfl⟩ ⟨Nat.zero_le _, Nat.zero_le _⟩ hl.1 (Nat.le_of_ble_eq_true rfl) dX12_readCalled_68 (fun H locs hH hS => ?_)
      exact r_zret X hr hH hS hm dX12_readCalled_71
    · have hm := m_ite_t hm c7
      refine lv_aload_n hx hb dX12_readCalled_37 rfl (lv_at hl 1 rfl) ?_
      refine lv_iconst (v := (3 : Int32)) hx hb dX12_readCalled_38 (by decide) ?_
      obtain ⟨v14, S13, e_S13, hm⟩ := m_call_of hm
      refine n_cVi X hH hS (k := 12) (c_X12_bad (a := a) hT hk_a e_S13) mw_X12_bad in_7_219 hk_a (by decide) rfl rfl rfl ⟨rfl, rfl⟩ ⟨Nat.le_of_ble_eq_true rfl, Nat.le_of_ble_eq_true rfl⟩ ⟨Nat.zero_le _, Nat.zero_le _⟩ hl.1 (Nat.le_of_ble_eq_true rfl) dX12_readCalled_39 (fun H locs hH hS => ?_)
      exact r_zret X hr hH hS hm dX12_readCalled_42
  · have hm := m_ite_t hm c3
    refine lv_aload_n hx hb dX12_readCalled_7 rfl (lv_at hl 0 rfl) ?_
    refine lv_iconst (v := (1 : Int32)) hx hb dX12_readCalled_8 (by decide) ?_
    obtain ⟨v16, S15, e_S15, hm⟩ := m_call_of hm
    refine n_cVi X hH hS (k := 12) (c_X12_bad (a := a) hT hk_a e_S15) mw_X12_bad in_7_219 hk_a (by decide) rfl rfl rfl ⟨rfl, rfl⟩ ⟨Nat.le_of_ble_eq_true rfl, Nat.le_of_ble_eq_true rfl⟩ ⟨Nat.zero_le _, Nat.zero_le _⟩ hl.1 (Nat.le_of_ble_eq_true rfl) dX12_readCalled_9 (fun H locs hH hS => ?_)
    exact r_zret X hr hH hS hm dX12_readCalled_12
def rm_X12_readWhen : Room := { frames := 6, cells := 0, slots := 0, locals := 138 }
def b_X12_readWhen_18 (a : Nat)  (S : m_M)  : Option (Int32 × m_M) :=
    if (0 : Int32) = 0 ∨ (0 : Int32) = 1 then some ((0 : Int32), S) else none
set_option maxHeartbeats 4000000 in
set_option maxRecDepth 100000 in
theorem k_X12_readWhen_18 {p : Program} {l : Launch} {e : Env} {s : State} {m : MethodId} {args : Array Value} {below : List Frame} {meth : Method} {c : Code} {G : m_G} {nx : Nat} {κ : Nat → Nat} {res : (Int32 × m_M)} {a : Nat} (X : m_Cx p s m args meth c cX12_readWhen 2 RX12 G) (hr : meth.sig.returnType = (some .boolean)) (hT : m_Str κ) (hk_a : κ a = 13)  : ∀ (S : m_M)  (H : Heap) (locs : List Loc) (ls : Array Slot), m_H G nx κ S H → m_S G s H locs → lv_has ls 2 [] → b_X12_readWhen_18 a S  = some res → W p l e rm_X12_readWhen s m args below meth c H locs 0 0 (m_Qi below args s G nx κ res) (F0 m 18 ls []) := by
  have hx := X.1.1
  have hb := X.1.2.1
  intro S H locs ls hH hS hl hm
  rw [b_X12_readWhen_18] at hm
  refine lv_iconst (v := (0 : Int32)) hx hb dX12_readWhen_18 (by decide) ?_
  exact r_zret X hr hH hS hm dX12_readWhen_19
def f_X12_readWhen (a : Nat) (S : m_M) (i1 : Int32) : Option (Int32 × m_M) :=
    m_call (f_X12_readVar a S i1 (0 : Int32)) fun v2 S1 =>
    if v2 = 0 then (
    b_X12_readWhen_18 a S1) else (
    m_call (f_X12_readCalled a S1 i1 (1 : Int32)) fun v5 S4 =>
    if v5 = 0 then (
    b_X12_readWhen_18 a S4) else (
    m_call (f_X12_isWord a S4 (10 : Int32)) fun v8 S7 =>
    if v8 = 0 then (
    m_call (f_X12_bad a S7 (1 : Int32)) fun v14 S13 =>
    if v14 = 0 ∨ v14 = 1 then some (v14, S13) else none) else (
    m_cal0 (f_X12_go a S7) fun S10 =>
    m_call (f_X12_readVar a S10 i1 (4 : Int32)) fun v12 S11 =>
    if v12 = 0 ∨ v12 = 1 then some (v12, S11) else none)))
set_option maxHeartbeats 4000000 in
set_option maxRecDepth 100000 in
theorem c_X12_readWhen {l : Launch} {G : m_G} {nx : Nat} {κ : Nat → Nat} {a : Nat} {S : m_M} {i1 : Int32} {res : (Int32 × m_M)} (hT : m_Str κ) (hk_a : κ a = 13) (hm : f_X12_readWhen a S i1 = some res) : m_Ci l yX12_readWhen cX12_readWhen 2 (some .boolean) rm_X12_readWhen G nx κ [.ref a, .int i1] S res := by
  refine m_Ci.of (by decide) (Nat.le_of_ble_eq_true rfl) ?_
  intro p e s m args below meth c ls X hr hH hl
  have hx := X.1.1
  have hb := X.1.2.1
  have hS : m_S G s s.heap [] := va_S.rf
  have hl : lv_has ls 2 [(0, .ref a), (1, .int i1)] := hl
  rw [f_X12_readWhen] at hm
  refine lv_aload_n hx hb dX12_readWhen_0 rfl (lv_at hl 0 rfl) ?_
  refine lv_iload_n hx hb dX12_readWhen_1 rfl (lv_at hl 1 rfl) ?_
  refine lv_iconst (v := (0 : Int32)) hx hb dX12_readWhen_2 (by decide) ?_
  obtain ⟨v2, S1, e_S1, hm⟩ := m_call_of hm
  refine n_cVi X hH hS (k := 12) (c_X12_readVar (a := a) hT hk_a e_S1) mw_X12_readVar in_8_6 hk_a (by decide) rfl rfl rfl ⟨rfl, rfl⟩ ⟨Nat.le_of_ble_eq_true rfl, Nat.le_of_ble_eq_true rfl⟩ ⟨Nat.zero_le _, Nat.zero_le _⟩ hl.1 (Nat.le_of_ble_eq_true rfl) dX12_readWhen_3 (fun H locs hH hS => ?_)
  refine lv_if_eq (tgt := 18) hx hb dX12_readWhen_6 (by decide) (fun c3 => ?_) (fun c3 => ?_)
  · have hm := m_ite_t hm c3
    exact k_X12_readWhen_18 (a := a) X hr hT hk_a   S1 _ _ _ hH hS (lv_sub hl [] rfl) hm
  · have hm := m_ite_f hm c3
    refine lv_aload_n hx hb dX12_readWhen_9 rfl (lv_at hl 0 rfl) ?_
    refine lv_iload_n hx hb dX12_readWhen_10 rfl (lv_at hl 1 rfl) ?_
    refine lv_iconst (v := (1 : Int32)) hx hb dX12_readWhen_11 (by decide) ?_
    obtain ⟨v5, S4, e_S4, hm⟩ := m_call_of hm
    refine n_cVi X hH hS (k := 12) (c_X12_readCalled (a := a) hT hk_a e_S4) mw_X12_readCalled in_8_14 hk_a (by decide) rfl rfl rfl ⟨rfl, rfl⟩ ⟨Nat.le_of_ble_eq_true rfl, Nat.le_of_ble_eq_true rfl⟩ ⟨Nat.zero_le _, Nat.zero_le _⟩ hl.1 (Nat.le_of_ble_eq_true rfl) dX12_readWhen_12 (fun H locs hH hS => ?_)
    refine lv_if_ne (tgt := 20) hx hb dX12_readWhen_15 (by decide) (fun c6 => ?_) (fun c6 => ?_)
    · have hm := m_ite_f hm c6
      refine lv_aload_n hx hb dX12_readWhen_20 rfl (lv_at hl 0 rfl) ?_
      refine lv_bipush (v := (10 : Int32)) hx hb dX12_readWhen_21 (by decide) ?_
      obtain ⟨v8, S7, e_S7, hm⟩ := m_call_of hm
      refine n_cVi X hH hS (k := 12) (c_X12_isWord (a := a) hT hk_a e_S7) mw_X12_isWord in_7_197 hk_a (by decide) rfl rfl rfl ⟨rfl, rfl⟩ ⟨Nat.le_of_ble_eq_true rfl, Nat.le_of_ble_eq_true rfl⟩ ⟨Nat.zero_le _, Nat.zero_le _⟩ hl.1 (Nat.le_of_ble_eq_true rfl) dX12_readWhen_23 (fun H locs hH hS => ?_)
      refine lv_if_ne (tgt := 35) hx hb dX12_readWhen_26 (by decide) (fun c9 => ?_) (fun c9 => ?_)
      · have hm := m_ite_f hm c9
        refine lv_aload_n hx hb dX12_readWhen_35 rfl (lv_at hl 0 rfl) ?_
        obtain ⟨S10, e_S10, hm⟩ := m_cal0_of hm
        refine r_cVv X hH hS (k := 12) (c_X12_go (a := a) hT hk_a e_S10) mw_X12_go in_7_181 hk_a (by decide) rfl rfl rfl ⟨rfl, rfl⟩ ⟨Nat.le_of_ble_eq_true rfl, Nat.le_of_ble_eq_true rfl⟩ ⟨Nat.zero_le _, Nat.zero_le _⟩ hl.1 (Nat.le_of_ble_eq_true rfl) dX12_readWhen_36 (fun H locs hH hS => ?_)
        refine lv_aload_n hx hb dX12_readWhen_39 rfl (lv_at hl 0 rfl) ?_
        refine lv_iload_n hx hb dX12_readWhen_40 rfl (lv_at hl 1 rfl) ?_
        refine lv_iconst (v := (4 : Int32)) hx hb dX12_readWhen_41 (by decide) ?_
        obtain ⟨v12, S11, e_S11, hm⟩ := m_call_of hm
        refine n_cVi X hH hS (k := 12) (c_X12_readVar (a := a) hT hk_a e_S11) mw_X12_readVar in_8_6 hk_a (by decide) rfl rfl rfl ⟨rfl, rfl⟩ ⟨Nat.le_of_ble_eq_true rfl, Nat.le_of_ble_eq_true rfl⟩ ⟨Nat.zero_le _, Nat.zero_le _⟩ hl.1 (Nat.le_of_ble_eq_true rfl) dX12_readWhen_42 (fun H locs hH hS => ?_)
        exact r_zret X hr hH hS hm dX12_readWhen_45
      · have hm := m_ite_t hm c9
        refine lv_aload_n hx hb dX12_readWhen_29 rfl (lv_at hl 0 rfl) ?_
        refine lv_iconst (v := (1 : Int32)) hx hb dX12_readWhen_30 (by decide) ?_
        obtain ⟨v14, S13, e_S13, hm⟩ := m_call_of hm
        refine n_cVi X hH hS (k := 12) (c_X12_bad (a := a) hT hk_a e_S13) mw_X12_bad in_7_219 hk_a (by decide) rfl rfl rfl ⟨rfl, rfl⟩ ⟨Nat.le_of_ble_eq_true rfl, Nat.le_of_ble_eq_true rfl⟩ ⟨Nat.zero_le _, Nat.zero_le _⟩ hl.1 (Nat.le_of_ble_eq_true rfl) dX12_readWhen_31 (fun H locs hH hS => ?_)
        exact r_zret X hr hH hS hm dX12_readWhen_34
    · have hm := m_ite_t hm c6
      exact k_X12_readWhen_18 (a := a) X hr hT hk_a   S4 _ _ _ hH hS (lv_sub hl [] rfl) hm
def rm_X12_readExpr : Room := { frames := 7, cells := 0, slots := 0, locals := 159 }
def b_X12_readExpr_73 (a : Nat) (K_53 : m_M → Int32 → Int32 → Int32 → Option (Int32 × m_M)) (S : m_M) (l1 : Int32) (l2 : Int32) (l3 : Int32) : Option (Int32 × m_M) :=
    m_let (l3 + (1 : Int32)) fun v1 =>
    K_53 S l1 l2 v1
set_option maxHeartbeats 4000000 in
set_option maxRecDepth 100000 in
theorem k_X12_readExpr_73 {p : Program} {l : Launch} {e : Env} {s : State} {m : MethodId} {args : Array Value} {below : List Frame} {meth : Method} {c : Code} {G : m_G} {nx : Nat} {κ : Nat → Nat} {res : (Int32 × m_M)} {a : Nat} (X : m_Cx p s m args meth c cX12_readExpr 4 RX12 G) (hr : meth.sig.returnType = (some .boolean)) (hT : m_Str κ) (hk_a : κ a = 13) (K_53 : m_M → Int32 → Int32 → Int32 → Option (Int32 × m_M)) (hK_53 : ∀ (S : m_M) (l1 : Int32) (l2 : Int32) (l3 : Int32) (H : Heap) (locs : List Loc) (ls : Array Slot), m_H G nx κ S H → m_S G s H locs → lv_has ls 4 [(0, .ref a), (1, .int l1), (2, .int l2), (3, .int l3)] → K_53 S l1 l2 l3 = some res → W p l e rm_X12_readExpr s m args below meth c H locs 0 0 (m_Qi below args s G nx κ res) (F0 m 53 ls [])) : ∀ (S : m_M) (l1 : Int32) (l2 : Int32) (l3 : Int32) (H : Heap) (locs : List Loc) (ls : Array Slot), m_H G nx κ S H → m_S G s H locs → lv_has ls 4 [(0, .ref a), (1, .int l1), (2, .int l2), (3, .int l3)] → b_X12_readExpr_73 a K_53 S l1 l2 l3 = some res → W p l e rm_X12_readExpr s m args below meth c H locs 0 0 (m_Qi below args s G nx κ res) (F0 m 73 ls []) := by
  have hx := X.1.1
  have hb := X.1.2.1
  intro S l1 l2 l3 H locs ls hH hS hl hm
  rw [b_X12_readExpr_73] at hm
  obtain ⟨v1, e_v1, hm⟩ := m_let_of hm
  refine lv_iinc (v := v1) (lv' := [(3, .int v1), (0, .ref a), (1, .int l1), (2, .int l2)]) hx hb dX12_readExpr_73 hl (k := 3) rfl (by rw [← e_v1]; rfl) (by decide) rfl (fun ls hl => ?_)
  refine lv_goto (tgt := 53) hx hb dX12_readExpr_76 (by decide) ?_
  exact hK_53 S l1 l2 v1 _ _ _ hH hS (lv_sub hl [1, 2, 3, 0] rfl) hm
def b_X12_readExpr_156 (a : Nat)  (S : m_M) (l1 : Int32) : Option (Int32 × m_M) :=
    m_call (f_X12_readVar a S l1 (0 : Int32)) fun v2 S1 =>
    if v2 = 0 ∨ v2 = 1 then some (v2, S1) else none
set_option maxHeartbeats 4000000 in
set_option maxRecDepth 100000 in
theorem k_X12_readExpr_156 {p : Program} {l : Launch} {e : Env} {s : State} {m : MethodId} {args : Array Value} {below : List Frame} {meth : Method} {c : Code} {G : m_G} {nx : Nat} {κ : Nat → Nat} {res : (Int32 × m_M)} {a : Nat} (X : m_Cx p s m args meth c cX12_readExpr 4 RX12 G) (hr : meth.sig.returnType = (some .boolean)) (hT : m_Str κ) (hk_a : κ a = 13)  : ∀ (S : m_M) (l1 : Int32) (H : Heap) (locs : List Loc) (ls : Array Slot), m_H G nx κ S H → m_S G s H locs → lv_has ls 4 [(0, .ref a), (1, .int l1)] → b_X12_readExpr_156 a S l1 = some res → W p l e rm_X12_readExpr s m args below meth c H locs 0 0 (m_Qi below args s G nx κ res) (F0 m 156 ls []) := by
  have hx := X.1.1
  have hb := X.1.2.1
  intro S l1 H locs ls hH hS hl hm
  rw [b_X12_readExpr_156] at hm
  refine lv_aload_n hx hb dX12_readExpr_156 rfl (lv_at hl 0 rfl) ?_
  refine lv_iload_n hx hb dX12_readExpr_157 rfl (lv_at hl 1 rfl) ?_
  refine lv_iconst (v := (0 : Int32)) hx hb dX12_readExpr_158 (by decide) ?_
  obtain ⟨v2, S1, e_S1, hm⟩ := m_call_of hm
  refine n_cVi X hH hS (k := 12) (c_X12_readVar (a := a) hT hk_a e_S1) mw_X12_readVar in_8_6 hk_a (by decide) rfl rfl rfl ⟨rfl, rfl⟩ ⟨Nat.le_of_ble_eq_true rfl, Nat.le_of_ble_eq_true rfl⟩ ⟨Nat.zero_le _, Nat.zero_le _⟩ hl.1 (Nat.le_of_ble_eq_true rfl) dX12_readExpr_159 (fun H locs hH hS => ?_)
  exact r_zret X hr hH hS hm dX12_readExpr_162
def b_X12_readExpr_163 (a : Nat)  (S : m_M) (l1 : Int32) : Option (Int32 × m_M) :=
    m_call (f_X12_readVars a S l1 (0 : Int32) (2 : Int32)) fun v2 S1 =>
    if v2 = 0 ∨ v2 = 1 then some (v2, S1) else none
set_option maxHeartbeats 4000000 in
set_option maxRecDepth 100000 in
theorem k_X12_readExpr_163 {p : Program} {l : Launch} {e : Env} {s : State} {m : MethodId} {args : Array Value} {below : List Frame} {meth : Method} {c : Code} {G : m_G} {nx : Nat} {κ : Nat → Nat} {res : (Int32 × m_M)} {a : Nat} (X : m_Cx p s m args meth c cX12_readExpr 4 RX12 G) (hr : meth.sig.returnType = (some .boolean)) (hT : m_Str κ) (hk_a : κ a = 13)  : ∀ (S : m_M) (l1 : Int32) (H : Heap) (locs : List Loc) (ls : Array Slot), m_H G nx κ S H → m_S G s H locs → lv_has ls 4 [(0, .ref a), (1, .int l1)] → b_X12_readExpr_163 a S l1 = some res → W p l e rm_X12_readExpr s m args below meth c H locs 0 0 (m_Qi below args s G nx κ res) (F0 m 163 ls []) := by
  have hx := X.1.1
  have hb := X.1.2.1
  intro S l1 H locs ls hH hS hl hm
  rw [b_X12_readExpr_163] at hm
  refine lv_aload_n hx hb dX12_readExpr_163 rfl (lv_at hl 0 rfl) ?_
  refine lv_iload_n hx hb dX12_readExpr_164 rfl (lv_at hl 1 rfl) ?_
  refine lv_iconst (v := (0 : Int32)) hx hb dX12_readExpr_165 (by decide) ?_
  refine lv_iconst (v := (2 : Int32)) hx hb dX12_readExpr_166 (by decide) ?_
  obtain ⟨v2, S1, e_S1, hm⟩ := m_call_of hm
  refine n_cVi X hH hS (k := 12) (c_X12_readVars (a := a) hT hk_a e_S1) mw_X12_readVars in_8_10 hk_a (by decide) rfl rfl rfl ⟨rfl, rfl⟩ ⟨Nat.le_of_ble_eq_true rfl, Nat.le_of_ble_eq_true rfl⟩ ⟨Nat.zero_le _, Nat.zero_le _⟩ hl.1 (Nat.le_of_ble_eq_true rfl) dX12_readExpr_167 (fun H locs hH hS => ?_)
  exact r_zret X hr hH hS hm dX12_readExpr_170
def b_X12_readExpr_109 (a : Nat)  (S : m_M) (l1 : Int32) (l2 : Int32) : Option (Int32 × m_M) :=
    if l2 = (1 : Int32) then (
    b_X12_readExpr_156 a S l1) else (
    if l2 = (2 : Int32) then (
    b_X12_readExpr_163 a S l1) else (
    if l2 = (3 : Int32) then (
    b_X12_readExpr_156 a S l1) else (
    if l2 = (4 : Int32) then (
    b_X12_readExpr_156 a S l1) else (
    if l2 = (5 : Int32) then (
    b_X12_readExpr_163 a S l1) else (
    if l2 = (6 : Int32) then (
    b_X12_readExpr_163 a S l1) else (
    if l2 = (7 : Int32) then (
    m_call (f_X12_readVars a S l1 (0 : Int32) (3 : Int32)) fun v9 S8 =>
    if v9 = 0 ∨ v9 = 1 then some (v9, S8) else none) else (
    if l2 = (8 : Int32) then (
    m_call (f_X12_readCalled a S l1 (0 : Int32)) fun v12 S11 =>
    if v12 = 0 ∨ v12 = 1 then some (v12, S11) else none) else (
    m_call (f_X12_readWhen a S l1) fun v14 S13 =>
    if v14 = 0 ∨ v14 = 1 then some (v14, S13) else none))))))))
set_option maxHeartbeats 4000000 in
set_option maxRecDepth 100000 in
theorem k_X12_readExpr_109 {p : Program} {l : Launch} {e : Env} {s : State} {m : MethodId} {args : Array Value} {below : List Frame} {meth : Method} {c : Code} {G : m_G} {nx : Nat} {κ : Nat → Nat} {res : (Int32 × m_M)} {a : Nat} (X : m_Cx p s m args meth c cX12_readExpr 4 RX12 G) (hr : meth.sig.returnType = (some .boolean)) (hT : m_Str κ) (hk_a : κ a = 13)  : ∀ (S : m_M) (l1 : Int32) (l2 : Int32) (H : Heap) (locs : List Loc) (ls : Array Slot), m_H G nx κ S H → m_S G s H locs → lv_has ls 4 [(0, .ref a), (1, .int l1), (2, .int l2)] → b_X12_readExpr_109 a S l1 l2 = some res → W p l e rm_X12_readExpr s m args below meth c H locs 0 0 (m_Qi below args s G nx κ res) (F0 m 109 ls []) := by
  have hx := X.1.1
  have hb := X.1.2.1
  intro S l1 l2 H locs ls hH hS hl hm
  rw [b_X12_readExpr_109] at hm
  refine lv_iload_n hx hb dX12_readExpr_109 rfl (lv_at hl 2 rfl) ?_
  by_cases c1 : l2 = (1 : Int32)
  · have hm := m_ite_t hm c1
    refine lv_tableIn (off := 46) (tgt := 156) hx hb dX12_readExpr_110 (by rw [c1]; decide) (by rw [c1]; decide) (by rw [c1]; rfl) (by decide) ?_
    exact k_X12_readExpr_156 (a := a) X hr hT hk_a   S l1 _ _ _ hH hS (lv_sub hl [0, 1] rfl) hm
  · have hm := m_ite_f hm c1
    by_cases c2 : l2 = (2 : Int32)
    · have hm := m_ite_t hm c2
      refine lv_tableIn (off := 53) (tgt := 163) hx hb dX12_readExpr_110 (by rw [c2]; decide) (by rw [c2]; decide) (by rw [c2]; rfl) (by decide) ?_
      exact k_X12_readExpr_163 (a := a) X hr hT hk_a   S l1 _ _ _ hH hS (lv_sub hl [0, 1] rfl) hm
    · have hm := m_ite_f hm c2
      by_cases c3 : l2 = (3 : Int32)
      · have hm := m_ite_t hm c3
        refine lv_tableIn (off := 46) (tgt := 156) hx hb dX12_readExpr_110 (by rw [c3]; decide) (by rw [c3]; decide) (by rw [c3]; rfl) (by decide) ?_
        exact k_X12_readExpr_156 (a := a) X hr hT hk_a   S l1 _ _ _ hH hS (lv_sub hl [0, 1] rfl) hm
      · have hm := m_ite_f hm c3
        by_cases c4 : l2 = (4 : Int32)
        · have hm := m_ite_t hm c4
          refine lv_tableIn (off := 46) (tgt := 156) hx hb dX12_readExpr_110 (by rw [c4]; decide) (by rw [c4]; decide) (by rw [c4]; rfl) (by decide) ?_
          exact k_X12_readExpr_156 (a := a) X hr hT hk_a   S l1 _ _ _ hH hS (lv_sub hl [0, 1] rfl) hm
        · have hm := m_ite_f hm c4
          by_cases c5 : l2 = (5 : Int32)
          · have hm := m_ite_t hm c5
            refine lv_tableIn (off := 53) (tgt := 163) hx hb dX12_readExpr_110 (by rw [c5]; decide) (by rw [c5]; decide) (by rw [c5]; rfl) (by decide) ?_
            exact k_X12_readExpr_163 (a := a) X hr hT hk_a   S l1 _ _ _ hH hS (lv_sub hl [0, 1] rfl) hm
          · have hm := m_ite_f hm c5
            by_cases c6 : l2 = (6 : Int32)
            · have hm := m_ite_t hm c6
              refine lv_tableIn (off := 53) (tgt := 163) hx hb dX12_readExpr_110 (by rw [c6]; decide) (by rw [c6]; decide) (by rw [c6]; rfl) (by decide) ?_
              exact k_X12_readExpr_163 (a := a) X hr hT hk_a   S l1 _ _ _ hH hS (lv_sub hl [0, 1] rfl) hm
            · have hm := m_ite_f hm c6
              by_cases c7 : l2 = (7 : Int32)
              · have hm := m_ite_t hm c7
                refine lv_tableIn (off := 61) (tgt := 171) hx hb dX12_readExpr_110 (by rw [c7]; decide) (by rw [c7]; decide) (by rw [c7]; rfl) (by decide) ?_
                refine lv_aload_n hx hb dX12_readExpr_171 rfl (lv_at hl 0 rfl) ?_
                refine lv_iload_n hx hb dX12_readExpr_172 rfl (lv_at hl 1 rfl) ?_
                refine lv_iconst (v := (0 : Int32)) hx hb dX12_readExpr_173 (by decide) ?_
                refine lv_iconst (v := (3 : Int32)) hx hb dX12_readExpr_174 (by decide) ?_
                obtain ⟨v9, S8, e_S8, hm⟩ := m_call_of hm
                refine n_cVi X hH hS (k := 12) (c_X12_readVars (a := a) hT hk_a e_S8) mw_X12_readVars in_8_10 hk_a (by decide) rfl rfl rfl ⟨rfl, rfl⟩ ⟨Nat.le_of_ble_eq_true rfl, Nat.le_of_ble_eq_true rfl⟩ ⟨Nat.zero_le _, Nat.zero_le _⟩ hl.1 (Nat.le_of_ble_eq_true rfl) dX12_readExpr_175 (fun H locs hH hS => ?_)
                exact r_zret X hr hH hS hm dX12_readExpr_178
              · have hm := m_ite_f hm c7
                by_cases c10 : l2 = (8 : Int32)
                · have hm := m_ite_t hm c10
                  refine lv_tableIn (off := 69) (tgt := 179) hx hb dX12_readExpr_110 (by rw [c10]; decide) (by rw [c10]; decide) (by rw [c10]; rfl) (by decide) ?_
                  refine lv_aload_n hx hb dX12_readExpr_179 rfl (lv_at hl 0 rfl) ?_
                  refine lv_iload_n hx hb dX12_readExpr_180 rfl (lv_at hl 1 rfl) ?_
                  refine lv_iconst (v := (0 : Int32)) hx hb dX12_readExpr_181 (by decide) ?_
                  obtain ⟨v12, S11, e_S11, hm⟩ := m_call_of hm
                  refine n_cVi X hH hS (k := 12) (c_X12_readCalled (a := a) hT hk_a e_S11) mw_X12_readCalled in_8_14 hk_a (by decide) rfl rfl rfl ⟨rfl, rfl⟩ ⟨Nat.le_of_ble_eq_true rfl, Nat.le_of_ble_eq_true rfl⟩ ⟨Nat.zero_le _, Nat.zero_le _⟩ hl.1 (Nat.le_of_ble_eq_true rfl) dX12_readExpr_182 (fun H locs hH hS => ?_)
                  exact r_zret X hr hH hS hm dX12_readExpr_185
                · have hm := m_ite_f hm c10
                  refine lv_tableOut (tgt := 186) hx hb dX12_readExpr_110 (by have h_c1 := lv_neT (a := 1) c1 rfl; have h_c2 := lv_neT (a := 2) c2 rfl; have h_c3 := lv_neT (a := 3) c3 rfl; have h_c4 := lv_neT (a := 4) c4 rfl; have h_c5 := lv_neT (a := 5) c5 rfl; have h_c6 := lv_neT (a := 6) c6 rfl; have h_c7 := lv_neT (a := 7) c7 rfl; have h_c10 := lv_neT (a := 8) c10 rfl; omega) (by decide) ?_
                  refine lv_aload_n hx hb dX12_readExpr_186 rfl (lv_at hl 0 rfl) ?_
                  refine lv_iload_n hx hb dX12_readExpr_187 rfl (lv_at hl 1 rfl) ?_
                  obtain ⟨v14, S13, e_S13, hm⟩ := m_call_of hm
                  refine n_cVi X hH hS (k := 12) (c_X12_readWhen (a := a) hT hk_a e_S13) mw_X12_readWhen in_8_18 hk_a (by decide) rfl rfl rfl ⟨rfl, rfl⟩ ⟨Nat.le_of_ble_eq_true rfl, Nat.le_of_ble_eq_true rfl⟩ ⟨Nat.zero_le _, Nat.zero_le _⟩ hl.1 (Nat.le_of_ble_eq_true rfl) dX12_readExpr_188 (fun H locs hH hS => ?_)
                  exact r_zret X hr hH hS hm dX12_readExpr_191
def b_X12_readExpr_53 (a : Nat)  : Nat → m_M → Int32 → Int32 → Int32 → Option (Int32 × m_M)
  | 0, _, _, _, _ => none
  | n + 1, S, l1, l2, l3 =>
    if (9 : Int32) < l3 then (
    if l2 = (-1 : Int32) then (
    m_call (f_X12_bad a S (1 : Int32)) fun v7 S6 =>
    if v7 = 0 ∨ v7 = 1 then some (v7, S6) else none) else (
    (m_sti S (a + 3) 210 ((18 : Int32) + l1) l2).bind fun S3 =>
    if l2 = (1 : Int32) then (
    b_X12_readExpr_109 a S3 l1 l2) else (
    m_cal0 (f_X12_go a S3) fun S5 =>
    b_X12_readExpr_109 a S5 l1 l2))) else (
    m_call (f_X12_isWord a S l3) fun v9 S8 =>
    if v9 = 0 then (
    b_X12_readExpr_73 a (b_X12_readExpr_53 a n) S8 l1 l2 l3) else (
    m_let (((2 : Int32) + l3) - (2 : Int32)) fun v11 =>
    b_X12_readExpr_73 a (b_X12_readExpr_53 a n) S8 l1 v11 l3))
set_option maxHeartbeats 4000000 in
set_option maxRecDepth 100000 in
theorem k_X12_readExpr_53 {p : Program} {l : Launch} {e : Env} {s : State} {m : MethodId} {args : Array Value} {below : List Frame} {meth : Method} {c : Code} {G : m_G} {nx : Nat} {κ : Nat → Nat} {res : (Int32 × m_M)} {a : Nat} (X : m_Cx p s m args meth c cX12_readExpr 4 RX12 G) (hr : meth.sig.returnType = (some .boolean)) (hT : m_Str κ) (hk_a : κ a = 13)  (n : Nat) : ∀ (S : m_M) (l1 : Int32) (l2 : Int32) (l3 : Int32) (H : Heap) (locs : List Loc) (ls : Array Slot), m_H G nx κ S H → m_S G s H locs → lv_has ls 4 [(0, .ref a), (1, .int l1), (2, .int l2), (3, .int l3)] → b_X12_readExpr_53 a n S l1 l2 l3 = some res → W p l e rm_X12_readExpr s m args below meth c H locs 0 0 (m_Qi below args s G nx κ res) (F0 m 53 ls []) := by
  have hx := X.1.1
  have hb := X.1.2.1
  induction n with
  | zero => intro S l1 l2 l3 H locs ls hH hS hl hm; have hm : (none : Option (Int32 × m_M)) = some res := hm; cases hm
  | succ n ih =>
    intro S l1 l2 l3 H locs ls hH hS hl hm
    rw [b_X12_readExpr_53] at hm
    refine lv_iload_n hx hb dX12_readExpr_53 rfl (lv_at hl 3 rfl) ?_
    refine lv_bipush (v := (9 : Int32)) hx hb dX12_readExpr_54 (by decide) ?_
    refine lv_icmp_gt (tgt := 79) hx hb dX12_readExpr_56 (by decide) (fun c1 => ?_) (fun c1 => ?_)
    · have hm := m_ite_t hm c1
      refine lv_iload_n hx hb dX12_readExpr_79 rfl (lv_at hl 2 rfl) ?_
      refine lv_iconst (v := (-1 : Int32)) hx hb dX12_readExpr_80 (by decide) ?_
      refine lv_icmp_ne (tgt := 90) hx hb dX12_readExpr_81 (by decide) (fun c2 => ?_) (fun c2 => ?_)
      · have hm := m_ite_f hm c2
        refine lv_aload_n hx hb dX12_readExpr_90 rfl (lv_at hl 0 rfl) ?_
        refine r_getp X hH (k := 12) (a := a) (j := 15) (b := (a + 3)) (A := 3) (B := 0) hk_a (by decide) rfl m_wi12 (by decide) in_7_30 rfl rfl rfl dX12_readExpr_91 ?_
        refine lv_bipush (v := (18 : Int32)) hx hb dX12_readExpr_94 (by decide) ?_
        refine lv_iload_n hx hb dX12_readExpr_96 rfl (lv_at hl 1 rfl) ?_
        refine lv_iadd hx hb dX12_readExpr_97 ?_
        refine lv_iload_n hx hb dX12_readExpr_98 rfl (lv_at hl 2 rfl) ?_
        obtain ⟨S3, h_S3, e_S3, hm⟩ := n_sti hm
        refine n_iast X hH hS (n := 210) (m_lay_at hT hk_a (by decide) (i := 3) rfl) h_S3 e_S3 dX12_readExpr_99 (fun H locs hH hS => ?_)
        refine lv_iload_n hx hb dX12_readExpr_100 rfl (lv_at hl 2 rfl) ?_
        refine lv_iconst (v := (1 : Int32)) hx hb dX12_readExpr_101 (by decide) ?_
        refine lv_icmp_eq (tgt := 109) hx hb dX12_readExpr_102 (by decide) (fun c4 => ?_) (fun c4 => ?_)
        · have hm := m_ite_t hm c4
          exact k_X12_readExpr_109 (a := a) X hr hT hk_a   S3 l1 l2 _ _ _ hH hS (lv_sub hl [0, 1, 2] rfl) hm
        · have hm := m_ite_f hm c4
          refine lv_aload_n hx hb dX12_readExpr_105 rfl (lv_at hl 0 rfl) ?_
          obtain ⟨S5, e_S5, hm⟩ := m_cal0_of hm
          refine r_cVv X hH hS (k := 12) (c_X12_go (a := a) hT hk_a e_S5) mw_X12_go in_7_181 hk_a (by decide) rfl rfl rfl ⟨rfl, rfl⟩ ⟨Nat.le_of_ble_eq_true rfl, Nat.le_of_ble_eq_true rfl⟩ ⟨Nat.zero_le _, Nat.zero_le _⟩ hl.1 (Nat.le_of_ble_eq_true rfl) dX12_readExpr_106 (fun H locs hH hS => ?_)
          exact k_X12_readExpr_109 (a := a) X hr hT hk_a   S5 l1 l2 _ _ _ hH hS (lv_sub hl [0, 1, 2] rfl) hm
      · have hm := m_ite_t hm c2
        refine lv_aload_n hx hb dX12_readExpr_84 rfl (lv_at hl 0 rfl) ?_
        refine lv_iconst (v := (1 : Int32)) hx hb dX12_readExpr_85 (by decide) ?_
        obtain ⟨v7, S6, e_S6, hm⟩ := m_call_of hm
        refine n_cVi X hH hS (k := 12) (c_X12_bad (a := a) hT hk_a e_S6) mw_X12_bad in_7_219 hk_a (by decide) rfl rfl rfl ⟨rfl, rfl⟩ ⟨Nat.le_of_ble_eq_true rfl, Nat.le_of_ble_eq_true rfl⟩ ⟨Nat.zero_le _, Nat.zero_le _⟩ hl.1 (Nat.le_of_ble_eq_true rfl) dX12_readExpr_86 (fun H locs hH hS => ?_)
        exact r_zret X hr hH hS hm dX12_readExpr_89
    · have hm := m_ite_f hm c1
      refine lv_aload_n hx hb dX12_readExpr_59 rfl (lv_at hl 0 rfl) ?_
      refine lv_iload_n hx hb dX12_readExpr_60 rfl (lv_at hl 3 rfl) ?_
      obtain ⟨v9, S8, e_S8, hm⟩ := m_call_of hm
      refine n_cVi X hH hS (k := 12) (c_X12_isWord (a := a) hT hk_a e_S8) mw_X12_isWord in_7_197 hk_a (by decide) rfl rfl rfl ⟨rfl, rfl⟩ ⟨Nat.le_of_ble_eq_true rfl, Nat.le_of_ble_eq_true rfl⟩ ⟨Nat.zero_le _, Nat.zero_le _⟩ hl.1 (Nat.le_of_ble_eq_true rfl) dX12_readExpr_61 (fun H locs hH hS => ?_)
      refine lv_if_eq (tgt := 73) hx hb dX12_readExpr_64 (by decide) (fun c10 => ?_) (fun c10 => ?_)
      · have hm := m_ite_t hm c10
        exact k_X12_readExpr_73 (a := a) X hr hT hk_a (b_X12_readExpr_53 a n) ih  S8 l1 l2 l3 _ _ _ hH hS hl hm
      · have hm := m_ite_f hm c10
        refine lv_iconst (v := (2 : Int32)) hx hb dX12_readExpr_67 (by decide) ?_
        refine lv_iload_n hx hb dX12_readExpr_68 rfl (lv_at hl 3 rfl) ?_
        refine lv_iadd hx hb dX12_readExpr_69 ?_
        refine lv_iconst (v := (2 : Int32)) hx hb dX12_readExpr_70 (by decide) ?_
        refine lv_isub hx hb dX12_readExpr_71 ?_
        obtain ⟨v11, e_v11, hm⟩ := m_let_of hm
        refine n_topi e_v11 ?_
        refine lv_istore_n (lv' := [(2, .int v11), (0, .ref a), (1, .int l1), (3, .int l3)]) hx hb dX12_readExpr_72 rfl hl (by decide) rfl (fun ls hl => ?_)
        exact k_X12_readExpr_73 (a := a) X hr hT hk_a (b_X12_readExpr_53 a n) ih  S8 l1 v11 l3 _ _ _ hH hS (lv_sub hl [1, 2, 0, 3] rfl) hm
def b_X12_readExpr_50 (a : Nat)  (S : m_M) (l1 : Int32) (t0 : Int32) : Option (Int32 × m_M) :=
    b_X12_readExpr_53 a m_fu S l1 t0 (2 : Int32)
set_option maxHeartbeats 4000000 in
set_option maxRecDepth 100000 in
theorem k_X12_readExpr_50 {p : Program} {l : Launch} {e : Env} {s : State} {m : MethodId} {args : Array Value} {below : List Frame} {meth : Method} {c : Code} {G : m_G} {nx : Nat} {κ : Nat → Nat} {res : (Int32 × m_M)} {a : Nat} (X : m_Cx p s m args meth c cX12_readExpr 4 RX12 G) (hr : meth.sig.returnType = (some .boolean)) (hT : m_Str κ) (hk_a : κ a = 13)  : ∀ (S : m_M) (l1 : Int32) (t0 : Int32) (H : Heap) (locs : List Loc) (ls : Array Slot), m_H G nx κ S H → m_S G s H locs → lv_has ls 4 [(0, .ref a), (1, .int l1)] → b_X12_readExpr_50 a S l1 t0 = some res → W p l e rm_X12_readExpr s m args below meth c H locs 0 0 (m_Qi below args s G nx κ res) (F0 m 50 ls [.int t0]) := by
  have hx := X.1.1
  have hb := X.1.2.1
  intro S l1 t0 H locs ls hH hS hl hm
  rw [b_X12_readExpr_50] at hm
  refine lv_istore_n (lv' := [(2, .int t0), (0, .ref a), (1, .int l1)]) hx hb dX12_readExpr_50 rfl hl (by decide) rfl (fun ls hl => ?_)
  refine lv_iconst (v := (2 : Int32)) hx hb dX12_readExpr_51 (by decide) ?_
  refine lv_istore_n (lv' := [(3, .int (2 : Int32)), (2, .int t0), (0, .ref a), (1, .int l1)]) hx hb dX12_readExpr_52 rfl hl (by decide) rfl (fun ls hl => ?_)
  exact k_X12_readExpr_53 (a := a) X hr hT hk_a  m_fu S l1 t0 (2 : Int32) _ _ _ hH hS (lv_sub hl [2, 3, 1, 0] rfl) hm
def f_X12_readExpr (a : Nat) (S : m_M) (i1 : Int32) : Option (Int32 × m_M) :=
    if (m_ri S a 7) = (3 : Int32) then (
    (m_sti S (a + 3) 210 ((18 : Int32) + i1) (0 : Int32)).bind fun S5 =>
    (m_sti S5 (a + 3) 210 ((186 : Int32) + i1) (m_ri S5 a 8)).bind fun S6 =>
    m_cal0 (f_X12_go a S6) fun S7 =>
    if (1 : Int32) = 0 ∨ (1 : Int32) = 1 then some ((1 : Int32), S7) else none) else (
    m_call (f_X12_isName a S) fun v3 S2 =>
    if v3 = 0 then (
    b_X12_readExpr_50 a S2 i1 (-1 : Int32)) else (
    b_X12_readExpr_50 a S2 i1 (1 : Int32)))
set_option maxHeartbeats 4000000 in
set_option maxRecDepth 100000 in
theorem c_X12_readExpr {l : Launch} {G : m_G} {nx : Nat} {κ : Nat → Nat} {a : Nat} {S : m_M} {i1 : Int32} {res : (Int32 × m_M)} (hT : m_Str κ) (hk_a : κ a = 13) (hm : f_X12_readExpr a S i1 = some res) : m_Ci l yX12_readExpr cX12_readExpr 4 (some .boolean) rm_X12_readExpr G nx κ [.ref a, .int i1] S res := by
  refine m_Ci.of (by decide) (Nat.le_of_ble_eq_true rfl) ?_
  intro p e s m args below meth c ls X hr hH hl
  have hx := X.1.1
  have hb := X.1.2.1
  have hS : m_S G s s.heap [] := va_S.rf
  have hl : lv_has ls 4 [(0, .ref a), (1, .int i1)] := hl
  rw [f_X12_readExpr] at hm
  refine lv_aload_n hx hb dX12_readExpr_0 rfl (lv_at hl 0 rfl) ?_
  refine r_geti X hH (k := 12) (a := a) (j := 7) hk_a (by decide) rfl m_wi12 (by decide) in_7_22 rfl rfl dX12_readExpr_1 ?_
  refine lv_iconst (v := (3 : Int32)) hx hb dX12_readExpr_4 (by decide) ?_
  refine lv_icmp_ne (tgt := 38) hx hb dX12_readExpr_5 (by decide) (fun c1 => ?_) (fun c1 => ?_)
  · have hm := m_ite_f hm c1
    refine lv_aload_n hx hb dX12_readExpr_38 rfl (lv_at hl 0 rfl) ?_
    obtain ⟨v3, S2, e_S2, hm⟩ := m_call_of hm
    refine n_cVi X hH hS (k := 12) (c_X12_isName (a := a) hT hk_a e_S2) mw_X12_isName in_7_223 hk_a (by decide) rfl rfl rfl ⟨rfl, rfl⟩ ⟨Nat.le_of_ble_eq_true rfl, Nat.le_of_ble_eq_true rfl⟩ ⟨Nat.zero_le _, Nat.zero_le _⟩ hl.1 (Nat.le_of_ble_eq_true rfl) dX12_readExpr_39 (fun H locs hH hS => ?_)
    refine lv_if_eq (tgt := 49) hx hb dX12_readExpr_42 (by decide) (fun c4 => ?_) (fun c4 => ?_)
    · have hm := m_ite_t hm c4
      refine lv_iconst (v := (-1 : Int32)) hx hb dX12_readExpr_49 (by decide) ?_
      exact k_X12_readExpr_50 (a := a) X hr hT hk_a   S2 i1 (-1 : Int32) _ _ _ hH hS hl hm
    · have hm := m_ite_f hm c4
      refine lv_iconst (v := (1 : Int32)) hx hb dX12_readExpr_45 (by decide) ?_
      refine lv_goto (tgt := 50) hx hb dX12_readExpr_46 (by decide) ?_
      exact k_X12_readExpr_50 (a := a) X hr hT hk_a   S2 i1 (1 : Int32) _ _ _ hH hS hl hm
  · have hm := m_ite_t hm c1
    refine lv_aload_n hx hb dX12_readExpr_8 rfl (lv_at hl 0 rfl) ?_
    refine r_getp X hH (k := 12) (a := a) (j := 15) (b := (a + 3)) (A := 3) (B := 0) hk_a (by decide) rfl m_wi12 (by decide) in_7_30 rfl rfl rfl dX12_readExpr_9 ?_
    refine lv_bipush (v := (18 : Int32)) hx hb dX12_readExpr_12 (by decide) ?_
    refine lv_iload_n hx hb dX12_readExpr_14 rfl (lv_at hl 1 rfl) ?_
    refine lv_iadd hx hb dX12_readExpr_15 ?_
    refine lv_iconst (v := (0 : Int32)) hx hb dX12_readExpr_16 (by decide) ?_
    obtain ⟨S5, h_S5, e_S5, hm⟩ := n_sti hm
    refine n_iast X hH hS (n := 210) (m_lay_at hT hk_a (by decide) (i := 3) rfl) h_S5 e_S5 dX12_readExpr_17 (fun H locs hH hS => ?_)
    refine lv_aload_n hx hb dX12_readExpr_18 rfl (lv_at hl 0 rfl) ?_
    refine r_getp X hH (k := 12) (a := a) (j := 15) (b := (a + 3)) (A := 3) (B := 0) hk_a (by decide) rfl m_wi12 (by decide) in_7_30 rfl rfl rfl dX12_readExpr_19 ?_
    refine lv_sipush (v := (186 : Int32)) hx hb dX12_readExpr_22 (by decide) ?_
    refine lv_iload_n hx hb dX12_readExpr_25 rfl (lv_at hl 1 rfl) ?_
    refine lv_iadd hx hb dX12_readExpr_26 ?_
    refine lv_aload_n hx hb dX12_readExpr_27 rfl (lv_at hl 0 rfl) ?_
    refine r_geti X hH (k := 12) (a := a) (j := 8) hk_a (by decide) rfl m_wi12 (by decide) in_7_23 rfl rfl dX12_readExpr_28 ?_
    obtain ⟨S6, h_S6, e_S6, hm⟩ := n_sti hm
    refine n_iast X hH hS (n := 210) (m_lay_at hT hk_a (by decide) (i := 3) rfl) h_S6 e_S6 dX12_readExpr_31 (fun H locs hH hS => ?_)
    refine lv_aload_n hx hb dX12_readExpr_32 rfl (lv_at hl 0 rfl) ?_
    obtain ⟨S7, e_S7, hm⟩ := m_cal0_of hm
    refine r_cVv X hH hS (k := 12) (c_X12_go (a := a) hT hk_a e_S7) mw_X12_go in_7_181 hk_a (by decide) rfl rfl rfl ⟨rfl, rfl⟩ ⟨Nat.le_of_ble_eq_true rfl, Nat.le_of_ble_eq_true rfl⟩ ⟨Nat.zero_le _, Nat.zero_le _⟩ hl.1 (Nat.le_of_ble_eq_true rfl) dX12_readExpr_33 (fun H locs hH hS => ?_)
    refine lv_iconst (v := (1 : Int32)) hx hb dX12_readExpr_36 (by decide) ?_
    exact r_zret X hr hH hS hm dX12_readExpr_37
def rm_X12_readIs : Room := { frames := 8, cells := 0, slots := 0, locals := 182 }
def b_X12_readIs_102 (a : Nat)  : Nat → m_M → Int64 → Int32 → Int32 → Int32 → Option (Int32 × m_M)
  | 0, _, _, _, _, _ => none
  | n + 1, S, l1, l3, l4, l5 =>
    if (5 : Int32) ≤ l5 then (
    (m_sti S (a + 3) 210 ((42 : Int32) + l4) (-1 : Int32)).bind fun S2 =>
    m_call (f_X12_readExpr a S2 l4) fun v4 S3 =>
    if v4 = 0 then (
    if (0 : Int32) = 0 ∨ (0 : Int32) = 1 then some ((0 : Int32), S3) else none) else (
    m_call (f_X12_varsOf a (a + 3) 210 S3 l3) fun v7 S6 =>
    (m_stj S6 (a + 10) 135 (((27 : Int32) * l3) + v7) l1).bind fun S8 =>
    (m_ldi S8 (a + 3) 210 ((13 : Int32) + l3)).bind fun v9 =>
    (m_sti S8 (a + 3) 210 ((13 : Int32) + l3) (v9 + (1 : Int32))).bind fun S10 =>
    (m_ldi S10 (a + 3) 210 (1 : Int32)).bind fun v11 =>
    (m_sti S10 (a + 3) 210 (1 : Int32) (v11 + (1 : Int32))).bind fun S12 =>
    if (1 : Int32) = 0 ∨ (1 : Int32) = 1 then some ((1 : Int32), S12) else none)) else (
    (m_sti S (a + 3) 210 (((66 : Int32) + ((5 : Int32) * l4)) + l5) (-1 : Int32)).bind fun S13 =>
    m_let (l5 + (1 : Int32)) fun v14 =>
    b_X12_readIs_102 a n S13 l1 l3 l4 v14)
set_option maxHeartbeats 4000000 in
set_option maxRecDepth 100000 in
theorem k_X12_readIs_102 {p : Program} {l : Launch} {e : Env} {s : State} {m : MethodId} {args : Array Value} {below : List Frame} {meth : Method} {c : Code} {G : m_G} {nx : Nat} {κ : Nat → Nat} {res : (Int32 × m_M)} {a : Nat} (X : m_Cx p s m args meth c cX12_readIs 6 RX12 G) (hr : meth.sig.returnType = (some .boolean)) (hT : m_Str κ) (hk_a : κ a = 13)  (n : Nat) : ∀ (S : m_M) (l1 : Int64) (l3 : Int32) (l4 : Int32) (l5 : Int32) (H : Heap) (locs : List Loc) (ls : Array Slot), m_H G nx κ S H → m_S G s H locs → lv_has ls 6 [(0, .ref a), (1, .long l1), (3, .int l3), (4, .int l4), (5, .int l5)] → b_X12_readIs_102 a n S l1 l3 l4 l5 = some res → W p l e rm_X12_readIs s m args below meth c H locs 0 0 (m_Qi below args s G nx κ res) (F0 m 102 ls []) := by
  have hx := X.1.1
  have hb := X.1.2.1
  induction n with
  | zero => intro S l1 l3 l4 l5 H locs ls hH hS hl hm; have hm : (none : Option (Int32 × m_M)) = some res := hm; cases hm
  | succ n ih =>
    intro S l1 l3 l4 l5 H locs ls hH hS hl hm
    rw [b_X12_readIs_102] at hm
    refine lv_iload hx hb dX12_readIs_102 (lv_at hl 4 rfl) ?_
    refine lv_iconst (v := (5 : Int32)) hx hb dX12_readIs_104 (by decide) ?_
    refine lv_icmp_ge (tgt := 130) hx hb dX12_readIs_105 (by decide) (fun c1 => ?_) (fun c1 => ?_)
    · have hm := m_ite_t hm c1
      refine lv_aload_n hx hb dX12_readIs_130 rfl (lv_at hl 0 rfl) ?_
      refine r_getp X hH (k := 12) (a := a) (j := 15) (b := (a + 3)) (A := 3) (B := 0) hk_a (by decide) rfl m_wi12 (by decide) in_7_30 rfl rfl rfl dX12_readIs_131 ?_
      refine lv_bipush (v := (42 : Int32)) hx hb dX12_readIs_134 (by decide) ?_
      refine lv_iload hx hb dX12_readIs_136 (lv_at hl 3 rfl) ?_
      refine lv_iadd hx hb dX12_readIs_138 ?_
      refine lv_iconst (v := (-1 : Int32)) hx hb dX12_readIs_139 (by decide) ?_
      obtain ⟨S2, h_S2, e_S2, hm⟩ := n_sti hm
      refine n_iast X hH hS (n := 210) (m_lay_at hT hk_a (by decide) (i := 3) rfl) h_S2 e_S2 dX12_readIs_140 (fun H locs hH hS => ?_)
      refine lv_aload_n hx hb dX12_readIs_141 rfl (lv_at hl 0 rfl) ?_
      refine lv_iload hx hb dX12_readIs_142 (lv_at hl 3 rfl) ?_
      obtain ⟨v4, S3, e_S3, hm⟩ := m_call_of hm
      refine n_cVi X hH hS (k := 12) (c_X12_readExpr (a := a) hT hk_a e_S3) mw_X12_readExpr in_8_2 hk_a (by decide) rfl rfl rfl ⟨rfl, rfl⟩ ⟨Nat.le_of_ble_eq_true rfl, Nat.le_of_ble_eq_true rfl⟩ ⟨Nat.zero_le _, Nat.zero_le _⟩ hl.1 (Nat.le_of_ble_eq_true rfl) dX12_readIs_144 (fun H locs hH hS => ?_)
      refine lv_if_ne (tgt := 152) hx hb dX12_readIs_147 (by decide) (fun c5 => ?_) (fun c5 => ?_)
      · have hm := m_ite_f hm c5
        refine lv_aload_n hx hb dX12_readIs_152 rfl (lv_at hl 0 rfl) ?_
        refine r_getp X hH (k := 12) (a := a) (j := 22) (b := (a + 10)) (A := 10) (B := 0) hk_a (by decide) rfl m_wi12 (by decide) in_7_37 rfl rfl rfl dX12_readIs_153 ?_
        refine lv_bipush (v := (27 : Int32)) hx hb dX12_readIs_156 (by decide) ?_
        refine lv_iload_n hx hb dX12_readIs_158 rfl (lv_at hl 2 rfl) ?_
        refine lv_imul hx hb dX12_readIs_159 ?_
        refine lv_aload_n hx hb dX12_readIs_160 rfl (lv_at hl 0 rfl) ?_
        refine lv_aload_n hx hb dX12_readIs_161 rfl (lv_at hl 0 rfl) ?_
        refine r_getp X hH (k := 12) (a := a) (j := 15) (b := (a + 3)) (A := 3) (B := 0) hk_a (by decide) rfl m_wi12 (by decide) in_7_30 rfl rfl rfl dX12_readIs_162 ?_
        refine lv_iload_n hx hb dX12_readIs_165 rfl (lv_at hl 2 rfl) ?_
        obtain ⟨v7, S6, e_S6, hm⟩ := m_call_of hm
        refine n_cVi X hH hS (k := 12) (c_X12_varsOf (a := a) (o1 := (a + 3)) (n1 := 210) hT hk_a (m_lay_at hT hk_a (by decide) (i := 3) rfl) e_S6) mw_X12_varsOf in_6_224 hk_a (by decide) rfl rfl rfl ⟨rfl, rfl⟩ ⟨Nat.le_of_ble_eq_true rfl, Nat.le_of_ble_eq_true rfl⟩ ⟨Nat.zero_le _, Nat.zero_le _⟩ hl.1 (Nat.le_of_ble_eq_true rfl) dX12_readIs_166 (fun H locs hH hS => ?_)
        refine lv_iadd hx hb dX12_readIs_169 ?_
        refine lv_lload_n hx hb dX12_readIs_170 rfl (lv_at hl 1 rfl) ?_
        obtain ⟨S8, h_S8, e_S8, hm⟩ := n_stj hm
        refine n_last X hH hS (n := 135) (m_lay_at hT hk_a (by decide) (i := 10) rfl) h_S8 e_S8 dX12_readIs_171 (fun H locs hH hS => ?_)
        refine lv_aload_n hx hb dX12_readIs_172 rfl (lv_at hl 0 rfl) ?_
        refine r_getp X hH (k := 12) (a := a) (j := 15) (b := (a + 3)) (A := 3) (B := 0) hk_a (by decide) rfl m_wi12 (by decide) in_7_30 rfl rfl rfl dX12_readIs_173 ?_
        refine lv_bipush (v := (13 : Int32)) hx hb dX12_readIs_176 (by decide) ?_
        refine lv_iload_n hx hb dX12_readIs_178 rfl (lv_at hl 2 rfl) ?_
        refine lv_iadd hx hb dX12_readIs_179 ?_
        refine lv_dup2_11 hx hb dX12_readIs_180 rfl rfl ?_
        obtain ⟨v9, h_v9, e_v9, hm⟩ := n_ldi hm
        refine n_iald X hH (n := 210) (m_lay_at hT hk_a (by decide) (i := 3) rfl) h_v9 e_v9 dX12_readIs_181 ?_
        refine lv_iconst (v := (1 : Int32)) hx hb dX12_readIs_182 (by decide) ?_
        refine lv_iadd hx hb dX12_readIs_183 ?_
        obtain ⟨S10, h_S10, e_S10, hm⟩ := n_sti hm
        refine n_iast X hH hS (n := 210) (m_lay_at hT hk_a (by decide) (i := 3) rfl) h_S10 e_S10 dX12_readIs_184 (fun H locs hH hS => ?_)
        refine lv_aload_n hx hb dX12_readIs_185 rfl (lv_at hl 0 rfl) ?_
        refine r_getp X hH (k := 12) (a := a) (j := 15) (b := (a + 3)) (A := 3) (B := 0) hk_a (by decide) rfl m_wi12 (by decide) in_7_30 rfl rfl rfl dX12_readIs_186 ?_
        refine lv_iconst (v := (1 : Int32)) hx hb dX12_readIs_189 (by decide) ?_
        refine lv_dup2_11 hx hb dX12_readIs_190 rfl rfl ?_
        obtain ⟨v11, h_v11, e_v11, hm⟩ := n_ldi hm
        refine n_iald X hH (n := 210) (m_lay_at hT hk_a (by decide) (i := 3) rfl) h_v11 e_v11 dX12_readIs_191 ?_
        refine lv_iconst (v := (1 : Int32)) hx hb dX12_readIs_192 (by decide) ?_
        refine lv_iadd hx hb dX12_readIs_193 ?_
        obtain ⟨S12, h_S12, e_S12, hm⟩ := n_sti hm
        refine n_iast X hH hS (n := 210) (m_lay_at hT hk_a (by decide) (i := 3) rfl) h_S12 e_S12 dX12_readIs_194 (fun H locs hH hS => ?_)
        refine lv_iconst (v := (1 : Int32)) hx hb dX12_readIs_195 (by decide) ?_
        exact r_zret X hr hH hS hm dX12_readIs_196
      · have hm := m_ite_t hm c5
        refine lv_iconst (v := (0 : Int32)) hx hb dX12_readIs_150 (by decide) ?_
        exact r_zret X hr hH hS hm dX12_readIs_151
    · have hm := m_ite_f hm c1
      refine lv_aload_n hx hb dX12_readIs_108 rfl (lv_at hl 0 rfl) ?_
      refine r_getp X hH (k := 12) (a := a) (j := 15) (b := (a + 3)) (A := 3) (B := 0) hk_a (by decide) rfl m_wi12 (by decide) in_7_30 rfl rfl rfl dX12_readIs_109 ?_
      refine lv_bipush (v := (66 : Int32)) hx hb dX12_readIs_112 (by decide) ?_
      refine lv_iconst (v := (5 : Int32)) hx hb dX12_readIs_114 (by decide) ?_
      refine lv_iload hx hb dX12_readIs_115 (lv_at hl 3 rfl) ?_
      refine lv_imul hx hb dX12_readIs_117 ?_
      refine lv_iadd hx hb dX12_readIs_118 ?_
      refine lv_iload hx hb dX12_readIs_119 (lv_at hl 4 rfl) ?_
      refine lv_iadd hx hb dX12_readIs_121 ?_
      refine lv_iconst (v := (-1 : Int32)) hx hb dX12_readIs_122 (by decide) ?_
      obtain ⟨S13, h_S13, e_S13, hm⟩ := n_sti hm
      refine n_iast X hH hS (n := 210) (m_lay_at hT hk_a (by decide) (i := 3) rfl) h_S13 e_S13 dX12_readIs_123 (fun H locs hH hS => ?_)
      obtain ⟨v14, e_v14, hm⟩ := m_let_of hm
      refine lv_iinc (v := v14) (lv' := [(5, .int v14), (0, .ref a), (1, .long l1), (3, .int l3), (4, .int l4)]) hx hb dX12_readIs_124 hl (k := 4) rfl (by rw [← e_v14]; rfl) (by decide) rfl (fun ls hl => ?_)
      refine lv_goto (tgt := 102) hx hb dX12_readIs_127 (by decide) ?_
      exact ih S13 l1 l3 l4 v14 _ _ _ hH hS (lv_sub hl [1, 2, 3, 4, 0] rfl) hm
def f_X12_readIs (a : Nat) (S : m_M)  : Option (Int32 × m_M) :=
    m_call (f_X12_isName a S) fun v2 S1 =>
    if v2 = 0 then (
    m_call (f_X12_bad a S1 (1 : Int32)) fun v29 S28 =>
    if v29 = 0 ∨ v29 = 1 then some (v29, S28) else none) else (
    (m_ldi S1 (a + 3) 210 (0 : Int32)).bind fun v4 =>
    if v4 = 0 then (
    m_call (f_X12_bad a S1 (4 : Int32)) fun v27 S26 =>
    if v27 = 0 ∨ v27 = 1 then some (v27, S26) else none) else (
    m_call (f_X12_findVar a S1) fun v7 S6 =>
    if v7 = (-1 : Int32) then (
    (m_ldi S6 (a + 3) 210 (1 : Int32)).bind fun v9 =>
    if v9 = (24 : Int32) then (
    m_call (f_X12_bad a S6 (4 : Int32)) fun v23 S22 =>
    if v23 = 0 ∨ v23 = 1 then some (v23, S22) else none) else (
    m_let (m_rj S6 a 12) fun v11 =>
    m_call (f_X12_funNow a S6) fun v13 S12 =>
    m_cal0 (f_X12_go a S12) fun S14 =>
    m_call (f_X12_isWord a S14 (1 : Int32)) fun v16 S15 =>
    if v16 = 0 then (
    m_call (f_X12_bad a S15 (1 : Int32)) fun v21 S20 =>
    if v21 = 0 ∨ v21 = 1 then some (v21, S20) else none) else (
    m_cal0 (f_X12_go a S15) fun S18 =>
    (m_ldi S18 (a + 3) 210 (1 : Int32)).bind fun v19 =>
    b_X12_readIs_102 a m_fu S18 v11 v13 v19 (0 : Int32)))) else (
    m_call (f_X12_bad a S6 (3 : Int32)) fun v25 S24 =>
    if v25 = 0 ∨ v25 = 1 then some (v25, S24) else none)))
set_option maxHeartbeats 4000000 in
set_option maxRecDepth 100000 in
theorem c_X12_readIs {l : Launch} {G : m_G} {nx : Nat} {κ : Nat → Nat} {a : Nat} {S : m_M}  {res : (Int32 × m_M)} (hT : m_Str κ) (hk_a : κ a = 13) (hm : f_X12_readIs a S = some res) : m_Ci l yX12_readIs cX12_readIs 6 (some .boolean) rm_X12_readIs G nx κ [.ref a] S res := by
  refine m_Ci.of (by decide) (Nat.le_of_ble_eq_true rfl) ?_
  intro p e s m args below meth c ls X hr hH hl
  have hx := X.1.1
  have hb := X.1.2.1
  have hS : m_S G s s.heap [] := va_S.rf
  have hl : lv_has ls 6 [(0, .ref a)] := hl
  rw [f_X12_readIs] at hm
  refine lv_aload_n hx hb dX12_readIs_0 rfl (lv_at hl 0 rfl) ?_
  obtain ⟨v2, S1, e_S1, hm⟩ := m_call_of hm
  refine n_cVi X hH hS (k := 12) (c_X12_isName (a := a) hT hk_a e_S1) mw_X12_isName in_7_223 hk_a (by decide) rfl rfl rfl ⟨rfl, rfl⟩ ⟨Nat.le_of_ble_eq_true rfl, Nat.le_of_ble_eq_true rfl⟩ ⟨Nat.zero_le _, Nat.zero_le _⟩ hl.1 (Nat.le_of_ble_eq_true rfl) dX12_readIs_1 (fun H locs hH hS => ?_)
  refine lv_if_ne (tgt := 13) hx hb dX12_readIs_4 (by decide) (fun c3 => ?_) (fun c3 => ?_)
  · have hm := m_ite_f hm c3
    refine lv_aload_n hx hb dX12_readIs_13 rfl (lv_at hl 0 rfl) ?_
    refine r_getp X hH (k := 12) (a := a) (j := 15) (b := (a + 3)) (A := 3) (B := 0) hk_a (by decide) rfl m_wi12 (by decide) in_7_30 rfl rfl rfl dX12_readIs_14 ?_
    refine lv_iconst (v := (0 : Int32)) hx hb dX12_readIs_17 (by decide) ?_
    obtain ⟨v4, h_v4, e_v4, hm⟩ := n_ldi hm
    refine n_iald X hH (n := 210) (m_lay_at hT hk_a (by decide) (i := 3) rfl) h_v4 e_v4 dX12_readIs_18 ?_
    refine lv_if_ne (tgt := 28) hx hb dX12_readIs_19 (by decide) (fun c5 => ?_) (fun c5 => ?_)
    · have hm := m_ite_f hm c5
      refine lv_aload_n hx hb dX12_readIs_28 rfl (lv_at hl 0 rfl) ?_
      obtain ⟨v7, S6, e_S6, hm⟩ := m_call_of hm
      refine n_cVi X hH hS (k := 12) (c_X12_findVar (a := a) hT hk_a e_S6) mw_X12_findVar in_7_234 hk_a (by decide) rfl rfl rfl ⟨rfl, rfl⟩ ⟨Nat.le_of_ble_eq_true rfl, Nat.le_of_ble_eq_true rfl⟩ ⟨Nat.zero_le _, Nat.zero_le _⟩ hl.1 (Nat.le_of_ble_eq_true rfl) dX12_readIs_29 (fun H locs hH hS => ?_)
      refine lv_iconst (v := (-1 : Int32)) hx hb dX12_readIs_32 (by decide) ?_
      refine lv_icmp_eq (tgt := 42) hx hb dX12_readIs_33 (by decide) (fun c8 => ?_) (fun c8 => ?_)
      · have hm := m_ite_t hm c8
        refine lv_aload_n hx hb dX12_readIs_42 rfl (lv_at hl 0 rfl) ?_
        refine r_getp X hH (k := 12) (a := a) (j := 15) (b := (a + 3)) (A := 3) (B := 0) hk_a (by decide) rfl m_wi12 (by decide) in_7_30 rfl rfl rfl dX12_readIs_43 ?_
        refine lv_iconst (v := (1 : Int32)) hx hb dX12_readIs_46 (by decide) ?_
        obtain ⟨v9, h_v9, e_v9, hm⟩ := n_ldi hm
        refine n_iald X hH (n := 210) (m_lay_at hT hk_a (by decide) (i := 3) rfl) h_v9 e_v9 dX12_readIs_47 ?_
        refine lv_bipush (v := (24 : Int32)) hx hb dX12_readIs_48 (by decide) ?_
        refine lv_icmp_ne (tgt := 59) hx hb dX12_readIs_50 (by decide) (fun c10 => ?_) (fun c10 => ?_)
        · have hm := m_ite_f hm c10
          refine lv_aload_n hx hb dX12_readIs_59 rfl (lv_at hl 0 rfl) ?_
          refine r_getj X hH (k := 12) (a := a) (j := 12) hk_a (by decide) rfl m_wi12 (by decide) in_7_27 rfl rfl dX12_readIs_60 ?_
          obtain ⟨v11, e_v11, hm⟩ := m_let_of hm
          refine n_topl e_v11 ?_
          refine lv_lstore_n (lv' := [(1, .long v11), (0, .ref a)]) hx hb dX12_readIs_63 rfl hl (by decide) rfl (fun ls hl => ?_)
          refine lv_aload_n hx hb dX12_readIs_64 rfl (lv_at hl 1 rfl) ?_
          obtain ⟨v13, S12, e_S12, hm⟩ := m_call_of hm
          refine n_cVi X hH hS (k := 12) (c_X12_funNow (a := a) hT hk_a e_S12) mw_X12_funNow in_7_215 hk_a (by decide) rfl rfl rfl ⟨rfl, rfl⟩ ⟨Nat.le_of_ble_eq_true rfl, Nat.le_of_ble_eq_true rfl⟩ ⟨Nat.zero_le _, Nat.zero_le _⟩ hl.1 (Nat.le_of_ble_eq_true rfl) dX12_readIs_65 (fun H locs hH hS => ?_)
          refine lv_istore_n (lv' := [(3, .int v13), (1, .long v11), (0, .ref a)]) hx hb dX12_readIs_68 rfl hl (by decide) rfl (fun ls hl => ?_)
          refine lv_aload_n hx hb dX12_readIs_69 rfl (lv_at hl 2 rfl) ?_
          obtain ⟨S14, e_S14, hm⟩ := m_cal0_of hm
          refine r_cVv X hH hS (k := 12) (c_X12_go (a := a) hT hk_a e_S14) mw_X12_go in_7_181 hk_a (by decide) rfl rfl rfl ⟨rfl, rfl⟩ ⟨Nat.le_of_ble_eq_true rfl, Nat.le_of_ble_eq_true rfl⟩ ⟨Nat.zero_le _, Nat.zero_le _⟩ hl.1 (Nat.le_of_ble_eq_true rfl) dX12_readIs_70 (fun H locs hH hS => ?_)
          refine lv_aload_n hx hb dX12_readIs_73 rfl (lv_at hl 2 rfl) ?_
          refine lv_iconst (v := (1 : Int32)) hx hb dX12_readIs_74 (by decide) ?_
          obtain ⟨v16, S15, e_S15, hm⟩ := m_call_of hm
          refine n_cVi X hH hS (k := 12) (c_X12_isWord (a := a) hT hk_a e_S15) mw_X12_isWord in_7_197 hk_a (by decide) rfl rfl rfl ⟨rfl, rfl⟩ ⟨Nat.le_of_ble_eq_true rfl, Nat.le_of_ble_eq_true rfl⟩ ⟨Nat.zero_le _, Nat.zero_le _⟩ hl.1 (Nat.le_of_ble_eq_true rfl) dX12_readIs_75 (fun H locs hH hS => ?_)
          refine lv_if_ne (tgt := 87) hx hb dX12_readIs_78 (by decide) (fun c17 => ?_) (fun c17 => ?_)
          · have hm := m_ite_f hm c17
            refine lv_aload_n hx hb dX12_readIs_87 rfl (lv_at hl 2 rfl) ?_
            obtain ⟨S18, e_S18, hm⟩ := m_cal0_of hm
            refine r_cVv X hH hS (k := 12) (c_X12_go (a := a) hT hk_a e_S18) mw_X12_go in_7_181 hk_a (by decide) rfl rfl rfl ⟨rfl, rfl⟩ ⟨Nat.le_of_ble_eq_true rfl, Nat.le_of_ble_eq_true rfl⟩ ⟨Nat.zero_le _, Nat.zero_le _⟩ hl.1 (Nat.le_of_ble_eq_true rfl) dX12_readIs_88 (fun H locs hH hS => ?_)
            refine lv_aload_n hx hb dX12_readIs_91 rfl (lv_at hl 2 rfl) ?_
            refine r_getp X hH (k := 12) (a := a) (j := 15) (b := (a + 3)) (A := 3) (B := 0) hk_a (by decide) rfl m_wi12 (by decide) in_7_30 rfl rfl rfl dX12_readIs_92 ?_
            refine lv_iconst (v := (1 : Int32)) hx hb dX12_readIs_95 (by decide) ?_
            obtain ⟨v19, h_v19, e_v19, hm⟩ := n_ldi hm
            refine n_iald X hH (n := 210) (m_lay_at hT hk_a (by decide) (i := 3) rfl) h_v19 e_v19 dX12_readIs_96 ?_
            refine lv_istore (lv' := [(4, .int v19), (3, .int v13), (1, .long v11), (0, .ref a)]) hx hb dX12_readIs_97 hl (by decide) rfl (fun ls hl => ?_)
            refine lv_iconst (v := (0 : Int32)) hx hb dX12_readIs_99 (by decide) ?_
            refine lv_istore (lv' := [(5, .int (0 : Int32)), (4, .int v19), (3, .int v13), (1, .long v11), (0, .ref a)]) hx hb dX12_readIs_100 hl (by decide) rfl (fun ls hl => ?_)
            exact k_X12_readIs_102 (a := a) X hr hT hk_a  m_fu S18 v11 v13 v19 (0 : Int32) _ _ _ hH hS (lv_sub hl [4, 3, 2, 1, 0] rfl) hm
          · have hm := m_ite_t hm c17
            refine lv_aload_n hx hb dX12_readIs_81 rfl (lv_at hl 2 rfl) ?_
            refine lv_iconst (v := (1 : Int32)) hx hb dX12_readIs_82 (by decide) ?_
            obtain ⟨v21, S20, e_S20, hm⟩ := m_call_of hm
            refine n_cVi X hH hS (k := 12) (c_X12_bad (a := a) hT hk_a e_S20) mw_X12_bad in_7_219 hk_a (by decide) rfl rfl rfl ⟨rfl, rfl⟩ ⟨Nat.le_of_ble_eq_true rfl, Nat.le_of_ble_eq_true rfl⟩ ⟨Nat.zero_le _, Nat.zero_le _⟩ hl.1 (Nat.le_of_ble_eq_true rfl) dX12_readIs_83 (fun H locs hH hS => ?_)
            exact r_zret X hr hH hS hm dX12_readIs_86
        · have hm := m_ite_t hm c10
          refine lv_aload_n hx hb dX12_readIs_53 rfl (lv_at hl 0 rfl) ?_
          refine lv_iconst (v := (4 : Int32)) hx hb dX12_readIs_54 (by decide) ?_
          obtain ⟨v23, S22, e_S22, hm⟩ := m_call_of hm
          refine n_cVi X hH hS (k := 12) (c_X12_bad (a := a) hT hk_a e_S22) mw_X12_bad in_7_219 hk_a (by decide) rfl rfl rfl ⟨rfl, rfl⟩ ⟨Nat.le_of_ble_eq_true rfl, Nat.le_of_ble_eq_true rfl⟩ ⟨Nat.zero_le _, Nat.zero_le _⟩ hl.1 (Nat.le_of_ble_eq_true rfl) dX12_readIs_55 (fun H locs hH hS => ?_)
          exact r_zret X hr hH hS hm dX12_readIs_58
      · have hm := m_ite_f hm c8
        refine lv_aload_n hx hb dX12_readIs_36 rfl (lv_at hl 0 rfl) ?_
        refine lv_iconst (v := (3 : Int32)) hx hb dX12_readIs_37 (by decide) ?_
        obtain ⟨v25, S24, e_S24, hm⟩ := m_call_of hm
        refine n_cVi X hH hS (k := 12) (c_X12_bad (a := a) hT hk_a e_S24) mw_X12_bad in_7_219 hk_a (by decide) rfl rfl rfl ⟨rfl, rfl⟩ ⟨Nat.le_of_ble_eq_true rfl, Nat.le_of_ble_eq_true rfl⟩ ⟨Nat.zero_le _, Nat.zero_le _⟩ hl.1 (Nat.le_of_ble_eq_true rfl) dX12_readIs_38 (fun H locs hH hS => ?_)
        exact r_zret X hr hH hS hm dX12_readIs_41
    · have hm := m_ite_t hm c5
      refine lv_aload_n hx hb dX12_readIs_22 rfl (lv_at hl 0 rfl) ?_
      refine lv_iconst (v := (4 : Int32)) hx hb dX12_readIs_23 (by decide) ?_
      obtain ⟨v27, S26, e_S26, hm⟩ := m_call_of hm
      refine n_cVi X hH hS (k := 12) (c_X12_bad (a := a) hT hk_a e_S26) mw_X12_bad in_7_219 hk_a (by decide) rfl rfl rfl ⟨rfl, rfl⟩ ⟨Nat.le_of_ble_eq_true rfl, Nat.le_of_ble_eq_true rfl⟩ ⟨Nat.zero_le _, Nat.zero_le _⟩ hl.1 (Nat.le_of_ble_eq_true rfl) dX12_readIs_24 (fun H locs hH hS => ?_)
      exact r_zret X hr hH hS hm dX12_readIs_27
  · have hm := m_ite_t hm c3
    refine lv_aload_n hx hb dX12_readIs_7 rfl (lv_at hl 0 rfl) ?_
    refine lv_iconst (v := (1 : Int32)) hx hb dX12_readIs_8 (by decide) ?_
    obtain ⟨v29, S28, e_S28, hm⟩ := m_call_of hm
    refine n_cVi X hH hS (k := 12) (c_X12_bad (a := a) hT hk_a e_S28) mw_X12_bad in_7_219 hk_a (by decide) rfl rfl rfl ⟨rfl, rfl⟩ ⟨Nat.le_of_ble_eq_true rfl, Nat.le_of_ble_eq_true rfl⟩ ⟨Nat.zero_le _, Nat.zero_le _⟩ hl.1 (Nat.le_of_ble_eq_true rfl) dX12_readIs_9 (fun H locs hH hS => ?_)
    exact r_zret X hr hH hS hm dX12_readIs_12
def rm_X12_program : Room := { frames := 204, cells := 0, slots := 0, locals := 5296 }
def b_X12_program_70 (a : Nat)  (S : m_M)  : Option (Int32 × m_M) :=
    some (((-1 : Int32) - (m_ri S a 11)), S)
set_option maxHeartbeats 4000000 in
set_option maxRecDepth 100000 in
theorem k_X12_program_70 {p : Program} {l : Launch} {e : Env} {s : State} {m : MethodId} {args : Array Value} {below : List Frame} {meth : Method} {c : Code} {G : m_G} {nx : Nat} {κ : Nat → Nat} {res : (Int32 × m_M)} {a : Nat} (X : m_Cx p s m args meth c cX12_program 3 RX12 G) (hr : meth.sig.returnType = (some .int)) (hT : m_Str κ) (hk_a : κ a = 13)  : ∀ (S : m_M)  (H : Heap) (locs : List Loc) (ls : Array Slot), m_H G nx κ S H → m_S G s H locs → lv_has ls 3 [(0, .ref a)] → b_X12_program_70 a S  = some res → W p l e rm_X12_program s m args below meth c H locs 0 0 (m_Qi below args s G nx κ res) (F0 m 70 ls []) := by
  have hx := X.1.1
  have hb := X.1.2.1
  intro S H locs ls hH hS hl hm
  rw [b_X12_program_70] at hm
  refine lv_iconst (v := (-1 : Int32)) hx hb dX12_program_70 (by decide) ?_
  refine lv_aload_n hx hb dX12_program_71 rfl (lv_at hl 0 rfl) ?_
  refine r_geti X hH (k := 12) (a := a) (j := 11) hk_a (by decide) rfl m_wi12 (by decide) in_7_26 rfl rfl dX12_program_72 ?_
  refine lv_isub hx hb dX12_program_75 ?_
  exact r_iret X hr hH hS hm dX12_program_76
def b_X12_program_63 (a : Nat) (K_31 : m_M → Int32 → Option (Int32 × m_M)) (S : m_M) (l1 : Int32) : Option (Int32 × m_M) :=
    m_call (f_X12_readEnd a S) fun v2 S1 =>
    if v2 = 0 then (
    b_X12_program_70 a S1) else (
    m_let (l1 + (1 : Int32)) fun v4 =>
    K_31 S1 v4)
set_option maxHeartbeats 4000000 in
set_option maxRecDepth 100000 in
theorem k_X12_program_63 {p : Program} {l : Launch} {e : Env} {s : State} {m : MethodId} {args : Array Value} {below : List Frame} {meth : Method} {c : Code} {G : m_G} {nx : Nat} {κ : Nat → Nat} {res : (Int32 × m_M)} {a : Nat} (X : m_Cx p s m args meth c cX12_program 3 RX12 G) (hr : meth.sig.returnType = (some .int)) (hT : m_Str κ) (hk_a : κ a = 13) (K_31 : m_M → Int32 → Option (Int32 × m_M)) (hK_31 : ∀ (S : m_M) (l1 : Int32) (H : Heap) (locs : List Loc) (ls : Array Slot), m_H G nx κ S H → m_S G s H locs → lv_has ls 3 [(0, .ref a), (1, .int l1)] → K_31 S l1 = some res → W p l e rm_X12_program s m args below meth c H locs 0 0 (m_Qi below args s G nx κ res) (F0 m 31 ls [])) : ∀ (S : m_M) (l1 : Int32) (H : Heap) (locs : List Loc) (ls : Array Slot), m_H G nx κ S H → m_S G s H locs → lv_has ls 3 [(0, .ref a), (1, .int l1)] → b_X12_program_63 a K_31 S l1 = some res → W p l e rm_X12_program s m args below meth c H locs 0 0 (m_Qi below args s G nx κ res) (F0 m 63 ls []) := by
  have hx := X.1.1
  have hb := X.1.2.1
  intro S l1 H locs ls hH hS hl hm
  rw [b_X12_program_63] at hm
  refine lv_aload_n hx hb dX12_program_63 rfl (lv_at hl 0 rfl) ?_
  obtain ⟨v2, S1, e_S1, hm⟩ := m_call_of hm
  refine n_cVi X hH hS (k := 12) (c_X12_readEnd (a := a) hT hk_a e_S1) mw_X12_readEnd in_8_22 hk_a (by decide) rfl rfl rfl ⟨rfl, rfl⟩ ⟨Nat.le_of_ble_eq_true rfl, Nat.le_of_ble_eq_true rfl⟩ ⟨Nat.zero_le _, Nat.zero_le _⟩ hl.1 (Nat.le_of_ble_eq_true rfl) dX12_program_64 (fun H locs hH hS => ?_)
  refine lv_if_ne (tgt := 77) hx hb dX12_program_67 (by decide) (fun c3 => ?_) (fun c3 => ?_)
  · have hm := m_ite_f hm c3
    obtain ⟨v4, e_v4, hm⟩ := m_let_of hm
    refine lv_iinc (v := v4) (lv' := [(1, .int v4), (0, .ref a)]) hx hb dX12_program_77 hl (k := 1) rfl (by rw [← e_v4]; rfl) (by decide) rfl (fun ls hl => ?_)
    refine lv_goto (tgt := 31) hx hb dX12_program_80 (by decide) ?_
    exact hK_31 S1 v4 _ _ _ hH hS (lv_sub hl [1, 0] rfl) hm
  · have hm := m_ite_t hm c3
    exact k_X12_program_70 (a := a) X hr hT hk_a   S1 _ _ _ hH hS (lv_sub hl [0] rfl) hm
def b_X12_program_132 (a : Nat)  : Nat → m_M → Int32 → Int32 → Option (Int32 × m_M)
  | 0, _, _, _ => none
  | n + 1, S, l1, l2 =>
    if (5 : Int32) ≤ l2 then (
    m_cal0 (f_X12_startSo a S) fun S2 =>
    m_let (m_si S2 a 24 (0 : Int32)) fun S3 =>
    some (l1, S3)) else (
    (m_ldj S (a + 8) 5 l2).bind fun v4 =>
    (m_stj S (a + 7) 5 l2 v4).bind fun S5 =>
    m_let (l2 + (1 : Int32)) fun v6 =>
    b_X12_program_132 a n S5 l1 v6)
set_option maxHeartbeats 4000000 in
set_option maxRecDepth 100000 in
theorem k_X12_program_132 {p : Program} {l : Launch} {e : Env} {s : State} {m : MethodId} {args : Array Value} {below : List Frame} {meth : Method} {c : Code} {G : m_G} {nx : Nat} {κ : Nat → Nat} {res : (Int32 × m_M)} {a : Nat} (X : m_Cx p s m args meth c cX12_program 3 RX12 G) (hr : meth.sig.returnType = (some .int)) (hT : m_Str κ) (hk_a : κ a = 13)  (n : Nat) : ∀ (S : m_M) (l1 : Int32) (l2 : Int32) (H : Heap) (locs : List Loc) (ls : Array Slot), m_H G nx κ S H → m_S G s H locs → lv_has ls 3 [(0, .ref a), (1, .int l1), (2, .int l2)] → b_X12_program_132 a n S l1 l2 = some res → W p l e rm_X12_program s m args below meth c H locs 0 0 (m_Qi below args s G nx κ res) (F0 m 132 ls []) := by
  have hx := X.1.1
  have hb := X.1.2.1
  induction n with
  | zero => intro S l1 l2 H locs ls hH hS hl hm; have hm : (none : Option (Int32 × m_M)) = some res := hm; cases hm
  | succ n ih =>
    intro S l1 l2 H locs ls hH hS hl hm
    rw [b_X12_program_132] at hm
    refine lv_iload_n hx hb dX12_program_132 rfl (lv_at hl 2 rfl) ?_
    refine lv_iconst (v := (5 : Int32)) hx hb dX12_program_133 (by decide) ?_
    refine lv_icmp_ge (tgt := 155) hx hb dX12_program_134 (by decide) (fun c1 => ?_) (fun c1 => ?_)
    · have hm := m_ite_t hm c1
      refine lv_aload_n hx hb dX12_program_155 rfl (lv_at hl 0 rfl) ?_
      obtain ⟨S2, e_S2, hm⟩ := m_cal0_of hm
      refine r_cVv X hH hS (k := 12) (c_X12_startSo (a := a) hT hk_a e_S2) mw_X12_startSo in_6_184 hk_a (by decide) rfl rfl rfl ⟨rfl, rfl⟩ ⟨Nat.le_of_ble_eq_true rfl, Nat.le_of_ble_eq_true rfl⟩ ⟨Nat.zero_le _, Nat.zero_le _⟩ hl.1 (Nat.le_of_ble_eq_true rfl) dX12_program_156 (fun H locs hH hS => ?_)
      refine lv_aload_n hx hb dX12_program_159 rfl (lv_at hl 0 rfl) ?_
      refine lv_iconst (v := (0 : Int32)) hx hb dX12_program_160 (by decide) ?_
      obtain ⟨S3, e_S3, hm⟩ := m_let_of hm
      refine n_puti X hH hS tyX12 (k := 12) (a := a) (j := 24) hk_a (by decide) rfl m_wi12 tyX12_ok nmX12 (by decide) in_7_39 rfl rfl rfl ⟨rfl, rfl⟩ e_S3 dX12_program_161 (fun H locs hH hS => ?_)
      refine lv_iload_n hx hb dX12_program_164 rfl (lv_at hl 1 rfl) ?_
      exact r_iret X hr hH hS hm dX12_program_165
    · have hm := m_ite_f hm c1
      refine lv_aload_n hx hb dX12_program_137 rfl (lv_at hl 0 rfl) ?_
      refine r_getp X hH (k := 12) (a := a) (j := 19) (b := (a + 7)) (A := 7) (B := 0) hk_a (by decide) rfl m_wi12 (by decide) in_7_34 rfl rfl rfl dX12_program_138 ?_
      refine lv_iload_n hx hb dX12_program_141 rfl (lv_at hl 2 rfl) ?_
      refine lv_aload_n hx hb dX12_program_142 rfl (lv_at hl 0 rfl) ?_
      refine r_getp X hH (k := 12) (a := a) (j := 20) (b := (a + 8)) (A := 8) (B := 0) hk_a (by decide) rfl m_wi12 (by decide) in_7_35 rfl rfl rfl dX12_program_143 ?_
      refine lv_iload_n hx hb dX12_program_146 rfl (lv_at hl 2 rfl) ?_
      obtain ⟨v4, h_v4, e_v4, hm⟩ := n_ldj hm
      refine n_lald X hH (n := 5) (m_lay_at hT hk_a (by decide) (i := 8) rfl) h_v4 e_v4 dX12_program_147 ?_
      obtain ⟨S5, h_S5, e_S5, hm⟩ := n_stj hm
      refine n_last X hH hS (n := 5) (m_lay_at hT hk_a (by decide) (i := 7) rfl) h_S5 e_S5 dX12_program_148 (fun H locs hH hS => ?_)
      obtain ⟨v6, e_v6, hm⟩ := m_let_of hm
      refine lv_iinc (v := v6) (lv' := [(2, .int v6), (0, .ref a), (1, .int l1)]) hx hb dX12_program_149 hl (k := 2) rfl (by rw [← e_v6]; rfl) (by decide) rfl (fun ls hl => ?_)
      refine lv_goto (tgt := 132) hx hb dX12_program_152 (by decide) ?_
      exact ih S5 l1 v6 _ _ _ hH hS (lv_sub hl [1, 2, 0] rfl) hm
def b_X12_program_105 (a : Nat)  : Nat → m_M → Int32 → Int32 → Option (Int32 × m_M)
  | 0, _, _, _ => none
  | n + 1, S, l1, l2 =>
    if (210 : Int32) ≤ l2 then (
    b_X12_program_132 a m_fu S l1 (0 : Int32)) else (
    (m_ldi S (a + 3) 210 l2).bind fun v2 =>
    (m_sti S (a + 2) 2647 l2 v2).bind fun S3 =>
    m_let (l2 + (1 : Int32)) fun v4 =>
    b_X12_program_105 a n S3 l1 v4)
set_option maxHeartbeats 4000000 in
set_option maxRecDepth 100000 in
theorem k_X12_program_105 {p : Program} {l : Launch} {e : Env} {s : State} {m : MethodId} {args : Array Value} {below : List Frame} {meth : Method} {c : Code} {G : m_G} {nx : Nat} {κ : Nat → Nat} {res : (Int32 × m_M)} {a : Nat} (X : m_Cx p s m args meth c cX12_program 3 RX12 G) (hr : meth.sig.returnType = (some .int)) (hT : m_Str κ) (hk_a : κ a = 13)  (n : Nat) : ∀ (S : m_M) (l1 : Int32) (l2 : Int32) (H : Heap) (locs : List Loc) (ls : Array Slot), m_H G nx κ S H → m_S G s H locs → lv_has ls 3 [(0, .ref a), (1, .int l1), (2, .int l2)] → b_X12_program_105 a n S l1 l2 = some res → W p l e rm_X12_program s m args below meth c H locs 0 0 (m_Qi below args s G nx κ res) (F0 m 105 ls []) := by
  have hx := X.1.1
  have hb := X.1.2.1
  induction n with
  | zero => intro S l1 l2 H locs ls hH hS hl hm; have hm : (none : Option (Int32 × m_M)) = some res := hm; cases hm
  | succ n ih =>
    intro S l1 l2 H locs ls hH hS hl hm
    rw [b_X12_program_105] at hm
    refine lv_iload_n hx hb dX12_program_105 rfl (lv_at hl 2 rfl) ?_
    refine lv_sipush (v := (210 : Int32)) hx hb dX12_program_106 (by decide) ?_
    refine lv_icmp_ge (tgt := 130) hx hb dX12_program_109 (by decide) (fun c1 => ?_) (fun c1 => ?_)
    · have hm := m_ite_t hm c1
      refine lv_iconst (v := (0 : Int32)) hx hb dX12_program_130 (by decide) ?_
      refine lv_istore_n (lv' := [(2, .int (0 : Int32)), (0, .ref a), (1, .int l1)]) hx hb dX12_program_131 rfl hl (by decide) rfl (fun ls hl => ?_)
      exact k_X12_program_132 (a := a) X hr hT hk_a  m_fu S l1 (0 : Int32) _ _ _ hH hS (lv_sub hl [1, 2, 0] rfl) hm
    · have hm := m_ite_f hm c1
      refine lv_aload_n hx hb dX12_program_112 rfl (lv_at hl 0 rfl) ?_
      refine r_getp X hH (k := 12) (a := a) (j := 14) (b := (a + 2)) (A := 2) (B := 0) hk_a (by decide) rfl m_wi12 (by decide) in_7_29 rfl rfl rfl dX12_program_113 ?_
      refine lv_iload_n hx hb dX12_program_116 rfl (lv_at hl 2 rfl) ?_
      refine lv_aload_n hx hb dX12_program_117 rfl (lv_at hl 0 rfl) ?_
      refine r_getp X hH (k := 12) (a := a) (j := 15) (b := (a + 3)) (A := 3) (B := 0) hk_a (by decide) rfl m_wi12 (by decide) in_7_30 rfl rfl rfl dX12_program_118 ?_
      refine lv_iload_n hx hb dX12_program_121 rfl (lv_at hl 2 rfl) ?_
      obtain ⟨v2, h_v2, e_v2, hm⟩ := n_ldi hm
      refine n_iald X hH (n := 210) (m_lay_at hT hk_a (by decide) (i := 3) rfl) h_v2 e_v2 dX12_program_122 ?_
      obtain ⟨S3, h_S3, e_S3, hm⟩ := n_sti hm
      refine n_iast X hH hS (n := 2647) (m_lay_at hT hk_a (by decide) (i := 2) rfl) h_S3 e_S3 dX12_program_123 (fun H locs hH hS => ?_)
      obtain ⟨v4, e_v4, hm⟩ := m_let_of hm
      refine lv_iinc (v := v4) (lv' := [(2, .int v4), (0, .ref a), (1, .int l1)]) hx hb dX12_program_124 hl (k := 2) rfl (by rw [← e_v4]; rfl) (by decide) rfl (fun ls hl => ?_)
      refine lv_goto (tgt := 105) hx hb dX12_program_127 (by decide) ?_
      exact ih S3 l1 v4 _ _ _ hH hS (lv_sub hl [1, 2, 0] rfl) hm
def b_X12_program_31 (a : Nat)  : Nat → m_M → Int32 → Option (Int32 × m_M)
  | 0, _, _ => none
  | n + 1, S, l1 =>
    if (m_ri S a 7) = 0 then (
    m_call (f_X12_isBare a S) fun v3 S2 =>
    if v3 = 0 then (
    b_X12_program_105 a m_fu S2 l1 (0 : Int32)) else (
    m_call (f_X12_bad a S2 (3 : Int32)) fun v6 S5 =>
    some (((-1 : Int32) - (m_ri S5 a 11)), S5))) else (
    m_call (f_X12_isWord a S (0 : Int32)) fun v8 S7 =>
    if v8 = 0 then (
    m_call (f_X12_readIs a S7) fun v11 S10 =>
    if v11 = 0 then (
    b_X12_program_70 a S10) else (
    b_X12_program_63 a (b_X12_program_31 a n) S10 l1)) else (
    m_call (f_X12_readFun a S7) fun v14 S13 =>
    if v14 = 0 then (
    b_X12_program_70 a S13) else (
    b_X12_program_63 a (b_X12_program_31 a n) S13 l1)))
set_option maxHeartbeats 4000000 in
set_option maxRecDepth 100000 in
theorem k_X12_program_31 {p : Program} {l : Launch} {e : Env} {s : State} {m : MethodId} {args : Array Value} {below : List Frame} {meth : Method} {c : Code} {G : m_G} {nx : Nat} {κ : Nat → Nat} {res : (Int32 × m_M)} {a : Nat} (X : m_Cx p s m args meth c cX12_program 3 RX12 G) (hr : meth.sig.returnType = (some .int)) (hT : m_Str κ) (hk_a : κ a = 13)  (n : Nat) : ∀ (S : m_M) (l1 : Int32) (H : Heap) (locs : List Loc) (ls : Array Slot), m_H G nx κ S H → m_S G s H locs → lv_has ls 3 [(0, .ref a), (1, .int l1)] → b_X12_program_31 a n S l1 = some res → W p l e rm_X12_program s m args below meth c H locs 0 0 (m_Qi below args s G nx κ res) (F0 m 31 ls []) := by
  have hx := X.1.1
  have hb := X.1.2.1
  induction n with
  | zero => intro S l1 H locs ls hH hS hl hm; have hm : (none : Option (Int32 × m_M)) = some res := hm; cases hm
  | succ n ih =>
    intro S l1 H locs ls hH hS hl hm
    rw [b_X12_program_31] at hm
    refine lv_aload_n hx hb dX12_program_31 rfl (lv_at hl 0 rfl) ?_
    refine r_geti X hH (k := 12) (a := a) (j := 7) hk_a (by decide) rfl m_wi12 (by decide) in_7_22 rfl rfl dX12_program_32 ?_
    refine lv_if_eq (tgt := 83) hx hb dX12_program_35 (by decide) (fun c1 => ?_) (fun c1 => ?_)
    · have hm := m_ite_t hm c1
      refine lv_aload_n hx hb dX12_program_83 rfl (lv_at hl 0 rfl) ?_
      obtain ⟨v3, S2, e_S2, hm⟩ := m_call_of hm
      refine n_cVi X hH hS (k := 12) (c_X12_isBare (a := a) hT hk_a e_S2) mw_X12_isBare in_7_211 hk_a (by decide) rfl rfl rfl ⟨rfl, rfl⟩ ⟨Nat.le_of_ble_eq_true rfl, Nat.le_of_ble_eq_true rfl⟩ ⟨Nat.zero_le _, Nat.zero_le _⟩ hl.1 (Nat.le_of_ble_eq_true rfl) dX12_program_84 (fun H locs hH hS => ?_)
      refine lv_if_eq (tgt := 103) hx hb dX12_program_87 (by decide) (fun c4 => ?_) (fun c4 => ?_)
      · have hm := m_ite_t hm c4
        refine lv_iconst (v := (0 : Int32)) hx hb dX12_program_103 (by decide) ?_
        refine lv_istore_n (lv' := [(2, .int (0 : Int32)), (0, .ref a), (1, .int l1)]) hx hb dX12_program_104 rfl hl (by decide) rfl (fun ls hl => ?_)
        exact k_X12_program_105 (a := a) X hr hT hk_a  m_fu S2 l1 (0 : Int32) _ _ _ hH hS (lv_sub hl [1, 2, 0] rfl) hm
      · have hm := m_ite_f hm c4
        refine lv_aload_n hx hb dX12_program_90 rfl (lv_at hl 0 rfl) ?_
        refine lv_iconst (v := (3 : Int32)) hx hb dX12_program_91 (by decide) ?_
        obtain ⟨v6, S5, e_S5, hm⟩ := m_call_of hm
        refine n_cVi X hH hS (k := 12) (c_X12_bad (a := a) hT hk_a e_S5) mw_X12_bad in_7_219 hk_a (by decide) rfl rfl rfl ⟨rfl, rfl⟩ ⟨Nat.le_of_ble_eq_true rfl, Nat.le_of_ble_eq_true rfl⟩ ⟨Nat.zero_le _, Nat.zero_le _⟩ hl.1 (Nat.le_of_ble_eq_true rfl) dX12_program_92 (fun H locs hH hS => ?_)
        refine lv_pop hx hb dX12_program_95 rfl ?_
        refine lv_iconst (v := (-1 : Int32)) hx hb dX12_program_96 (by decide) ?_
        refine lv_aload_n hx hb dX12_program_97 rfl (lv_at hl 0 rfl) ?_
        refine r_geti X hH (k := 12) (a := a) (j := 11) hk_a (by decide) rfl m_wi12 (by decide) in_7_26 rfl rfl dX12_program_98 ?_
        refine lv_isub hx hb dX12_program_101 ?_
        exact r_iret X hr hH hS hm dX12_program_102
    · have hm := m_ite_f hm c1
      refine lv_aload_n hx hb dX12_program_38 rfl (lv_at hl 0 rfl) ?_
      refine lv_iconst (v := (0 : Int32)) hx hb dX12_program_39 (by decide) ?_
      obtain ⟨v8, S7, e_S7, hm⟩ := m_call_of hm
      refine n_cVi X hH hS (k := 12) (c_X12_isWord (a := a) hT hk_a e_S7) mw_X12_isWord in_7_197 hk_a (by decide) rfl rfl rfl ⟨rfl, rfl⟩ ⟨Nat.le_of_ble_eq_true rfl, Nat.le_of_ble_eq_true rfl⟩ ⟨Nat.zero_le _, Nat.zero_le _⟩ hl.1 (Nat.le_of_ble_eq_true rfl) dX12_program_40 (fun H locs hH hS => ?_)
      refine lv_if_eq (tgt := 56) hx hb dX12_program_43 (by decide) (fun c9 => ?_) (fun c9 => ?_)
      · have hm := m_ite_t hm c9
        refine lv_aload_n hx hb dX12_program_56 rfl (lv_at hl 0 rfl) ?_
        obtain ⟨v11, S10, e_S10, hm⟩ := m_call_of hm
        refine n_cVi X hH hS (k := 12) (c_X12_readIs (a := a) hT hk_a e_S10) mw_X12_readIs in_7_238 hk_a (by decide) rfl rfl rfl ⟨rfl, rfl⟩ ⟨Nat.le_of_ble_eq_true rfl, Nat.le_of_ble_eq_true rfl⟩ ⟨Nat.zero_le _, Nat.zero_le _⟩ hl.1 (Nat.le_of_ble_eq_true rfl) dX12_program_57 (fun H locs hH hS => ?_)
        refine lv_if_eq (tgt := 70) hx hb dX12_program_60 (by decide) (fun c12 => ?_) (fun c12 => ?_)
        · have hm := m_ite_t hm c12
          exact k_X12_program_70 (a := a) X hr hT hk_a   S10 _ _ _ hH hS (lv_sub hl [0] rfl) hm
        · have hm := m_ite_f hm c12
          exact k_X12_program_63 (a := a) X hr hT hk_a (b_X12_program_31 a n) ih  S10 l1 _ _ _ hH hS hl hm
      · have hm := m_ite_f hm c9
        refine lv_aload_n hx hb dX12_program_46 rfl (lv_at hl 0 rfl) ?_
        obtain ⟨v14, S13, e_S13, hm⟩ := m_call_of hm
        refine n_cVi X hH hS (k := 12) (c_X12_readFun (a := a) hT hk_a e_S13) mw_X12_readFun in_7_207 hk_a (by decide) rfl rfl rfl ⟨rfl, rfl⟩ ⟨Nat.le_of_ble_eq_true rfl, Nat.le_of_ble_eq_true rfl⟩ ⟨Nat.zero_le _, Nat.zero_le _⟩ hl.1 (Nat.le_of_ble_eq_true rfl) dX12_program_47 (fun H locs hH hS => ?_)
        refine lv_if_eq (tgt := 70) hx hb dX12_program_50 (by decide) (fun c15 => ?_) (fun c15 => ?_)
        · have hm := m_ite_t hm c15
          exact k_X12_program_70 (a := a) X hr hT hk_a   S13 _ _ _ hH hS (lv_sub hl [0] rfl) hm
        · have hm := m_ite_f hm c15
          refine lv_goto (tgt := 63) hx hb dX12_program_53 (by decide) ?_
          exact k_X12_program_63 (a := a) X hr hT hk_a (b_X12_program_31 a n) ih  S13 l1 _ _ _ hH hS hl hm
def b_X12_program_9 (a : Nat)  : Nat → m_M → Int32 → Option (Int32 × m_M)
  | 0, _, _ => none
  | n + 1, S, l1 =>
    if (210 : Int32) ≤ l1 then (
    b_X12_program_31 a m_fu S (0 : Int32)) else (
    (m_sti S (a + 3) 210 l1 (0 : Int32)).bind fun S2 =>
    m_let (l1 + (1 : Int32)) fun v3 =>
    b_X12_program_9 a n S2 v3)
set_option maxHeartbeats 4000000 in
set_option maxRecDepth 100000 in
theorem k_X12_program_9 {p : Program} {l : Launch} {e : Env} {s : State} {m : MethodId} {args : Array Value} {below : List Frame} {meth : Method} {c : Code} {G : m_G} {nx : Nat} {κ : Nat → Nat} {res : (Int32 × m_M)} {a : Nat} (X : m_Cx p s m args meth c cX12_program 3 RX12 G) (hr : meth.sig.returnType = (some .int)) (hT : m_Str κ) (hk_a : κ a = 13)  (n : Nat) : ∀ (S : m_M) (l1 : Int32) (H : Heap) (locs : List Loc) (ls : Array Slot), m_H G nx κ S H → m_S G s H locs → lv_has ls 3 [(0, .ref a), (1, .int l1)] → b_X12_program_9 a n S l1 = some res → W p l e rm_X12_program s m args below meth c H locs 0 0 (m_Qi below args s G nx κ res) (F0 m 9 ls []) := by
  have hx := X.1.1
  have hb := X.1.2.1
  induction n with
  | zero => intro S l1 H locs ls hH hS hl hm; have hm : (none : Option (Int32 × m_M)) = some res := hm; cases hm
  | succ n ih =>
    intro S l1 H locs ls hH hS hl hm
    rw [b_X12_program_9] at hm
    refine lv_iload_n hx hb dX12_program_9 rfl (lv_at hl 1 rfl) ?_
    refine lv_sipush (v := (210 : Int32)) hx hb dX12_program_10 (by decide) ?_
    refine lv_icmp_ge (tgt := 29) hx hb dX12_program_13 (by decide) (fun c1 => ?_) (fun c1 => ?_)
    · have hm := m_ite_t hm c1
      refine lv_iconst (v := (0 : Int32)) hx hb dX12_program_29 (by decide) ?_
      refine lv_istore_n (lv' := [(1, .int (0 : Int32)), (0, .ref a)]) hx hb dX12_program_30 rfl hl (by decide) rfl (fun ls hl => ?_)
      exact k_X12_program_31 (a := a) X hr hT hk_a  m_fu S (0 : Int32) _ _ _ hH hS (lv_sub hl [1, 0] rfl) hm
    · have hm := m_ite_f hm c1
      refine lv_aload_n hx hb dX12_program_16 rfl (lv_at hl 0 rfl) ?_
      refine r_getp X hH (k := 12) (a := a) (j := 15) (b := (a + 3)) (A := 3) (B := 0) hk_a (by decide) rfl m_wi12 (by decide) in_7_30 rfl rfl rfl dX12_program_17 ?_
      refine lv_iload_n hx hb dX12_program_20 rfl (lv_at hl 1 rfl) ?_
      refine lv_iconst (v := (0 : Int32)) hx hb dX12_program_21 (by decide) ?_
      obtain ⟨S2, h_S2, e_S2, hm⟩ := n_sti hm
      refine n_iast X hH hS (n := 210) (m_lay_at hT hk_a (by decide) (i := 3) rfl) h_S2 e_S2 dX12_program_22 (fun H locs hH hS => ?_)
      obtain ⟨v3, e_v3, hm⟩ := m_let_of hm
      refine lv_iinc (v := v3) (lv' := [(1, .int v3), (0, .ref a)]) hx hb dX12_program_23 hl (k := 1) rfl (by rw [← e_v3]; rfl) (by decide) rfl (fun ls hl => ?_)
      refine lv_goto (tgt := 9) hx hb dX12_program_26 (by decide) ?_
      exact ih S2 v3 _ _ _ hH hS (lv_sub hl [1, 0] rfl) hm
def f_X12_program (a : Nat) (S : m_M)  : Option (Int32 × m_M) :=
    m_cal0 (f_X12_begin a S (900 : Int32)) fun S1 =>
    b_X12_program_9 a m_fu S1 (0 : Int32)
set_option maxHeartbeats 4000000 in
set_option maxRecDepth 100000 in
theorem c_X12_program {l : Launch} {G : m_G} {nx : Nat} {κ : Nat → Nat} {a : Nat} {S : m_M}  {res : (Int32 × m_M)} (hT : m_Str κ) (hk_a : κ a = 13) (hm : f_X12_program a S = some res) : m_Ci l yX12_program cX12_program 3 (some .int) rm_X12_program G nx κ [.ref a] S res := by
  refine m_Ci.of (by decide) (Nat.le_of_ble_eq_true rfl) ?_
  intro p e s m args below meth c ls X hr hH hl
  have hx := X.1.1
  have hb := X.1.2.1
  have hS : m_S G s s.heap [] := va_S.rf
  have hl : lv_has ls 3 [(0, .ref a)] := hl
  rw [f_X12_program] at hm
  refine lv_aload_n hx hb dX12_program_0 rfl (lv_at hl 0 rfl) ?_
  refine lv_sipush (v := (900 : Int32)) hx hb dX12_program_1 (by decide) ?_
  obtain ⟨S1, e_S1, hm⟩ := m_cal0_of hm
  refine r_cVv X hH hS (k := 12) (c_X12_begin (a := a) hT hk_a e_S1) mw_X12_begin in_7_173 hk_a (by decide) rfl rfl rfl ⟨rfl, rfl⟩ ⟨Nat.le_of_ble_eq_true rfl, Nat.le_of_ble_eq_true rfl⟩ ⟨Nat.zero_le _, Nat.zero_le _⟩ hl.1 (Nat.le_of_ble_eq_true rfl) dX12_program_4 (fun H locs hH hS => ?_)
  refine lv_iconst (v := (0 : Int32)) hx hb dX12_program_7 (by decide) ?_
  refine lv_istore_n (lv' := [(1, .int (0 : Int32)), (0, .ref a)]) hx hb dX12_program_8 rfl hl (by decide) rfl (fun ls hl => ?_)
  exact k_X12_program_9 (a := a) X hr hT hk_a  m_fu S1 (0 : Int32) _ _ _ hH hS (lv_sub hl [1, 0] rfl) hm
def rm_X12_fault : Room := { frames := 0, cells := 0, slots := 0, locals := 0 }
def f_X12_fault (a : Nat) (S : m_M)  : Option (Int32 × m_M) :=
    m_let (m_si S a 0 (0 : Int32)) fun S1 =>
    some ((m_ri S1 a 10), S1)
set_option maxHeartbeats 4000000 in
set_option maxRecDepth 100000 in
theorem c_X12_fault {l : Launch} {G : m_G} {nx : Nat} {κ : Nat → Nat} {a : Nat} {S : m_M}  {res : (Int32 × m_M)} (hT : m_Str κ) (hk_a : κ a = 13) (hm : f_X12_fault a S = some res) : m_Ci l yX12_fault cX12_fault 1 (some .int) rm_X12_fault G nx κ [.ref a] S res := by
  refine m_Ci.of (by decide) (Nat.le_of_ble_eq_true rfl) ?_
  intro p e s m args below meth c ls X hr hH hl
  have hx := X.1.1
  have hb := X.1.2.1
  have hS : m_S G s s.heap [] := va_S.rf
  have hl : lv_has ls 1 [(0, .ref a)] := hl
  rw [f_X12_fault] at hm
  refine lv_aload_n hx hb dX12_fault_0 rfl (lv_at hl 0 rfl) ?_
  refine lv_iconst (v := (0 : Int32)) hx hb dX12_fault_1 (by decide) ?_
  obtain ⟨S1, e_S1, hm⟩ := m_let_of hm
  refine n_puti X hH hS tyX12 (k := 12) (a := a) (j := 0) hk_a (by decide) rfl m_wi12 tyX12_ok nmX12 (by decide) in_7_15 rfl rfl rfl ⟨rfl, rfl⟩ e_S1 dX12_fault_2 (fun H locs hH hS => ?_)
  refine lv_aload_n hx hb dX12_fault_5 rfl (lv_at hl 0 rfl) ?_
  refine r_geti X hH (k := 12) (a := a) (j := 10) hk_a (by decide) rfl m_wi12 (by decide) in_7_25 rfl rfl dX12_fault_6 ?_
  exact r_iret X hr hH hS hm dX12_fault_9
def rm_X12_isFun : Room := { frames := 1, cells := 0, slots := 0, locals := 22 }
def f_X12_isFun (a : Nat) (S : m_M) (i1 : Int32) : Option (Int32 × m_M) :=
    (m_ldi S (a + 2) 2647 (0 : Int32)).bind fun v1 =>
    m_call (f_X12_isIn S i1 (0 : Int32) (v1 - (1 : Int32))) fun v3 S2 =>
    if v3 = 0 ∨ v3 = 1 then some (v3, S2) else none
set_option maxHeartbeats 4000000 in
set_option maxRecDepth 100000 in
theorem c_X12_isFun {l : Launch} {G : m_G} {nx : Nat} {κ : Nat → Nat} {a : Nat} {S : m_M} {i1 : Int32} {res : (Int32 × m_M)} (hT : m_Str κ) (hk_a : κ a = 13) (hm : f_X12_isFun a S i1 = some res) : m_Ci l yX12_isFun cX12_isFun 2 (some .boolean) rm_X12_isFun G nx κ [.ref a, .int i1] S res := by
  refine m_Ci.of (by decide) (Nat.le_of_ble_eq_true rfl) ?_
  intro p e s m args below meth c ls X hr hH hl
  have hx := X.1.1
  have hb := X.1.2.1
  have hS : m_S G s s.heap [] := va_S.rf
  have hl : lv_has ls 2 [(0, .ref a), (1, .int i1)] := hl
  rw [f_X12_isFun] at hm
  refine lv_iload_n hx hb dX12_isFun_0 rfl (lv_at hl 1 rfl) ?_
  refine lv_iconst (v := (0 : Int32)) hx hb dX12_isFun_1 (by decide) ?_
  refine lv_aload_n hx hb dX12_isFun_2 rfl (lv_at hl 0 rfl) ?_
  refine r_getp X hH (k := 12) (a := a) (j := 14) (b := (a + 2)) (A := 2) (B := 0) hk_a (by decide) rfl m_wi12 (by decide) in_7_29 rfl rfl rfl dX12_isFun_3 ?_
  refine lv_iconst (v := (0 : Int32)) hx hb dX12_isFun_6 (by decide) ?_
  obtain ⟨v1, h_v1, e_v1, hm⟩ := n_ldi hm
  refine n_iald X hH (n := 2647) (m_lay_at hT hk_a (by decide) (i := 2) rfl) h_v1 e_v1 dX12_isFun_7 ?_
  refine lv_iconst (v := (1 : Int32)) hx hb dX12_isFun_8 (by decide) ?_
  refine lv_isub hx hb dX12_isFun_9 ?_
  obtain ⟨v3, S2, e_S2, hm⟩ := m_call_of hm
  refine n_cSi X hH hS (c_X12_isIn  hT  e_S2) mw_X12_isIn in_8_42 rfl ⟨rfl, rfl⟩ ⟨Nat.le_of_ble_eq_true rfl, Nat.le_of_ble_eq_true rfl⟩ ⟨Nat.zero_le _, Nat.zero_le _⟩ hl.1 (Nat.le_of_ble_eq_true rfl) dX12_isFun_10 (fun H locs hH hS => ?_)
  exact r_zret X hr hH hS hm dX12_isFun_13
def rm_X12_isRegion : Room := { frames := 1, cells := 0, slots := 0, locals := 22 }
def f_X12_isRegion (a : Nat) (S : m_M) (i1 : Int32) : Option (Int32 × m_M) :=
    (m_ldi S (a + 2) 2647 (2 : Int32)).bind fun v1 =>
    m_call (f_X12_isIn S i1 (0 : Int32) (v1 - (1 : Int32))) fun v3 S2 =>
    if v3 = 0 ∨ v3 = 1 then some (v3, S2) else none
set_option maxHeartbeats 4000000 in
set_option maxRecDepth 100000 in
theorem c_X12_isRegion {l : Launch} {G : m_G} {nx : Nat} {κ : Nat → Nat} {a : Nat} {S : m_M} {i1 : Int32} {res : (Int32 × m_M)} (hT : m_Str κ) (hk_a : κ a = 13) (hm : f_X12_isRegion a S i1 = some res) : m_Ci l yX12_isRegion cX12_isRegion 2 (some .boolean) rm_X12_isRegion G nx κ [.ref a, .int i1] S res := by
  refine m_Ci.of (by decide) (Nat.le_of_ble_eq_true rfl) ?_
  intro p e s m args below meth c ls X hr hH hl
  have hx := X.1.1
  have hb := X.1.2.1
  have hS : m_S G s s.heap [] := va_S.rf
  have hl : lv_has ls 2 [(0, .ref a), (1, .int i1)] := hl
  rw [f_X12_isRegion] at hm
  refine lv_iload_n hx hb dX12_isRegion_0 rfl (lv_at hl 1 rfl) ?_
  refine lv_iconst (v := (0 : Int32)) hx hb dX12_isRegion_1 (by decide) ?_
  refine lv_aload_n hx hb dX12_isRegion_2 rfl (lv_at hl 0 rfl) ?_
  refine r_getp X hH (k := 12) (a := a) (j := 14) (b := (a + 2)) (A := 2) (B := 0) hk_a (by decide) rfl m_wi12 (by decide) in_7_29 rfl rfl rfl dX12_isRegion_3 ?_
  refine lv_iconst (v := (2 : Int32)) hx hb dX12_isRegion_6 (by decide) ?_
  obtain ⟨v1, h_v1, e_v1, hm⟩ := n_ldi hm
  refine n_iald X hH (n := 2647) (m_lay_at hT hk_a (by decide) (i := 2) rfl) h_v1 e_v1 dX12_isRegion_7 ?_
  refine lv_iconst (v := (1 : Int32)) hx hb dX12_isRegion_8 (by decide) ?_
  refine lv_isub hx hb dX12_isRegion_9 ?_
  obtain ⟨v3, S2, e_S2, hm⟩ := m_call_of hm
  refine n_cSi X hH hS (c_X12_isIn  hT  e_S2) mw_X12_isIn in_8_42 rfl ⟨rfl, rfl⟩ ⟨Nat.le_of_ble_eq_true rfl, Nat.le_of_ble_eq_true rfl⟩ ⟨Nat.zero_le _, Nat.zero_le _⟩ hl.1 (Nat.le_of_ble_eq_true rfl) dX12_isRegion_10 (fun H locs hH hS => ?_)
  exact r_zret X hr hH hS hm dX12_isRegion_13
def rm_X12_mainFun : Room := { frames := 0, cells := 0, slots := 0, locals := 0 }
def f_X12_mainFun (a : Nat) (S : m_M)  : Option (Int32 × m_M) :=
    (m_ldi S (a + 2) 2647 (0 : Int32)).bind fun v1 =>
    some ((v1 - (1 : Int32)), S)
set_option maxHeartbeats 4000000 in
set_option maxRecDepth 100000 in
theorem c_X12_mainFun {l : Launch} {G : m_G} {nx : Nat} {κ : Nat → Nat} {a : Nat} {S : m_M}  {res : (Int32 × m_M)} (hT : m_Str κ) (hk_a : κ a = 13) (hm : f_X12_mainFun a S = some res) : m_Ci l yX12_mainFun cX12_mainFun 1 (some .int) rm_X12_mainFun G nx κ [.ref a] S res := by
  refine m_Ci.of (by decide) (Nat.le_of_ble_eq_true rfl) ?_
  intro p e s m args below meth c ls X hr hH hl
  have hx := X.1.1
  have hb := X.1.2.1
  have hS : m_S G s s.heap [] := va_S.rf
  have hl : lv_has ls 1 [(0, .ref a)] := hl
  rw [f_X12_mainFun] at hm
  refine lv_aload_n hx hb dX12_mainFun_0 rfl (lv_at hl 0 rfl) ?_
  refine r_getp X hH (k := 12) (a := a) (j := 14) (b := (a + 2)) (A := 2) (B := 0) hk_a (by decide) rfl m_wi12 (by decide) in_7_29 rfl rfl rfl dX12_mainFun_1 ?_
  refine lv_iconst (v := (0 : Int32)) hx hb dX12_mainFun_4 (by decide) ?_
  obtain ⟨v1, h_v1, e_v1, hm⟩ := n_ldi hm
  refine n_iald X hH (n := 2647) (m_lay_at hT hk_a (by decide) (i := 2) rfl) h_v1 e_v1 dX12_mainFun_5 ?_
  refine lv_iconst (v := (1 : Int32)) hx hb dX12_mainFun_6 (by decide) ?_
  refine lv_isub hx hb dX12_mainFun_7 ?_
  exact r_iret X hr hH hS hm dX12_mainFun_8
def rm_X12_ownersOf : Room := { frames := 1, cells := 0, slots := 0, locals := 21 }
def b_X12_ownersOf_33 (a : Nat) (K_4 : m_M → Int32 → Int32 → Int32 → Option (Int32 × m_M)) (S : m_M) (l1 : Int32) (l2 : Int32) (l3 : Int32) : Option (Int32 × m_M) :=
    m_let (l3 + (1 : Int32)) fun v1 =>
    K_4 S l1 l2 v1
set_option maxHeartbeats 4000000 in
set_option maxRecDepth 100000 in
theorem k_X12_ownersOf_33 {p : Program} {l : Launch} {e : Env} {s : State} {m : MethodId} {args : Array Value} {below : List Frame} {meth : Method} {c : Code} {G : m_G} {nx : Nat} {κ : Nat → Nat} {res : (Int32 × m_M)} {a : Nat} (X : m_Cx p s m args meth c cX12_ownersOf 4 RX12 G) (hr : meth.sig.returnType = (some .int)) (hT : m_Str κ) (hk_a : κ a = 13) (K_4 : m_M → Int32 → Int32 → Int32 → Option (Int32 × m_M)) (hK_4 : ∀ (S : m_M) (l1 : Int32) (l2 : Int32) (l3 : Int32) (H : Heap) (locs : List Loc) (ls : Array Slot), m_H G nx κ S H → m_S G s H locs → lv_has ls 4 [(0, .ref a), (1, .int l1), (2, .int l2), (3, .int l3)] → K_4 S l1 l2 l3 = some res → W p l e rm_X12_ownersOf s m args below meth c H locs 0 0 (m_Qi below args s G nx κ res) (F0 m 4 ls [])) : ∀ (S : m_M) (l1 : Int32) (l2 : Int32) (l3 : Int32) (H : Heap) (locs : List Loc) (ls : Array Slot), m_H G nx κ S H → m_S G s H locs → lv_has ls 4 [(0, .ref a), (1, .int l1), (2, .int l2), (3, .int l3)] → b_X12_ownersOf_33 a K_4 S l1 l2 l3 = some res → W p l e rm_X12_ownersOf s m args below meth c H locs 0 0 (m_Qi below args s G nx κ res) (F0 m 33 ls []) := by
  have hx := X.1.1
  have hb := X.1.2.1
  intro S l1 l2 l3 H locs ls hH hS hl hm
  rw [b_X12_ownersOf_33] at hm
  obtain ⟨v1, e_v1, hm⟩ := m_let_of hm
  refine lv_iinc (v := v1) (lv' := [(3, .int v1), (0, .ref a), (1, .int l1), (2, .int l2)]) hx hb dX12_ownersOf_33 hl (k := 3) rfl (by rw [← e_v1]; rfl) (by decide) rfl (fun ls hl => ?_)
  refine lv_goto (tgt := 4) hx hb dX12_ownersOf_36 (by decide) ?_
  exact hK_4 S l1 l2 v1 _ _ _ hH hS (lv_sub hl [1, 2, 3, 0] rfl) hm
def b_X12_ownersOf_4 (a : Nat)  : Nat → m_M → Int32 → Int32 → Int32 → Option (Int32 × m_M)
  | 0, _, _, _, _ => none
  | n + 1, S, l1, l2, l3 =>
    (m_ldi S (a + 2) 2647 (0 : Int32)).bind fun v1 =>
    if v1 ≤ l3 then (
    some (l2, S)) else (
    (m_ldi S (a + 19) 5 l3).bind fun v3 =>
    m_call (f_X12_has S v3 l1) fun v5 S4 =>
    if v5 = 0 then (
    b_X12_ownersOf_33 a (b_X12_ownersOf_4 a n) S4 l1 l2 l3) else (
    m_let (l2 ||| ((1 : Int32) <<< (l3 &&& 31))) fun v7 =>
    b_X12_ownersOf_33 a (b_X12_ownersOf_4 a n) S4 l1 v7 l3))
set_option maxHeartbeats 4000000 in
set_option maxRecDepth 100000 in
theorem k_X12_ownersOf_4 {p : Program} {l : Launch} {e : Env} {s : State} {m : MethodId} {args : Array Value} {below : List Frame} {meth : Method} {c : Code} {G : m_G} {nx : Nat} {κ : Nat → Nat} {res : (Int32 × m_M)} {a : Nat} (X : m_Cx p s m args meth c cX12_ownersOf 4 RX12 G) (hr : meth.sig.returnType = (some .int)) (hT : m_Str κ) (hk_a : κ a = 13)  (n : Nat) : ∀ (S : m_M) (l1 : Int32) (l2 : Int32) (l3 : Int32) (H : Heap) (locs : List Loc) (ls : Array Slot), m_H G nx κ S H → m_S G s H locs → lv_has ls 4 [(0, .ref a), (1, .int l1), (2, .int l2), (3, .int l3)] → b_X12_ownersOf_4 a n S l1 l2 l3 = some res → W p l e rm_X12_ownersOf s m args below meth c H locs 0 0 (m_Qi below args s G nx κ res) (F0 m 4 ls []) := by
  have hx := X.1.1
  have hb := X.1.2.1
  induction n with
  | zero => intro S l1 l2 l3 H locs ls hH hS hl hm; have hm : (none : Option (Int32 × m_M)) = some res := hm; cases hm
  | succ n ih =>
    intro S l1 l2 l3 H locs ls hH hS hl hm
    rw [b_X12_ownersOf_4] at hm
    refine lv_iload_n hx hb dX12_ownersOf_4 rfl (lv_at hl 3 rfl) ?_
    refine lv_aload_n hx hb dX12_ownersOf_5 rfl (lv_at hl 0 rfl) ?_
    refine r_getp X hH (k := 12) (a := a) (j := 14) (b := (a + 2)) (A := 2) (B := 0) hk_a (by decide) rfl m_wi12 (by decide) in_7_29 rfl rfl rfl dX12_ownersOf_6 ?_
    refine lv_iconst (v := (0 : Int32)) hx hb dX12_ownersOf_9 (by decide) ?_
    obtain ⟨v1, h_v1, e_v1, hm⟩ := n_ldi hm
    refine n_iald X hH (n := 2647) (m_lay_at hT hk_a (by decide) (i := 2) rfl) h_v1 e_v1 dX12_ownersOf_10 ?_
    refine lv_icmp_ge (tgt := 39) hx hb dX12_ownersOf_11 (by decide) (fun c2 => ?_) (fun c2 => ?_)
    · have hm := m_ite_t hm c2
      refine lv_iload_n hx hb dX12_ownersOf_39 rfl (lv_at hl 2 rfl) ?_
      exact r_iret X hr hH hS hm dX12_ownersOf_40
    · have hm := m_ite_f hm c2
      refine lv_aload_n hx hb dX12_ownersOf_14 rfl (lv_at hl 0 rfl) ?_
      refine r_getp X hH (k := 12) (a := a) (j := 32) (b := (a + 19)) (A := 19) (B := 0) hk_a (by decide) rfl m_wi12 (by decide) in_7_47 rfl rfl rfl dX12_ownersOf_15 ?_
      refine lv_iload_n hx hb dX12_ownersOf_18 rfl (lv_at hl 3 rfl) ?_
      obtain ⟨v3, h_v3, e_v3, hm⟩ := n_ldi hm
      refine n_iald X hH (n := 5) (m_lay_at hT hk_a (by decide) (i := 19) rfl) h_v3 e_v3 dX12_ownersOf_19 ?_
      refine lv_iload_n hx hb dX12_ownersOf_20 rfl (lv_at hl 1 rfl) ?_
      obtain ⟨v5, S4, e_S4, hm⟩ := m_call_of hm
      refine n_cSi X hH hS (c_X12_has  hT  e_S4) mw_X12_has in_7_0 rfl ⟨rfl, rfl⟩ ⟨Nat.le_of_ble_eq_true rfl, Nat.le_of_ble_eq_true rfl⟩ ⟨Nat.zero_le _, Nat.zero_le _⟩ hl.1 (Nat.le_of_ble_eq_true rfl) dX12_ownersOf_21 (fun H locs hH hS => ?_)
      refine lv_if_eq (tgt := 33) hx hb dX12_ownersOf_24 (by decide) (fun c6 => ?_) (fun c6 => ?_)
      · have hm := m_ite_t hm c6
        exact k_X12_ownersOf_33 (a := a) X hr hT hk_a (b_X12_ownersOf_4 a n) ih  S4 l1 l2 l3 _ _ _ hH hS hl hm
      · have hm := m_ite_f hm c6
        refine lv_iload_n hx hb dX12_ownersOf_27 rfl (lv_at hl 2 rfl) ?_
        refine lv_iconst (v := (1 : Int32)) hx hb dX12_ownersOf_28 (by decide) ?_
        refine lv_iload_n hx hb dX12_ownersOf_29 rfl (lv_at hl 3 rfl) ?_
        refine lv_ishl hx hb dX12_ownersOf_30 ?_
        refine lv_ior hx hb dX12_ownersOf_31 ?_
        obtain ⟨v7, e_v7, hm⟩ := m_let_of hm
        refine n_topi e_v7 ?_
        refine lv_istore_n (lv' := [(2, .int v7), (0, .ref a), (1, .int l1), (3, .int l3)]) hx hb dX12_ownersOf_32 rfl hl (by decide) rfl (fun ls hl => ?_)
        exact k_X12_ownersOf_33 (a := a) X hr hT hk_a (b_X12_ownersOf_4 a n) ih  S4 l1 v7 l3 _ _ _ hH hS (lv_sub hl [1, 2, 0, 3] rfl) hm
def f_X12_ownersOf (a : Nat) (S : m_M) (i1 : Int32) : Option (Int32 × m_M) :=
    b_X12_ownersOf_4 a m_fu S i1 (0 : Int32) (0 : Int32)
set_option maxHeartbeats 4000000 in
set_option maxRecDepth 100000 in
theorem c_X12_ownersOf {l : Launch} {G : m_G} {nx : Nat} {κ : Nat → Nat} {a : Nat} {S : m_M} {i1 : Int32} {res : (Int32 × m_M)} (hT : m_Str κ) (hk_a : κ a = 13) (hm : f_X12_ownersOf a S i1 = some res) : m_Ci l yX12_ownersOf cX12_ownersOf 4 (some .int) rm_X12_ownersOf G nx κ [.ref a, .int i1] S res := by
  refine m_Ci.of (by decide) (Nat.le_of_ble_eq_true rfl) ?_
  intro p e s m args below meth c ls X hr hH hl
  have hx := X.1.1
  have hb := X.1.2.1
  have hS : m_S G s s.heap [] := va_S.rf
  have hl : lv_has ls 4 [(0, .ref a), (1, .int i1)] := hl
  rw [f_X12_ownersOf] at hm
  refine lv_iconst (v := (0 : Int32)) hx hb dX12_ownersOf_0 (by decide) ?_
  refine lv_istore_n (lv' := [(2, .int (0 : Int32)), (0, .ref a), (1, .int i1)]) hx hb dX12_ownersOf_1 rfl hl (by decide) rfl (fun ls hl => ?_)
  refine lv_iconst (v := (0 : Int32)) hx hb dX12_ownersOf_2 (by decide) ?_
  refine lv_istore_n (lv' := [(3, .int (0 : Int32)), (2, .int (0 : Int32)), (0, .ref a), (1, .int i1)]) hx hb dX12_ownersOf_3 rfl hl (by decide) rfl (fun ls hl => ?_)
  exact k_X12_ownersOf_4 (a := a) X hr hT hk_a  m_fu S i1 (0 : Int32) (0 : Int32) _ _ _ hH hS (lv_sub hl [2, 3, 1, 0] rfl) hm
def rm_X12_isOuter : Room := { frames := 1, cells := 0, slots := 0, locals := 21 }
def f_X12_isOuter (a : Nat) (S : m_M) (i1 : Int32) : Option (Int32 × m_M) :=
    m_call (f_X12_mainFun a S) fun v2 S1 =>
    (m_ldi S1 (a + 18) 5 v2).bind fun v3 =>
    m_call (f_X12_has S1 v3 i1) fun v5 S4 =>
    if v5 = 0 ∨ v5 = 1 then some (v5, S4) else none
set_option maxHeartbeats 4000000 in
set_option maxRecDepth 100000 in
theorem c_X12_isOuter {l : Launch} {G : m_G} {nx : Nat} {κ : Nat → Nat} {a : Nat} {S : m_M} {i1 : Int32} {res : (Int32 × m_M)} (hT : m_Str κ) (hk_a : κ a = 13) (hm : f_X12_isOuter a S i1 = some res) : m_Ci l yX12_isOuter cX12_isOuter 2 (some .boolean) rm_X12_isOuter G nx κ [.ref a, .int i1] S res := by
  refine m_Ci.of (by decide) (Nat.le_of_ble_eq_true rfl) ?_
  intro p e s m args below meth c ls X hr hH hl
  have hx := X.1.1
  have hb := X.1.2.1
  have hS : m_S G s s.heap [] := va_S.rf
  have hl : lv_has ls 2 [(0, .ref a), (1, .int i1)] := hl
  rw [f_X12_isOuter] at hm
  refine lv_aload_n hx hb dX12_isOuter_0 rfl (lv_at hl 0 rfl) ?_
  refine r_getp X hH (k := 12) (a := a) (j := 31) (b := (a + 18)) (A := 18) (B := 0) hk_a (by decide) rfl m_wi12 (by decide) in_7_46 rfl rfl rfl dX12_isOuter_1 ?_
  refine lv_aload_n hx hb dX12_isOuter_4 rfl (lv_at hl 0 rfl) ?_
  obtain ⟨v2, S1, e_S1, hm⟩ := m_call_of hm
  refine n_cVi X hH hS (k := 12) (c_X12_mainFun (a := a) hT hk_a e_S1) mw_X12_mainFun in_8_81 hk_a (by decide) rfl rfl rfl ⟨rfl, rfl⟩ ⟨Nat.le_of_ble_eq_true rfl, Nat.le_of_ble_eq_true rfl⟩ ⟨Nat.zero_le _, Nat.zero_le _⟩ hl.1 (Nat.le_of_ble_eq_true rfl) dX12_isOuter_5 (fun H locs hH hS => ?_)
  obtain ⟨v3, h_v3, e_v3, hm⟩ := n_ldi hm
  refine n_iald X hH (n := 5) (m_lay_at hT hk_a (by decide) (i := 18) rfl) h_v3 e_v3 dX12_isOuter_8 ?_
  refine lv_iload_n hx hb dX12_isOuter_9 rfl (lv_at hl 1 rfl) ?_
  obtain ⟨v5, S4, e_S4, hm⟩ := m_call_of hm
  refine n_cSi X hH hS (c_X12_has  hT  e_S4) mw_X12_has in_7_0 rfl ⟨rfl, rfl⟩ ⟨Nat.le_of_ble_eq_true rfl, Nat.le_of_ble_eq_true rfl⟩ ⟨Nat.zero_le _, Nat.zero_le _⟩ hl.1 (Nat.le_of_ble_eq_true rfl) dX12_isOuter_10 (fun H locs hH hS => ?_)
  exact r_zret X hr hH hS hm dX12_isOuter_13
def rm_X12_isFinite : Room := { frames := 2, cells := 0, slots := 0, locals := 44 }
def b_X12_isFinite_41 (a : Nat)  (S : m_M) (t0 : Int32) : Option (Int32 × m_M) :=
    if t0 = 0 ∨ t0 = 1 then some (t0, S) else none
set_option maxHeartbeats 4000000 in
set_option maxRecDepth 100000 in
theorem k_X12_isFinite_41 {p : Program} {l : Launch} {e : Env} {s : State} {m : MethodId} {args : Array Value} {below : List Frame} {meth : Method} {c : Code} {G : m_G} {nx : Nat} {κ : Nat → Nat} {res : (Int32 × m_M)} {a : Nat} (X : m_Cx p s m args meth c cX12_isFinite 2 RX12 G) (hr : meth.sig.returnType = (some .boolean)) (hT : m_Str κ) (hk_a : κ a = 13)  : ∀ (S : m_M) (t0 : Int32) (H : Heap) (locs : List Loc) (ls : Array Slot), m_H G nx κ S H → m_S G s H locs → lv_has ls 2 [] → b_X12_isFinite_41 a S t0 = some res → W p l e rm_X12_isFinite s m args below meth c H locs 0 0 (m_Qi below args s G nx κ res) (F0 m 41 ls [.int t0]) := by
  have hx := X.1.1
  have hb := X.1.2.1
  intro S t0 H locs ls hH hS hl hm
  rw [b_X12_isFinite_41] at hm
  exact r_zret X hr hH hS hm dX12_isFinite_41
def b_X12_isFinite_40 (a : Nat)  (S : m_M)  : Option (Int32 × m_M) :=
    b_X12_isFinite_41 a S (0 : Int32)
set_option maxHeartbeats 4000000 in
set_option maxRecDepth 100000 in
theorem k_X12_isFinite_40 {p : Program} {l : Launch} {e : Env} {s : State} {m : MethodId} {args : Array Value} {below : List Frame} {meth : Method} {c : Code} {G : m_G} {nx : Nat} {κ : Nat → Nat} {res : (Int32 × m_M)} {a : Nat} (X : m_Cx p s m args meth c cX12_isFinite 2 RX12 G) (hr : meth.sig.returnType = (some .boolean)) (hT : m_Str κ) (hk_a : κ a = 13)  : ∀ (S : m_M)  (H : Heap) (locs : List Loc) (ls : Array Slot), m_H G nx κ S H → m_S G s H locs → lv_has ls 2 [] → b_X12_isFinite_40 a S  = some res → W p l e rm_X12_isFinite s m args below meth c H locs 0 0 (m_Qi below args s G nx κ res) (F0 m 40 ls []) := by
  have hx := X.1.1
  have hb := X.1.2.1
  intro S H locs ls hH hS hl hm
  rw [b_X12_isFinite_40] at hm
  refine lv_iconst (v := (0 : Int32)) hx hb dX12_isFinite_40 (by decide) ?_
  exact k_X12_isFinite_41 (a := a) X hr hT hk_a   S (0 : Int32) _ _ _ hH hS hl hm
def f_X12_isFinite (a : Nat) (S : m_M) (i1 : Int32) : Option (Int32 × m_M) :=
    m_call (f_X12_isOuter a S i1) fun v2 S1 =>
    if v2 = 0 then (
    (m_ldi S1 (a + 22) 24 i1).bind fun v4 =>
    m_call (f_X12_bits S1 v4) fun v6 S5 =>
    if v6 = (1 : Int32) then (
    m_call (f_X12_ownersOf a S5 i1) fun v9 S8 =>
    (m_ldi S8 (a + 22) 24 i1).bind fun v10 =>
    if (v9 &&& v10) = 0 then (
    b_X12_isFinite_40 a S8) else (
    b_X12_isFinite_41 a S8 (1 : Int32))) else (
    b_X12_isFinite_40 a S5)) else (
    b_X12_isFinite_40 a S1)
set_option maxHeartbeats 4000000 in
set_option maxRecDepth 100000 in
theorem c_X12_isFinite {l : Launch} {G : m_G} {nx : Nat} {κ : Nat → Nat} {a : Nat} {S : m_M} {i1 : Int32} {res : (Int32 × m_M)} (hT : m_Str κ) (hk_a : κ a = 13) (hm : f_X12_isFinite a S i1 = some res) : m_Ci l yX12_isFinite cX12_isFinite 2 (some .boolean) rm_X12_isFinite G nx κ [.ref a, .int i1] S res := by
  refine m_Ci.of (by decide) (Nat.le_of_ble_eq_true rfl) ?_
  intro p e s m args below meth c ls X hr hH hl
  have hx := X.1.1
  have hb := X.1.2.1
  have hS : m_S G s s.heap [] := va_S.rf
  have hl : lv_has ls 2 [(0, .ref a), (1, .int i1)] := hl
  rw [f_X12_isFinite] at hm
  refine lv_aload_n hx hb dX12_isFinite_0 rfl (lv_at hl 0 rfl) ?_
  refine lv_iload_n hx hb dX12_isFinite_1 rfl (lv_at hl 1 rfl) ?_
  obtain ⟨v2, S1, e_S1, hm⟩ := m_call_of hm
  refine n_cVi X hH hS (k := 12) (c_X12_isOuter (a := a) hT hk_a e_S1) mw_X12_isOuter in_8_77 hk_a (by decide) rfl rfl rfl ⟨rfl, rfl⟩ ⟨Nat.le_of_ble_eq_true rfl, Nat.le_of_ble_eq_true rfl⟩ ⟨Nat.zero_le _, Nat.zero_le _⟩ hl.1 (Nat.le_of_ble_eq_true rfl) dX12_isFinite_2 (fun H locs hH hS => ?_)
  refine lv_if_ne (tgt := 40) hx hb dX12_isFinite_5 (by decide) (fun c3 => ?_) (fun c3 => ?_)
  · have hm := m_ite_f hm c3
    exact k_X12_isFinite_40 (a := a) X hr hT hk_a   S1 _ _ _ hH hS (lv_sub hl [] rfl) hm
  · have hm := m_ite_t hm c3
    refine lv_aload_n hx hb dX12_isFinite_8 rfl (lv_at hl 0 rfl) ?_
    refine r_getp X hH (k := 12) (a := a) (j := 35) (b := (a + 22)) (A := 22) (B := 0) hk_a (by decide) rfl m_wi12 (by decide) in_7_50 rfl rfl rfl dX12_isFinite_9 ?_
    refine lv_iload_n hx hb dX12_isFinite_12 rfl (lv_at hl 1 rfl) ?_
    obtain ⟨v4, h_v4, e_v4, hm⟩ := n_ldi hm
    refine n_iald X hH (n := 24) (m_lay_at hT hk_a (by decide) (i := 22) rfl) h_v4 e_v4 dX12_isFinite_13 ?_
    obtain ⟨v6, S5, e_S5, hm⟩ := m_call_of hm
    refine n_cSi X hH hS (c_X12_bits  hT  e_S5) mw_X12_bits in_8_85 rfl ⟨rfl, rfl⟩ ⟨Nat.le_of_ble_eq_true rfl, Nat.le_of_ble_eq_true rfl⟩ ⟨Nat.zero_le _, Nat.zero_le _⟩ hl.1 (Nat.le_of_ble_eq_true rfl) dX12_isFinite_14 (fun H locs hH hS => ?_)
    refine lv_iconst (v := (1 : Int32)) hx hb dX12_isFinite_17 (by decide) ?_
    refine lv_icmp_ne (tgt := 40) hx hb dX12_isFinite_18 (by decide) (fun c7 => ?_) (fun c7 => ?_)
    · have hm := m_ite_f hm c7
      exact k_X12_isFinite_40 (a := a) X hr hT hk_a   S5 _ _ _ hH hS (lv_sub hl [] rfl) hm
    · have hm := m_ite_t hm c7
      refine lv_aload_n hx hb dX12_isFinite_21 rfl (lv_at hl 0 rfl) ?_
      refine lv_iload_n hx hb dX12_isFinite_22 rfl (lv_at hl 1 rfl) ?_
      obtain ⟨v9, S8, e_S8, hm⟩ := m_call_of hm
      refine n_cVi X hH hS (k := 12) (c_X12_ownersOf (a := a) hT hk_a e_S8) mw_X12_ownersOf in_8_69 hk_a (by decide) rfl rfl rfl ⟨rfl, rfl⟩ ⟨Nat.le_of_ble_eq_true rfl, Nat.le_of_ble_eq_true rfl⟩ ⟨Nat.zero_le _, Nat.zero_le _⟩ hl.1 (Nat.le_of_ble_eq_true rfl) dX12_isFinite_23 (fun H locs hH hS => ?_)
      refine lv_aload_n hx hb dX12_isFinite_26 rfl (lv_at hl 0 rfl) ?_
      refine r_getp X hH (k := 12) (a := a) (j := 35) (b := (a + 22)) (A := 22) (B := 0) hk_a (by decide) rfl m_wi12 (by decide) in_7_50 rfl rfl rfl dX12_isFinite_27 ?_
      refine lv_iload_n hx hb dX12_isFinite_30 rfl (lv_at hl 1 rfl) ?_
      obtain ⟨v10, h_v10, e_v10, hm⟩ := n_ldi hm
      refine n_iald X hH (n := 24) (m_lay_at hT hk_a (by decide) (i := 22) rfl) h_v10 e_v10 dX12_isFinite_31 ?_
      refine lv_iand hx hb dX12_isFinite_32 ?_
      refine lv_if_eq (tgt := 40) hx hb dX12_isFinite_33 (by decide) (fun c11 => ?_) (fun c11 => ?_)
      · have hm := m_ite_t hm c11
        exact k_X12_isFinite_40 (a := a) X hr hT hk_a   S8 _ _ _ hH hS (lv_sub hl [] rfl) hm
      · have hm := m_ite_f hm c11
        refine lv_iconst (v := (1 : Int32)) hx hb dX12_isFinite_36 (by decide) ?_
        refine lv_goto (tgt := 41) hx hb dX12_isFinite_37 (by decide) ?_
        exact k_X12_isFinite_41 (a := a) X hr hT hk_a   S8 (1 : Int32) _ _ _ hH hS (lv_sub hl [] rfl) hm
def rm_X12_calledBy : Room := { frames := 0, cells := 0, slots := 0, locals := 0 }
def b_X12_calledBy_65 (a : Nat) (K_4 : m_M → Int32 → Int32 → Int32 → Option (Int32 × m_M)) (S : m_M) (l1 : Int32) (l2 : Int32) (l3 : Int32) : Option (Int32 × m_M) :=
    m_let (l3 + (1 : Int32)) fun v1 =>
    K_4 S l1 l2 v1
set_option maxHeartbeats 4000000 in
set_option maxRecDepth 100000 in
theorem k_X12_calledBy_65 {p : Program} {l : Launch} {e : Env} {s : State} {m : MethodId} {args : Array Value} {below : List Frame} {meth : Method} {c : Code} {G : m_G} {nx : Nat} {κ : Nat → Nat} {res : (Int32 × m_M)} {a : Nat} (X : m_Cx p s m args meth c cX12_calledBy 4 RX12 G) (hr : meth.sig.returnType = (some .int)) (hT : m_Str κ) (hk_a : κ a = 13) (K_4 : m_M → Int32 → Int32 → Int32 → Option (Int32 × m_M)) (hK_4 : ∀ (S : m_M) (l1 : Int32) (l2 : Int32) (l3 : Int32) (H : Heap) (locs : List Loc) (ls : Array Slot), m_H G nx κ S H → m_S G s H locs → lv_has ls 4 [(0, .ref a), (1, .int l1), (2, .int l2), (3, .int l3)] → K_4 S l1 l2 l3 = some res → W p l e rm_X12_calledBy s m args below meth c H locs 0 0 (m_Qi below args s G nx κ res) (F0 m 4 ls [])) : ∀ (S : m_M) (l1 : Int32) (l2 : Int32) (l3 : Int32) (H : Heap) (locs : List Loc) (ls : Array Slot), m_H G nx κ S H → m_S G s H locs → lv_has ls 4 [(0, .ref a), (1, .int l1), (2, .int l2), (3, .int l3)] → b_X12_calledBy_65 a K_4 S l1 l2 l3 = some res → W p l e rm_X12_calledBy s m args below meth c H locs 0 0 (m_Qi below args s G nx κ res) (F0 m 65 ls []) := by
  have hx := X.1.1
  have hb := X.1.2.1
  intro S l1 l2 l3 H locs ls hH hS hl hm
  rw [b_X12_calledBy_65] at hm
  obtain ⟨v1, e_v1, hm⟩ := m_let_of hm
  refine lv_iinc (v := v1) (lv' := [(3, .int v1), (0, .ref a), (1, .int l1), (2, .int l2)]) hx hb dX12_calledBy_65 hl (k := 3) rfl (by rw [← e_v1]; rfl) (by decide) rfl (fun ls hl => ?_)
  refine lv_goto (tgt := 4) hx hb dX12_calledBy_68 (by decide) ?_
  exact hK_4 S l1 l2 v1 _ _ _ hH hS (lv_sub hl [1, 2, 3, 0] rfl) hm
def b_X12_calledBy_4 (a : Nat)  : Nat → m_M → Int32 → Int32 → Int32 → Option (Int32 × m_M)
  | 0, _, _, _, _ => none
  | n + 1, S, l1, l2, l3 =>
    (m_ldi S (a + 2) 2647 ((13 : Int32) + l1)).bind fun v1 =>
    if v1 ≤ l3 then (
    some (l2, S)) else (
    (m_ldi S (a + 2) 2647 ((8 : Int32) + l1)).bind fun v3 =>
    (m_ldi S (a + 2) 2647 (((18 : Int32) + v3) + l3)).bind fun v4 =>
    if v4 < (8 : Int32) then (
    b_X12_calledBy_65 a (b_X12_calledBy_4 a n) S l1 l2 l3) else (
    (m_ldi S (a + 2) 2647 ((8 : Int32) + l1)).bind fun v6 =>
    (m_ldi S (a + 2) 2647 (((42 : Int32) + v6) + l3)).bind fun v7 =>
    m_let (l2 ||| ((1 : Int32) <<< (v7 &&& 31))) fun v8 =>
    b_X12_calledBy_65 a (b_X12_calledBy_4 a n) S l1 v8 l3))
set_option maxHeartbeats 4000000 in
set_option maxRecDepth 100000 in
theorem k_X12_calledBy_4 {p : Program} {l : Launch} {e : Env} {s : State} {m : MethodId} {args : Array Value} {below : List Frame} {meth : Method} {c : Code} {G : m_G} {nx : Nat} {κ : Nat → Nat} {res : (Int32 × m_M)} {a : Nat} (X : m_Cx p s m args meth c cX12_calledBy 4 RX12 G) (hr : meth.sig.returnType = (some .int)) (hT : m_Str κ) (hk_a : κ a = 13)  (n : Nat) : ∀ (S : m_M) (l1 : Int32) (l2 : Int32) (l3 : Int32) (H : Heap) (locs : List Loc) (ls : Array Slot), m_H G nx κ S H → m_S G s H locs → lv_has ls 4 [(0, .ref a), (1, .int l1), (2, .int l2), (3, .int l3)] → b_X12_calledBy_4 a n S l1 l2 l3 = some res → W p l e rm_X12_calledBy s m args below meth c H locs 0 0 (m_Qi below args s G nx κ res) (F0 m 4 ls []) := by
  have hx := X.1.1
  have hb := X.1.2.1
  induction n with
  | zero => intro S l1 l2 l3 H locs ls hH hS hl hm; have hm : (none : Option (Int32 × m_M)) = some res := hm; cases hm
  | succ n ih =>
    intro S l1 l2 l3 H locs ls hH hS hl hm
    rw [b_X12_calledBy_4] at hm
    refine lv_iload_n hx hb dX12_calledBy_4 rfl (lv_at hl 3 rfl) ?_
    refine lv_aload_n hx hb dX12_calledBy_5 rfl (lv_at hl 0 rfl) ?_
    refine r_getp X hH (k := 12) (a := a) (j := 14) (b := (a + 2)) (A := 2) (B := 0) hk_a (by decide) rfl m_wi12 (by decide) in_7_29 rfl rfl rfl dX12_calledBy_6 ?_
    refine lv_bipush (v := (13 : Int32)) hx hb dX12_calledBy_9 (by decide) ?_
    refine lv_iload_n hx hb dX12_calledBy_11 rfl (lv_at hl 1 rfl) ?_
    refine lv_iadd hx hb dX12_calledBy_12 ?_
    obtain ⟨v1, h_v1, e_v1, hm⟩ := n_ldi hm
    refine n_iald X hH (n := 2647) (m_lay_at hT hk_a (by decide) (i := 2) rfl) h_v1 e_v1 dX12_calledBy_13 ?_
    refine lv_icmp_ge (tgt := 71) hx hb dX12_calledBy_14 (by decide) (fun c2 => ?_) (fun c2 => ?_)
    · have hm := m_ite_t hm c2
      refine lv_iload_n hx hb dX12_calledBy_71 rfl (lv_at hl 2 rfl) ?_
      exact r_iret X hr hH hS hm dX12_calledBy_72
    · have hm := m_ite_f hm c2
      refine lv_aload_n hx hb dX12_calledBy_17 rfl (lv_at hl 0 rfl) ?_
      refine r_getp X hH (k := 12) (a := a) (j := 14) (b := (a + 2)) (A := 2) (B := 0) hk_a (by decide) rfl m_wi12 (by decide) in_7_29 rfl rfl rfl dX12_calledBy_18 ?_
      refine lv_bipush (v := (18 : Int32)) hx hb dX12_calledBy_21 (by decide) ?_
      refine lv_aload_n hx hb dX12_calledBy_23 rfl (lv_at hl 0 rfl) ?_
      refine r_getp X hH (k := 12) (a := a) (j := 14) (b := (a + 2)) (A := 2) (B := 0) hk_a (by decide) rfl m_wi12 (by decide) in_7_29 rfl rfl rfl dX12_calledBy_24 ?_
      refine lv_bipush (v := (8 : Int32)) hx hb dX12_calledBy_27 (by decide) ?_
      refine lv_iload_n hx hb dX12_calledBy_29 rfl (lv_at hl 1 rfl) ?_
      refine lv_iadd hx hb dX12_calledBy_30 ?_
      obtain ⟨v3, h_v3, e_v3, hm⟩ := n_ldi hm
      refine n_iald X hH (n := 2647) (m_lay_at hT hk_a (by decide) (i := 2) rfl) h_v3 e_v3 dX12_calledBy_31 ?_
      refine lv_iadd hx hb dX12_calledBy_32 ?_
      refine lv_iload_n hx hb dX12_calledBy_33 rfl (lv_at hl 3 rfl) ?_
      refine lv_iadd hx hb dX12_calledBy_34 ?_
      obtain ⟨v4, h_v4, e_v4, hm⟩ := n_ldi hm
      refine n_iald X hH (n := 2647) (m_lay_at hT hk_a (by decide) (i := 2) rfl) h_v4 e_v4 dX12_calledBy_35 ?_
      refine lv_bipush (v := (8 : Int32)) hx hb dX12_calledBy_36 (by decide) ?_
      refine lv_icmp_lt (tgt := 65) hx hb dX12_calledBy_38 (by decide) (fun c5 => ?_) (fun c5 => ?_)
      · have hm := m_ite_t hm c5
        exact k_X12_calledBy_65 (a := a) X hr hT hk_a (b_X12_calledBy_4 a n) ih  S l1 l2 l3 _ _ _ hH hS hl hm
      · have hm := m_ite_f hm c5
        refine lv_iload_n hx hb dX12_calledBy_41 rfl (lv_at hl 2 rfl) ?_
        refine lv_iconst (v := (1 : Int32)) hx hb dX12_calledBy_42 (by decide) ?_
        refine lv_aload_n hx hb dX12_calledBy_43 rfl (lv_at hl 0 rfl) ?_
        refine r_getp X hH (k := 12) (a := a) (j := 14) (b := (a + 2)) (A := 2) (B := 0) hk_a (by decide) rfl m_wi12 (by decide) in_7_29 rfl rfl rfl dX12_calledBy_44 ?_
        refine lv_bipush (v := (42 : Int32)) hx hb dX12_calledBy_47 (by decide) ?_
        refine lv_aload_n hx hb dX12_calledBy_49 rfl (lv_at hl 0 rfl) ?_
        refine r_getp X hH (k := 12) (a := a) (j := 14) (b := (a + 2)) (A := 2) (B := 0) hk_a (by decide) rfl m_wi12 (by decide) in_7_29 rfl rfl rfl dX12_calledBy_50 ?_
        refine lv_bipush (v := (8 : Int32)) hx hb dX12_calledBy_53 (by decide) ?_
        refine lv_iload_n hx hb dX12_calledBy_55 rfl (lv_at hl 1 rfl) ?_
        refine lv_iadd hx hb dX12_calledBy_56 ?_
        obtain ⟨v6, h_v6, e_v6, hm⟩ := n_ldi hm
        refine n_iald X hH (n := 2647) (m_lay_at hT hk_a (by decide) (i := 2) rfl) h_v6 e_v6 dX12_calledBy_57 ?_
        refine lv_iadd hx hb dX12_calledBy_58 ?_
        refine lv_iload_n hx hb dX12_calledBy_59 rfl (lv_at hl 3 rfl) ?_
        refine lv_iadd hx hb dX12_calledBy_60 ?_
        obtain ⟨v7, h_v7, e_v7, hm⟩ := n_ldi hm
        refine n_iald X hH (n := 2647) (m_lay_at hT hk_a (by decide) (i := 2) rfl) h_v7 e_v7 dX12_calledBy_61 ?_
        refine lv_ishl hx hb dX12_calledBy_62 ?_
        refine lv_ior hx hb dX12_calledBy_63 ?_
        obtain ⟨v8, e_v8, hm⟩ := m_let_of hm
        refine n_topi e_v8 ?_
        refine lv_istore_n (lv' := [(2, .int v8), (0, .ref a), (1, .int l1), (3, .int l3)]) hx hb dX12_calledBy_64 rfl hl (by decide) rfl (fun ls hl => ?_)
        exact k_X12_calledBy_65 (a := a) X hr hT hk_a (b_X12_calledBy_4 a n) ih  S l1 v8 l3 _ _ _ hH hS (lv_sub hl [1, 2, 0, 3] rfl) hm
def f_X12_calledBy (a : Nat) (S : m_M) (i1 : Int32) : Option (Int32 × m_M) :=
    b_X12_calledBy_4 a m_fu S i1 (0 : Int32) (0 : Int32)
set_option maxHeartbeats 4000000 in
set_option maxRecDepth 100000 in
theorem c_X12_calledBy {l : Launch} {G : m_G} {nx : Nat} {κ : Nat → Nat} {a : Nat} {S : m_M} {i1 : Int32} {res : (Int32 × m_M)} (hT : m_Str κ) (hk_a : κ a = 13) (hm : f_X12_calledBy a S i1 = some res) : m_Ci l yX12_calledBy cX12_calledBy 4 (some .int) rm_X12_calledBy G nx κ [.ref a, .int i1] S res := by
  refine m_Ci.of (by decide) (Nat.le_of_ble_eq_true rfl) ?_
  intro p e s m args below meth c ls X hr hH hl
  have hx := X.1.1
  have hb := X.1.2.1
  have hS : m_S G s s.heap [] := va_S.rf
  have hl : lv_has ls 4 [(0, .ref a), (1, .int i1)] := hl
  rw [f_X12_calledBy] at hm
  refine lv_iconst (v := (0 : Int32)) hx hb dX12_calledBy_0 (by decide) ?_
  refine lv_istore_n (lv' := [(2, .int (0 : Int32)), (0, .ref a), (1, .int i1)]) hx hb dX12_calledBy_1 rfl hl (by decide) rfl (fun ls hl => ?_)
  refine lv_iconst (v := (0 : Int32)) hx hb dX12_calledBy_2 (by decide) ?_
  refine lv_istore_n (lv' := [(3, .int (0 : Int32)), (2, .int (0 : Int32)), (0, .ref a), (1, .int i1)]) hx hb dX12_calledBy_3 rfl hl (by decide) rfl (fun ls hl => ?_)
  exact k_X12_calledBy_4 (a := a) X hr hT hk_a  m_fu S i1 (0 : Int32) (0 : Int32) _ _ _ hH hS (lv_sub hl [2, 3, 1, 0] rfl) hm
def rm_X12_isLeft : Room := { frames := 0, cells := 0, slots := 0, locals := 0 }
def b_X12_isLeft_40 (a : Nat)  : Nat → m_M → Int32 → Int32 → Int32 → Option (Int32 × m_M)
  | 0, _, _, _, _ => none
  | n + 1, S, l1, l2, l3 =>
    (m_ldi S (a + 2) 2647 (2 : Int32)).bind fun v1 =>
    if v1 ≤ l3 then (
    if (1 : Int32) = 0 ∨ (1 : Int32) = 1 then some ((1 : Int32), S) else none) else (
    (m_ldi S (a + 21) 120 (((24 : Int32) * l1) + l3)).bind fun v3 =>
    if v3 = l2 then (
    if (0 : Int32) = 0 ∨ (0 : Int32) = 1 then some ((0 : Int32), S) else none) else (
    m_let (l3 + (1 : Int32)) fun v5 =>
    b_X12_isLeft_40 a n S l1 l2 v5))
set_option maxHeartbeats 4000000 in
set_option maxRecDepth 100000 in
theorem k_X12_isLeft_40 {p : Program} {l : Launch} {e : Env} {s : State} {m : MethodId} {args : Array Value} {below : List Frame} {meth : Method} {c : Code} {G : m_G} {nx : Nat} {κ : Nat → Nat} {res : (Int32 × m_M)} {a : Nat} (X : m_Cx p s m args meth c cX12_isLeft 4 RX12 G) (hr : meth.sig.returnType = (some .boolean)) (hT : m_Str κ) (hk_a : κ a = 13)  (n : Nat) : ∀ (S : m_M) (l1 : Int32) (l2 : Int32) (l3 : Int32) (H : Heap) (locs : List Loc) (ls : Array Slot), m_H G nx κ S H → m_S G s H locs → lv_has ls 4 [(0, .ref a), (1, .int l1), (2, .int l2), (3, .int l3)] → b_X12_isLeft_40 a n S l1 l2 l3 = some res → W p l e rm_X12_isLeft s m args below meth c H locs 0 0 (m_Qi below args s G nx κ res) (F0 m 40 ls []) := by
  have hx := X.1.1
  have hb := X.1.2.1
  induction n with
  | zero => intro S l1 l2 l3 H locs ls hH hS hl hm; have hm : (none : Option (Int32 × m_M)) = some res := hm; cases hm
  | succ n ih =>
    intro S l1 l2 l3 H locs ls hH hS hl hm
    rw [b_X12_isLeft_40] at hm
    refine lv_iload_n hx hb dX12_isLeft_40 rfl (lv_at hl 3 rfl) ?_
    refine lv_aload_n hx hb dX12_isLeft_41 rfl (lv_at hl 0 rfl) ?_
    refine r_getp X hH (k := 12) (a := a) (j := 14) (b := (a + 2)) (A := 2) (B := 0) hk_a (by decide) rfl m_wi12 (by decide) in_7_29 rfl rfl rfl dX12_isLeft_42 ?_
    refine lv_iconst (v := (2 : Int32)) hx hb dX12_isLeft_45 (by decide) ?_
    obtain ⟨v1, h_v1, e_v1, hm⟩ := n_ldi hm
    refine n_iald X hH (n := 2647) (m_lay_at hT hk_a (by decide) (i := 2) rfl) h_v1 e_v1 dX12_isLeft_46 ?_
    refine lv_icmp_ge (tgt := 73) hx hb dX12_isLeft_47 (by decide) (fun c2 => ?_) (fun c2 => ?_)
    · have hm := m_ite_t hm c2
      refine lv_iconst (v := (1 : Int32)) hx hb dX12_isLeft_73 (by decide) ?_
      exact r_zret X hr hH hS hm dX12_isLeft_74
    · have hm := m_ite_f hm c2
      refine lv_aload_n hx hb dX12_isLeft_50 rfl (lv_at hl 0 rfl) ?_
      refine r_getp X hH (k := 12) (a := a) (j := 34) (b := (a + 21)) (A := 21) (B := 0) hk_a (by decide) rfl m_wi12 (by decide) in_7_49 rfl rfl rfl dX12_isLeft_51 ?_
      refine lv_bipush (v := (24 : Int32)) hx hb dX12_isLeft_54 (by decide) ?_
      refine lv_iload_n hx hb dX12_isLeft_56 rfl (lv_at hl 1 rfl) ?_
      refine lv_imul hx hb dX12_isLeft_57 ?_
      refine lv_iload_n hx hb dX12_isLeft_58 rfl (lv_at hl 3 rfl) ?_
      refine lv_iadd hx hb dX12_isLeft_59 ?_
      obtain ⟨v3, h_v3, e_v3, hm⟩ := n_ldi hm
      refine n_iald X hH (n := 120) (m_lay_at hT hk_a (by decide) (i := 21) rfl) h_v3 e_v3 dX12_isLeft_60 ?_
      refine lv_iload_n hx hb dX12_isLeft_61 rfl (lv_at hl 2 rfl) ?_
      refine lv_icmp_ne (tgt := 67) hx hb dX12_isLeft_62 (by decide) (fun c4 => ?_) (fun c4 => ?_)
      · have hm := m_ite_f hm c4
        obtain ⟨v5, e_v5, hm⟩ := m_let_of hm
        refine lv_iinc (v := v5) (lv' := [(3, .int v5), (0, .ref a), (1, .int l1), (2, .int l2)]) hx hb dX12_isLeft_67 hl (k := 3) rfl (by rw [← e_v5]; rfl) (by decide) rfl (fun ls hl => ?_)
        refine lv_goto (tgt := 40) hx hb dX12_isLeft_70 (by decide) ?_
        exact ih S l1 l2 v5 _ _ _ hH hS (lv_sub hl [1, 2, 3, 0] rfl) hm
      · have hm := m_ite_t hm c4
        refine lv_iconst (v := (0 : Int32)) hx hb dX12_isLeft_65 (by decide) ?_
        exact r_zret X hr hH hS hm dX12_isLeft_66
def f_X12_isLeft (a : Nat) (S : m_M) (i1 : Int32) : Option (Int32 × m_M) :=
    (m_ldi S (a + 2) 2647 ((13 : Int32) + i1)).bind fun v1 =>
    m_let (v1 - (1 : Int32)) fun v2 =>
    (m_ldi S (a + 2) 2647 ((8 : Int32) + i1)).bind fun v3 =>
    (m_ldi S (a + 2) 2647 (((18 : Int32) + v3) + v2)).bind fun v4 =>
    if (8 : Int32) ≤ v4 then (
    b_X12_isLeft_40 a m_fu S i1 v2 (0 : Int32)) else (
    if (0 : Int32) = 0 ∨ (0 : Int32) = 1 then some ((0 : Int32), S) else none)
set_option maxHeartbeats 4000000 in
set_option maxRecDepth 100000 in
theorem c_X12_isLeft {l : Launch} {G : m_G} {nx : Nat} {κ : Nat → Nat} {a : Nat} {S : m_M} {i1 : Int32} {res : (Int32 × m_M)} (hT : m_Str κ) (hk_a : κ a = 13) (hm : f_X12_isLeft a S i1 = some res) : m_Ci l yX12_isLeft cX12_isLeft 4 (some .boolean) rm_X12_isLeft G nx κ [.ref a, .int i1] S res := by
  refine m_Ci.of (by decide) (Nat.le_of_ble_eq_true rfl) ?_
  intro p e s m args below meth c ls X hr hH hl
  have hx := X.1.1
  have hb := X.1.2.1
  have hS : m_S G s s.heap [] := va_S.rf
  have hl : lv_has ls 4 [(0, .ref a), (1, .int i1)] := hl
  rw [f_X12_isLeft] at hm
  refine lv_aload_n hx hb dX12_isLeft_0 rfl (lv_at hl 0 rfl) ?_
  refine r_getp X hH (k := 12) (a := a) (j := 14) (b := (a + 2)) (A := 2) (B := 0) hk_a (by decide) rfl m_wi12 (by decide) in_7_29 rfl rfl rfl dX12_isLeft_1 ?_
  refine lv_bipush (v := (13 : Int32)) hx hb dX12_isLeft_4 (by decide) ?_
  refine lv_iload_n hx hb dX12_isLeft_6 rfl (lv_at hl 1 rfl) ?_
  refine lv_iadd hx hb dX12_isLeft_7 ?_
  obtain ⟨v1, h_v1, e_v1, hm⟩ := n_ldi hm
  refine n_iald X hH (n := 2647) (m_lay_at hT hk_a (by decide) (i := 2) rfl) h_v1 e_v1 dX12_isLeft_8 ?_
  refine lv_iconst (v := (1 : Int32)) hx hb dX12_isLeft_9 (by decide) ?_
  refine lv_isub hx hb dX12_isLeft_10 ?_
  obtain ⟨v2, e_v2, hm⟩ := m_let_of hm
  refine n_topi e_v2 ?_
  refine lv_istore_n (lv' := [(2, .int v2), (0, .ref a), (1, .int i1)]) hx hb dX12_isLeft_11 rfl hl (by decide) rfl (fun ls hl => ?_)
  refine lv_aload_n hx hb dX12_isLeft_12 rfl (lv_at hl 1 rfl) ?_
  refine r_getp X hH (k := 12) (a := a) (j := 14) (b := (a + 2)) (A := 2) (B := 0) hk_a (by decide) rfl m_wi12 (by decide) in_7_29 rfl rfl rfl dX12_isLeft_13 ?_
  refine lv_bipush (v := (18 : Int32)) hx hb dX12_isLeft_16 (by decide) ?_
  refine lv_aload_n hx hb dX12_isLeft_18 rfl (lv_at hl 1 rfl) ?_
  refine r_getp X hH (k := 12) (a := a) (j := 14) (b := (a + 2)) (A := 2) (B := 0) hk_a (by decide) rfl m_wi12 (by decide) in_7_29 rfl rfl rfl dX12_isLeft_19 ?_
  refine lv_bipush (v := (8 : Int32)) hx hb dX12_isLeft_22 (by decide) ?_
  refine lv_iload_n hx hb dX12_isLeft_24 rfl (lv_at hl 2 rfl) ?_
  refine lv_iadd hx hb dX12_isLeft_25 ?_
  obtain ⟨v3, h_v3, e_v3, hm⟩ := n_ldi hm
  refine n_iald X hH (n := 2647) (m_lay_at hT hk_a (by decide) (i := 2) rfl) h_v3 e_v3 dX12_isLeft_26 ?_
  refine lv_iadd hx hb dX12_isLeft_27 ?_
  refine lv_iload_n hx hb dX12_isLeft_28 rfl (lv_at hl 0 rfl) ?_
  refine lv_iadd hx hb dX12_isLeft_29 ?_
  obtain ⟨v4, h_v4, e_v4, hm⟩ := n_ldi hm
  refine n_iald X hH (n := 2647) (m_lay_at hT hk_a (by decide) (i := 2) rfl) h_v4 e_v4 dX12_isLeft_30 ?_
  refine lv_bipush (v := (8 : Int32)) hx hb dX12_isLeft_31 (by decide) ?_
  refine lv_icmp_ge (tgt := 38) hx hb dX12_isLeft_33 (by decide) (fun c5 => ?_) (fun c5 => ?_)
  · have hm := m_ite_t hm c5
    refine lv_iconst (v := (0 : Int32)) hx hb dX12_isLeft_38 (by decide) ?_
    refine lv_istore_n (lv' := [(3, .int (0 : Int32)), (2, .int v2), (0, .ref a), (1, .int i1)]) hx hb dX12_isLeft_39 rfl hl (by decide) rfl (fun ls hl => ?_)
    exact k_X12_isLeft_40 (a := a) X hr hT hk_a  m_fu S i1 v2 (0 : Int32) _ _ _ hH hS (lv_sub hl [2, 3, 1, 0] rfl) hm
  · have hm := m_ite_f hm c5
    refine lv_iconst (v := (0 : Int32)) hx hb dX12_isLeft_36 (by decide) ?_
    exact r_zret X hr hH hS hm dX12_isLeft_37
def rm_X12_fun : Room := { frames := 2, cells := 0, slots := 0, locals := 43 }
def b_X12_fun_108 (a : Nat)  (S : m_M) (t0 : Int32) : Option (Int32 × m_M) :=
    some (t0, S)
set_option maxHeartbeats 4000000 in
set_option maxRecDepth 100000 in
theorem k_X12_fun_108 {p : Program} {l : Launch} {e : Env} {s : State} {m : MethodId} {args : Array Value} {below : List Frame} {meth : Method} {c : Code} {G : m_G} {nx : Nat} {κ : Nat → Nat} {res : (Int32 × m_M)} {a : Nat} (X : m_Cx p s m args meth c cX12_fun 3 RX12 G) (hr : meth.sig.returnType = (some .int)) (hT : m_Str κ) (hk_a : κ a = 13)  : ∀ (S : m_M) (t0 : Int32) (H : Heap) (locs : List Loc) (ls : Array Slot), m_H G nx κ S H → m_S G s H locs → lv_has ls 3 [] → b_X12_fun_108 a S t0 = some res → W p l e rm_X12_fun s m args below meth c H locs 0 0 (m_Qi below args s G nx κ res) (F0 m 108 ls [.int t0]) := by
  have hx := X.1.1
  have hb := X.1.2.1
  intro S t0 H locs ls hH hS hl hm
  rw [b_X12_fun_108] at hm
  exact r_iret X hr hH hS hm dX12_fun_108
def f_X12_fun (a : Nat) (S : m_M) (i1 : Int32) (i2 : Int32) : Option (Int32 × m_M) :=
    m_let (m_si S a 0 (0 : Int32)) fun S1 =>
    m_call (f_X12_isFun a S1 i1) fun v3 S2 =>
    if v3 = 0 then (
    m_call (f_X12_refuse a S2) fun v23 S22 =>
    some (v23, S22)) else (
    if i2 = (0 : Int32) then (
    (m_ldi S2 (a + 2) 2647 ((3 : Int32) + i1)).bind fun v6 =>
    some (v6, S2)) else (
    if i2 = (1 : Int32) then (
    (m_ldi S2 (a + 2) 2647 ((13 : Int32) + i1)).bind fun v8 =>
    some (v8, S2)) else (
    if i2 = (2 : Int32) then (
    m_call (f_X12_calledBy a S2 i1) fun v11 S10 =>
    some (v11, S10)) else (
    if i2 = (3 : Int32) then (
    (m_ldi S2 (a + 18) 5 i1).bind fun v13 =>
    some (v13, S2)) else (
    if i2 = (4 : Int32) then (
    (m_ldi S2 (a + 19) 5 i1).bind fun v15 =>
    some (v15, S2)) else (
    if i2 = (5 : Int32) then (
    m_call (f_X12_isLeft a S2 i1) fun v18 S17 =>
    if v18 = 0 then (
    b_X12_fun_108 a S17 (0 : Int32)) else (
    b_X12_fun_108 a S17 (1 : Int32))) else (
    m_call (f_X12_refuse a S2) fun v21 S20 =>
    some (v21, S20))))))))
set_option maxHeartbeats 4000000 in
set_option maxRecDepth 100000 in
theorem c_X12_fun {l : Launch} {G : m_G} {nx : Nat} {κ : Nat → Nat} {a : Nat} {S : m_M} {i1 : Int32} {i2 : Int32} {res : (Int32 × m_M)} (hT : m_Str κ) (hk_a : κ a = 13) (hm : f_X12_fun a S i1 i2 = some res) : m_Ci l yX12_fun cX12_fun 3 (some .int) rm_X12_fun G nx κ [.ref a, .int i1, .int i2] S res := by
  refine m_Ci.of (by decide) (Nat.le_of_ble_eq_true rfl) ?_
  intro p e s m args below meth c ls X hr hH hl
  have hx := X.1.1
  have hb := X.1.2.1
  have hS : m_S G s s.heap [] := va_S.rf
  have hl : lv_has ls 3 [(0, .ref a), (1, .int i1), (2, .int i2)] := hl
  rw [f_X12_fun] at hm
  refine lv_aload_n hx hb dX12_fun_0 rfl (lv_at hl 0 rfl) ?_
  refine lv_iconst (v := (0 : Int32)) hx hb dX12_fun_1 (by decide) ?_
  obtain ⟨S1, e_S1, hm⟩ := m_let_of hm
  refine n_puti X hH hS tyX12 (k := 12) (a := a) (j := 0) hk_a (by decide) rfl m_wi12 tyX12_ok nmX12 (by decide) in_7_15 rfl rfl rfl ⟨rfl, rfl⟩ e_S1 dX12_fun_2 (fun H locs hH hS => ?_)
  refine lv_aload_n hx hb dX12_fun_5 rfl (lv_at hl 0 rfl) ?_
  refine lv_iload_n hx hb dX12_fun_6 rfl (lv_at hl 1 rfl) ?_
  obtain ⟨v3, S2, e_S2, hm⟩ := m_call_of hm
  refine n_cVi X hH hS (k := 12) (c_X12_isFun (a := a) hT hk_a e_S2) mw_X12_isFun in_8_38 hk_a (by decide) rfl rfl rfl ⟨rfl, rfl⟩ ⟨Nat.le_of_ble_eq_true rfl, Nat.le_of_ble_eq_true rfl⟩ ⟨Nat.zero_le _, Nat.zero_le _⟩ hl.1 (Nat.le_of_ble_eq_true rfl) dX12_fun_7 (fun H locs hH hS => ?_)
  refine lv_if_ne (tgt := 18) hx hb dX12_fun_10 (by decide) (fun c4 => ?_) (fun c4 => ?_)
  · have hm := m_ite_f hm c4
    refine lv_iload_n hx hb dX12_fun_18 rfl (lv_at hl 2 rfl) ?_
    by_cases c5 : i2 = (0 : Int32)
    · have hm := m_ite_t hm c5
      refine lv_tableIn (off := 37) (tgt := 56) hx hb dX12_fun_19 (by rw [c5]; decide) (by rw [c5]; decide) (by rw [c5]; rfl) (by decide) ?_
      refine lv_aload_n hx hb dX12_fun_56 rfl (lv_at hl 0 rfl) ?_
      refine r_getp X hH (k := 12) (a := a) (j := 14) (b := (a + 2)) (A := 2) (B := 0) hk_a (by decide) rfl m_wi12 (by decide) in_7_29 rfl rfl rfl dX12_fun_57 ?_
      refine lv_iconst (v := (3 : Int32)) hx hb dX12_fun_60 (by decide) ?_
      refine lv_iload_n hx hb dX12_fun_61 rfl (lv_at hl 1 rfl) ?_
      refine lv_iadd hx hb dX12_fun_62 ?_
      obtain ⟨v6, h_v6, e_v6, hm⟩ := n_ldi hm
      refine n_iald X hH (n := 2647) (m_lay_at hT hk_a (by decide) (i := 2) rfl) h_v6 e_v6 dX12_fun_63 ?_
      exact r_iret X hr hH hS hm dX12_fun_64
    · have hm := m_ite_f hm c5
      by_cases c7 : i2 = (1 : Int32)
      · have hm := m_ite_t hm c7
        refine lv_tableIn (off := 46) (tgt := 65) hx hb dX12_fun_19 (by rw [c7]; decide) (by rw [c7]; decide) (by rw [c7]; rfl) (by decide) ?_
        refine lv_aload_n hx hb dX12_fun_65 rfl (lv_at hl 0 rfl) ?_
        refine r_getp X hH (k := 12) (a := a) (j := 14) (b := (a + 2)) (A := 2) (B := 0) hk_a (by decide) rfl m_wi12 (by decide) in_7_29 rfl rfl rfl dX12_fun_66 ?_
        refine lv_bipush (v := (13 : Int32)) hx hb dX12_fun_69 (by decide) ?_
        refine lv_iload_n hx hb dX12_fun_71 rfl (lv_at hl 1 rfl) ?_
        refine lv_iadd hx hb dX12_fun_72 ?_
        obtain ⟨v8, h_v8, e_v8, hm⟩ := n_ldi hm
        refine n_iald X hH (n := 2647) (m_lay_at hT hk_a (by decide) (i := 2) rfl) h_v8 e_v8 dX12_fun_73 ?_
        exact r_iret X hr hH hS hm dX12_fun_74
      · have hm := m_ite_f hm c7
        by_cases c9 : i2 = (2 : Int32)
        · have hm := m_ite_t hm c9
          refine lv_tableIn (off := 56) (tgt := 75) hx hb dX12_fun_19 (by rw [c9]; decide) (by rw [c9]; decide) (by rw [c9]; rfl) (by decide) ?_
          refine lv_aload_n hx hb dX12_fun_75 rfl (lv_at hl 0 rfl) ?_
          refine lv_iload_n hx hb dX12_fun_76 rfl (lv_at hl 1 rfl) ?_
          obtain ⟨v11, S10, e_S10, hm⟩ := m_call_of hm
          refine n_cVi X hH hS (k := 12) (c_X12_calledBy (a := a) hT hk_a e_S10) mw_X12_calledBy in_8_49 hk_a (by decide) rfl rfl rfl ⟨rfl, rfl⟩ ⟨Nat.le_of_ble_eq_true rfl, Nat.le_of_ble_eq_true rfl⟩ ⟨Nat.zero_le _, Nat.zero_le _⟩ hl.1 (Nat.le_of_ble_eq_true rfl) dX12_fun_77 (fun H locs hH hS => ?_)
          exact r_iret X hr hH hS hm dX12_fun_80
        · have hm := m_ite_f hm c9
          by_cases c12 : i2 = (3 : Int32)
          · have hm := m_ite_t hm c12
            refine lv_tableIn (off := 62) (tgt := 81) hx hb dX12_fun_19 (by rw [c12]; decide) (by rw [c12]; decide) (by rw [c12]; rfl) (by decide) ?_
            refine lv_aload_n hx hb dX12_fun_81 rfl (lv_at hl 0 rfl) ?_
            refine r_getp X hH (k := 12) (a := a) (j := 31) (b := (a + 18)) (A := 18) (B := 0) hk_a (by decide) rfl m_wi12 (by decide) in_7_46 rfl rfl rfl dX12_fun_82 ?_
            refine lv_iload_n hx hb dX12_fun_85 rfl (lv_at hl 1 rfl) ?_
            obtain ⟨v13, h_v13, e_v13, hm⟩ := n_ldi hm
            refine n_iald X hH (n := 5) (m_lay_at hT hk_a (by decide) (i := 18) rfl) h_v13 e_v13 dX12_fun_86 ?_
            exact r_iret X hr hH hS hm dX12_fun_87
          · have hm := m_ite_f hm c12
            by_cases c14 : i2 = (4 : Int32)
            · have hm := m_ite_t hm c14
              refine lv_tableIn (off := 69) (tgt := 88) hx hb dX12_fun_19 (by rw [c14]; decide) (by rw [c14]; decide) (by rw [c14]; rfl) (by decide) ?_
              refine lv_aload_n hx hb dX12_fun_88 rfl (lv_at hl 0 rfl) ?_
              refine r_getp X hH (k := 12) (a := a) (j := 32) (b := (a + 19)) (A := 19) (B := 0) hk_a (by decide) rfl m_wi12 (by decide) in_7_47 rfl rfl rfl dX12_fun_89 ?_
              refine lv_iload_n hx hb dX12_fun_92 rfl (lv_at hl 1 rfl) ?_
              obtain ⟨v15, h_v15, e_v15, hm⟩ := n_ldi hm
              refine n_iald X hH (n := 5) (m_lay_at hT hk_a (by decide) (i := 19) rfl) h_v15 e_v15 dX12_fun_93 ?_
              exact r_iret X hr hH hS hm dX12_fun_94
            · have hm := m_ite_f hm c14
              by_cases c16 : i2 = (5 : Int32)
              · have hm := m_ite_t hm c16
                refine lv_tableIn (off := 76) (tgt := 95) hx hb dX12_fun_19 (by rw [c16]; decide) (by rw [c16]; decide) (by rw [c16]; rfl) (by decide) ?_
                refine lv_aload_n hx hb dX12_fun_95 rfl (lv_at hl 0 rfl) ?_
                refine lv_iload_n hx hb dX12_fun_96 rfl (lv_at hl 1 rfl) ?_
                obtain ⟨v18, S17, e_S17, hm⟩ := m_call_of hm
                refine n_cVi X hH hS (k := 12) (c_X12_isLeft (a := a) hT hk_a e_S17) mw_X12_isLeft in_8_53 hk_a (by decide) rfl rfl rfl ⟨rfl, rfl⟩ ⟨Nat.le_of_ble_eq_true rfl, Nat.le_of_ble_eq_true rfl⟩ ⟨Nat.zero_le _, Nat.zero_le _⟩ hl.1 (Nat.le_of_ble_eq_true rfl) dX12_fun_97 (fun H locs hH hS => ?_)
                refine lv_if_eq (tgt := 107) hx hb dX12_fun_100 (by decide) (fun c19 => ?_) (fun c19 => ?_)
                · have hm := m_ite_t hm c19
                  refine lv_iconst (v := (0 : Int32)) hx hb dX12_fun_107 (by decide) ?_
                  exact k_X12_fun_108 (a := a) X hr hT hk_a   S17 (0 : Int32) _ _ _ hH hS (lv_sub hl [] rfl) hm
                · have hm := m_ite_f hm c19
                  refine lv_iconst (v := (1 : Int32)) hx hb dX12_fun_103 (by decide) ?_
                  refine lv_goto (tgt := 108) hx hb dX12_fun_104 (by decide) ?_
                  exact k_X12_fun_108 (a := a) X hr hT hk_a   S17 (1 : Int32) _ _ _ hH hS (lv_sub hl [] rfl) hm
              · have hm := m_ite_f hm c16
                refine lv_tableOut (tgt := 109) hx hb dX12_fun_19 (by have h_c5 := lv_neT (a := 0) c5 rfl; have h_c7 := lv_neT (a := 1) c7 rfl; have h_c9 := lv_neT (a := 2) c9 rfl; have h_c12 := lv_neT (a := 3) c12 rfl; have h_c14 := lv_neT (a := 4) c14 rfl; have h_c16 := lv_neT (a := 5) c16 rfl; omega) (by decide) ?_
                refine lv_aload_n hx hb dX12_fun_109 rfl (lv_at hl 0 rfl) ?_
                obtain ⟨v21, S20, e_S20, hm⟩ := m_call_of hm
                refine n_cVi X hH hS (k := 12) (c_X12_refuse (a := a) hT hk_a e_S20) mw_X12_refuse in_8_45 hk_a (by decide) rfl rfl rfl ⟨rfl, rfl⟩ ⟨Nat.le_of_ble_eq_true rfl, Nat.le_of_ble_eq_true rfl⟩ ⟨Nat.zero_le _, Nat.zero_le _⟩ hl.1 (Nat.le_of_ble_eq_true rfl) dX12_fun_110 (fun H locs hH hS => ?_)
                exact r_iret X hr hH hS hm dX12_fun_113
  · have hm := m_ite_t hm c4
    refine lv_aload_n hx hb dX12_fun_13 rfl (lv_at hl 0 rfl) ?_
    obtain ⟨v23, S22, e_S22, hm⟩ := m_call_of hm
    refine n_cVi X hH hS (k := 12) (c_X12_refuse (a := a) hT hk_a e_S22) mw_X12_refuse in_8_45 hk_a (by decide) rfl rfl rfl ⟨rfl, rfl⟩ ⟨Nat.le_of_ble_eq_true rfl, Nat.le_of_ble_eq_true rfl⟩ ⟨Nat.zero_le _, Nat.zero_le _⟩ hl.1 (Nat.le_of_ble_eq_true rfl) dX12_fun_14 (fun H locs hH hS => ?_)
    exact r_iret X hr hH hS hm dX12_fun_17
def rm_X12_points : Room := { frames := 2, cells := 0, slots := 0, locals := 43 }
def b_X12_points_47 (a : Nat)  (S : m_M) (t0 : Int32) : Option (Int32 × m_M) :=
    some (t0, S)
set_option maxHeartbeats 4000000 in
set_option maxRecDepth 100000 in
theorem k_X12_points_47 {p : Program} {l : Launch} {e : Env} {s : State} {m : MethodId} {args : Array Value} {below : List Frame} {meth : Method} {c : Code} {G : m_G} {nx : Nat} {κ : Nat → Nat} {res : (Int32 × m_M)} {a : Nat} (X : m_Cx p s m args meth c cX12_points 3 RX12 G) (hr : meth.sig.returnType = (some .int)) (hT : m_Str κ) (hk_a : κ a = 13)  : ∀ (S : m_M) (t0 : Int32) (H : Heap) (locs : List Loc) (ls : Array Slot), m_H G nx κ S H → m_S G s H locs → lv_has ls 3 [] → b_X12_points_47 a S t0 = some res → W p l e rm_X12_points s m args below meth c H locs 0 0 (m_Qi below args s G nx κ res) (F0 m 47 ls [.int t0]) := by
  have hx := X.1.1
  have hb := X.1.2.1
  intro S t0 H locs ls hH hS hl hm
  rw [b_X12_points_47] at hm
  exact r_iret X hr hH hS hm dX12_points_47
def b_X12_points_46 (a : Nat)  (S : m_M)  : Option (Int32 × m_M) :=
    b_X12_points_47 a S (-1 : Int32)
set_option maxHeartbeats 4000000 in
set_option maxRecDepth 100000 in
theorem k_X12_points_46 {p : Program} {l : Launch} {e : Env} {s : State} {m : MethodId} {args : Array Value} {below : List Frame} {meth : Method} {c : Code} {G : m_G} {nx : Nat} {κ : Nat → Nat} {res : (Int32 × m_M)} {a : Nat} (X : m_Cx p s m args meth c cX12_points 3 RX12 G) (hr : meth.sig.returnType = (some .int)) (hT : m_Str κ) (hk_a : κ a = 13)  : ∀ (S : m_M)  (H : Heap) (locs : List Loc) (ls : Array Slot), m_H G nx κ S H → m_S G s H locs → lv_has ls 3 [] → b_X12_points_46 a S  = some res → W p l e rm_X12_points s m args below meth c H locs 0 0 (m_Qi below args s G nx κ res) (F0 m 46 ls []) := by
  have hx := X.1.1
  have hb := X.1.2.1
  intro S H locs ls hH hS hl hm
  rw [b_X12_points_46] at hm
  refine lv_iconst (v := (-1 : Int32)) hx hb dX12_points_46 (by decide) ?_
  exact k_X12_points_47 (a := a) X hr hT hk_a   S (-1 : Int32) _ _ _ hH hS hl hm
def f_X12_points (a : Nat) (S : m_M) (i1 : Int32) (i2 : Int32) : Option (Int32 × m_M) :=
    m_let (m_si S a 0 (0 : Int32)) fun S1 =>
    m_call (f_X12_isFun a S1 i1) fun v3 S2 =>
    if v3 = 0 then (
    b_X12_points_46 a S2) else (
    m_call (f_X12_varsOf a (a + 2) 2647 S2 i1) fun v6 S5 =>
    m_call (f_X12_isIn S5 i2 (0 : Int32) (v6 - (1 : Int32))) fun v8 S7 =>
    if v8 = 0 then (
    b_X12_points_46 a S7) else (
    m_call (f_X12_node a S7 i1 i2) fun v11 S10 =>
    (m_ldi S10 (a + 15) 135 v11).bind fun v12 =>
    b_X12_points_47 a S10 v12))
set_option maxHeartbeats 4000000 in
set_option maxRecDepth 100000 in
theorem c_X12_points {l : Launch} {G : m_G} {nx : Nat} {κ : Nat → Nat} {a : Nat} {S : m_M} {i1 : Int32} {i2 : Int32} {res : (Int32 × m_M)} (hT : m_Str κ) (hk_a : κ a = 13) (hm : f_X12_points a S i1 i2 = some res) : m_Ci l yX12_points cX12_points 3 (some .int) rm_X12_points G nx κ [.ref a, .int i1, .int i2] S res := by
  refine m_Ci.of (by decide) (Nat.le_of_ble_eq_true rfl) ?_
  intro p e s m args below meth c ls X hr hH hl
  have hx := X.1.1
  have hb := X.1.2.1
  have hS : m_S G s s.heap [] := va_S.rf
  have hl : lv_has ls 3 [(0, .ref a), (1, .int i1), (2, .int i2)] := hl
  rw [f_X12_points] at hm
  refine lv_aload_n hx hb dX12_points_0 rfl (lv_at hl 0 rfl) ?_
  refine lv_iconst (v := (0 : Int32)) hx hb dX12_points_1 (by decide) ?_
  obtain ⟨S1, e_S1, hm⟩ := m_let_of hm
  refine n_puti X hH hS tyX12 (k := 12) (a := a) (j := 0) hk_a (by decide) rfl m_wi12 tyX12_ok nmX12 (by decide) in_7_15 rfl rfl rfl ⟨rfl, rfl⟩ e_S1 dX12_points_2 (fun H locs hH hS => ?_)
  refine lv_aload_n hx hb dX12_points_5 rfl (lv_at hl 0 rfl) ?_
  refine lv_iload_n hx hb dX12_points_6 rfl (lv_at hl 1 rfl) ?_
  obtain ⟨v3, S2, e_S2, hm⟩ := m_call_of hm
  refine n_cVi X hH hS (k := 12) (c_X12_isFun (a := a) hT hk_a e_S2) mw_X12_isFun in_8_38 hk_a (by decide) rfl rfl rfl ⟨rfl, rfl⟩ ⟨Nat.le_of_ble_eq_true rfl, Nat.le_of_ble_eq_true rfl⟩ ⟨Nat.zero_le _, Nat.zero_le _⟩ hl.1 (Nat.le_of_ble_eq_true rfl) dX12_points_7 (fun H locs hH hS => ?_)
  refine lv_if_eq (tgt := 46) hx hb dX12_points_10 (by decide) (fun c4 => ?_) (fun c4 => ?_)
  · have hm := m_ite_t hm c4
    exact k_X12_points_46 (a := a) X hr hT hk_a   S2 _ _ _ hH hS (lv_sub hl [] rfl) hm
  · have hm := m_ite_f hm c4
    refine lv_iload_n hx hb dX12_points_13 rfl (lv_at hl 2 rfl) ?_
    refine lv_iconst (v := (0 : Int32)) hx hb dX12_points_14 (by decide) ?_
    refine lv_aload_n hx hb dX12_points_15 rfl (lv_at hl 0 rfl) ?_
    refine lv_aload_n hx hb dX12_points_16 rfl (lv_at hl 0 rfl) ?_
    refine r_getp X hH (k := 12) (a := a) (j := 14) (b := (a + 2)) (A := 2) (B := 0) hk_a (by decide) rfl m_wi12 (by decide) in_7_29 rfl rfl rfl dX12_points_17 ?_
    refine lv_iload_n hx hb dX12_points_20 rfl (lv_at hl 1 rfl) ?_
    obtain ⟨v6, S5, e_S5, hm⟩ := m_call_of hm
    refine n_cVi X hH hS (k := 12) (c_X12_varsOf (a := a) (o1 := (a + 2)) (n1 := 2647) hT hk_a (m_lay_at hT hk_a (by decide) (i := 2) rfl) e_S5) mw_X12_varsOf in_6_224 hk_a (by decide) rfl rfl rfl ⟨rfl, rfl⟩ ⟨Nat.le_of_ble_eq_true rfl, Nat.le_of_ble_eq_true rfl⟩ ⟨Nat.zero_le _, Nat.zero_le _⟩ hl.1 (Nat.le_of_ble_eq_true rfl) dX12_points_21 (fun H locs hH hS => ?_)
    refine lv_iconst (v := (1 : Int32)) hx hb dX12_points_24 (by decide) ?_
    refine lv_isub hx hb dX12_points_25 ?_
    obtain ⟨v8, S7, e_S7, hm⟩ := m_call_of hm
    refine n_cSi X hH hS (c_X12_isIn  hT  e_S7) mw_X12_isIn in_8_42 rfl ⟨rfl, rfl⟩ ⟨Nat.le_of_ble_eq_true rfl, Nat.le_of_ble_eq_true rfl⟩ ⟨Nat.zero_le _, Nat.zero_le _⟩ hl.1 (Nat.le_of_ble_eq_true rfl) dX12_points_26 (fun H locs hH hS => ?_)
    refine lv_if_eq (tgt := 46) hx hb dX12_points_29 (by decide) (fun c9 => ?_) (fun c9 => ?_)
    · have hm := m_ite_t hm c9
      exact k_X12_points_46 (a := a) X hr hT hk_a   S7 _ _ _ hH hS (lv_sub hl [] rfl) hm
    · have hm := m_ite_f hm c9
      refine lv_aload_n hx hb dX12_points_32 rfl (lv_at hl 0 rfl) ?_
      refine r_getp X hH (k := 12) (a := a) (j := 28) (b := (a + 15)) (A := 15) (B := 0) hk_a (by decide) rfl m_wi12 (by decide) in_7_43 rfl rfl rfl dX12_points_33 ?_
      refine lv_aload_n hx hb dX12_points_36 rfl (lv_at hl 0 rfl) ?_
      refine lv_iload_n hx hb dX12_points_37 rfl (lv_at hl 1 rfl) ?_
      refine lv_iload_n hx hb dX12_points_38 rfl (lv_at hl 2 rfl) ?_
      obtain ⟨v11, S10, e_S10, hm⟩ := m_call_of hm
      refine n_cVi X hH hS (k := 12) (c_X12_node (a := a) hT hk_a e_S10) mw_X12_node in_6_200 hk_a (by decide) rfl rfl rfl ⟨rfl, rfl⟩ ⟨Nat.le_of_ble_eq_true rfl, Nat.le_of_ble_eq_true rfl⟩ ⟨Nat.zero_le _, Nat.zero_le _⟩ hl.1 (Nat.le_of_ble_eq_true rfl) dX12_points_39 (fun H locs hH hS => ?_)
      obtain ⟨v12, h_v12, e_v12, hm⟩ := n_ldi hm
      refine n_iald X hH (n := 135) (m_lay_at hT hk_a (by decide) (i := 15) rfl) h_v12 e_v12 dX12_points_42 ?_
      refine lv_goto (tgt := 47) hx hb dX12_points_43 (by decide) ?_
      exact k_X12_points_47 (a := a) X hr hT hk_a   S10 v12 _ _ _ hH hS (lv_sub hl [] rfl) hm
def rm_X12_roomsOf : Room := { frames := 0, cells := 0, slots := 0, locals := 0 }
def b_X12_roomsOf_33 (a : Nat) (K_4 : m_M → Int32 → Int32 → Int32 → Option (Int32 × m_M)) (S : m_M) (l1 : Int32) (l2 : Int32) (l3 : Int32) : Option (Int32 × m_M) :=
    m_let (l3 + (1 : Int32)) fun v1 =>
    K_4 S l1 l2 v1
set_option maxHeartbeats 4000000 in
set_option maxRecDepth 100000 in
theorem k_X12_roomsOf_33 {p : Program} {l : Launch} {e : Env} {s : State} {m : MethodId} {args : Array Value} {below : List Frame} {meth : Method} {c : Code} {G : m_G} {nx : Nat} {κ : Nat → Nat} {res : (Int32 × m_M)} {a : Nat} (X : m_Cx p s m args meth c cX12_roomsOf 4 RX12 G) (hr : meth.sig.returnType = (some .int)) (hT : m_Str κ) (hk_a : κ a = 13) (K_4 : m_M → Int32 → Int32 → Int32 → Option (Int32 × m_M)) (hK_4 : ∀ (S : m_M) (l1 : Int32) (l2 : Int32) (l3 : Int32) (H : Heap) (locs : List Loc) (ls : Array Slot), m_H G nx κ S H → m_S G s H locs → lv_has ls 4 [(0, .ref a), (1, .int l1), (2, .int l2), (3, .int l3)] → K_4 S l1 l2 l3 = some res → W p l e rm_X12_roomsOf s m args below meth c H locs 0 0 (m_Qi below args s G nx κ res) (F0 m 4 ls [])) : ∀ (S : m_M) (l1 : Int32) (l2 : Int32) (l3 : Int32) (H : Heap) (locs : List Loc) (ls : Array Slot), m_H G nx κ S H → m_S G s H locs → lv_has ls 4 [(0, .ref a), (1, .int l1), (2, .int l2), (3, .int l3)] → b_X12_roomsOf_33 a K_4 S l1 l2 l3 = some res → W p l e rm_X12_roomsOf s m args below meth c H locs 0 0 (m_Qi below args s G nx κ res) (F0 m 33 ls []) := by
  have hx := X.1.1
  have hb := X.1.2.1
  intro S l1 l2 l3 H locs ls hH hS hl hm
  rw [b_X12_roomsOf_33] at hm
  obtain ⟨v1, e_v1, hm⟩ := m_let_of hm
  refine lv_iinc (v := v1) (lv' := [(3, .int v1), (0, .ref a), (1, .int l1), (2, .int l2)]) hx hb dX12_roomsOf_33 hl (k := 3) rfl (by rw [← e_v1]; rfl) (by decide) rfl (fun ls hl => ?_)
  refine lv_goto (tgt := 4) hx hb dX12_roomsOf_36 (by decide) ?_
  exact hK_4 S l1 l2 v1 _ _ _ hH hS (lv_sub hl [1, 2, 3, 0] rfl) hm
def b_X12_roomsOf_4 (a : Nat)  : Nat → m_M → Int32 → Int32 → Int32 → Option (Int32 × m_M)
  | 0, _, _, _, _ => none
  | n + 1, S, l1, l2, l3 =>
    (m_ldi S (a + 2) 2647 (214 : Int32)).bind fun v1 =>
    if v1 ≤ l3 then (
    some (l2, S)) else (
    (m_ldi S (a + 2) 2647 ((2093 : Int32) + l3)).bind fun v3 =>
    if v3 = l1 then (
    m_let (l2 + (1 : Int32)) fun v5 =>
    b_X12_roomsOf_33 a (b_X12_roomsOf_4 a n) S l1 v5 l3) else (
    b_X12_roomsOf_33 a (b_X12_roomsOf_4 a n) S l1 l2 l3))
set_option maxHeartbeats 4000000 in
set_option maxRecDepth 100000 in
theorem k_X12_roomsOf_4 {p : Program} {l : Launch} {e : Env} {s : State} {m : MethodId} {args : Array Value} {below : List Frame} {meth : Method} {c : Code} {G : m_G} {nx : Nat} {κ : Nat → Nat} {res : (Int32 × m_M)} {a : Nat} (X : m_Cx p s m args meth c cX12_roomsOf 4 RX12 G) (hr : meth.sig.returnType = (some .int)) (hT : m_Str κ) (hk_a : κ a = 13)  (n : Nat) : ∀ (S : m_M) (l1 : Int32) (l2 : Int32) (l3 : Int32) (H : Heap) (locs : List Loc) (ls : Array Slot), m_H G nx κ S H → m_S G s H locs → lv_has ls 4 [(0, .ref a), (1, .int l1), (2, .int l2), (3, .int l3)] → b_X12_roomsOf_4 a n S l1 l2 l3 = some res → W p l e rm_X12_roomsOf s m args below meth c H locs 0 0 (m_Qi below args s G nx κ res) (F0 m 4 ls []) := by
  have hx := X.1.1
  have hb := X.1.2.1
  induction n with
  | zero => intro S l1 l2 l3 H locs ls hH hS hl hm; have hm : (none : Option (Int32 × m_M)) = some res := hm; cases hm
  | succ n ih =>
    intro S l1 l2 l3 H locs ls hH hS hl hm
    rw [b_X12_roomsOf_4] at hm
    refine lv_iload_n hx hb dX12_roomsOf_4 rfl (lv_at hl 3 rfl) ?_
    refine lv_aload_n hx hb dX12_roomsOf_5 rfl (lv_at hl 0 rfl) ?_
    refine r_getp X hH (k := 12) (a := a) (j := 14) (b := (a + 2)) (A := 2) (B := 0) hk_a (by decide) rfl m_wi12 (by decide) in_7_29 rfl rfl rfl dX12_roomsOf_6 ?_
    refine lv_sipush (v := (214 : Int32)) hx hb dX12_roomsOf_9 (by decide) ?_
    obtain ⟨v1, h_v1, e_v1, hm⟩ := n_ldi hm
    refine n_iald X hH (n := 2647) (m_lay_at hT hk_a (by decide) (i := 2) rfl) h_v1 e_v1 dX12_roomsOf_12 ?_
    refine lv_icmp_ge (tgt := 39) hx hb dX12_roomsOf_13 (by decide) (fun c2 => ?_) (fun c2 => ?_)
    · have hm := m_ite_t hm c2
      refine lv_iload_n hx hb dX12_roomsOf_39 rfl (lv_at hl 2 rfl) ?_
      exact r_iret X hr hH hS hm dX12_roomsOf_40
    · have hm := m_ite_f hm c2
      refine lv_aload_n hx hb dX12_roomsOf_16 rfl (lv_at hl 0 rfl) ?_
      refine r_getp X hH (k := 12) (a := a) (j := 14) (b := (a + 2)) (A := 2) (B := 0) hk_a (by decide) rfl m_wi12 (by decide) in_7_29 rfl rfl rfl dX12_roomsOf_17 ?_
      refine lv_sipush (v := (2093 : Int32)) hx hb dX12_roomsOf_20 (by decide) ?_
      refine lv_iload_n hx hb dX12_roomsOf_23 rfl (lv_at hl 3 rfl) ?_
      refine lv_iadd hx hb dX12_roomsOf_24 ?_
      obtain ⟨v3, h_v3, e_v3, hm⟩ := n_ldi hm
      refine n_iald X hH (n := 2647) (m_lay_at hT hk_a (by decide) (i := 2) rfl) h_v3 e_v3 dX12_roomsOf_25 ?_
      refine lv_iload_n hx hb dX12_roomsOf_26 rfl (lv_at hl 1 rfl) ?_
      refine lv_icmp_ne (tgt := 33) hx hb dX12_roomsOf_27 (by decide) (fun c4 => ?_) (fun c4 => ?_)
      · have hm := m_ite_f hm c4
        exact k_X12_roomsOf_33 (a := a) X hr hT hk_a (b_X12_roomsOf_4 a n) ih  S l1 l2 l3 _ _ _ hH hS hl hm
      · have hm := m_ite_t hm c4
        obtain ⟨v5, e_v5, hm⟩ := m_let_of hm
        refine lv_iinc (v := v5) (lv' := [(2, .int v5), (0, .ref a), (1, .int l1), (3, .int l3)]) hx hb dX12_roomsOf_30 hl (k := 2) rfl (by rw [← e_v5]; rfl) (by decide) rfl (fun ls hl => ?_)
        exact k_X12_roomsOf_33 (a := a) X hr hT hk_a (b_X12_roomsOf_4 a n) ih  S l1 v5 l3 _ _ _ hH hS (lv_sub hl [1, 2, 0, 3] rfl) hm
def f_X12_roomsOf (a : Nat) (S : m_M) (i1 : Int32) : Option (Int32 × m_M) :=
    b_X12_roomsOf_4 a m_fu S i1 (0 : Int32) (0 : Int32)
set_option maxHeartbeats 4000000 in
set_option maxRecDepth 100000 in
theorem c_X12_roomsOf {l : Launch} {G : m_G} {nx : Nat} {κ : Nat → Nat} {a : Nat} {S : m_M} {i1 : Int32} {res : (Int32 × m_M)} (hT : m_Str κ) (hk_a : κ a = 13) (hm : f_X12_roomsOf a S i1 = some res) : m_Ci l yX12_roomsOf cX12_roomsOf 4 (some .int) rm_X12_roomsOf G nx κ [.ref a, .int i1] S res := by
  refine m_Ci.of (by decide) (Nat.le_of_ble_eq_true rfl) ?_
  intro p e s m args below meth c ls X hr hH hl
  have hx := X.1.1
  have hb := X.1.2.1
  have hS : m_S G s s.heap [] := va_S.rf
  have hl : lv_has ls 4 [(0, .ref a), (1, .int i1)] := hl
  rw [f_X12_roomsOf] at hm
  refine lv_iconst (v := (0 : Int32)) hx hb dX12_roomsOf_0 (by decide) ?_
  refine lv_istore_n (lv' := [(2, .int (0 : Int32)), (0, .ref a), (1, .int i1)]) hx hb dX12_roomsOf_1 rfl hl (by decide) rfl (fun ls hl => ?_)
  refine lv_iconst (v := (0 : Int32)) hx hb dX12_roomsOf_2 (by decide) ?_
  refine lv_istore_n (lv' := [(3, .int (0 : Int32)), (2, .int (0 : Int32)), (0, .ref a), (1, .int i1)]) hx hb dX12_roomsOf_3 rfl hl (by decide) rfl (fun ls hl => ?_)
  exact k_X12_roomsOf_4 (a := a) X hr hT hk_a  m_fu S i1 (0 : Int32) (0 : Int32) _ _ _ hH hS (lv_sub hl [2, 3, 1, 0] rfl) hm
def rm_X12_cellsOf : Room := { frames := 0, cells := 0, slots := 0, locals := 0 }
def b_X12_cellsOf_28 (a : Nat) (K_4 : m_M → Int32 → Int32 → Int32 → Option (Int32 × m_M)) (S : m_M) (l1 : Int32) (l2 : Int32) (l3 : Int32) : Option (Int32 × m_M) :=
    m_let (l3 + (1 : Int32)) fun v1 =>
    K_4 S l1 l2 v1
set_option maxHeartbeats 4000000 in
set_option maxRecDepth 100000 in
theorem k_X12_cellsOf_28 {p : Program} {l : Launch} {e : Env} {s : State} {m : MethodId} {args : Array Value} {below : List Frame} {meth : Method} {c : Code} {G : m_G} {nx : Nat} {κ : Nat → Nat} {res : (Int32 × m_M)} {a : Nat} (X : m_Cx p s m args meth c cX12_cellsOf 4 RX12 G) (hr : meth.sig.returnType = (some .int)) (hT : m_Str κ) (hk_a : κ a = 13) (K_4 : m_M → Int32 → Int32 → Int32 → Option (Int32 × m_M)) (hK_4 : ∀ (S : m_M) (l1 : Int32) (l2 : Int32) (l3 : Int32) (H : Heap) (locs : List Loc) (ls : Array Slot), m_H G nx κ S H → m_S G s H locs → lv_has ls 4 [(0, .ref a), (1, .int l1), (2, .int l2), (3, .int l3)] → K_4 S l1 l2 l3 = some res → W p l e rm_X12_cellsOf s m args below meth c H locs 0 0 (m_Qi below args s G nx κ res) (F0 m 4 ls [])) : ∀ (S : m_M) (l1 : Int32) (l2 : Int32) (l3 : Int32) (H : Heap) (locs : List Loc) (ls : Array Slot), m_H G nx κ S H → m_S G s H locs → lv_has ls 4 [(0, .ref a), (1, .int l1), (2, .int l2), (3, .int l3)] → b_X12_cellsOf_28 a K_4 S l1 l2 l3 = some res → W p l e rm_X12_cellsOf s m args below meth c H locs 0 0 (m_Qi below args s G nx κ res) (F0 m 28 ls []) := by
  have hx := X.1.1
  have hb := X.1.2.1
  intro S l1 l2 l3 H locs ls hH hS hl hm
  rw [b_X12_cellsOf_28] at hm
  obtain ⟨v1, e_v1, hm⟩ := m_let_of hm
  refine lv_iinc (v := v1) (lv' := [(3, .int v1), (0, .ref a), (1, .int l1), (2, .int l2)]) hx hb dX12_cellsOf_28 hl (k := 3) rfl (by rw [← e_v1]; rfl) (by decide) rfl (fun ls hl => ?_)
  refine lv_goto (tgt := 4) hx hb dX12_cellsOf_31 (by decide) ?_
  exact hK_4 S l1 l2 v1 _ _ _ hH hS (lv_sub hl [1, 2, 3, 0] rfl) hm
def b_X12_cellsOf_4 (a : Nat)  : Nat → m_M → Int32 → Int32 → Int32 → Option (Int32 × m_M)
  | 0, _, _, _, _ => none
  | n + 1, S, l1, l2, l3 =>
    if (200 : Int32) ≤ l3 then (
    some (l2, S)) else (
    (m_ldi S (a + 2) 2647 ((893 : Int32) + l3)).bind fun v2 =>
    if v2 = l1 then (
    m_let (l2 + (1 : Int32)) fun v4 =>
    b_X12_cellsOf_28 a (b_X12_cellsOf_4 a n) S l1 v4 l3) else (
    b_X12_cellsOf_28 a (b_X12_cellsOf_4 a n) S l1 l2 l3))
set_option maxHeartbeats 4000000 in
set_option maxRecDepth 100000 in
theorem k_X12_cellsOf_4 {p : Program} {l : Launch} {e : Env} {s : State} {m : MethodId} {args : Array Value} {below : List Frame} {meth : Method} {c : Code} {G : m_G} {nx : Nat} {κ : Nat → Nat} {res : (Int32 × m_M)} {a : Nat} (X : m_Cx p s m args meth c cX12_cellsOf 4 RX12 G) (hr : meth.sig.returnType = (some .int)) (hT : m_Str κ) (hk_a : κ a = 13)  (n : Nat) : ∀ (S : m_M) (l1 : Int32) (l2 : Int32) (l3 : Int32) (H : Heap) (locs : List Loc) (ls : Array Slot), m_H G nx κ S H → m_S G s H locs → lv_has ls 4 [(0, .ref a), (1, .int l1), (2, .int l2), (3, .int l3)] → b_X12_cellsOf_4 a n S l1 l2 l3 = some res → W p l e rm_X12_cellsOf s m args below meth c H locs 0 0 (m_Qi below args s G nx κ res) (F0 m 4 ls []) := by
  have hx := X.1.1
  have hb := X.1.2.1
  induction n with
  | zero => intro S l1 l2 l3 H locs ls hH hS hl hm; have hm : (none : Option (Int32 × m_M)) = some res := hm; cases hm
  | succ n ih =>
    intro S l1 l2 l3 H locs ls hH hS hl hm
    rw [b_X12_cellsOf_4] at hm
    refine lv_iload_n hx hb dX12_cellsOf_4 rfl (lv_at hl 3 rfl) ?_
    refine lv_sipush (v := (200 : Int32)) hx hb dX12_cellsOf_5 (by decide) ?_
    refine lv_icmp_ge (tgt := 34) hx hb dX12_cellsOf_8 (by decide) (fun c1 => ?_) (fun c1 => ?_)
    · have hm := m_ite_t hm c1
      refine lv_iload_n hx hb dX12_cellsOf_34 rfl (lv_at hl 2 rfl) ?_
      exact r_iret X hr hH hS hm dX12_cellsOf_35
    · have hm := m_ite_f hm c1
      refine lv_aload_n hx hb dX12_cellsOf_11 rfl (lv_at hl 0 rfl) ?_
      refine r_getp X hH (k := 12) (a := a) (j := 14) (b := (a + 2)) (A := 2) (B := 0) hk_a (by decide) rfl m_wi12 (by decide) in_7_29 rfl rfl rfl dX12_cellsOf_12 ?_
      refine lv_sipush (v := (893 : Int32)) hx hb dX12_cellsOf_15 (by decide) ?_
      refine lv_iload_n hx hb dX12_cellsOf_18 rfl (lv_at hl 3 rfl) ?_
      refine lv_iadd hx hb dX12_cellsOf_19 ?_
      obtain ⟨v2, h_v2, e_v2, hm⟩ := n_ldi hm
      refine n_iald X hH (n := 2647) (m_lay_at hT hk_a (by decide) (i := 2) rfl) h_v2 e_v2 dX12_cellsOf_20 ?_
      refine lv_iload_n hx hb dX12_cellsOf_21 rfl (lv_at hl 1 rfl) ?_
      refine lv_icmp_ne (tgt := 28) hx hb dX12_cellsOf_22 (by decide) (fun c3 => ?_) (fun c3 => ?_)
      · have hm := m_ite_f hm c3
        exact k_X12_cellsOf_28 (a := a) X hr hT hk_a (b_X12_cellsOf_4 a n) ih  S l1 l2 l3 _ _ _ hH hS hl hm
      · have hm := m_ite_t hm c3
        obtain ⟨v4, e_v4, hm⟩ := m_let_of hm
        refine lv_iinc (v := v4) (lv' := [(2, .int v4), (0, .ref a), (1, .int l1), (3, .int l3)]) hx hb dX12_cellsOf_25 hl (k := 2) rfl (by rw [← e_v4]; rfl) (by decide) rfl (fun ls hl => ?_)
        exact k_X12_cellsOf_28 (a := a) X hr hT hk_a (b_X12_cellsOf_4 a n) ih  S l1 v4 l3 _ _ _ hH hS (lv_sub hl [1, 2, 0, 3] rfl) hm
def f_X12_cellsOf (a : Nat) (S : m_M) (i1 : Int32) : Option (Int32 × m_M) :=
    b_X12_cellsOf_4 a m_fu S i1 (0 : Int32) (0 : Int32)
set_option maxHeartbeats 4000000 in
set_option maxRecDepth 100000 in
theorem c_X12_cellsOf {l : Launch} {G : m_G} {nx : Nat} {κ : Nat → Nat} {a : Nat} {S : m_M} {i1 : Int32} {res : (Int32 × m_M)} (hT : m_Str κ) (hk_a : κ a = 13) (hm : f_X12_cellsOf a S i1 = some res) : m_Ci l yX12_cellsOf cX12_cellsOf 4 (some .int) rm_X12_cellsOf G nx κ [.ref a, .int i1] S res := by
  refine m_Ci.of (by decide) (Nat.le_of_ble_eq_true rfl) ?_
  intro p e s m args below meth c ls X hr hH hl
  have hx := X.1.1
  have hb := X.1.2.1
  have hS : m_S G s s.heap [] := va_S.rf
  have hl : lv_has ls 4 [(0, .ref a), (1, .int i1)] := hl
  rw [f_X12_cellsOf] at hm
  refine lv_iconst (v := (0 : Int32)) hx hb dX12_cellsOf_0 (by decide) ?_
  refine lv_istore_n (lv' := [(2, .int (0 : Int32)), (0, .ref a), (1, .int i1)]) hx hb dX12_cellsOf_1 rfl hl (by decide) rfl (fun ls hl => ?_)
  refine lv_iconst (v := (0 : Int32)) hx hb dX12_cellsOf_2 (by decide) ?_
  refine lv_istore_n (lv' := [(3, .int (0 : Int32)), (2, .int (0 : Int32)), (0, .ref a), (1, .int i1)]) hx hb dX12_cellsOf_3 rfl hl (by decide) rfl (fun ls hl => ?_)
  exact k_X12_cellsOf_4 (a := a) X hr hT hk_a  m_fu S i1 (0 : Int32) (0 : Int32) _ _ _ hH hS (lv_sub hl [2, 3, 1, 0] rfl) hm
def rm_X12_region : Room := { frames := 3, cells := 0, slots := 0, locals := 65 }
def b_X12_region_60 (a : Nat)  (S : m_M) (l1 : Int32) (l2 : Int32) : Option (Int32 × m_M) :=
    (m_ldi S (a + 17) 48 (((2 : Int32) * l1) + l2)).bind fun v1 =>
    some (v1, S)
set_option maxHeartbeats 4000000 in
set_option maxRecDepth 100000 in
theorem k_X12_region_60 {p : Program} {l : Launch} {e : Env} {s : State} {m : MethodId} {args : Array Value} {below : List Frame} {meth : Method} {c : Code} {G : m_G} {nx : Nat} {κ : Nat → Nat} {res : (Int32 × m_M)} {a : Nat} (X : m_Cx p s m args meth c cX12_region 3 RX12 G) (hr : meth.sig.returnType = (some .int)) (hT : m_Str κ) (hk_a : κ a = 13)  : ∀ (S : m_M) (l1 : Int32) (l2 : Int32) (H : Heap) (locs : List Loc) (ls : Array Slot), m_H G nx κ S H → m_S G s H locs → lv_has ls 3 [(0, .ref a), (1, .int l1), (2, .int l2)] → b_X12_region_60 a S l1 l2 = some res → W p l e rm_X12_region s m args below meth c H locs 0 0 (m_Qi below args s G nx κ res) (F0 m 60 ls []) := by
  have hx := X.1.1
  have hb := X.1.2.1
  intro S l1 l2 H locs ls hH hS hl hm
  rw [b_X12_region_60] at hm
  refine lv_aload_n hx hb dX12_region_60 rfl (lv_at hl 0 rfl) ?_
  refine r_getp X hH (k := 12) (a := a) (j := 30) (b := (a + 17)) (A := 17) (B := 0) hk_a (by decide) rfl m_wi12 (by decide) in_7_45 rfl rfl rfl dX12_region_61 ?_
  refine lv_iconst (v := (2 : Int32)) hx hb dX12_region_64 (by decide) ?_
  refine lv_iload_n hx hb dX12_region_65 rfl (lv_at hl 1 rfl) ?_
  refine lv_imul hx hb dX12_region_66 ?_
  refine lv_iload_n hx hb dX12_region_67 rfl (lv_at hl 2 rfl) ?_
  refine lv_iadd hx hb dX12_region_68 ?_
  obtain ⟨v1, h_v1, e_v1, hm⟩ := n_ldi hm
  refine n_iald X hH (n := 48) (m_lay_at hT hk_a (by decide) (i := 17) rfl) h_v1 e_v1 dX12_region_69 ?_
  exact r_iret X hr hH hS hm dX12_region_70
def b_X12_region_97 (a : Nat)  (S : m_M) (t0 : Int32) : Option (Int32 × m_M) :=
    some (t0, S)
set_option maxHeartbeats 4000000 in
set_option maxRecDepth 100000 in
theorem k_X12_region_97 {p : Program} {l : Launch} {e : Env} {s : State} {m : MethodId} {args : Array Value} {below : List Frame} {meth : Method} {c : Code} {G : m_G} {nx : Nat} {κ : Nat → Nat} {res : (Int32 × m_M)} {a : Nat} (X : m_Cx p s m args meth c cX12_region 3 RX12 G) (hr : meth.sig.returnType = (some .int)) (hT : m_Str κ) (hk_a : κ a = 13)  : ∀ (S : m_M) (t0 : Int32) (H : Heap) (locs : List Loc) (ls : Array Slot), m_H G nx κ S H → m_S G s H locs → lv_has ls 3 [] → b_X12_region_97 a S t0 = some res → W p l e rm_X12_region s m args below meth c H locs 0 0 (m_Qi below args s G nx κ res) (F0 m 97 ls [.int t0]) := by
  have hx := X.1.1
  have hb := X.1.2.1
  intro S t0 H locs ls hH hS hl hm
  rw [b_X12_region_97] at hm
  exact r_iret X hr hH hS hm dX12_region_97
def f_X12_region (a : Nat) (S : m_M) (i1 : Int32) (i2 : Int32) : Option (Int32 × m_M) :=
    m_let (m_si S a 0 (0 : Int32)) fun S1 =>
    m_call (f_X12_isRegion a S1 i1) fun v3 S2 =>
    if v3 = 0 then (
    some ((-1 : Int32), S2)) else (
    if i2 = (0 : Int32) then (
    b_X12_region_60 a S2 i1 i2) else (
    if i2 = (1 : Int32) then (
    b_X12_region_60 a S2 i1 i2) else (
    if i2 = (2 : Int32) then (
    m_call (f_X12_ownersOf a S2 i1) fun v9 S8 =>
    some (v9, S8)) else (
    if i2 = (3 : Int32) then (
    (m_ldi S2 (a + 22) 24 i1).bind fun v11 =>
    some (v11, S2)) else (
    if i2 = (4 : Int32) then (
    m_call (f_X12_isFinite a S2 i1) fun v14 S13 =>
    if v14 = 0 then (
    b_X12_region_97 a S13 (0 : Int32)) else (
    b_X12_region_97 a S13 (1 : Int32))) else (
    if i2 = (5 : Int32) then (
    m_call (f_X12_roomsOf a S2 i1) fun v18 S17 =>
    some (v18, S17)) else (
    if i2 = (6 : Int32) then (
    m_call (f_X12_cellsOf a S2 i1) fun v21 S20 =>
    some (v21, S20)) else (
    some ((-1 : Int32), S2)))))))))
set_option maxHeartbeats 4000000 in
set_option maxRecDepth 100000 in
theorem c_X12_region {l : Launch} {G : m_G} {nx : Nat} {κ : Nat → Nat} {a : Nat} {S : m_M} {i1 : Int32} {i2 : Int32} {res : (Int32 × m_M)} (hT : m_Str κ) (hk_a : κ a = 13) (hm : f_X12_region a S i1 i2 = some res) : m_Ci l yX12_region cX12_region 3 (some .int) rm_X12_region G nx κ [.ref a, .int i1, .int i2] S res := by
  refine m_Ci.of (by decide) (Nat.le_of_ble_eq_true rfl) ?_
  intro p e s m args below meth c ls X hr hH hl
  have hx := X.1.1
  have hb := X.1.2.1
  have hS : m_S G s s.heap [] := va_S.rf
  have hl : lv_has ls 3 [(0, .ref a), (1, .int i1), (2, .int i2)] := hl
  rw [f_X12_region] at hm
  refine lv_aload_n hx hb dX12_region_0 rfl (lv_at hl 0 rfl) ?_
  refine lv_iconst (v := (0 : Int32)) hx hb dX12_region_1 (by decide) ?_
  obtain ⟨S1, e_S1, hm⟩ := m_let_of hm
  refine n_puti X hH hS tyX12 (k := 12) (a := a) (j := 0) hk_a (by decide) rfl m_wi12 tyX12_ok nmX12 (by decide) in_7_15 rfl rfl rfl ⟨rfl, rfl⟩ e_S1 dX12_region_2 (fun H locs hH hS => ?_)
  refine lv_aload_n hx hb dX12_region_5 rfl (lv_at hl 0 rfl) ?_
  refine lv_iload_n hx hb dX12_region_6 rfl (lv_at hl 1 rfl) ?_
  obtain ⟨v3, S2, e_S2, hm⟩ := m_call_of hm
  refine n_cVi X hH hS (k := 12) (c_X12_isRegion (a := a) hT hk_a e_S2) mw_X12_isRegion in_8_65 hk_a (by decide) rfl rfl rfl ⟨rfl, rfl⟩ ⟨Nat.le_of_ble_eq_true rfl, Nat.le_of_ble_eq_true rfl⟩ ⟨Nat.zero_le _, Nat.zero_le _⟩ hl.1 (Nat.le_of_ble_eq_true rfl) dX12_region_7 (fun H locs hH hS => ?_)
  refine lv_if_ne (tgt := 15) hx hb dX12_region_10 (by decide) (fun c4 => ?_) (fun c4 => ?_)
  · have hm := m_ite_f hm c4
    refine lv_iload_n hx hb dX12_region_15 rfl (lv_at hl 2 rfl) ?_
    by_cases c5 : i2 = (0 : Int32)
    · have hm := m_ite_t hm c5
      refine lv_tableIn (off := 44) (tgt := 60) hx hb dX12_region_16 (by rw [c5]; decide) (by rw [c5]; decide) (by rw [c5]; rfl) (by decide) ?_
      exact k_X12_region_60 (a := a) X hr hT hk_a   S2 i1 i2 _ _ _ hH hS hl hm
    · have hm := m_ite_f hm c5
      by_cases c6 : i2 = (1 : Int32)
      · have hm := m_ite_t hm c6
        refine lv_tableIn (off := 44) (tgt := 60) hx hb dX12_region_16 (by rw [c6]; decide) (by rw [c6]; decide) (by rw [c6]; rfl) (by decide) ?_
        exact k_X12_region_60 (a := a) X hr hT hk_a   S2 i1 i2 _ _ _ hH hS hl hm
      · have hm := m_ite_f hm c6
        by_cases c7 : i2 = (2 : Int32)
        · have hm := m_ite_t hm c7
          refine lv_tableIn (off := 55) (tgt := 71) hx hb dX12_region_16 (by rw [c7]; decide) (by rw [c7]; decide) (by rw [c7]; rfl) (by decide) ?_
          refine lv_aload_n hx hb dX12_region_71 rfl (lv_at hl 0 rfl) ?_
          refine lv_iload_n hx hb dX12_region_72 rfl (lv_at hl 1 rfl) ?_
          obtain ⟨v9, S8, e_S8, hm⟩ := m_call_of hm
          refine n_cVi X hH hS (k := 12) (c_X12_ownersOf (a := a) hT hk_a e_S8) mw_X12_ownersOf in_8_69 hk_a (by decide) rfl rfl rfl ⟨rfl, rfl⟩ ⟨Nat.le_of_ble_eq_true rfl, Nat.le_of_ble_eq_true rfl⟩ ⟨Nat.zero_le _, Nat.zero_le _⟩ hl.1 (Nat.le_of_ble_eq_true rfl) dX12_region_73 (fun H locs hH hS => ?_)
          exact r_iret X hr hH hS hm dX12_region_76
        · have hm := m_ite_f hm c7
          by_cases c10 : i2 = (3 : Int32)
          · have hm := m_ite_t hm c10
            refine lv_tableIn (off := 61) (tgt := 77) hx hb dX12_region_16 (by rw [c10]; decide) (by rw [c10]; decide) (by rw [c10]; rfl) (by decide) ?_
            refine lv_aload_n hx hb dX12_region_77 rfl (lv_at hl 0 rfl) ?_
            refine r_getp X hH (k := 12) (a := a) (j := 35) (b := (a + 22)) (A := 22) (B := 0) hk_a (by decide) rfl m_wi12 (by decide) in_7_50 rfl rfl rfl dX12_region_78 ?_
            refine lv_iload_n hx hb dX12_region_81 rfl (lv_at hl 1 rfl) ?_
            obtain ⟨v11, h_v11, e_v11, hm⟩ := n_ldi hm
            refine n_iald X hH (n := 24) (m_lay_at hT hk_a (by decide) (i := 22) rfl) h_v11 e_v11 dX12_region_82 ?_
            exact r_iret X hr hH hS hm dX12_region_83
          · have hm := m_ite_f hm c10
            by_cases c12 : i2 = (4 : Int32)
            · have hm := m_ite_t hm c12
              refine lv_tableIn (off := 68) (tgt := 84) hx hb dX12_region_16 (by rw [c12]; decide) (by rw [c12]; decide) (by rw [c12]; rfl) (by decide) ?_
              refine lv_aload_n hx hb dX12_region_84 rfl (lv_at hl 0 rfl) ?_
              refine lv_iload_n hx hb dX12_region_85 rfl (lv_at hl 1 rfl) ?_
              obtain ⟨v14, S13, e_S13, hm⟩ := m_call_of hm
              refine n_cVi X hH hS (k := 12) (c_X12_isFinite (a := a) hT hk_a e_S13) mw_X12_isFinite in_8_73 hk_a (by decide) rfl rfl rfl ⟨rfl, rfl⟩ ⟨Nat.le_of_ble_eq_true rfl, Nat.le_of_ble_eq_true rfl⟩ ⟨Nat.zero_le _, Nat.zero_le _⟩ hl.1 (Nat.le_of_ble_eq_true rfl) dX12_region_86 (fun H locs hH hS => ?_)
              refine lv_if_eq (tgt := 96) hx hb dX12_region_89 (by decide) (fun c15 => ?_) (fun c15 => ?_)
              · have hm := m_ite_t hm c15
                refine lv_iconst (v := (0 : Int32)) hx hb dX12_region_96 (by decide) ?_
                exact k_X12_region_97 (a := a) X hr hT hk_a   S13 (0 : Int32) _ _ _ hH hS (lv_sub hl [] rfl) hm
              · have hm := m_ite_f hm c15
                refine lv_iconst (v := (1 : Int32)) hx hb dX12_region_92 (by decide) ?_
                refine lv_goto (tgt := 97) hx hb dX12_region_93 (by decide) ?_
                exact k_X12_region_97 (a := a) X hr hT hk_a   S13 (1 : Int32) _ _ _ hH hS (lv_sub hl [] rfl) hm
            · have hm := m_ite_f hm c12
              by_cases c16 : i2 = (5 : Int32)
              · have hm := m_ite_t hm c16
                refine lv_tableIn (off := 82) (tgt := 98) hx hb dX12_region_16 (by rw [c16]; decide) (by rw [c16]; decide) (by rw [c16]; rfl) (by decide) ?_
                refine lv_aload_n hx hb dX12_region_98 rfl (lv_at hl 0 rfl) ?_
                refine lv_iload_n hx hb dX12_region_99 rfl (lv_at hl 1 rfl) ?_
                obtain ⟨v18, S17, e_S17, hm⟩ := m_call_of hm
                refine n_cVi X hH hS (k := 12) (c_X12_roomsOf (a := a) hT hk_a e_S17) mw_X12_roomsOf in_8_88 hk_a (by decide) rfl rfl rfl ⟨rfl, rfl⟩ ⟨Nat.le_of_ble_eq_true rfl, Nat.le_of_ble_eq_true rfl⟩ ⟨Nat.zero_le _, Nat.zero_le _⟩ hl.1 (Nat.le_of_ble_eq_true rfl) dX12_region_100 (fun H locs hH hS => ?_)
                exact r_iret X hr hH hS hm dX12_region_103
              · have hm := m_ite_f hm c16
                by_cases c19 : i2 = (6 : Int32)
                · have hm := m_ite_t hm c19
                  refine lv_tableIn (off := 88) (tgt := 104) hx hb dX12_region_16 (by rw [c19]; decide) (by rw [c19]; decide) (by rw [c19]; rfl) (by decide) ?_
                  refine lv_aload_n hx hb dX12_region_104 rfl (lv_at hl 0 rfl) ?_
                  refine lv_iload_n hx hb dX12_region_105 rfl (lv_at hl 1 rfl) ?_
                  obtain ⟨v21, S20, e_S20, hm⟩ := m_call_of hm
                  refine n_cVi X hH hS (k := 12) (c_X12_cellsOf (a := a) hT hk_a e_S20) mw_X12_cellsOf in_8_92 hk_a (by decide) rfl rfl rfl ⟨rfl, rfl⟩ ⟨Nat.le_of_ble_eq_true rfl, Nat.le_of_ble_eq_true rfl⟩ ⟨Nat.zero_le _, Nat.zero_le _⟩ hl.1 (Nat.le_of_ble_eq_true rfl) dX12_region_106 (fun H locs hH hS => ?_)
                  exact r_iret X hr hH hS hm dX12_region_109
                · have hm := m_ite_f hm c19
                  refine lv_tableOut (tgt := 110) hx hb dX12_region_16 (by have h_c5 := lv_neT (a := 0) c5 rfl; have h_c6 := lv_neT (a := 1) c6 rfl; have h_c7 := lv_neT (a := 2) c7 rfl; have h_c10 := lv_neT (a := 3) c10 rfl; have h_c12 := lv_neT (a := 4) c12 rfl; have h_c16 := lv_neT (a := 5) c16 rfl; have h_c19 := lv_neT (a := 6) c19 rfl; omega) (by decide) ?_
                  refine lv_iconst (v := (-1 : Int32)) hx hb dX12_region_110 (by decide) ?_
                  exact r_iret X hr hH hS hm dX12_region_111
  · have hm := m_ite_t hm c4
    refine lv_iconst (v := (-1 : Int32)) hx hb dX12_region_13 (by decide) ?_
    exact r_iret X hr hH hS hm dX12_region_14
def rm_X12_span : Room := { frames := 2, cells := 0, slots := 0, locals := 43 }
def b_X12_span_21 (a : Nat)  (S : m_M)  : Option (Int32 × m_M) :=
    some ((-1 : Int32), S)
set_option maxHeartbeats 4000000 in
set_option maxRecDepth 100000 in
theorem k_X12_span_21 {p : Program} {l : Launch} {e : Env} {s : State} {m : MethodId} {args : Array Value} {below : List Frame} {meth : Method} {c : Code} {G : m_G} {nx : Nat} {κ : Nat → Nat} {res : (Int32 × m_M)} {a : Nat} (X : m_Cx p s m args meth c cX12_span 4 RX12 G) (hr : meth.sig.returnType = (some .int)) (hT : m_Str κ) (hk_a : κ a = 13)  : ∀ (S : m_M)  (H : Heap) (locs : List Loc) (ls : Array Slot), m_H G nx κ S H → m_S G s H locs → lv_has ls 4 [] → b_X12_span_21 a S  = some res → W p l e rm_X12_span s m args below meth c H locs 0 0 (m_Qi below args s G nx κ res) (F0 m 21 ls []) := by
  have hx := X.1.1
  have hb := X.1.2.1
  intro S H locs ls hH hS hl hm
  rw [b_X12_span_21] at hm
  refine lv_iconst (v := (-1 : Int32)) hx hb dX12_span_21 (by decide) ?_
  exact r_iret X hr hH hS hm dX12_span_22
def b_X12_span_61 (a : Nat)  (S : m_M) (t0 : Int32) : Option (Int32 × m_M) :=
    some (t0, S)
set_option maxHeartbeats 4000000 in
set_option maxRecDepth 100000 in
theorem k_X12_span_61 {p : Program} {l : Launch} {e : Env} {s : State} {m : MethodId} {args : Array Value} {below : List Frame} {meth : Method} {c : Code} {G : m_G} {nx : Nat} {κ : Nat → Nat} {res : (Int32 × m_M)} {a : Nat} (X : m_Cx p s m args meth c cX12_span 4 RX12 G) (hr : meth.sig.returnType = (some .int)) (hT : m_Str κ) (hk_a : κ a = 13)  : ∀ (S : m_M) (t0 : Int32) (H : Heap) (locs : List Loc) (ls : Array Slot), m_H G nx κ S H → m_S G s H locs → lv_has ls 4 [] → b_X12_span_61 a S t0 = some res → W p l e rm_X12_span s m args below meth c H locs 0 0 (m_Qi below args s G nx κ res) (F0 m 61 ls [.int t0]) := by
  have hx := X.1.1
  have hb := X.1.2.1
  intro S t0 H locs ls hH hS hl hm
  rw [b_X12_span_61] at hm
  exact r_iret X hr hH hS hm dX12_span_61
def f_X12_span (a : Nat) (S : m_M) (i1 : Int32) (i2 : Int32) (i3 : Int32) : Option (Int32 × m_M) :=
    m_let (m_si S a 0 (0 : Int32)) fun S1 =>
    m_call (f_X12_isFun a S1 i1) fun v3 S2 =>
    if v3 = 0 then (
    b_X12_span_21 a S2) else (
    m_call (f_X12_isRegion a S2 i2) fun v6 S5 =>
    if v6 = 0 then (
    b_X12_span_21 a S5) else (
    if i3 = 0 then (
    (m_ldi S5 (a + 20) 120 (((24 : Int32) * i1) + i2)).bind fun v11 =>
    b_X12_span_61 a S5 v11) else (
    if i3 = (1 : Int32) then (
    (m_ldi S5 (a + 21) 120 (((24 : Int32) * i1) + i2)).bind fun v10 =>
    b_X12_span_61 a S5 v10) else (
    b_X12_span_61 a S5 (-1 : Int32)))))
set_option maxHeartbeats 4000000 in
set_option maxRecDepth 100000 in
theorem c_X12_span {l : Launch} {G : m_G} {nx : Nat} {κ : Nat → Nat} {a : Nat} {S : m_M} {i1 : Int32} {i2 : Int32} {i3 : Int32} {res : (Int32 × m_M)} (hT : m_Str κ) (hk_a : κ a = 13) (hm : f_X12_span a S i1 i2 i3 = some res) : m_Ci l yX12_span cX12_span 4 (some .int) rm_X12_span G nx κ [.ref a, .int i1, .int i2, .int i3] S res := by
  refine m_Ci.of (by decide) (Nat.le_of_ble_eq_true rfl) ?_
  intro p e s m args below meth c ls X hr hH hl
  have hx := X.1.1
  have hb := X.1.2.1
  have hS : m_S G s s.heap [] := va_S.rf
  have hl : lv_has ls 4 [(0, .ref a), (1, .int i1), (2, .int i2), (3, .int i3)] := hl
  rw [f_X12_span] at hm
  refine lv_aload_n hx hb dX12_span_0 rfl (lv_at hl 0 rfl) ?_
  refine lv_iconst (v := (0 : Int32)) hx hb dX12_span_1 (by decide) ?_
  obtain ⟨S1, e_S1, hm⟩ := m_let_of hm
  refine n_puti X hH hS tyX12 (k := 12) (a := a) (j := 0) hk_a (by decide) rfl m_wi12 tyX12_ok nmX12 (by decide) in_7_15 rfl rfl rfl ⟨rfl, rfl⟩ e_S1 dX12_span_2 (fun H locs hH hS => ?_)
  refine lv_aload_n hx hb dX12_span_5 rfl (lv_at hl 0 rfl) ?_
  refine lv_iload_n hx hb dX12_span_6 rfl (lv_at hl 1 rfl) ?_
  obtain ⟨v3, S2, e_S2, hm⟩ := m_call_of hm
  refine n_cVi X hH hS (k := 12) (c_X12_isFun (a := a) hT hk_a e_S2) mw_X12_isFun in_8_38 hk_a (by decide) rfl rfl rfl ⟨rfl, rfl⟩ ⟨Nat.le_of_ble_eq_true rfl, Nat.le_of_ble_eq_true rfl⟩ ⟨Nat.zero_le _, Nat.zero_le _⟩ hl.1 (Nat.le_of_ble_eq_true rfl) dX12_span_7 (fun H locs hH hS => ?_)
  refine lv_if_eq (tgt := 21) hx hb dX12_span_10 (by decide) (fun c4 => ?_) (fun c4 => ?_)
  · have hm := m_ite_t hm c4
    exact k_X12_span_21 (a := a) X hr hT hk_a   S2 _ _ _ hH hS (lv_sub hl [] rfl) hm
  · have hm := m_ite_f hm c4
    refine lv_aload_n hx hb dX12_span_13 rfl (lv_at hl 0 rfl) ?_
    refine lv_iload_n hx hb dX12_span_14 rfl (lv_at hl 2 rfl) ?_
    obtain ⟨v6, S5, e_S5, hm⟩ := m_call_of hm
    refine n_cVi X hH hS (k := 12) (c_X12_isRegion (a := a) hT hk_a e_S5) mw_X12_isRegion in_8_65 hk_a (by decide) rfl rfl rfl ⟨rfl, rfl⟩ ⟨Nat.le_of_ble_eq_true rfl, Nat.le_of_ble_eq_true rfl⟩ ⟨Nat.zero_le _, Nat.zero_le _⟩ hl.1 (Nat.le_of_ble_eq_true rfl) dX12_span_15 (fun H locs hH hS => ?_)
    refine lv_if_ne (tgt := 23) hx hb dX12_span_18 (by decide) (fun c7 => ?_) (fun c7 => ?_)
    · have hm := m_ite_f hm c7
      refine lv_iload_n hx hb dX12_span_23 rfl (lv_at hl 3 rfl) ?_
      refine lv_if_ne (tgt := 41) hx hb dX12_span_24 (by decide) (fun c8 => ?_) (fun c8 => ?_)
      · have hm := m_ite_f hm c8
        refine lv_iload_n hx hb dX12_span_41 rfl (lv_at hl 3 rfl) ?_
        refine lv_iconst (v := (1 : Int32)) hx hb dX12_span_42 (by decide) ?_
        refine lv_icmp_ne (tgt := 60) hx hb dX12_span_43 (by decide) (fun c9 => ?_) (fun c9 => ?_)
        · have hm := m_ite_f hm c9
          refine lv_iconst (v := (-1 : Int32)) hx hb dX12_span_60 (by decide) ?_
          exact k_X12_span_61 (a := a) X hr hT hk_a   S5 (-1 : Int32) _ _ _ hH hS (lv_sub hl [] rfl) hm
        · have hm := m_ite_t hm c9
          refine lv_aload_n hx hb dX12_span_46 rfl (lv_at hl 0 rfl) ?_
          refine r_getp X hH (k := 12) (a := a) (j := 34) (b := (a + 21)) (A := 21) (B := 0) hk_a (by decide) rfl m_wi12 (by decide) in_7_49 rfl rfl rfl dX12_span_47 ?_
          refine lv_bipush (v := (24 : Int32)) hx hb dX12_span_50 (by decide) ?_
          refine lv_iload_n hx hb dX12_span_52 rfl (lv_at hl 1 rfl) ?_
          refine lv_imul hx hb dX12_span_53 ?_
          refine lv_iload_n hx hb dX12_span_54 rfl (lv_at hl 2 rfl) ?_
          refine lv_iadd hx hb dX12_span_55 ?_
          obtain ⟨v10, h_v10, e_v10, hm⟩ := n_ldi hm
          refine n_iald X hH (n := 120) (m_lay_at hT hk_a (by decide) (i := 21) rfl) h_v10 e_v10 dX12_span_56 ?_
          refine lv_goto (tgt := 61) hx hb dX12_span_57 (by decide) ?_
          exact k_X12_span_61 (a := a) X hr hT hk_a   S5 v10 _ _ _ hH hS (lv_sub hl [] rfl) hm
      · have hm := m_ite_t hm c8
        refine lv_aload_n hx hb dX12_span_27 rfl (lv_at hl 0 rfl) ?_
        refine r_getp X hH (k := 12) (a := a) (j := 33) (b := (a + 20)) (A := 20) (B := 0) hk_a (by decide) rfl m_wi12 (by decide) in_7_48 rfl rfl rfl dX12_span_28 ?_
        refine lv_bipush (v := (24 : Int32)) hx hb dX12_span_31 (by decide) ?_
        refine lv_iload_n hx hb dX12_span_33 rfl (lv_at hl 1 rfl) ?_
        refine lv_imul hx hb dX12_span_34 ?_
        refine lv_iload_n hx hb dX12_span_35 rfl (lv_at hl 2 rfl) ?_
        refine lv_iadd hx hb dX12_span_36 ?_
        obtain ⟨v11, h_v11, e_v11, hm⟩ := n_ldi hm
        refine n_iald X hH (n := 120) (m_lay_at hT hk_a (by decide) (i := 20) rfl) h_v11 e_v11 dX12_span_37 ?_
        refine lv_goto (tgt := 61) hx hb dX12_span_38 (by decide) ?_
        exact k_X12_span_61 (a := a) X hr hT hk_a   S5 v11 _ _ _ hH hS (lv_sub hl [] rfl) hm
    · have hm := m_ite_t hm c7
      exact k_X12_span_21 (a := a) X hr hT hk_a   S5 _ _ _ hH hS (lv_sub hl [] rfl) hm
def rm_X12_funOf : Room := { frames := 0, cells := 0, slots := 0, locals := 0 }
def f_X12_funOf (a : Nat) (S : m_M) (i1 : Int32) : Option (Int32 × m_M) :=
    (m_ldi S (a + 2) 2647 ((221 : Int32) + i1)).bind fun v1 =>
    some (v1, S)
set_option maxHeartbeats 4000000 in
set_option maxRecDepth 100000 in
theorem c_X12_funOf {l : Launch} {G : m_G} {nx : Nat} {κ : Nat → Nat} {a : Nat} {S : m_M} {i1 : Int32} {res : (Int32 × m_M)} (hT : m_Str κ) (hk_a : κ a = 13) (hm : f_X12_funOf a S i1 = some res) : m_Ci l yX12_funOf cX12_funOf 2 (some .int) rm_X12_funOf G nx κ [.ref a, .int i1] S res := by
  refine m_Ci.of (by decide) (Nat.le_of_ble_eq_true rfl) ?_
  intro p e s m args below meth c ls X hr hH hl
  have hx := X.1.1
  have hb := X.1.2.1
  have hS : m_S G s s.heap [] := va_S.rf
  have hl : lv_has ls 2 [(0, .ref a), (1, .int i1)] := hl
  rw [f_X12_funOf] at hm
  refine lv_aload_n hx hb dX12_funOf_0 rfl (lv_at hl 0 rfl) ?_
  refine r_getp X hH (k := 12) (a := a) (j := 14) (b := (a + 2)) (A := 2) (B := 0) hk_a (by decide) rfl m_wi12 (by decide) in_7_29 rfl rfl rfl dX12_funOf_1 ?_
  refine lv_sipush (v := (221 : Int32)) hx hb dX12_funOf_4 (by decide) ?_
  refine lv_iload_n hx hb dX12_funOf_7 rfl (lv_at hl 1 rfl) ?_
  refine lv_iadd hx hb dX12_funOf_8 ?_
  obtain ⟨v1, h_v1, e_v1, hm⟩ := n_ldi hm
  refine n_iald X hH (n := 2647) (m_lay_at hT hk_a (by decide) (i := 2) rfl) h_v1 e_v1 dX12_funOf_9 ?_
  exact r_iret X hr hH hS hm dX12_funOf_10
def rm_X12_lineOf : Room := { frames := 1, cells := 0, slots := 0, locals := 21 }
def f_X12_lineOf (a : Nat) (S : m_M) (i1 : Int32) : Option (Int32 × m_M) :=
    m_call (f_X12_funOf a S i1) fun v2 S1 =>
    (m_ldi S1 (a + 2) 2647 ((8 : Int32) + v2)).bind fun v3 =>
    (m_ldi S1 (a + 2) 2647 ((233 : Int32) + i1)).bind fun v4 =>
    some ((v3 + v4), S1)
set_option maxHeartbeats 4000000 in
set_option maxRecDepth 100000 in
theorem c_X12_lineOf {l : Launch} {G : m_G} {nx : Nat} {κ : Nat → Nat} {a : Nat} {S : m_M} {i1 : Int32} {res : (Int32 × m_M)} (hT : m_Str κ) (hk_a : κ a = 13) (hm : f_X12_lineOf a S i1 = some res) : m_Ci l yX12_lineOf cX12_lineOf 2 (some .int) rm_X12_lineOf G nx κ [.ref a, .int i1] S res := by
  refine m_Ci.of (by decide) (Nat.le_of_ble_eq_true rfl) ?_
  intro p e s m args below meth c ls X hr hH hl
  have hx := X.1.1
  have hb := X.1.2.1
  have hS : m_S G s s.heap [] := va_S.rf
  have hl : lv_has ls 2 [(0, .ref a), (1, .int i1)] := hl
  rw [f_X12_lineOf] at hm
  refine lv_aload_n hx hb dX12_lineOf_0 rfl (lv_at hl 0 rfl) ?_
  refine r_getp X hH (k := 12) (a := a) (j := 14) (b := (a + 2)) (A := 2) (B := 0) hk_a (by decide) rfl m_wi12 (by decide) in_7_29 rfl rfl rfl dX12_lineOf_1 ?_
  refine lv_bipush (v := (8 : Int32)) hx hb dX12_lineOf_4 (by decide) ?_
  refine lv_aload_n hx hb dX12_lineOf_6 rfl (lv_at hl 0 rfl) ?_
  refine lv_iload_n hx hb dX12_lineOf_7 rfl (lv_at hl 1 rfl) ?_
  obtain ⟨v2, S1, e_S1, hm⟩ := m_call_of hm
  refine n_cVi X hH hS (k := 12) (c_X12_funOf (a := a) hT hk_a e_S1) mw_X12_funOf in_8_152 hk_a (by decide) rfl rfl rfl ⟨rfl, rfl⟩ ⟨Nat.le_of_ble_eq_true rfl, Nat.le_of_ble_eq_true rfl⟩ ⟨Nat.zero_le _, Nat.zero_le _⟩ hl.1 (Nat.le_of_ble_eq_true rfl) dX12_lineOf_8 (fun H locs hH hS => ?_)
  refine lv_iadd hx hb dX12_lineOf_11 ?_
  obtain ⟨v3, h_v3, e_v3, hm⟩ := n_ldi hm
  refine n_iald X hH (n := 2647) (m_lay_at hT hk_a (by decide) (i := 2) rfl) h_v3 e_v3 dX12_lineOf_12 ?_
  refine lv_aload_n hx hb dX12_lineOf_13 rfl (lv_at hl 0 rfl) ?_
  refine r_getp X hH (k := 12) (a := a) (j := 14) (b := (a + 2)) (A := 2) (B := 0) hk_a (by decide) rfl m_wi12 (by decide) in_7_29 rfl rfl rfl dX12_lineOf_14 ?_
  refine lv_sipush (v := (233 : Int32)) hx hb dX12_lineOf_17 (by decide) ?_
  refine lv_iload_n hx hb dX12_lineOf_20 rfl (lv_at hl 1 rfl) ?_
  refine lv_iadd hx hb dX12_lineOf_21 ?_
  obtain ⟨v4, h_v4, e_v4, hm⟩ := n_ldi hm
  refine n_iald X hH (n := 2647) (m_lay_at hT hk_a (by decide) (i := 2) rfl) h_v4 e_v4 dX12_lineOf_22 ?_
  refine lv_iadd hx hb dX12_lineOf_23 ?_
  exact r_iret X hr hH hS hm dX12_lineOf_24
def rm_X12_slot : Room := { frames := 0, cells := 0, slots := 0, locals := 0 }
def f_X12_slot (a : Nat) (S : m_M) (i1 : Int32) (i2 : Int32) : Option (Int32 × m_M) :=
    some ((((27 : Int32) * i1) + i2), S)
set_option maxHeartbeats 4000000 in
set_option maxRecDepth 100000 in
theorem c_X12_slot {l : Launch} {G : m_G} {nx : Nat} {κ : Nat → Nat} {a : Nat} {S : m_M} {i1 : Int32} {i2 : Int32} {res : (Int32 × m_M)} (hT : m_Str κ) (hk_a : κ a = 13) (hm : f_X12_slot a S i1 i2 = some res) : m_Ci l yX12_slot cX12_slot 3 (some .int) rm_X12_slot G nx κ [.ref a, .int i1, .int i2] S res := by
  refine m_Ci.of (by decide) (Nat.le_of_ble_eq_true rfl) ?_
  intro p e s m args below meth c ls X hr hH hl
  have hx := X.1.1
  have hb := X.1.2.1
  have hS : m_S G s s.heap [] := va_S.rf
  have hl : lv_has ls 3 [(0, .ref a), (1, .int i1), (2, .int i2)] := hl
  rw [f_X12_slot] at hm
  refine lv_bipush (v := (27 : Int32)) hx hb dX12_slot_0 (by decide) ?_
  refine lv_iload_n hx hb dX12_slot_2 rfl (lv_at hl 1 rfl) ?_
  refine lv_imul hx hb dX12_slot_3 ?_
  refine lv_iload_n hx hb dX12_slot_4 rfl (lv_at hl 2 rfl) ?_
  refine lv_iadd hx hb dX12_slot_5 ?_
  exact r_iret X hr hH hS hm dX12_slot_6
def rm_X12_setVar : Room := { frames := 1, cells := 0, slots := 0, locals := 22 }
def f_X12_setVar (a : Nat) (S : m_M) (i1 : Int32) (i2 : Int32) (i3 : Int32) (i4 : Int32) : Option m_M :=
    m_call (f_X12_slot a S i1 i2) fun v2 S1 =>
    (m_sti S1 (a + 2) 2647 ((245 : Int32) + v2) i3).bind fun S3 =>
    m_call (f_X12_slot a S3 i1 i2) fun v5 S4 =>
    (m_sti S4 (a + 2) 2647 ((569 : Int32) + v5) i4).bind fun S6 =>
    some S6
set_option maxHeartbeats 4000000 in
set_option maxRecDepth 100000 in
theorem c_X12_setVar {l : Launch} {G : m_G} {nx : Nat} {κ : Nat → Nat} {a : Nat} {S : m_M} {i1 : Int32} {i2 : Int32} {i3 : Int32} {i4 : Int32} {res : m_M} (hT : m_Str κ) (hk_a : κ a = 13) (hm : f_X12_setVar a S i1 i2 i3 i4 = some res) : m_Cv l yX12_setVar cX12_setVar 5 rm_X12_setVar G nx κ [.ref a, .int i1, .int i2, .int i3, .int i4] S res := by
  refine m_Cv.of (by decide) (Nat.le_of_ble_eq_true rfl) ?_
  intro p e s m args below meth c ls X hr hH hl
  have hx := X.1.1
  have hb := X.1.2.1
  have hS : m_S G s s.heap [] := va_S.rf
  have hl : lv_has ls 5 [(0, .ref a), (1, .int i1), (2, .int i2), (3, .int i3), (4, .int i4)] := hl
  rw [f_X12_setVar] at hm
  refine lv_aload_n hx hb dX12_setVar_0 rfl (lv_at hl 0 rfl) ?_
  refine r_getp X hH (k := 12) (a := a) (j := 14) (b := (a + 2)) (A := 2) (B := 0) hk_a (by decide) rfl m_wi12 (by decide) in_7_29 rfl rfl rfl dX12_setVar_1 ?_
  refine lv_sipush (v := (245 : Int32)) hx hb dX12_setVar_4 (by decide) ?_
  refine lv_aload_n hx hb dX12_setVar_7 rfl (lv_at hl 0 rfl) ?_
  refine lv_iload_n hx hb dX12_setVar_8 rfl (lv_at hl 1 rfl) ?_
  refine lv_iload_n hx hb dX12_setVar_9 rfl (lv_at hl 2 rfl) ?_
  obtain ⟨v2, S1, e_S1, hm⟩ := m_call_of hm
  refine n_cVi X hH hS (k := 12) (c_X12_slot (a := a) hT hk_a e_S1) mw_X12_slot in_8_140 hk_a (by decide) rfl rfl rfl ⟨rfl, rfl⟩ ⟨Nat.le_of_ble_eq_true rfl, Nat.le_of_ble_eq_true rfl⟩ ⟨Nat.zero_le _, Nat.zero_le _⟩ hl.1 (Nat.le_of_ble_eq_true rfl) dX12_setVar_10 (fun H locs hH hS => ?_)
  refine lv_iadd hx hb dX12_setVar_13 ?_
  refine lv_iload_n hx hb dX12_setVar_14 rfl (lv_at hl 3 rfl) ?_
  obtain ⟨S3, h_S3, e_S3, hm⟩ := n_sti hm
  refine n_iast X hH hS (n := 2647) (m_lay_at hT hk_a (by decide) (i := 2) rfl) h_S3 e_S3 dX12_setVar_15 (fun H locs hH hS => ?_)
  refine lv_aload_n hx hb dX12_setVar_16 rfl (lv_at hl 0 rfl) ?_
  refine r_getp X hH (k := 12) (a := a) (j := 14) (b := (a + 2)) (A := 2) (B := 0) hk_a (by decide) rfl m_wi12 (by decide) in_7_29 rfl rfl rfl dX12_setVar_17 ?_
  refine lv_sipush (v := (569 : Int32)) hx hb dX12_setVar_20 (by decide) ?_
  refine lv_aload_n hx hb dX12_setVar_23 rfl (lv_at hl 0 rfl) ?_
  refine lv_iload_n hx hb dX12_setVar_24 rfl (lv_at hl 1 rfl) ?_
  refine lv_iload_n hx hb dX12_setVar_25 rfl (lv_at hl 2 rfl) ?_
  obtain ⟨v5, S4, e_S4, hm⟩ := m_call_of hm
  refine n_cVi X hH hS (k := 12) (c_X12_slot (a := a) hT hk_a e_S4) mw_X12_slot in_8_140 hk_a (by decide) rfl rfl rfl ⟨rfl, rfl⟩ ⟨Nat.le_of_ble_eq_true rfl, Nat.le_of_ble_eq_true rfl⟩ ⟨Nat.zero_le _, Nat.zero_le _⟩ hl.1 (Nat.le_of_ble_eq_true rfl) dX12_setVar_26 (fun H locs hH hS => ?_)
  refine lv_iadd hx hb dX12_setVar_29 ?_
  refine lv_iload hx hb dX12_setVar_30 (lv_at hl 4 rfl) ?_
  obtain ⟨S6, h_S6, e_S6, hm⟩ := n_sti hm
  refine n_iast X hH hS (n := 2647) (m_lay_at hT hk_a (by decide) (i := 2) rfl) h_S6 e_S6 dX12_setVar_32 (fun H locs hH hS => ?_)
  exact r_vret X hr hH hS hm dX12_setVar_33
def rm_X12_makeRoom : Room := { frames := 0, cells := 0, slots := 0, locals := 0 }
def f_X12_makeRoom (a : Nat) (S : m_M) (i1 : Int32) : Option m_M :=
    (m_ldi S (a + 2) 2647 (214 : Int32)).bind fun v1 =>
    (m_sti S (a + 2) 2647 ((2093 : Int32) + v1) i1).bind fun S2 =>
    (m_ldi S2 (a + 2) 2647 (214 : Int32)).bind fun v3 =>
    (m_sti S2 (a + 2) 2647 (214 : Int32) (v3 + (1 : Int32))).bind fun S4 =>
    some S4
set_option maxHeartbeats 4000000 in
set_option maxRecDepth 100000 in
theorem c_X12_makeRoom {l : Launch} {G : m_G} {nx : Nat} {κ : Nat → Nat} {a : Nat} {S : m_M} {i1 : Int32} {res : m_M} (hT : m_Str κ) (hk_a : κ a = 13) (hm : f_X12_makeRoom a S i1 = some res) : m_Cv l yX12_makeRoom cX12_makeRoom 2 rm_X12_makeRoom G nx κ [.ref a, .int i1] S res := by
  refine m_Cv.of (by decide) (Nat.le_of_ble_eq_true rfl) ?_
  intro p e s m args below meth c ls X hr hH hl
  have hx := X.1.1
  have hb := X.1.2.1
  have hS : m_S G s s.heap [] := va_S.rf
  have hl : lv_has ls 2 [(0, .ref a), (1, .int i1)] := hl
  rw [f_X12_makeRoom] at hm
  refine lv_aload_n hx hb dX12_makeRoom_0 rfl (lv_at hl 0 rfl) ?_
  refine r_getp X hH (k := 12) (a := a) (j := 14) (b := (a + 2)) (A := 2) (B := 0) hk_a (by decide) rfl m_wi12 (by decide) in_7_29 rfl rfl rfl dX12_makeRoom_1 ?_
  refine lv_sipush (v := (2093 : Int32)) hx hb dX12_makeRoom_4 (by decide) ?_
  refine lv_aload_n hx hb dX12_makeRoom_7 rfl (lv_at hl 0 rfl) ?_
  refine r_getp X hH (k := 12) (a := a) (j := 14) (b := (a + 2)) (A := 2) (B := 0) hk_a (by decide) rfl m_wi12 (by decide) in_7_29 rfl rfl rfl dX12_makeRoom_8 ?_
  refine lv_sipush (v := (214 : Int32)) hx hb dX12_makeRoom_11 (by decide) ?_
  obtain ⟨v1, h_v1, e_v1, hm⟩ := n_ldi hm
  refine n_iald X hH (n := 2647) (m_lay_at hT hk_a (by decide) (i := 2) rfl) h_v1 e_v1 dX12_makeRoom_14 ?_
  refine lv_iadd hx hb dX12_makeRoom_15 ?_
  refine lv_iload_n hx hb dX12_makeRoom_16 rfl (lv_at hl 1 rfl) ?_
  obtain ⟨S2, h_S2, e_S2, hm⟩ := n_sti hm
  refine n_iast X hH hS (n := 2647) (m_lay_at hT hk_a (by decide) (i := 2) rfl) h_S2 e_S2 dX12_makeRoom_17 (fun H locs hH hS => ?_)
  refine lv_aload_n hx hb dX12_makeRoom_18 rfl (lv_at hl 0 rfl) ?_
  refine r_getp X hH (k := 12) (a := a) (j := 14) (b := (a + 2)) (A := 2) (B := 0) hk_a (by decide) rfl m_wi12 (by decide) in_7_29 rfl rfl rfl dX12_makeRoom_19 ?_
  refine lv_sipush (v := (214 : Int32)) hx hb dX12_makeRoom_22 (by decide) ?_
  refine lv_dup2_11 hx hb dX12_makeRoom_25 rfl rfl ?_
  obtain ⟨v3, h_v3, e_v3, hm⟩ := n_ldi hm
  refine n_iald X hH (n := 2647) (m_lay_at hT hk_a (by decide) (i := 2) rfl) h_v3 e_v3 dX12_makeRoom_26 ?_
  refine lv_iconst (v := (1 : Int32)) hx hb dX12_makeRoom_27 (by decide) ?_
  refine lv_iadd hx hb dX12_makeRoom_28 ?_
  obtain ⟨S4, h_S4, e_S4, hm⟩ := n_sti hm
  refine n_iast X hH hS (n := 2647) (m_lay_at hT hk_a (by decide) (i := 2) rfl) h_S4 e_S4 dX12_makeRoom_29 (fun H locs hH hS => ?_)
  exact r_vret X hr hH hS hm dX12_makeRoom_30
def rm_X12_latestRoom : Room := { frames := 0, cells := 0, slots := 0, locals := 0 }
def b_X12_latestRoom_11 (a : Nat)  : Nat → m_M → Int32 → Int32 → Option (Int32 × m_M)
  | 0, _, _, _ => none
  | n + 1, S, l1, l2 =>
    (m_ldi S (a + 2) 2647 ((2093 : Int32) + l2)).bind fun v1 =>
    if v1 = l1 then (
    some (l2, S)) else (
    m_let (l2 + (-1 : Int32)) fun v3 =>
    b_X12_latestRoom_11 a n S l1 v3)
set_option maxHeartbeats 4000000 in
set_option maxRecDepth 100000 in
theorem k_X12_latestRoom_11 {p : Program} {l : Launch} {e : Env} {s : State} {m : MethodId} {args : Array Value} {below : List Frame} {meth : Method} {c : Code} {G : m_G} {nx : Nat} {κ : Nat → Nat} {res : (Int32 × m_M)} {a : Nat} (X : m_Cx p s m args meth c cX12_latestRoom 3 RX12 G) (hr : meth.sig.returnType = (some .int)) (hT : m_Str κ) (hk_a : κ a = 13)  (n : Nat) : ∀ (S : m_M) (l1 : Int32) (l2 : Int32) (H : Heap) (locs : List Loc) (ls : Array Slot), m_H G nx κ S H → m_S G s H locs → lv_has ls 3 [(0, .ref a), (1, .int l1), (2, .int l2)] → b_X12_latestRoom_11 a n S l1 l2 = some res → W p l e rm_X12_latestRoom s m args below meth c H locs 0 0 (m_Qi below args s G nx κ res) (F0 m 11 ls []) := by
  have hx := X.1.1
  have hb := X.1.2.1
  induction n with
  | zero => intro S l1 l2 H locs ls hH hS hl hm; have hm : (none : Option (Int32 × m_M)) = some res := hm; cases hm
  | succ n ih =>
    intro S l1 l2 H locs ls hH hS hl hm
    rw [b_X12_latestRoom_11] at hm
    refine lv_aload_n hx hb dX12_latestRoom_11 rfl (lv_at hl 0 rfl) ?_
    refine r_getp X hH (k := 12) (a := a) (j := 14) (b := (a + 2)) (A := 2) (B := 0) hk_a (by decide) rfl m_wi12 (by decide) in_7_29 rfl rfl rfl dX12_latestRoom_12 ?_
    refine lv_sipush (v := (2093 : Int32)) hx hb dX12_latestRoom_15 (by decide) ?_
    refine lv_iload_n hx hb dX12_latestRoom_18 rfl (lv_at hl 2 rfl) ?_
    refine lv_iadd hx hb dX12_latestRoom_19 ?_
    obtain ⟨v1, h_v1, e_v1, hm⟩ := n_ldi hm
    refine n_iald X hH (n := 2647) (m_lay_at hT hk_a (by decide) (i := 2) rfl) h_v1 e_v1 dX12_latestRoom_20 ?_
    refine lv_iload_n hx hb dX12_latestRoom_21 rfl (lv_at hl 1 rfl) ?_
    refine lv_icmp_eq (tgt := 31) hx hb dX12_latestRoom_22 (by decide) (fun c2 => ?_) (fun c2 => ?_)
    · have hm := m_ite_t hm c2
      refine lv_iload_n hx hb dX12_latestRoom_31 rfl (lv_at hl 2 rfl) ?_
      exact r_iret X hr hH hS hm dX12_latestRoom_32
    · have hm := m_ite_f hm c2
      obtain ⟨v3, e_v3, hm⟩ := m_let_of hm
      refine lv_iinc (v := v3) (lv' := [(2, .int v3), (0, .ref a), (1, .int l1)]) hx hb dX12_latestRoom_25 hl (k := 2) rfl (by rw [← e_v3]; rfl) (by decide) rfl (fun ls hl => ?_)
      refine lv_goto (tgt := 11) hx hb dX12_latestRoom_28 (by decide) ?_
      exact ih S l1 v3 _ _ _ hH hS (lv_sub hl [1, 2, 0] rfl) hm
def f_X12_latestRoom (a : Nat) (S : m_M) (i1 : Int32) : Option (Int32 × m_M) :=
    (m_ldi S (a + 2) 2647 (214 : Int32)).bind fun v1 =>
    m_let (v1 - (1 : Int32)) fun v2 =>
    b_X12_latestRoom_11 a m_fu S i1 v2
set_option maxHeartbeats 4000000 in
set_option maxRecDepth 100000 in
theorem c_X12_latestRoom {l : Launch} {G : m_G} {nx : Nat} {κ : Nat → Nat} {a : Nat} {S : m_M} {i1 : Int32} {res : (Int32 × m_M)} (hT : m_Str κ) (hk_a : κ a = 13) (hm : f_X12_latestRoom a S i1 = some res) : m_Ci l yX12_latestRoom cX12_latestRoom 3 (some .int) rm_X12_latestRoom G nx κ [.ref a, .int i1] S res := by
  refine m_Ci.of (by decide) (Nat.le_of_ble_eq_true rfl) ?_
  intro p e s m args below meth c ls X hr hH hl
  have hx := X.1.1
  have hb := X.1.2.1
  have hS : m_S G s s.heap [] := va_S.rf
  have hl : lv_has ls 3 [(0, .ref a), (1, .int i1)] := hl
  rw [f_X12_latestRoom] at hm
  refine lv_aload_n hx hb dX12_latestRoom_0 rfl (lv_at hl 0 rfl) ?_
  refine r_getp X hH (k := 12) (a := a) (j := 14) (b := (a + 2)) (A := 2) (B := 0) hk_a (by decide) rfl m_wi12 (by decide) in_7_29 rfl rfl rfl dX12_latestRoom_1 ?_
  refine lv_sipush (v := (214 : Int32)) hx hb dX12_latestRoom_4 (by decide) ?_
  obtain ⟨v1, h_v1, e_v1, hm⟩ := n_ldi hm
  refine n_iald X hH (n := 2647) (m_lay_at hT hk_a (by decide) (i := 2) rfl) h_v1 e_v1 dX12_latestRoom_7 ?_
  refine lv_iconst (v := (1 : Int32)) hx hb dX12_latestRoom_8 (by decide) ?_
  refine lv_isub hx hb dX12_latestRoom_9 ?_
  obtain ⟨v2, e_v2, hm⟩ := m_let_of hm
  refine n_topi e_v2 ?_
  refine lv_istore_n (lv' := [(2, .int v2), (0, .ref a), (1, .int i1)]) hx hb dX12_latestRoom_10 rfl hl (by decide) rfl (fun ls hl => ?_)
  exact k_X12_latestRoom_11 (a := a) X hr hT hk_a  m_fu S i1 v2 _ _ _ hH hS (lv_sub hl [1, 2, 0] rfl) hm
def rm_X12_freeRoom : Room := { frames := 0, cells := 0, slots := 0, locals := 0 }
def b_X12_freeRoom_105 (a : Nat) (K_2 : m_M → Int32 → Int32 → Option m_M) (S : m_M) (l1 : Int32) (l2 : Int32) : Option m_M :=
    m_let (l2 + (1 : Int32)) fun v1 =>
    K_2 S l1 v1
set_option maxHeartbeats 4000000 in
set_option maxRecDepth 100000 in
theorem k_X12_freeRoom_105 {p : Program} {l : Launch} {e : Env} {s : State} {m : MethodId} {args : Array Value} {below : List Frame} {meth : Method} {c : Code} {G : m_G} {nx : Nat} {κ : Nat → Nat} {res : m_M} {a : Nat} (X : m_Cx p s m args meth c cX12_freeRoom 3 RX12 G) (hr : meth.sig.returnType = none) (hT : m_Str κ) (hk_a : κ a = 13) (K_2 : m_M → Int32 → Int32 → Option m_M) (hK_2 : ∀ (S : m_M) (l1 : Int32) (l2 : Int32) (H : Heap) (locs : List Loc) (ls : Array Slot), m_H G nx κ S H → m_S G s H locs → lv_has ls 3 [(0, .ref a), (1, .int l1), (2, .int l2)] → K_2 S l1 l2 = some res → W p l e rm_X12_freeRoom s m args below meth c H locs 0 0 (m_Qv below args s G nx κ res) (F0 m 2 ls [])) : ∀ (S : m_M) (l1 : Int32) (l2 : Int32) (H : Heap) (locs : List Loc) (ls : Array Slot), m_H G nx κ S H → m_S G s H locs → lv_has ls 3 [(0, .ref a), (1, .int l1), (2, .int l2)] → b_X12_freeRoom_105 a K_2 S l1 l2 = some res → W p l e rm_X12_freeRoom s m args below meth c H locs 0 0 (m_Qv below args s G nx κ res) (F0 m 105 ls []) := by
  have hx := X.1.1
  have hb := X.1.2.1
  intro S l1 l2 H locs ls hH hS hl hm
  rw [b_X12_freeRoom_105] at hm
  obtain ⟨v1, e_v1, hm⟩ := m_let_of hm
  refine lv_iinc (v := v1) (lv' := [(2, .int v1), (0, .ref a), (1, .int l1)]) hx hb dX12_freeRoom_105 hl (k := 2) rfl (by rw [← e_v1]; rfl) (by decide) rfl (fun ls hl => ?_)
  refine lv_goto (tgt := 2) hx hb dX12_freeRoom_108 (by decide) ?_
  exact hK_2 S l1 v1 _ _ _ hH hS (lv_sub hl [1, 2, 0] rfl) hm
def b_X12_freeRoom_125 (a : Nat)  : Nat → m_M → Int32 → Option m_M
  | 0, _, _ => none
  | n + 1, S, l2 =>
    (m_ldi S (a + 2) 2647 (214 : Int32)).bind fun v1 =>
    if v1 ≤ l2 then (
    some S) else (
    (m_ldi S (a + 2) 2647 (((2093 : Int32) + l2) + (1 : Int32))).bind fun v3 =>
    (m_sti S (a + 2) 2647 ((2093 : Int32) + l2) v3).bind fun S4 =>
    m_let (l2 + (1 : Int32)) fun v5 =>
    b_X12_freeRoom_125 a n S4 v5)
set_option maxHeartbeats 4000000 in
set_option maxRecDepth 100000 in
theorem k_X12_freeRoom_125 {p : Program} {l : Launch} {e : Env} {s : State} {m : MethodId} {args : Array Value} {below : List Frame} {meth : Method} {c : Code} {G : m_G} {nx : Nat} {κ : Nat → Nat} {res : m_M} {a : Nat} (X : m_Cx p s m args meth c cX12_freeRoom 3 RX12 G) (hr : meth.sig.returnType = none) (hT : m_Str κ) (hk_a : κ a = 13)  (n : Nat) : ∀ (S : m_M) (l2 : Int32) (H : Heap) (locs : List Loc) (ls : Array Slot), m_H G nx κ S H → m_S G s H locs → lv_has ls 3 [(0, .ref a), (2, .int l2)] → b_X12_freeRoom_125 a n S l2 = some res → W p l e rm_X12_freeRoom s m args below meth c H locs 0 0 (m_Qv below args s G nx κ res) (F0 m 125 ls []) := by
  have hx := X.1.1
  have hb := X.1.2.1
  induction n with
  | zero => intro S l2 H locs ls hH hS hl hm; have hm : (none : Option m_M) = some res := hm; cases hm
  | succ n ih =>
    intro S l2 H locs ls hH hS hl hm
    rw [b_X12_freeRoom_125] at hm
    refine lv_iload_n hx hb dX12_freeRoom_125 rfl (lv_at hl 1 rfl) ?_
    refine lv_aload_n hx hb dX12_freeRoom_126 rfl (lv_at hl 0 rfl) ?_
    refine r_getp X hH (k := 12) (a := a) (j := 14) (b := (a + 2)) (A := 2) (B := 0) hk_a (by decide) rfl m_wi12 (by decide) in_7_29 rfl rfl rfl dX12_freeRoom_127 ?_
    refine lv_sipush (v := (214 : Int32)) hx hb dX12_freeRoom_130 (by decide) ?_
    obtain ⟨v1, h_v1, e_v1, hm⟩ := n_ldi hm
    refine n_iald X hH (n := 2647) (m_lay_at hT hk_a (by decide) (i := 2) rfl) h_v1 e_v1 dX12_freeRoom_133 ?_
    refine lv_icmp_ge (tgt := 165) hx hb dX12_freeRoom_134 (by decide) (fun c2 => ?_) (fun c2 => ?_)
    · have hm := m_ite_t hm c2
      exact r_vret X hr hH hS hm dX12_freeRoom_165
    · have hm := m_ite_f hm c2
      refine lv_aload_n hx hb dX12_freeRoom_137 rfl (lv_at hl 0 rfl) ?_
      refine r_getp X hH (k := 12) (a := a) (j := 14) (b := (a + 2)) (A := 2) (B := 0) hk_a (by decide) rfl m_wi12 (by decide) in_7_29 rfl rfl rfl dX12_freeRoom_138 ?_
      refine lv_sipush (v := (2093 : Int32)) hx hb dX12_freeRoom_141 (by decide) ?_
      refine lv_iload_n hx hb dX12_freeRoom_144 rfl (lv_at hl 1 rfl) ?_
      refine lv_iadd hx hb dX12_freeRoom_145 ?_
      refine lv_aload_n hx hb dX12_freeRoom_146 rfl (lv_at hl 0 rfl) ?_
      refine r_getp X hH (k := 12) (a := a) (j := 14) (b := (a + 2)) (A := 2) (B := 0) hk_a (by decide) rfl m_wi12 (by decide) in_7_29 rfl rfl rfl dX12_freeRoom_147 ?_
      refine lv_sipush (v := (2093 : Int32)) hx hb dX12_freeRoom_150 (by decide) ?_
      refine lv_iload_n hx hb dX12_freeRoom_153 rfl (lv_at hl 1 rfl) ?_
      refine lv_iadd hx hb dX12_freeRoom_154 ?_
      refine lv_iconst (v := (1 : Int32)) hx hb dX12_freeRoom_155 (by decide) ?_
      refine lv_iadd hx hb dX12_freeRoom_156 ?_
      obtain ⟨v3, h_v3, e_v3, hm⟩ := n_ldi hm
      refine n_iald X hH (n := 2647) (m_lay_at hT hk_a (by decide) (i := 2) rfl) h_v3 e_v3 dX12_freeRoom_157 ?_
      obtain ⟨S4, h_S4, e_S4, hm⟩ := n_sti hm
      refine n_iast X hH hS (n := 2647) (m_lay_at hT hk_a (by decide) (i := 2) rfl) h_S4 e_S4 dX12_freeRoom_158 (fun H locs hH hS => ?_)
      obtain ⟨v5, e_v5, hm⟩ := m_let_of hm
      refine lv_iinc (v := v5) (lv' := [(2, .int v5), (0, .ref a)]) hx hb dX12_freeRoom_159 hl (k := 1) rfl (by rw [← e_v5]; rfl) (by decide) rfl (fun ls hl => ?_)
      refine lv_goto (tgt := 125) hx hb dX12_freeRoom_162 (by decide) ?_
      exact ih S4 v5 _ _ _ hH hS (lv_sub hl [1, 0] rfl) hm
def b_X12_freeRoom_2 (a : Nat)  : Nat → m_M → Int32 → Int32 → Option m_M
  | 0, _, _, _ => none
  | n + 1, S, l1, l2 =>
    if (200 : Int32) ≤ l2 then (
    (m_ldi S (a + 2) 2647 (214 : Int32)).bind fun v2 =>
    (m_sti S (a + 2) 2647 (214 : Int32) (v2 - (1 : Int32))).bind fun S3 =>
    b_X12_freeRoom_125 a m_fu S3 l1) else (
    (m_ldi S (a + 2) 2647 ((893 : Int32) + l2)).bind fun v4 =>
    if v4 = (-1 : Int32) then (
    b_X12_freeRoom_105 a (b_X12_freeRoom_2 a n) S l1 l2) else (
    (m_ldi S (a + 2) 2647 ((1093 : Int32) + l2)).bind fun v6 =>
    if v6 = l1 then (
    (m_sti S (a + 2) 2647 ((893 : Int32) + l2) (-1 : Int32)).bind fun S12 =>
    (m_sti S12 (a + 2) 2647 ((1093 : Int32) + l2) (0 : Int32)).bind fun S13 =>
    (m_ldi S13 (a + 2) 2647 (213 : Int32)).bind fun v14 =>
    (m_sti S13 (a + 2) 2647 (213 : Int32) (v14 - (1 : Int32))).bind fun S15 =>
    b_X12_freeRoom_105 a (b_X12_freeRoom_2 a n) S15 l1 l2) else (
    (m_ldi S (a + 2) 2647 ((1093 : Int32) + l2)).bind fun v8 =>
    if v8 ≤ l1 then (
    b_X12_freeRoom_105 a (b_X12_freeRoom_2 a n) S l1 l2) else (
    (m_ldi S (a + 2) 2647 ((1093 : Int32) + l2)).bind fun v10 =>
    (m_sti S (a + 2) 2647 ((1093 : Int32) + l2) (v10 - (1 : Int32))).bind fun S11 =>
    b_X12_freeRoom_105 a (b_X12_freeRoom_2 a n) S11 l1 l2))))
set_option maxHeartbeats 4000000 in
set_option maxRecDepth 100000 in
theorem k_X12_freeRoom_2 {p : Program} {l : Launch} {e : Env} {s : State} {m : MethodId} {args : Array Value} {below : List Frame} {meth : Method} {c : Code} {G : m_G} {nx : Nat} {κ : Nat → Nat} {res : m_M} {a : Nat} (X : m_Cx p s m args meth c cX12_freeRoom 3 RX12 G) (hr : meth.sig.returnType = none) (hT : m_Str κ) (hk_a : κ a = 13)  (n : Nat) : ∀ (S : m_M) (l1 : Int32) (l2 : Int32) (H : Heap) (locs : List Loc) (ls : Array Slot), m_H G nx κ S H → m_S G s H locs → lv_has ls 3 [(0, .ref a), (1, .int l1), (2, .int l2)] → b_X12_freeRoom_2 a n S l1 l2 = some res → W p l e rm_X12_freeRoom s m args below meth c H locs 0 0 (m_Qv below args s G nx κ res) (F0 m 2 ls []) := by
  have hx := X.1.1
  have hb := X.1.2.1
  induction n with
  | zero => intro S l1 l2 H locs ls hH hS hl hm; have hm : (none : Option m_M) = some res := hm; cases hm
  | succ n ih =>
    intro S l1 l2 H locs ls hH hS hl hm
    rw [b_X12_freeRoom_2] at hm
    refine lv_iload_n hx hb dX12_freeRoom_2 rfl (lv_at hl 2 rfl) ?_
    refine lv_sipush (v := (200 : Int32)) hx hb dX12_freeRoom_3 (by decide) ?_
    refine lv_icmp_ge (tgt := 111) hx hb dX12_freeRoom_6 (by decide) (fun c1 => ?_) (fun c1 => ?_)
    · have hm := m_ite_t hm c1
      refine lv_aload_n hx hb dX12_freeRoom_111 rfl (lv_at hl 0 rfl) ?_
      refine r_getp X hH (k := 12) (a := a) (j := 14) (b := (a + 2)) (A := 2) (B := 0) hk_a (by decide) rfl m_wi12 (by decide) in_7_29 rfl rfl rfl dX12_freeRoom_112 ?_
      refine lv_sipush (v := (214 : Int32)) hx hb dX12_freeRoom_115 (by decide) ?_
      refine lv_dup2_11 hx hb dX12_freeRoom_118 rfl rfl ?_
      obtain ⟨v2, h_v2, e_v2, hm⟩ := n_ldi hm
      refine n_iald X hH (n := 2647) (m_lay_at hT hk_a (by decide) (i := 2) rfl) h_v2 e_v2 dX12_freeRoom_119 ?_
      refine lv_iconst (v := (1 : Int32)) hx hb dX12_freeRoom_120 (by decide) ?_
      refine lv_isub hx hb dX12_freeRoom_121 ?_
      obtain ⟨S3, h_S3, e_S3, hm⟩ := n_sti hm
      refine n_iast X hH hS (n := 2647) (m_lay_at hT hk_a (by decide) (i := 2) rfl) h_S3 e_S3 dX12_freeRoom_122 (fun H locs hH hS => ?_)
      refine lv_iload_n hx hb dX12_freeRoom_123 rfl (lv_at hl 1 rfl) ?_
      refine lv_istore_n (lv' := [(2, .int l1), (0, .ref a), (1, .int l1)]) hx hb dX12_freeRoom_124 rfl hl (by decide) rfl (fun ls hl => ?_)
      exact k_X12_freeRoom_125 (a := a) X hr hT hk_a  m_fu S3 l1 _ _ _ hH hS (lv_sub hl [1, 0] rfl) hm
    · have hm := m_ite_f hm c1
      refine lv_aload_n hx hb dX12_freeRoom_9 rfl (lv_at hl 0 rfl) ?_
      refine r_getp X hH (k := 12) (a := a) (j := 14) (b := (a + 2)) (A := 2) (B := 0) hk_a (by decide) rfl m_wi12 (by decide) in_7_29 rfl rfl rfl dX12_freeRoom_10 ?_
      refine lv_sipush (v := (893 : Int32)) hx hb dX12_freeRoom_13 (by decide) ?_
      refine lv_iload_n hx hb dX12_freeRoom_16 rfl (lv_at hl 2 rfl) ?_
      refine lv_iadd hx hb dX12_freeRoom_17 ?_
      obtain ⟨v4, h_v4, e_v4, hm⟩ := n_ldi hm
      refine n_iald X hH (n := 2647) (m_lay_at hT hk_a (by decide) (i := 2) rfl) h_v4 e_v4 dX12_freeRoom_18 ?_
      refine lv_iconst (v := (-1 : Int32)) hx hb dX12_freeRoom_19 (by decide) ?_
      refine lv_icmp_ne (tgt := 26) hx hb dX12_freeRoom_20 (by decide) (fun c5 => ?_) (fun c5 => ?_)
      · have hm := m_ite_f hm c5
        refine lv_aload_n hx hb dX12_freeRoom_26 rfl (lv_at hl 0 rfl) ?_
        refine r_getp X hH (k := 12) (a := a) (j := 14) (b := (a + 2)) (A := 2) (B := 0) hk_a (by decide) rfl m_wi12 (by decide) in_7_29 rfl rfl rfl dX12_freeRoom_27 ?_
        refine lv_sipush (v := (1093 : Int32)) hx hb dX12_freeRoom_30 (by decide) ?_
        refine lv_iload_n hx hb dX12_freeRoom_33 rfl (lv_at hl 2 rfl) ?_
        refine lv_iadd hx hb dX12_freeRoom_34 ?_
        obtain ⟨v6, h_v6, e_v6, hm⟩ := n_ldi hm
        refine n_iald X hH (n := 2647) (m_lay_at hT hk_a (by decide) (i := 2) rfl) h_v6 e_v6 dX12_freeRoom_35 ?_
        refine lv_iload_n hx hb dX12_freeRoom_36 rfl (lv_at hl 1 rfl) ?_
        refine lv_icmp_ne (tgt := 77) hx hb dX12_freeRoom_37 (by decide) (fun c7 => ?_) (fun c7 => ?_)
        · have hm := m_ite_f hm c7
          refine lv_aload_n hx hb dX12_freeRoom_77 rfl (lv_at hl 0 rfl) ?_
          refine r_getp X hH (k := 12) (a := a) (j := 14) (b := (a + 2)) (A := 2) (B := 0) hk_a (by decide) rfl m_wi12 (by decide) in_7_29 rfl rfl rfl dX12_freeRoom_78 ?_
          refine lv_sipush (v := (1093 : Int32)) hx hb dX12_freeRoom_81 (by decide) ?_
          refine lv_iload_n hx hb dX12_freeRoom_84 rfl (lv_at hl 2 rfl) ?_
          refine lv_iadd hx hb dX12_freeRoom_85 ?_
          obtain ⟨v8, h_v8, e_v8, hm⟩ := n_ldi hm
          refine n_iald X hH (n := 2647) (m_lay_at hT hk_a (by decide) (i := 2) rfl) h_v8 e_v8 dX12_freeRoom_86 ?_
          refine lv_iload_n hx hb dX12_freeRoom_87 rfl (lv_at hl 1 rfl) ?_
          refine lv_icmp_le (tgt := 105) hx hb dX12_freeRoom_88 (by decide) (fun c9 => ?_) (fun c9 => ?_)
          · have hm := m_ite_t hm c9
            exact k_X12_freeRoom_105 (a := a) X hr hT hk_a (b_X12_freeRoom_2 a n) ih  S l1 l2 _ _ _ hH hS hl hm
          · have hm := m_ite_f hm c9
            refine lv_aload_n hx hb dX12_freeRoom_91 rfl (lv_at hl 0 rfl) ?_
            refine r_getp X hH (k := 12) (a := a) (j := 14) (b := (a + 2)) (A := 2) (B := 0) hk_a (by decide) rfl m_wi12 (by decide) in_7_29 rfl rfl rfl dX12_freeRoom_92 ?_
            refine lv_sipush (v := (1093 : Int32)) hx hb dX12_freeRoom_95 (by decide) ?_
            refine lv_iload_n hx hb dX12_freeRoom_98 rfl (lv_at hl 2 rfl) ?_
            refine lv_iadd hx hb dX12_freeRoom_99 ?_
            refine lv_dup2_11 hx hb dX12_freeRoom_100 rfl rfl ?_
            obtain ⟨v10, h_v10, e_v10, hm⟩ := n_ldi hm
            refine n_iald X hH (n := 2647) (m_lay_at hT hk_a (by decide) (i := 2) rfl) h_v10 e_v10 dX12_freeRoom_101 ?_
            refine lv_iconst (v := (1 : Int32)) hx hb dX12_freeRoom_102 (by decide) ?_
            refine lv_isub hx hb dX12_freeRoom_103 ?_
            obtain ⟨S11, h_S11, e_S11, hm⟩ := n_sti hm
            refine n_iast X hH hS (n := 2647) (m_lay_at hT hk_a (by decide) (i := 2) rfl) h_S11 e_S11 dX12_freeRoom_104 (fun H locs hH hS => ?_)
            exact k_X12_freeRoom_105 (a := a) X hr hT hk_a (b_X12_freeRoom_2 a n) ih  S11 l1 l2 _ _ _ hH hS hl hm
        · have hm := m_ite_t hm c7
          refine lv_aload_n hx hb dX12_freeRoom_40 rfl (lv_at hl 0 rfl) ?_
          refine r_getp X hH (k := 12) (a := a) (j := 14) (b := (a + 2)) (A := 2) (B := 0) hk_a (by decide) rfl m_wi12 (by decide) in_7_29 rfl rfl rfl dX12_freeRoom_41 ?_
          refine lv_sipush (v := (893 : Int32)) hx hb dX12_freeRoom_44 (by decide) ?_
          refine lv_iload_n hx hb dX12_freeRoom_47 rfl (lv_at hl 2 rfl) ?_
          refine lv_iadd hx hb dX12_freeRoom_48 ?_
          refine lv_iconst (v := (-1 : Int32)) hx hb dX12_freeRoom_49 (by decide) ?_
          obtain ⟨S12, h_S12, e_S12, hm⟩ := n_sti hm
          refine n_iast X hH hS (n := 2647) (m_lay_at hT hk_a (by decide) (i := 2) rfl) h_S12 e_S12 dX12_freeRoom_50 (fun H locs hH hS => ?_)
          refine lv_aload_n hx hb dX12_freeRoom_51 rfl (lv_at hl 0 rfl) ?_
          refine r_getp X hH (k := 12) (a := a) (j := 14) (b := (a + 2)) (A := 2) (B := 0) hk_a (by decide) rfl m_wi12 (by decide) in_7_29 rfl rfl rfl dX12_freeRoom_52 ?_
          refine lv_sipush (v := (1093 : Int32)) hx hb dX12_freeRoom_55 (by decide) ?_
          refine lv_iload_n hx hb dX12_freeRoom_58 rfl (lv_at hl 2 rfl) ?_
          refine lv_iadd hx hb dX12_freeRoom_59 ?_
          refine lv_iconst (v := (0 : Int32)) hx hb dX12_freeRoom_60 (by decide) ?_
          obtain ⟨S13, h_S13, e_S13, hm⟩ := n_sti hm
          refine n_iast X hH hS (n := 2647) (m_lay_at hT hk_a (by decide) (i := 2) rfl) h_S13 e_S13 dX12_freeRoom_61 (fun H locs hH hS => ?_)
          refine lv_aload_n hx hb dX12_freeRoom_62 rfl (lv_at hl 0 rfl) ?_
          refine r_getp X hH (k := 12) (a := a) (j := 14) (b := (a + 2)) (A := 2) (B := 0) hk_a (by decide) rfl m_wi12 (by decide) in_7_29 rfl rfl rfl dX12_freeRoom_63 ?_
          refine lv_sipush (v := (213 : Int32)) hx hb dX12_freeRoom_66 (by decide) ?_
          refine lv_dup2_11 hx hb dX12_freeRoom_69 rfl rfl ?_
          obtain ⟨v14, h_v14, e_v14, hm⟩ := n_ldi hm
          refine n_iald X hH (n := 2647) (m_lay_at hT hk_a (by decide) (i := 2) rfl) h_v14 e_v14 dX12_freeRoom_70 ?_
          refine lv_iconst (v := (1 : Int32)) hx hb dX12_freeRoom_71 (by decide) ?_
          refine lv_isub hx hb dX12_freeRoom_72 ?_
          obtain ⟨S15, h_S15, e_S15, hm⟩ := n_sti hm
          refine n_iast X hH hS (n := 2647) (m_lay_at hT hk_a (by decide) (i := 2) rfl) h_S15 e_S15 dX12_freeRoom_73 (fun H locs hH hS => ?_)
          refine lv_goto (tgt := 105) hx hb dX12_freeRoom_74 (by decide) ?_
          exact k_X12_freeRoom_105 (a := a) X hr hT hk_a (b_X12_freeRoom_2 a n) ih  S15 l1 l2 _ _ _ hH hS hl hm
      · have hm := m_ite_t hm c5
        refine lv_goto (tgt := 105) hx hb dX12_freeRoom_23 (by decide) ?_
        exact k_X12_freeRoom_105 (a := a) X hr hT hk_a (b_X12_freeRoom_2 a n) ih  S l1 l2 _ _ _ hH hS hl hm
def f_X12_freeRoom (a : Nat) (S : m_M) (i1 : Int32) : Option m_M :=
    b_X12_freeRoom_2 a m_fu S i1 (0 : Int32)
set_option maxHeartbeats 4000000 in
set_option maxRecDepth 100000 in
theorem c_X12_freeRoom {l : Launch} {G : m_G} {nx : Nat} {κ : Nat → Nat} {a : Nat} {S : m_M} {i1 : Int32} {res : m_M} (hT : m_Str κ) (hk_a : κ a = 13) (hm : f_X12_freeRoom a S i1 = some res) : m_Cv l yX12_freeRoom cX12_freeRoom 3 rm_X12_freeRoom G nx κ [.ref a, .int i1] S res := by
  refine m_Cv.of (by decide) (Nat.le_of_ble_eq_true rfl) ?_
  intro p e s m args below meth c ls X hr hH hl
  have hx := X.1.1
  have hb := X.1.2.1
  have hS : m_S G s s.heap [] := va_S.rf
  have hl : lv_has ls 3 [(0, .ref a), (1, .int i1)] := hl
  rw [f_X12_freeRoom] at hm
  refine lv_iconst (v := (0 : Int32)) hx hb dX12_freeRoom_0 (by decide) ?_
  refine lv_istore_n (lv' := [(2, .int (0 : Int32)), (0, .ref a), (1, .int i1)]) hx hb dX12_freeRoom_1 rfl hl (by decide) rfl (fun ls hl => ?_)
  exact k_X12_freeRoom_2 (a := a) X hr hT hk_a  m_fu S i1 (0 : Int32) _ _ _ hH hS (lv_sub hl [1, 2, 0] rfl) hm
def rm_X12_pushFrame : Room := { frames := 2, cells := 0, slots := 0, locals := 46 }
def b_X12_pushFrame_33 (a : Nat)  : Nat → m_M → Int32 → Int32 → Option m_M
  | 0, _, _, _ => none
  | n + 1, S, l2, l3 =>
    if (27 : Int32) ≤ l3 then (
    (m_ldi S (a + 2) 2647 (212 : Int32)).bind fun v2 =>
    (m_sti S (a + 2) 2647 (212 : Int32) (v2 + (1 : Int32))).bind fun S3 =>
    some S3) else (
    m_cal0 (f_X12_setVar a S l2 l3 (0 : Int32) (0 : Int32)) fun S4 =>
    m_let (l3 + (1 : Int32)) fun v5 =>
    b_X12_pushFrame_33 a n S4 l2 v5)
set_option maxHeartbeats 4000000 in
set_option maxRecDepth 100000 in
theorem k_X12_pushFrame_33 {p : Program} {l : Launch} {e : Env} {s : State} {m : MethodId} {args : Array Value} {below : List Frame} {meth : Method} {c : Code} {G : m_G} {nx : Nat} {κ : Nat → Nat} {res : m_M} {a : Nat} (X : m_Cx p s m args meth c cX12_pushFrame 4 RX12 G) (hr : meth.sig.returnType = none) (hT : m_Str κ) (hk_a : κ a = 13)  (n : Nat) : ∀ (S : m_M) (l2 : Int32) (l3 : Int32) (H : Heap) (locs : List Loc) (ls : Array Slot), m_H G nx κ S H → m_S G s H locs → lv_has ls 4 [(0, .ref a), (2, .int l2), (3, .int l3)] → b_X12_pushFrame_33 a n S l2 l3 = some res → W p l e rm_X12_pushFrame s m args below meth c H locs 0 0 (m_Qv below args s G nx κ res) (F0 m 33 ls []) := by
  have hx := X.1.1
  have hb := X.1.2.1
  induction n with
  | zero => intro S l2 l3 H locs ls hH hS hl hm; have hm : (none : Option m_M) = some res := hm; cases hm
  | succ n ih =>
    intro S l2 l3 H locs ls hH hS hl hm
    rw [b_X12_pushFrame_33] at hm
    refine lv_iload_n hx hb dX12_pushFrame_33 rfl (lv_at hl 2 rfl) ?_
    refine lv_bipush (v := (27 : Int32)) hx hb dX12_pushFrame_34 (by decide) ?_
    refine lv_icmp_ge (tgt := 53) hx hb dX12_pushFrame_36 (by decide) (fun c1 => ?_) (fun c1 => ?_)
    · have hm := m_ite_t hm c1
      refine lv_aload_n hx hb dX12_pushFrame_53 rfl (lv_at hl 0 rfl) ?_
      refine r_getp X hH (k := 12) (a := a) (j := 14) (b := (a + 2)) (A := 2) (B := 0) hk_a (by decide) rfl m_wi12 (by decide) in_7_29 rfl rfl rfl dX12_pushFrame_54 ?_
      refine lv_sipush (v := (212 : Int32)) hx hb dX12_pushFrame_57 (by decide) ?_
      refine lv_dup2_11 hx hb dX12_pushFrame_60 rfl rfl ?_
      obtain ⟨v2, h_v2, e_v2, hm⟩ := n_ldi hm
      refine n_iald X hH (n := 2647) (m_lay_at hT hk_a (by decide) (i := 2) rfl) h_v2 e_v2 dX12_pushFrame_61 ?_
      refine lv_iconst (v := (1 : Int32)) hx hb dX12_pushFrame_62 (by decide) ?_
      refine lv_iadd hx hb dX12_pushFrame_63 ?_
      obtain ⟨S3, h_S3, e_S3, hm⟩ := n_sti hm
      refine n_iast X hH hS (n := 2647) (m_lay_at hT hk_a (by decide) (i := 2) rfl) h_S3 e_S3 dX12_pushFrame_64 (fun H locs hH hS => ?_)
      exact r_vret X hr hH hS hm dX12_pushFrame_65
    · have hm := m_ite_f hm c1
      refine lv_aload_n hx hb dX12_pushFrame_39 rfl (lv_at hl 0 rfl) ?_
      refine lv_iload_n hx hb dX12_pushFrame_40 rfl (lv_at hl 1 rfl) ?_
      refine lv_iload_n hx hb dX12_pushFrame_41 rfl (lv_at hl 2 rfl) ?_
      refine lv_iconst (v := (0 : Int32)) hx hb dX12_pushFrame_42 (by decide) ?_
      refine lv_iconst (v := (0 : Int32)) hx hb dX12_pushFrame_43 (by decide) ?_
      obtain ⟨S4, e_S4, hm⟩ := m_cal0_of hm
      refine r_cVv X hH hS (k := 12) (c_X12_setVar (a := a) hT hk_a e_S4) mw_X12_setVar in_8_136 hk_a (by decide) rfl rfl rfl ⟨rfl, rfl⟩ ⟨Nat.le_of_ble_eq_true rfl, Nat.le_of_ble_eq_true rfl⟩ ⟨Nat.zero_le _, Nat.zero_le _⟩ hl.1 (Nat.le_of_ble_eq_true rfl) dX12_pushFrame_44 (fun H locs hH hS => ?_)
      obtain ⟨v5, e_v5, hm⟩ := m_let_of hm
      refine lv_iinc (v := v5) (lv' := [(3, .int v5), (0, .ref a), (2, .int l2)]) hx hb dX12_pushFrame_47 hl (k := 2) rfl (by rw [← e_v5]; rfl) (by decide) rfl (fun ls hl => ?_)
      refine lv_goto (tgt := 33) hx hb dX12_pushFrame_50 (by decide) ?_
      exact ih S4 l2 v5 _ _ _ hH hS (lv_sub hl [1, 2, 0] rfl) hm
def f_X12_pushFrame (a : Nat) (S : m_M) (i1 : Int32) : Option m_M :=
    (m_ldi S (a + 2) 2647 (212 : Int32)).bind fun v1 =>
    (m_sti S (a + 2) 2647 ((221 : Int32) + v1) i1).bind fun S2 =>
    (m_sti S2 (a + 2) 2647 ((233 : Int32) + v1) (0 : Int32)).bind fun S3 =>
    b_X12_pushFrame_33 a m_fu S3 v1 (0 : Int32)
set_option maxHeartbeats 4000000 in
set_option maxRecDepth 100000 in
theorem c_X12_pushFrame {l : Launch} {G : m_G} {nx : Nat} {κ : Nat → Nat} {a : Nat} {S : m_M} {i1 : Int32} {res : m_M} (hT : m_Str κ) (hk_a : κ a = 13) (hm : f_X12_pushFrame a S i1 = some res) : m_Cv l yX12_pushFrame cX12_pushFrame 4 rm_X12_pushFrame G nx κ [.ref a, .int i1] S res := by
  refine m_Cv.of (by decide) (Nat.le_of_ble_eq_true rfl) ?_
  intro p e s m args below meth c ls X hr hH hl
  have hx := X.1.1
  have hb := X.1.2.1
  have hS : m_S G s s.heap [] := va_S.rf
  have hl : lv_has ls 4 [(0, .ref a), (1, .int i1)] := hl
  rw [f_X12_pushFrame] at hm
  refine lv_aload_n hx hb dX12_pushFrame_0 rfl (lv_at hl 0 rfl) ?_
  refine r_getp X hH (k := 12) (a := a) (j := 14) (b := (a + 2)) (A := 2) (B := 0) hk_a (by decide) rfl m_wi12 (by decide) in_7_29 rfl rfl rfl dX12_pushFrame_1 ?_
  refine lv_sipush (v := (212 : Int32)) hx hb dX12_pushFrame_4 (by decide) ?_
  obtain ⟨v1, h_v1, e_v1, hm⟩ := n_ldi hm
  refine n_iald X hH (n := 2647) (m_lay_at hT hk_a (by decide) (i := 2) rfl) h_v1 e_v1 dX12_pushFrame_7 ?_
  refine lv_istore_n (lv' := [(2, .int v1), (0, .ref a), (1, .int i1)]) hx hb dX12_pushFrame_8 rfl hl (by decide) rfl (fun ls hl => ?_)
  refine lv_aload_n hx hb dX12_pushFrame_9 rfl (lv_at hl 1 rfl) ?_
  refine r_getp X hH (k := 12) (a := a) (j := 14) (b := (a + 2)) (A := 2) (B := 0) hk_a (by decide) rfl m_wi12 (by decide) in_7_29 rfl rfl rfl dX12_pushFrame_10 ?_
  refine lv_sipush (v := (221 : Int32)) hx hb dX12_pushFrame_13 (by decide) ?_
  refine lv_iload_n hx hb dX12_pushFrame_16 rfl (lv_at hl 0 rfl) ?_
  refine lv_iadd hx hb dX12_pushFrame_17 ?_
  refine lv_iload_n hx hb dX12_pushFrame_18 rfl (lv_at hl 2 rfl) ?_
  obtain ⟨S2, h_S2, e_S2, hm⟩ := n_sti hm
  refine n_iast X hH hS (n := 2647) (m_lay_at hT hk_a (by decide) (i := 2) rfl) h_S2 e_S2 dX12_pushFrame_19 (fun H locs hH hS => ?_)
  refine lv_aload_n hx hb dX12_pushFrame_20 rfl (lv_at hl 1 rfl) ?_
  refine r_getp X hH (k := 12) (a := a) (j := 14) (b := (a + 2)) (A := 2) (B := 0) hk_a (by decide) rfl m_wi12 (by decide) in_7_29 rfl rfl rfl dX12_pushFrame_21 ?_
  refine lv_sipush (v := (233 : Int32)) hx hb dX12_pushFrame_24 (by decide) ?_
  refine lv_iload_n hx hb dX12_pushFrame_27 rfl (lv_at hl 0 rfl) ?_
  refine lv_iadd hx hb dX12_pushFrame_28 ?_
  refine lv_iconst (v := (0 : Int32)) hx hb dX12_pushFrame_29 (by decide) ?_
  obtain ⟨S3, h_S3, e_S3, hm⟩ := n_sti hm
  refine n_iast X hH hS (n := 2647) (m_lay_at hT hk_a (by decide) (i := 2) rfl) h_S3 e_S3 dX12_pushFrame_30 (fun H locs hH hS => ?_)
  refine lv_iconst (v := (0 : Int32)) hx hb dX12_pushFrame_31 (by decide) ?_
  refine lv_istore_n (lv' := [(3, .int (0 : Int32)), (2, .int v1), (0, .ref a), (1, .int i1)]) hx hb dX12_pushFrame_32 rfl hl (by decide) rfl (fun ls hl => ?_)
  exact k_X12_pushFrame_33 (a := a) X hr hT hk_a  m_fu S3 v1 (0 : Int32) _ _ _ hH hS (lv_sub hl [2, 1, 0] rfl) hm
def rm_X12_loads : Room := { frames := 3, cells := 0, slots := 0, locals := 69 }
def b_X12_loads_84 (a o1 n1 : Nat) (K_61 : m_M → Int32 → Option m_M) (S : m_M) (l2 : Int32) : Option m_M :=
    m_let (l2 + (1 : Int32)) fun v1 =>
    K_61 S v1
set_option maxHeartbeats 4000000 in
set_option maxRecDepth 100000 in
theorem k_X12_loads_84 {p : Program} {l : Launch} {e : Env} {s : State} {m : MethodId} {args : Array Value} {below : List Frame} {meth : Method} {c : Code} {G : m_G} {nx : Nat} {κ : Nat → Nat} {res : m_M} {a o1 n1 : Nat} (X : m_Cx p s m args meth c cX12_loads 3 RX12 G) (hr : meth.sig.returnType = none) (hT : m_Str κ) (hk_a : κ a = 13) (hk_o1 : κ o1 = m_ac 1 n1) (K_61 : m_M → Int32 → Option m_M) (hK_61 : ∀ (S : m_M) (l2 : Int32) (H : Heap) (locs : List Loc) (ls : Array Slot), m_H G nx κ S H → m_S G s H locs → lv_has ls 3 [(0, .ref a), (1, .ref o1), (2, .int l2)] → K_61 S l2 = some res → W p l e rm_X12_loads s m args below meth c H locs 0 0 (m_Qv below args s G nx κ res) (F0 m 61 ls [])) : ∀ (S : m_M) (l2 : Int32) (H : Heap) (locs : List Loc) (ls : Array Slot), m_H G nx κ S H → m_S G s H locs → lv_has ls 3 [(0, .ref a), (1, .ref o1), (2, .int l2)] → b_X12_loads_84 a o1 n1 K_61 S l2 = some res → W p l e rm_X12_loads s m args below meth c H locs 0 0 (m_Qv below args s G nx κ res) (F0 m 84 ls []) := by
  have hx := X.1.1
  have hb := X.1.2.1
  intro S l2 H locs ls hH hS hl hm
  rw [b_X12_loads_84] at hm
  obtain ⟨v1, e_v1, hm⟩ := m_let_of hm
  refine lv_iinc (v := v1) (lv' := [(2, .int v1), (0, .ref a), (1, .ref o1)]) hx hb dX12_loads_84 hl (k := 2) rfl (by rw [← e_v1]; rfl) (by decide) rfl (fun ls hl => ?_)
  refine lv_goto (tgt := 61) hx hb dX12_loads_87 (by decide) ?_
  exact hK_61 S v1 _ _ _ hH hS (lv_sub hl [1, 2, 0] rfl) hm
def b_X12_loads_100 (a o1 n1 : Nat)  : Nat → m_M → Int32 → Option m_M
  | 0, _, _ => none
  | n + 1, S, l2 =>
    m_call (f_X12_mainFun a S) fun v2 S1 =>
    (m_ldi S1 (a + 2) 2647 ((3 : Int32) + v2)).bind fun v3 =>
    if v3 ≤ l2 then (
    some S1) else (
    (m_ldi S1 o1 n1 l2).bind fun v5 =>
    m_cal0 (f_X12_setVar a S1 (0 : Int32) l2 (1 : Int32) v5) fun S6 =>
    m_let (l2 + (1 : Int32)) fun v7 =>
    b_X12_loads_100 a o1 n1 n S6 v7)
set_option maxHeartbeats 4000000 in
set_option maxRecDepth 100000 in
theorem k_X12_loads_100 {p : Program} {l : Launch} {e : Env} {s : State} {m : MethodId} {args : Array Value} {below : List Frame} {meth : Method} {c : Code} {G : m_G} {nx : Nat} {κ : Nat → Nat} {res : m_M} {a o1 n1 : Nat} (X : m_Cx p s m args meth c cX12_loads 3 RX12 G) (hr : meth.sig.returnType = none) (hT : m_Str κ) (hk_a : κ a = 13) (hk_o1 : κ o1 = m_ac 1 n1)  (n : Nat) : ∀ (S : m_M) (l2 : Int32) (H : Heap) (locs : List Loc) (ls : Array Slot), m_H G nx κ S H → m_S G s H locs → lv_has ls 3 [(0, .ref a), (1, .ref o1), (2, .int l2)] → b_X12_loads_100 a o1 n1 n S l2 = some res → W p l e rm_X12_loads s m args below meth c H locs 0 0 (m_Qv below args s G nx κ res) (F0 m 100 ls []) := by
  have hx := X.1.1
  have hb := X.1.2.1
  induction n with
  | zero => intro S l2 H locs ls hH hS hl hm; have hm : (none : Option m_M) = some res := hm; cases hm
  | succ n ih =>
    intro S l2 H locs ls hH hS hl hm
    rw [b_X12_loads_100] at hm
    refine lv_iload_n hx hb dX12_loads_100 rfl (lv_at hl 2 rfl) ?_
    refine lv_aload_n hx hb dX12_loads_101 rfl (lv_at hl 0 rfl) ?_
    refine r_getp X hH (k := 12) (a := a) (j := 14) (b := (a + 2)) (A := 2) (B := 0) hk_a (by decide) rfl m_wi12 (by decide) in_7_29 rfl rfl rfl dX12_loads_102 ?_
    refine lv_iconst (v := (3 : Int32)) hx hb dX12_loads_105 (by decide) ?_
    refine lv_aload_n hx hb dX12_loads_106 rfl (lv_at hl 0 rfl) ?_
    obtain ⟨v2, S1, e_S1, hm⟩ := m_call_of hm
    refine n_cVi X hH hS (k := 12) (c_X12_mainFun (a := a) hT hk_a e_S1) mw_X12_mainFun in_8_81 hk_a (by decide) rfl rfl rfl ⟨rfl, rfl⟩ ⟨Nat.le_of_ble_eq_true rfl, Nat.le_of_ble_eq_true rfl⟩ ⟨Nat.zero_le _, Nat.zero_le _⟩ hl.1 (Nat.le_of_ble_eq_true rfl) dX12_loads_107 (fun H locs hH hS => ?_)
    refine lv_iadd hx hb dX12_loads_110 ?_
    obtain ⟨v3, h_v3, e_v3, hm⟩ := n_ldi hm
    refine n_iald X hH (n := 2647) (m_lay_at hT hk_a (by decide) (i := 2) rfl) h_v3 e_v3 dX12_loads_111 ?_
    refine lv_icmp_ge (tgt := 131) hx hb dX12_loads_112 (by decide) (fun c4 => ?_) (fun c4 => ?_)
    · have hm := m_ite_t hm c4
      exact r_vret X hr hH hS hm dX12_loads_131
    · have hm := m_ite_f hm c4
      refine lv_aload_n hx hb dX12_loads_115 rfl (lv_at hl 0 rfl) ?_
      refine lv_iconst (v := (0 : Int32)) hx hb dX12_loads_116 (by decide) ?_
      refine lv_iload_n hx hb dX12_loads_117 rfl (lv_at hl 2 rfl) ?_
      refine lv_iconst (v := (1 : Int32)) hx hb dX12_loads_118 (by decide) ?_
      refine lv_aload_n hx hb dX12_loads_119 rfl (lv_at hl 1 rfl) ?_
      refine lv_iload_n hx hb dX12_loads_120 rfl (lv_at hl 2 rfl) ?_
      obtain ⟨v5, h_v5, e_v5, hm⟩ := n_ldi hm
      refine n_iald X hH (n := n1) hk_o1 h_v5 e_v5 dX12_loads_121 ?_
      obtain ⟨S6, e_S6, hm⟩ := m_cal0_of hm
      refine r_cVv X hH hS (k := 12) (c_X12_setVar (a := a) hT hk_a e_S6) mw_X12_setVar in_8_136 hk_a (by decide) rfl rfl rfl ⟨rfl, rfl⟩ ⟨Nat.le_of_ble_eq_true rfl, Nat.le_of_ble_eq_true rfl⟩ ⟨Nat.zero_le _, Nat.zero_le _⟩ hl.1 (Nat.le_of_ble_eq_true rfl) dX12_loads_122 (fun H locs hH hS => ?_)
      obtain ⟨v7, e_v7, hm⟩ := m_let_of hm
      refine lv_iinc (v := v7) (lv' := [(2, .int v7), (0, .ref a), (1, .ref o1)]) hx hb dX12_loads_125 hl (k := 2) rfl (by rw [← e_v7]; rfl) (by decide) rfl (fun ls hl => ?_)
      refine lv_goto (tgt := 100) hx hb dX12_loads_128 (by decide) ?_
      exact ih S6 v7 _ _ _ hH hS (lv_sub hl [1, 2, 0] rfl) hm
def b_X12_loads_61 (a o1 n1 : Nat)  : Nat → m_M → Int32 → Option m_M
  | 0, _, _ => none
  | n + 1, S, l2 =>
    (m_ldi S (a + 2) 2647 (2 : Int32)).bind fun v1 =>
    if v1 ≤ l2 then (
    m_call (f_X12_mainFun a S) fun v4 S3 =>
    m_cal0 (f_X12_pushFrame a S3 v4) fun S5 =>
    b_X12_loads_100 a o1 n1 m_fu S5 (0 : Int32)) else (
    m_call (f_X12_isOuter a S l2) fun v7 S6 =>
    if v7 = 0 then (
    b_X12_loads_84 a o1 n1 (b_X12_loads_61 a o1 n1 n) S6 l2) else (
    m_cal0 (f_X12_makeRoom a S6 l2) fun S9 =>
    b_X12_loads_84 a o1 n1 (b_X12_loads_61 a o1 n1 n) S9 l2))
set_option maxHeartbeats 4000000 in
set_option maxRecDepth 100000 in
theorem k_X12_loads_61 {p : Program} {l : Launch} {e : Env} {s : State} {m : MethodId} {args : Array Value} {below : List Frame} {meth : Method} {c : Code} {G : m_G} {nx : Nat} {κ : Nat → Nat} {res : m_M} {a o1 n1 : Nat} (X : m_Cx p s m args meth c cX12_loads 3 RX12 G) (hr : meth.sig.returnType = none) (hT : m_Str κ) (hk_a : κ a = 13) (hk_o1 : κ o1 = m_ac 1 n1)  (n : Nat) : ∀ (S : m_M) (l2 : Int32) (H : Heap) (locs : List Loc) (ls : Array Slot), m_H G nx κ S H → m_S G s H locs → lv_has ls 3 [(0, .ref a), (1, .ref o1), (2, .int l2)] → b_X12_loads_61 a o1 n1 n S l2 = some res → W p l e rm_X12_loads s m args below meth c H locs 0 0 (m_Qv below args s G nx κ res) (F0 m 61 ls []) := by
  have hx := X.1.1
  have hb := X.1.2.1
  induction n with
  | zero => intro S l2 H locs ls hH hS hl hm; have hm : (none : Option m_M) = some res := hm; cases hm
  | succ n ih =>
    intro S l2 H locs ls hH hS hl hm
    rw [b_X12_loads_61] at hm
    refine lv_iload_n hx hb dX12_loads_61 rfl (lv_at hl 2 rfl) ?_
    refine lv_aload_n hx hb dX12_loads_62 rfl (lv_at hl 0 rfl) ?_
    refine r_getp X hH (k := 12) (a := a) (j := 14) (b := (a + 2)) (A := 2) (B := 0) hk_a (by decide) rfl m_wi12 (by decide) in_7_29 rfl rfl rfl dX12_loads_63 ?_
    refine lv_iconst (v := (2 : Int32)) hx hb dX12_loads_66 (by decide) ?_
    obtain ⟨v1, h_v1, e_v1, hm⟩ := n_ldi hm
    refine n_iald X hH (n := 2647) (m_lay_at hT hk_a (by decide) (i := 2) rfl) h_v1 e_v1 dX12_loads_67 ?_
    refine lv_icmp_ge (tgt := 90) hx hb dX12_loads_68 (by decide) (fun c2 => ?_) (fun c2 => ?_)
    · have hm := m_ite_t hm c2
      refine lv_aload_n hx hb dX12_loads_90 rfl (lv_at hl 0 rfl) ?_
      refine lv_aload_n hx hb dX12_loads_91 rfl (lv_at hl 0 rfl) ?_
      obtain ⟨v4, S3, e_S3, hm⟩ := m_call_of hm
      refine n_cVi X hH hS (k := 12) (c_X12_mainFun (a := a) hT hk_a e_S3) mw_X12_mainFun in_8_81 hk_a (by decide) rfl rfl rfl ⟨rfl, rfl⟩ ⟨Nat.le_of_ble_eq_true rfl, Nat.le_of_ble_eq_true rfl⟩ ⟨Nat.zero_le _, Nat.zero_le _⟩ hl.1 (Nat.le_of_ble_eq_true rfl) dX12_loads_92 (fun H locs hH hS => ?_)
      obtain ⟨S5, e_S5, hm⟩ := m_cal0_of hm
      refine r_cVv X hH hS (k := 12) (c_X12_pushFrame (a := a) hT hk_a e_S5) mw_X12_pushFrame in_8_132 hk_a (by decide) rfl rfl rfl ⟨rfl, rfl⟩ ⟨Nat.le_of_ble_eq_true rfl, Nat.le_of_ble_eq_true rfl⟩ ⟨Nat.zero_le _, Nat.zero_le _⟩ hl.1 (Nat.le_of_ble_eq_true rfl) dX12_loads_95 (fun H locs hH hS => ?_)
      refine lv_iconst (v := (0 : Int32)) hx hb dX12_loads_98 (by decide) ?_
      refine lv_istore_n (lv' := [(2, .int (0 : Int32)), (0, .ref a), (1, .ref o1)]) hx hb dX12_loads_99 rfl hl (by decide) rfl (fun ls hl => ?_)
      exact k_X12_loads_100 (a := a) (o1 := o1) (n1 := n1) X hr hT hk_a hk_o1  m_fu S5 (0 : Int32) _ _ _ hH hS (lv_sub hl [1, 2, 0] rfl) hm
    · have hm := m_ite_f hm c2
      refine lv_aload_n hx hb dX12_loads_71 rfl (lv_at hl 0 rfl) ?_
      refine lv_iload_n hx hb dX12_loads_72 rfl (lv_at hl 2 rfl) ?_
      obtain ⟨v7, S6, e_S6, hm⟩ := m_call_of hm
      refine n_cVi X hH hS (k := 12) (c_X12_isOuter (a := a) hT hk_a e_S6) mw_X12_isOuter in_8_77 hk_a (by decide) rfl rfl rfl ⟨rfl, rfl⟩ ⟨Nat.le_of_ble_eq_true rfl, Nat.le_of_ble_eq_true rfl⟩ ⟨Nat.zero_le _, Nat.zero_le _⟩ hl.1 (Nat.le_of_ble_eq_true rfl) dX12_loads_73 (fun H locs hH hS => ?_)
      refine lv_if_eq (tgt := 84) hx hb dX12_loads_76 (by decide) (fun c8 => ?_) (fun c8 => ?_)
      · have hm := m_ite_t hm c8
        exact k_X12_loads_84 (a := a) (o1 := o1) (n1 := n1) X hr hT hk_a hk_o1 (b_X12_loads_61 a o1 n1 n) ih  S6 l2 _ _ _ hH hS hl hm
      · have hm := m_ite_f hm c8
        refine lv_aload_n hx hb dX12_loads_79 rfl (lv_at hl 0 rfl) ?_
        refine lv_iload_n hx hb dX12_loads_80 rfl (lv_at hl 2 rfl) ?_
        obtain ⟨S9, e_S9, hm⟩ := m_cal0_of hm
        refine r_cVv X hH hS (k := 12) (c_X12_makeRoom (a := a) hT hk_a e_S9) mw_X12_makeRoom in_8_128 hk_a (by decide) rfl rfl rfl ⟨rfl, rfl⟩ ⟨Nat.le_of_ble_eq_true rfl, Nat.le_of_ble_eq_true rfl⟩ ⟨Nat.zero_le _, Nat.zero_le _⟩ hl.1 (Nat.le_of_ble_eq_true rfl) dX12_loads_81 (fun H locs hH hS => ?_)
        exact k_X12_loads_84 (a := a) (o1 := o1) (n1 := n1) X hr hT hk_a hk_o1 (b_X12_loads_61 a o1 n1 n) ih  S9 l2 _ _ _ hH hS hl hm
def b_X12_loads_26 (a o1 n1 : Nat)  : Nat → m_M → Int32 → Option m_M
  | 0, _, _ => none
  | n + 1, S, l2 =>
    if (200 : Int32) ≤ l2 then (
    (m_sti S (a + 2) 2647 (210 : Int32) (1 : Int32)).bind fun S2 =>
    b_X12_loads_61 a o1 n1 m_fu S2 (0 : Int32)) else (
    (m_sti S (a + 2) 2647 ((893 : Int32) + l2) (-1 : Int32)).bind fun S3 =>
    m_let (l2 + (1 : Int32)) fun v4 =>
    b_X12_loads_26 a o1 n1 n S3 v4)
set_option maxHeartbeats 4000000 in
set_option maxRecDepth 100000 in
theorem k_X12_loads_26 {p : Program} {l : Launch} {e : Env} {s : State} {m : MethodId} {args : Array Value} {below : List Frame} {meth : Method} {c : Code} {G : m_G} {nx : Nat} {κ : Nat → Nat} {res : m_M} {a o1 n1 : Nat} (X : m_Cx p s m args meth c cX12_loads 3 RX12 G) (hr : meth.sig.returnType = none) (hT : m_Str κ) (hk_a : κ a = 13) (hk_o1 : κ o1 = m_ac 1 n1)  (n : Nat) : ∀ (S : m_M) (l2 : Int32) (H : Heap) (locs : List Loc) (ls : Array Slot), m_H G nx κ S H → m_S G s H locs → lv_has ls 3 [(0, .ref a), (1, .ref o1), (2, .int l2)] → b_X12_loads_26 a o1 n1 n S l2 = some res → W p l e rm_X12_loads s m args below meth c H locs 0 0 (m_Qv below args s G nx κ res) (F0 m 26 ls []) := by
  have hx := X.1.1
  have hb := X.1.2.1
  induction n with
  | zero => intro S l2 H locs ls hH hS hl hm; have hm : (none : Option m_M) = some res := hm; cases hm
  | succ n ih =>
    intro S l2 H locs ls hH hS hl hm
    rw [b_X12_loads_26] at hm
    refine lv_iload_n hx hb dX12_loads_26 rfl (lv_at hl 2 rfl) ?_
    refine lv_sipush (v := (200 : Int32)) hx hb dX12_loads_27 (by decide) ?_
    refine lv_icmp_ge (tgt := 50) hx hb dX12_loads_30 (by decide) (fun c1 => ?_) (fun c1 => ?_)
    · have hm := m_ite_t hm c1
      refine lv_aload_n hx hb dX12_loads_50 rfl (lv_at hl 0 rfl) ?_
      refine r_getp X hH (k := 12) (a := a) (j := 14) (b := (a + 2)) (A := 2) (B := 0) hk_a (by decide) rfl m_wi12 (by decide) in_7_29 rfl rfl rfl dX12_loads_51 ?_
      refine lv_sipush (v := (210 : Int32)) hx hb dX12_loads_54 (by decide) ?_
      refine lv_iconst (v := (1 : Int32)) hx hb dX12_loads_57 (by decide) ?_
      obtain ⟨S2, h_S2, e_S2, hm⟩ := n_sti hm
      refine n_iast X hH hS (n := 2647) (m_lay_at hT hk_a (by decide) (i := 2) rfl) h_S2 e_S2 dX12_loads_58 (fun H locs hH hS => ?_)
      refine lv_iconst (v := (0 : Int32)) hx hb dX12_loads_59 (by decide) ?_
      refine lv_istore_n (lv' := [(2, .int (0 : Int32)), (0, .ref a), (1, .ref o1)]) hx hb dX12_loads_60 rfl hl (by decide) rfl (fun ls hl => ?_)
      exact k_X12_loads_61 (a := a) (o1 := o1) (n1 := n1) X hr hT hk_a hk_o1  m_fu S2 (0 : Int32) _ _ _ hH hS (lv_sub hl [1, 2, 0] rfl) hm
    · have hm := m_ite_f hm c1
      refine lv_aload_n hx hb dX12_loads_33 rfl (lv_at hl 0 rfl) ?_
      refine r_getp X hH (k := 12) (a := a) (j := 14) (b := (a + 2)) (A := 2) (B := 0) hk_a (by decide) rfl m_wi12 (by decide) in_7_29 rfl rfl rfl dX12_loads_34 ?_
      refine lv_sipush (v := (893 : Int32)) hx hb dX12_loads_37 (by decide) ?_
      refine lv_iload_n hx hb dX12_loads_40 rfl (lv_at hl 2 rfl) ?_
      refine lv_iadd hx hb dX12_loads_41 ?_
      refine lv_iconst (v := (-1 : Int32)) hx hb dX12_loads_42 (by decide) ?_
      obtain ⟨S3, h_S3, e_S3, hm⟩ := n_sti hm
      refine n_iast X hH hS (n := 2647) (m_lay_at hT hk_a (by decide) (i := 2) rfl) h_S3 e_S3 dX12_loads_43 (fun H locs hH hS => ?_)
      obtain ⟨v4, e_v4, hm⟩ := m_let_of hm
      refine lv_iinc (v := v4) (lv' := [(2, .int v4), (0, .ref a), (1, .ref o1)]) hx hb dX12_loads_44 hl (k := 2) rfl (by rw [← e_v4]; rfl) (by decide) rfl (fun ls hl => ?_)
      refine lv_goto (tgt := 26) hx hb dX12_loads_47 (by decide) ?_
      exact ih S3 v4 _ _ _ hH hS (lv_sub hl [1, 2, 0] rfl) hm
def b_X12_loads_4 (a o1 n1 : Nat)  : Nat → m_M → Int32 → Option m_M
  | 0, _, _ => none
  | n + 1, S, l2 =>
    if (2405 : Int32) ≤ l2 then (
    b_X12_loads_26 a o1 n1 m_fu S (0 : Int32)) else (
    (m_sti S (a + 2) 2647 l2 (0 : Int32)).bind fun S2 =>
    m_let (l2 + (1 : Int32)) fun v3 =>
    b_X12_loads_4 a o1 n1 n S2 v3)
set_option maxHeartbeats 4000000 in
set_option maxRecDepth 100000 in
theorem k_X12_loads_4 {p : Program} {l : Launch} {e : Env} {s : State} {m : MethodId} {args : Array Value} {below : List Frame} {meth : Method} {c : Code} {G : m_G} {nx : Nat} {κ : Nat → Nat} {res : m_M} {a o1 n1 : Nat} (X : m_Cx p s m args meth c cX12_loads 3 RX12 G) (hr : meth.sig.returnType = none) (hT : m_Str κ) (hk_a : κ a = 13) (hk_o1 : κ o1 = m_ac 1 n1)  (n : Nat) : ∀ (S : m_M) (l2 : Int32) (H : Heap) (locs : List Loc) (ls : Array Slot), m_H G nx κ S H → m_S G s H locs → lv_has ls 3 [(0, .ref a), (1, .ref o1), (2, .int l2)] → b_X12_loads_4 a o1 n1 n S l2 = some res → W p l e rm_X12_loads s m args below meth c H locs 0 0 (m_Qv below args s G nx κ res) (F0 m 4 ls []) := by
  have hx := X.1.1
  have hb := X.1.2.1
  induction n with
  | zero => intro S l2 H locs ls hH hS hl hm; have hm : (none : Option m_M) = some res := hm; cases hm
  | succ n ih =>
    intro S l2 H locs ls hH hS hl hm
    rw [b_X12_loads_4] at hm
    refine lv_iload_n hx hb dX12_loads_4 rfl (lv_at hl 2 rfl) ?_
    refine lv_sipush (v := (2405 : Int32)) hx hb dX12_loads_5 (by decide) ?_
    refine lv_icmp_ge (tgt := 24) hx hb dX12_loads_8 (by decide) (fun c1 => ?_) (fun c1 => ?_)
    · have hm := m_ite_t hm c1
      refine lv_iconst (v := (0 : Int32)) hx hb dX12_loads_24 (by decide) ?_
      refine lv_istore_n (lv' := [(2, .int (0 : Int32)), (0, .ref a), (1, .ref o1)]) hx hb dX12_loads_25 rfl hl (by decide) rfl (fun ls hl => ?_)
      exact k_X12_loads_26 (a := a) (o1 := o1) (n1 := n1) X hr hT hk_a hk_o1  m_fu S (0 : Int32) _ _ _ hH hS (lv_sub hl [1, 2, 0] rfl) hm
    · have hm := m_ite_f hm c1
      refine lv_aload_n hx hb dX12_loads_11 rfl (lv_at hl 0 rfl) ?_
      refine r_getp X hH (k := 12) (a := a) (j := 14) (b := (a + 2)) (A := 2) (B := 0) hk_a (by decide) rfl m_wi12 (by decide) in_7_29 rfl rfl rfl dX12_loads_12 ?_
      refine lv_iload_n hx hb dX12_loads_15 rfl (lv_at hl 2 rfl) ?_
      refine lv_iconst (v := (0 : Int32)) hx hb dX12_loads_16 (by decide) ?_
      obtain ⟨S2, h_S2, e_S2, hm⟩ := n_sti hm
      refine n_iast X hH hS (n := 2647) (m_lay_at hT hk_a (by decide) (i := 2) rfl) h_S2 e_S2 dX12_loads_17 (fun H locs hH hS => ?_)
      obtain ⟨v3, e_v3, hm⟩ := m_let_of hm
      refine lv_iinc (v := v3) (lv' := [(2, .int v3), (0, .ref a), (1, .ref o1)]) hx hb dX12_loads_18 hl (k := 2) rfl (by rw [← e_v3]; rfl) (by decide) rfl (fun ls hl => ?_)
      refine lv_goto (tgt := 4) hx hb dX12_loads_21 (by decide) ?_
      exact ih S2 v3 _ _ _ hH hS (lv_sub hl [1, 2, 0] rfl) hm
def f_X12_loads (a o1 n1 : Nat) (S : m_M)  : Option m_M :=
    b_X12_loads_4 a o1 n1 m_fu S (210 : Int32)
set_option maxHeartbeats 4000000 in
set_option maxRecDepth 100000 in
theorem c_X12_loads {l : Launch} {G : m_G} {nx : Nat} {κ : Nat → Nat} {a o1 n1 : Nat} {S : m_M}  {res : m_M} (hT : m_Str κ) (hk_a : κ a = 13) (hk_o1 : κ o1 = m_ac 1 n1) (hm : f_X12_loads a o1 n1 S = some res) : m_Cv l yX12_loads cX12_loads 3 rm_X12_loads G nx κ [.ref a, .ref o1] S res := by
  refine m_Cv.of (by decide) (Nat.le_of_ble_eq_true rfl) ?_
  intro p e s m args below meth c ls X hr hH hl
  have hx := X.1.1
  have hb := X.1.2.1
  have hS : m_S G s s.heap [] := va_S.rf
  have hl : lv_has ls 3 [(0, .ref a), (1, .ref o1)] := hl
  rw [f_X12_loads] at hm
  refine lv_sipush (v := (210 : Int32)) hx hb dX12_loads_0 (by decide) ?_
  refine lv_istore_n (lv' := [(2, .int (210 : Int32)), (0, .ref a), (1, .ref o1)]) hx hb dX12_loads_3 rfl hl (by decide) rfl (fun ls hl => ?_)
  exact k_X12_loads_4 (a := a) (o1 := o1) (n1 := n1) X hr hT hk_a hk_o1  m_fu S (210 : Int32) _ _ _ hH hS (lv_sub hl [1, 2, 0] rfl) hm
def rm_X12_kindAt : Room := { frames := 2, cells := 0, slots := 0, locals := 42 }
def f_X12_kindAt (a : Nat) (S : m_M) (i1 : Int32) (i2 : Int32) : Option (Int32 × m_M) :=
    m_call (f_X12_lineOf a S i1) fun v2 S1 =>
    m_call (f_X12_var a S1 v2 i2) fun v4 S3 =>
    m_call (f_X12_slot a S3 i1 v4) fun v6 S5 =>
    (m_ldi S5 (a + 2) 2647 ((245 : Int32) + v6)).bind fun v7 =>
    some (v7, S5)
set_option maxHeartbeats 4000000 in
set_option maxRecDepth 100000 in
theorem c_X12_kindAt {l : Launch} {G : m_G} {nx : Nat} {κ : Nat → Nat} {a : Nat} {S : m_M} {i1 : Int32} {i2 : Int32} {res : (Int32 × m_M)} (hT : m_Str κ) (hk_a : κ a = 13) (hm : f_X12_kindAt a S i1 i2 = some res) : m_Ci l yX12_kindAt cX12_kindAt 3 (some .int) rm_X12_kindAt G nx κ [.ref a, .int i1, .int i2] S res := by
  refine m_Ci.of (by decide) (Nat.le_of_ble_eq_true rfl) ?_
  intro p e s m args below meth c ls X hr hH hl
  have hx := X.1.1
  have hb := X.1.2.1
  have hS : m_S G s s.heap [] := va_S.rf
  have hl : lv_has ls 3 [(0, .ref a), (1, .int i1), (2, .int i2)] := hl
  rw [f_X12_kindAt] at hm
  refine lv_aload_n hx hb dX12_kindAt_0 rfl (lv_at hl 0 rfl) ?_
  refine r_getp X hH (k := 12) (a := a) (j := 14) (b := (a + 2)) (A := 2) (B := 0) hk_a (by decide) rfl m_wi12 (by decide) in_7_29 rfl rfl rfl dX12_kindAt_1 ?_
  refine lv_sipush (v := (245 : Int32)) hx hb dX12_kindAt_4 (by decide) ?_
  refine lv_aload_n hx hb dX12_kindAt_7 rfl (lv_at hl 0 rfl) ?_
  refine lv_iload_n hx hb dX12_kindAt_8 rfl (lv_at hl 1 rfl) ?_
  refine lv_aload_n hx hb dX12_kindAt_9 rfl (lv_at hl 0 rfl) ?_
  refine lv_aload_n hx hb dX12_kindAt_10 rfl (lv_at hl 0 rfl) ?_
  refine lv_iload_n hx hb dX12_kindAt_11 rfl (lv_at hl 1 rfl) ?_
  obtain ⟨v2, S1, e_S1, hm⟩ := m_call_of hm
  refine n_cVi X hH hS (k := 12) (c_X12_lineOf (a := a) hT hk_a e_S1) mw_X12_lineOf in_8_160 hk_a (by decide) rfl rfl rfl ⟨rfl, rfl⟩ ⟨Nat.le_of_ble_eq_true rfl, Nat.le_of_ble_eq_true rfl⟩ ⟨Nat.zero_le _, Nat.zero_le _⟩ hl.1 (Nat.le_of_ble_eq_true rfl) dX12_kindAt_12 (fun H locs hH hS => ?_)
  refine lv_iload_n hx hb dX12_kindAt_15 rfl (lv_at hl 2 rfl) ?_
  obtain ⟨v4, S3, e_S3, hm⟩ := m_call_of hm
  refine n_cVi X hH hS (k := 12) (c_X12_var (a := a) hT hk_a e_S3) mw_X12_var in_6_204 hk_a (by decide) rfl rfl rfl ⟨rfl, rfl⟩ ⟨Nat.le_of_ble_eq_true rfl, Nat.le_of_ble_eq_true rfl⟩ ⟨Nat.zero_le _, Nat.zero_le _⟩ hl.1 (Nat.le_of_ble_eq_true rfl) dX12_kindAt_16 (fun H locs hH hS => ?_)
  obtain ⟨v6, S5, e_S5, hm⟩ := m_call_of hm
  refine n_cVi X hH hS (k := 12) (c_X12_slot (a := a) hT hk_a e_S5) mw_X12_slot in_8_140 hk_a (by decide) rfl rfl rfl ⟨rfl, rfl⟩ ⟨Nat.le_of_ble_eq_true rfl, Nat.le_of_ble_eq_true rfl⟩ ⟨Nat.zero_le _, Nat.zero_le _⟩ hl.1 (Nat.le_of_ble_eq_true rfl) dX12_kindAt_19 (fun H locs hH hS => ?_)
  refine lv_iadd hx hb dX12_kindAt_22 ?_
  obtain ⟨v7, h_v7, e_v7, hm⟩ := n_ldi hm
  refine n_iald X hH (n := 2647) (m_lay_at hT hk_a (by decide) (i := 2) rfl) h_v7 e_v7 dX12_kindAt_23 ?_
  exact r_iret X hr hH hS hm dX12_kindAt_24
def rm_X12_valueAt : Room := { frames := 2, cells := 0, slots := 0, locals := 42 }
def f_X12_valueAt (a : Nat) (S : m_M) (i1 : Int32) (i2 : Int32) : Option (Int32 × m_M) :=
    m_call (f_X12_lineOf a S i1) fun v2 S1 =>
    m_call (f_X12_var a S1 v2 i2) fun v4 S3 =>
    m_call (f_X12_slot a S3 i1 v4) fun v6 S5 =>
    (m_ldi S5 (a + 2) 2647 ((569 : Int32) + v6)).bind fun v7 =>
    some (v7, S5)
set_option maxHeartbeats 4000000 in
set_option maxRecDepth 100000 in
theorem c_X12_valueAt {l : Launch} {G : m_G} {nx : Nat} {κ : Nat → Nat} {a : Nat} {S : m_M} {i1 : Int32} {i2 : Int32} {res : (Int32 × m_M)} (hT : m_Str κ) (hk_a : κ a = 13) (hm : f_X12_valueAt a S i1 i2 = some res) : m_Ci l yX12_valueAt cX12_valueAt 3 (some .int) rm_X12_valueAt G nx κ [.ref a, .int i1, .int i2] S res := by
  refine m_Ci.of (by decide) (Nat.le_of_ble_eq_true rfl) ?_
  intro p e s m args below meth c ls X hr hH hl
  have hx := X.1.1
  have hb := X.1.2.1
  have hS : m_S G s s.heap [] := va_S.rf
  have hl : lv_has ls 3 [(0, .ref a), (1, .int i1), (2, .int i2)] := hl
  rw [f_X12_valueAt] at hm
  refine lv_aload_n hx hb dX12_valueAt_0 rfl (lv_at hl 0 rfl) ?_
  refine r_getp X hH (k := 12) (a := a) (j := 14) (b := (a + 2)) (A := 2) (B := 0) hk_a (by decide) rfl m_wi12 (by decide) in_7_29 rfl rfl rfl dX12_valueAt_1 ?_
  refine lv_sipush (v := (569 : Int32)) hx hb dX12_valueAt_4 (by decide) ?_
  refine lv_aload_n hx hb dX12_valueAt_7 rfl (lv_at hl 0 rfl) ?_
  refine lv_iload_n hx hb dX12_valueAt_8 rfl (lv_at hl 1 rfl) ?_
  refine lv_aload_n hx hb dX12_valueAt_9 rfl (lv_at hl 0 rfl) ?_
  refine lv_aload_n hx hb dX12_valueAt_10 rfl (lv_at hl 0 rfl) ?_
  refine lv_iload_n hx hb dX12_valueAt_11 rfl (lv_at hl 1 rfl) ?_
  obtain ⟨v2, S1, e_S1, hm⟩ := m_call_of hm
  refine n_cVi X hH hS (k := 12) (c_X12_lineOf (a := a) hT hk_a e_S1) mw_X12_lineOf in_8_160 hk_a (by decide) rfl rfl rfl ⟨rfl, rfl⟩ ⟨Nat.le_of_ble_eq_true rfl, Nat.le_of_ble_eq_true rfl⟩ ⟨Nat.zero_le _, Nat.zero_le _⟩ hl.1 (Nat.le_of_ble_eq_true rfl) dX12_valueAt_12 (fun H locs hH hS => ?_)
  refine lv_iload_n hx hb dX12_valueAt_15 rfl (lv_at hl 2 rfl) ?_
  obtain ⟨v4, S3, e_S3, hm⟩ := m_call_of hm
  refine n_cVi X hH hS (k := 12) (c_X12_var (a := a) hT hk_a e_S3) mw_X12_var in_6_204 hk_a (by decide) rfl rfl rfl ⟨rfl, rfl⟩ ⟨Nat.le_of_ble_eq_true rfl, Nat.le_of_ble_eq_true rfl⟩ ⟨Nat.zero_le _, Nat.zero_le _⟩ hl.1 (Nat.le_of_ble_eq_true rfl) dX12_valueAt_16 (fun H locs hH hS => ?_)
  obtain ⟨v6, S5, e_S5, hm⟩ := m_call_of hm
  refine n_cVi X hH hS (k := 12) (c_X12_slot (a := a) hT hk_a e_S5) mw_X12_slot in_8_140 hk_a (by decide) rfl rfl rfl ⟨rfl, rfl⟩ ⟨Nat.le_of_ble_eq_true rfl, Nat.le_of_ble_eq_true rfl⟩ ⟨Nat.zero_le _, Nat.zero_le _⟩ hl.1 (Nat.le_of_ble_eq_true rfl) dX12_valueAt_19 (fun H locs hH hS => ?_)
  refine lv_iadd hx hb dX12_valueAt_22 ?_
  obtain ⟨v7, h_v7, e_v7, hm⟩ := n_ldi hm
  refine n_iald X hH (n := 2647) (m_lay_at hT hk_a (by decide) (i := 2) rfl) h_v7 e_v7 dX12_valueAt_23 ?_
  exact r_iret X hr hH hS hm dX12_valueAt_24
def rm_X12_calls : Room := { frames := 3, cells := 0, slots := 0, locals := 64 }
def b_X12_calls_40 (a : Nat)  (S : m_M) (t0 : Int32) : Option (Int32 × m_M) :=
    if t0 = 0 ∨ t0 = 1 then some (t0, S) else none
set_option maxHeartbeats 4000000 in
set_option maxRecDepth 100000 in
theorem k_X12_calls_40 {p : Program} {l : Launch} {e : Env} {s : State} {m : MethodId} {args : Array Value} {below : List Frame} {meth : Method} {c : Code} {G : m_G} {nx : Nat} {κ : Nat → Nat} {res : (Int32 × m_M)} {a : Nat} (X : m_Cx p s m args meth c cX12_calls 3 RX12 G) (hr : meth.sig.returnType = (some .boolean)) (hT : m_Str κ) (hk_a : κ a = 13)  : ∀ (S : m_M) (t0 : Int32) (H : Heap) (locs : List Loc) (ls : Array Slot), m_H G nx κ S H → m_S G s H locs → lv_has ls 3 [] → b_X12_calls_40 a S t0 = some res → W p l e rm_X12_calls s m args below meth c H locs 0 0 (m_Qi below args s G nx κ res) (F0 m 40 ls [.int t0]) := by
  have hx := X.1.1
  have hb := X.1.2.1
  intro S t0 H locs ls hH hS hl hm
  rw [b_X12_calls_40] at hm
  exact r_zret X hr hH hS hm dX12_calls_40
def b_X12_calls_35 (a : Nat)  (S : m_M)  : Option (Int32 × m_M) :=
    b_X12_calls_40 a S (1 : Int32)
set_option maxHeartbeats 4000000 in
set_option maxRecDepth 100000 in
theorem k_X12_calls_35 {p : Program} {l : Launch} {e : Env} {s : State} {m : MethodId} {args : Array Value} {below : List Frame} {meth : Method} {c : Code} {G : m_G} {nx : Nat} {κ : Nat → Nat} {res : (Int32 × m_M)} {a : Nat} (X : m_Cx p s m args meth c cX12_calls 3 RX12 G) (hr : meth.sig.returnType = (some .boolean)) (hT : m_Str κ) (hk_a : κ a = 13)  : ∀ (S : m_M)  (H : Heap) (locs : List Loc) (ls : Array Slot), m_H G nx κ S H → m_S G s H locs → lv_has ls 3 [] → b_X12_calls_35 a S  = some res → W p l e rm_X12_calls s m args below meth c H locs 0 0 (m_Qi below args s G nx κ res) (F0 m 35 ls []) := by
  have hx := X.1.1
  have hb := X.1.2.1
  intro S H locs ls hH hS hl hm
  rw [b_X12_calls_35] at hm
  refine lv_iconst (v := (1 : Int32)) hx hb dX12_calls_35 (by decide) ?_
  refine lv_goto (tgt := 40) hx hb dX12_calls_36 (by decide) ?_
  exact k_X12_calls_40 (a := a) X hr hT hk_a   S (1 : Int32) _ _ _ hH hS hl hm
def b_X12_calls_39 (a : Nat)  (S : m_M)  : Option (Int32 × m_M) :=
    b_X12_calls_40 a S (0 : Int32)
set_option maxHeartbeats 4000000 in
set_option maxRecDepth 100000 in
theorem k_X12_calls_39 {p : Program} {l : Launch} {e : Env} {s : State} {m : MethodId} {args : Array Value} {below : List Frame} {meth : Method} {c : Code} {G : m_G} {nx : Nat} {κ : Nat → Nat} {res : (Int32 × m_M)} {a : Nat} (X : m_Cx p s m args meth c cX12_calls 3 RX12 G) (hr : meth.sig.returnType = (some .boolean)) (hT : m_Str κ) (hk_a : κ a = 13)  : ∀ (S : m_M)  (H : Heap) (locs : List Loc) (ls : Array Slot), m_H G nx κ S H → m_S G s H locs → lv_has ls 3 [] → b_X12_calls_39 a S  = some res → W p l e rm_X12_calls s m args below meth c H locs 0 0 (m_Qi below args s G nx κ res) (F0 m 39 ls []) := by
  have hx := X.1.1
  have hb := X.1.2.1
  intro S H locs ls hH hS hl hm
  rw [b_X12_calls_39] at hm
  refine lv_iconst (v := (0 : Int32)) hx hb dX12_calls_39 (by decide) ?_
  exact k_X12_calls_40 (a := a) X hr hT hk_a   S (0 : Int32) _ _ _ hH hS hl hm
def f_X12_calls (a : Nat) (S : m_M) (i1 : Int32) : Option (Int32 × m_M) :=
    m_call (f_X12_lineOf a S i1) fun v2 S1 =>
    (m_ldi S1 (a + 2) 2647 ((18 : Int32) + v2)).bind fun v3 =>
    if v3 = (8 : Int32) then (
    b_X12_calls_35 a S1) else (
    if v3 = (9 : Int32) then (
    m_call (f_X12_valueAt a S1 i1 (0 : Int32)) fun v7 S6 =>
    if v7 = 0 then (
    b_X12_calls_39 a S6) else (
    b_X12_calls_35 a S6)) else (
    b_X12_calls_39 a S1))
set_option maxHeartbeats 4000000 in
set_option maxRecDepth 100000 in
theorem c_X12_calls {l : Launch} {G : m_G} {nx : Nat} {κ : Nat → Nat} {a : Nat} {S : m_M} {i1 : Int32} {res : (Int32 × m_M)} (hT : m_Str κ) (hk_a : κ a = 13) (hm : f_X12_calls a S i1 = some res) : m_Ci l yX12_calls cX12_calls 3 (some .boolean) rm_X12_calls G nx κ [.ref a, .int i1] S res := by
  refine m_Ci.of (by decide) (Nat.le_of_ble_eq_true rfl) ?_
  intro p e s m args below meth c ls X hr hH hl
  have hx := X.1.1
  have hb := X.1.2.1
  have hS : m_S G s s.heap [] := va_S.rf
  have hl : lv_has ls 3 [(0, .ref a), (1, .int i1)] := hl
  rw [f_X12_calls] at hm
  refine lv_aload_n hx hb dX12_calls_0 rfl (lv_at hl 0 rfl) ?_
  refine r_getp X hH (k := 12) (a := a) (j := 14) (b := (a + 2)) (A := 2) (B := 0) hk_a (by decide) rfl m_wi12 (by decide) in_7_29 rfl rfl rfl dX12_calls_1 ?_
  refine lv_bipush (v := (18 : Int32)) hx hb dX12_calls_4 (by decide) ?_
  refine lv_aload_n hx hb dX12_calls_6 rfl (lv_at hl 0 rfl) ?_
  refine lv_iload_n hx hb dX12_calls_7 rfl (lv_at hl 1 rfl) ?_
  obtain ⟨v2, S1, e_S1, hm⟩ := m_call_of hm
  refine n_cVi X hH hS (k := 12) (c_X12_lineOf (a := a) hT hk_a e_S1) mw_X12_lineOf in_8_160 hk_a (by decide) rfl rfl rfl ⟨rfl, rfl⟩ ⟨Nat.le_of_ble_eq_true rfl, Nat.le_of_ble_eq_true rfl⟩ ⟨Nat.zero_le _, Nat.zero_le _⟩ hl.1 (Nat.le_of_ble_eq_true rfl) dX12_calls_8 (fun H locs hH hS => ?_)
  refine lv_iadd hx hb dX12_calls_11 ?_
  obtain ⟨v3, h_v3, e_v3, hm⟩ := n_ldi hm
  refine n_iald X hH (n := 2647) (m_lay_at hT hk_a (by decide) (i := 2) rfl) h_v3 e_v3 dX12_calls_12 ?_
  refine lv_istore_n (lv' := [(2, .int v3), (0, .ref a), (1, .int i1)]) hx hb dX12_calls_13 rfl hl (by decide) rfl (fun ls hl => ?_)
  refine lv_iload_n hx hb dX12_calls_14 rfl (lv_at hl 0 rfl) ?_
  refine lv_bipush (v := (8 : Int32)) hx hb dX12_calls_15 (by decide) ?_
  refine lv_icmp_eq (tgt := 35) hx hb dX12_calls_17 (by decide) (fun c4 => ?_) (fun c4 => ?_)
  · have hm := m_ite_t hm c4
    exact k_X12_calls_35 (a := a) X hr hT hk_a   S1 _ _ _ hH hS (lv_sub hl [] rfl) hm
  · have hm := m_ite_f hm c4
    refine lv_iload_n hx hb dX12_calls_20 rfl (lv_at hl 0 rfl) ?_
    refine lv_bipush (v := (9 : Int32)) hx hb dX12_calls_21 (by decide) ?_
    refine lv_icmp_ne (tgt := 39) hx hb dX12_calls_23 (by decide) (fun c5 => ?_) (fun c5 => ?_)
    · have hm := m_ite_f hm c5
      exact k_X12_calls_39 (a := a) X hr hT hk_a   S1 _ _ _ hH hS (lv_sub hl [] rfl) hm
    · have hm := m_ite_t hm c5
      refine lv_aload_n hx hb dX12_calls_26 rfl (lv_at hl 1 rfl) ?_
      refine lv_iload_n hx hb dX12_calls_27 rfl (lv_at hl 2 rfl) ?_
      refine lv_iconst (v := (0 : Int32)) hx hb dX12_calls_28 (by decide) ?_
      obtain ⟨v7, S6, e_S6, hm⟩ := m_call_of hm
      refine n_cVi X hH hS (k := 12) (c_X12_valueAt (a := a) hT hk_a e_S6) mw_X12_valueAt in_8_172 hk_a (by decide) rfl rfl rfl ⟨rfl, rfl⟩ ⟨Nat.le_of_ble_eq_true rfl, Nat.le_of_ble_eq_true rfl⟩ ⟨Nat.zero_le _, Nat.zero_le _⟩ hl.1 (Nat.le_of_ble_eq_true rfl) dX12_calls_29 (fun H locs hH hS => ?_)
      refine lv_if_eq (tgt := 39) hx hb dX12_calls_32 (by decide) (fun c8 => ?_) (fun c8 => ?_)
      · have hm := m_ite_t hm c8
        exact k_X12_calls_39 (a := a) X hr hT hk_a   S6 _ _ _ hH hS (lv_sub hl [] rfl) hm
      · have hm := m_ite_f hm c8
        exact k_X12_calls_35 (a := a) X hr hT hk_a   S6 _ _ _ hH hS (lv_sub hl [] rfl) hm
def rm_X12_goesAhead : Room := { frames := 1, cells := 0, slots := 0, locals := 23 }
def b_X12_goesAhead_45 (a : Nat)  (S : m_M) (t0 : Int32) : Option (Int32 × m_M) :=
    if t0 = 0 ∨ t0 = 1 then some (t0, S) else none
set_option maxHeartbeats 4000000 in
set_option maxRecDepth 100000 in
theorem k_X12_goesAhead_45 {p : Program} {l : Launch} {e : Env} {s : State} {m : MethodId} {args : Array Value} {below : List Frame} {meth : Method} {c : Code} {G : m_G} {nx : Nat} {κ : Nat → Nat} {res : (Int32 × m_M)} {a : Nat} (X : m_Cx p s m args meth c cX12_goesAhead 2 RX12 G) (hr : meth.sig.returnType = (some .boolean)) (hT : m_Str κ) (hk_a : κ a = 13)  : ∀ (S : m_M) (t0 : Int32) (H : Heap) (locs : List Loc) (ls : Array Slot), m_H G nx κ S H → m_S G s H locs → lv_has ls 2 [] → b_X12_goesAhead_45 a S t0 = some res → W p l e rm_X12_goesAhead s m args below meth c H locs 0 0 (m_Qi below args s G nx κ res) (F0 m 45 ls [.int t0]) := by
  have hx := X.1.1
  have hb := X.1.2.1
  intro S t0 H locs ls hH hS hl hm
  rw [b_X12_goesAhead_45] at hm
  exact r_zret X hr hH hS hm dX12_goesAhead_45
def b_X12_goesAhead_44 (a : Nat)  (S : m_M)  : Option (Int32 × m_M) :=
    b_X12_goesAhead_45 a S (0 : Int32)
set_option maxHeartbeats 4000000 in
set_option maxRecDepth 100000 in
theorem k_X12_goesAhead_44 {p : Program} {l : Launch} {e : Env} {s : State} {m : MethodId} {args : Array Value} {below : List Frame} {meth : Method} {c : Code} {G : m_G} {nx : Nat} {κ : Nat → Nat} {res : (Int32 × m_M)} {a : Nat} (X : m_Cx p s m args meth c cX12_goesAhead 2 RX12 G) (hr : meth.sig.returnType = (some .boolean)) (hT : m_Str κ) (hk_a : κ a = 13)  : ∀ (S : m_M)  (H : Heap) (locs : List Loc) (ls : Array Slot), m_H G nx κ S H → m_S G s H locs → lv_has ls 2 [] → b_X12_goesAhead_44 a S  = some res → W p l e rm_X12_goesAhead s m args below meth c H locs 0 0 (m_Qi below args s G nx κ res) (F0 m 44 ls []) := by
  have hx := X.1.1
  have hb := X.1.2.1
  intro S H locs ls hH hS hl hm
  rw [b_X12_goesAhead_44] at hm
  refine lv_iconst (v := (0 : Int32)) hx hb dX12_goesAhead_44 (by decide) ?_
  exact k_X12_goesAhead_45 (a := a) X hr hT hk_a   S (0 : Int32) _ _ _ hH hS hl hm
def f_X12_goesAhead (a : Nat) (S : m_M) (i1 : Int32) : Option (Int32 × m_M) :=
    (m_ldi S (a + 2) 2647 ((233 : Int32) + i1)).bind fun v1 =>
    m_call (f_X12_funOf a S i1) fun v3 S2 =>
    (m_ldi S2 (a + 2) 2647 ((13 : Int32) + v3)).bind fun v4 =>
    if v1 = (v4 - (1 : Int32)) then (
    m_call (f_X12_funOf a S2 i1) fun v7 S6 =>
    m_call (f_X12_isLeft a S6 v7) fun v9 S8 =>
    if v9 = 0 then (
    b_X12_goesAhead_44 a S8) else (
    b_X12_goesAhead_45 a S8 (1 : Int32))) else (
    b_X12_goesAhead_44 a S2)
set_option maxHeartbeats 4000000 in
set_option maxRecDepth 100000 in
theorem c_X12_goesAhead {l : Launch} {G : m_G} {nx : Nat} {κ : Nat → Nat} {a : Nat} {S : m_M} {i1 : Int32} {res : (Int32 × m_M)} (hT : m_Str κ) (hk_a : κ a = 13) (hm : f_X12_goesAhead a S i1 = some res) : m_Ci l yX12_goesAhead cX12_goesAhead 2 (some .boolean) rm_X12_goesAhead G nx κ [.ref a, .int i1] S res := by
  refine m_Ci.of (by decide) (Nat.le_of_ble_eq_true rfl) ?_
  intro p e s m args below meth c ls X hr hH hl
  have hx := X.1.1
  have hb := X.1.2.1
  have hS : m_S G s s.heap [] := va_S.rf
  have hl : lv_has ls 2 [(0, .ref a), (1, .int i1)] := hl
  rw [f_X12_goesAhead] at hm
  refine lv_aload_n hx hb dX12_goesAhead_0 rfl (lv_at hl 0 rfl) ?_
  refine r_getp X hH (k := 12) (a := a) (j := 14) (b := (a + 2)) (A := 2) (B := 0) hk_a (by decide) rfl m_wi12 (by decide) in_7_29 rfl rfl rfl dX12_goesAhead_1 ?_
  refine lv_sipush (v := (233 : Int32)) hx hb dX12_goesAhead_4 (by decide) ?_
  refine lv_iload_n hx hb dX12_goesAhead_7 rfl (lv_at hl 1 rfl) ?_
  refine lv_iadd hx hb dX12_goesAhead_8 ?_
  obtain ⟨v1, h_v1, e_v1, hm⟩ := n_ldi hm
  refine n_iald X hH (n := 2647) (m_lay_at hT hk_a (by decide) (i := 2) rfl) h_v1 e_v1 dX12_goesAhead_9 ?_
  refine lv_aload_n hx hb dX12_goesAhead_10 rfl (lv_at hl 0 rfl) ?_
  refine r_getp X hH (k := 12) (a := a) (j := 14) (b := (a + 2)) (A := 2) (B := 0) hk_a (by decide) rfl m_wi12 (by decide) in_7_29 rfl rfl rfl dX12_goesAhead_11 ?_
  refine lv_bipush (v := (13 : Int32)) hx hb dX12_goesAhead_14 (by decide) ?_
  refine lv_aload_n hx hb dX12_goesAhead_16 rfl (lv_at hl 0 rfl) ?_
  refine lv_iload_n hx hb dX12_goesAhead_17 rfl (lv_at hl 1 rfl) ?_
  obtain ⟨v3, S2, e_S2, hm⟩ := m_call_of hm
  refine n_cVi X hH hS (k := 12) (c_X12_funOf (a := a) hT hk_a e_S2) mw_X12_funOf in_8_152 hk_a (by decide) rfl rfl rfl ⟨rfl, rfl⟩ ⟨Nat.le_of_ble_eq_true rfl, Nat.le_of_ble_eq_true rfl⟩ ⟨Nat.zero_le _, Nat.zero_le _⟩ hl.1 (Nat.le_of_ble_eq_true rfl) dX12_goesAhead_18 (fun H locs hH hS => ?_)
  refine lv_iadd hx hb dX12_goesAhead_21 ?_
  obtain ⟨v4, h_v4, e_v4, hm⟩ := n_ldi hm
  refine n_iald X hH (n := 2647) (m_lay_at hT hk_a (by decide) (i := 2) rfl) h_v4 e_v4 dX12_goesAhead_22 ?_
  refine lv_iconst (v := (1 : Int32)) hx hb dX12_goesAhead_23 (by decide) ?_
  refine lv_isub hx hb dX12_goesAhead_24 ?_
  refine lv_icmp_ne (tgt := 44) hx hb dX12_goesAhead_25 (by decide) (fun c5 => ?_) (fun c5 => ?_)
  · have hm := m_ite_f hm c5
    exact k_X12_goesAhead_44 (a := a) X hr hT hk_a   S2 _ _ _ hH hS (lv_sub hl [] rfl) hm
  · have hm := m_ite_t hm c5
    refine lv_aload_n hx hb dX12_goesAhead_28 rfl (lv_at hl 0 rfl) ?_
    refine lv_aload_n hx hb dX12_goesAhead_29 rfl (lv_at hl 0 rfl) ?_
    refine lv_iload_n hx hb dX12_goesAhead_30 rfl (lv_at hl 1 rfl) ?_
    obtain ⟨v7, S6, e_S6, hm⟩ := m_call_of hm
    refine n_cVi X hH hS (k := 12) (c_X12_funOf (a := a) hT hk_a e_S6) mw_X12_funOf in_8_152 hk_a (by decide) rfl rfl rfl ⟨rfl, rfl⟩ ⟨Nat.le_of_ble_eq_true rfl, Nat.le_of_ble_eq_true rfl⟩ ⟨Nat.zero_le _, Nat.zero_le _⟩ hl.1 (Nat.le_of_ble_eq_true rfl) dX12_goesAhead_31 (fun H locs hH hS => ?_)
    obtain ⟨v9, S8, e_S8, hm⟩ := m_call_of hm
    refine n_cVi X hH hS (k := 12) (c_X12_isLeft (a := a) hT hk_a e_S8) mw_X12_isLeft in_8_53 hk_a (by decide) rfl rfl rfl ⟨rfl, rfl⟩ ⟨Nat.le_of_ble_eq_true rfl, Nat.le_of_ble_eq_true rfl⟩ ⟨Nat.zero_le _, Nat.zero_le _⟩ hl.1 (Nat.le_of_ble_eq_true rfl) dX12_goesAhead_34 (fun H locs hH hS => ?_)
    refine lv_if_eq (tgt := 44) hx hb dX12_goesAhead_37 (by decide) (fun c10 => ?_) (fun c10 => ?_)
    · have hm := m_ite_t hm c10
      exact k_X12_goesAhead_44 (a := a) X hr hT hk_a   S8 _ _ _ hH hS (lv_sub hl [] rfl) hm
    · have hm := m_ite_f hm c10
      refine lv_iconst (v := (1 : Int32)) hx hb dX12_goesAhead_40 (by decide) ?_
      refine lv_goto (tgt := 45) hx hb dX12_goesAhead_41 (by decide) ?_
      exact k_X12_goesAhead_45 (a := a) X hr hT hk_a   S8 (1 : Int32) _ _ _ hH hS (lv_sub hl [] rfl) hm
def rm_X12_whyStop : Room := { frames := 4, cells := 0, slots := 0, locals := 86 }
def b_X12_whyStop_67 (a : Nat)  (S : m_M)  : Option (Int32 × m_M) :=
    some ((2 : Int32), S)
set_option maxHeartbeats 4000000 in
set_option maxRecDepth 100000 in
theorem k_X12_whyStop_67 {p : Program} {l : Launch} {e : Env} {s : State} {m : MethodId} {args : Array Value} {below : List Frame} {meth : Method} {c : Code} {G : m_G} {nx : Nat} {κ : Nat → Nat} {res : (Int32 × m_M)} {a : Nat} (X : m_Cx p s m args meth c cX12_whyStop 3 RX12 G) (hr : meth.sig.returnType = (some .int)) (hT : m_Str κ) (hk_a : κ a = 13)  : ∀ (S : m_M)  (H : Heap) (locs : List Loc) (ls : Array Slot), m_H G nx κ S H → m_S G s H locs → lv_has ls 3 [] → b_X12_whyStop_67 a S  = some res → W p l e rm_X12_whyStop s m args below meth c H locs 0 0 (m_Qi below args s G nx κ res) (F0 m 67 ls []) := by
  have hx := X.1.1
  have hb := X.1.2.1
  intro S H locs ls hH hS hl hm
  rw [b_X12_whyStop_67] at hm
  refine lv_iconst (v := (2 : Int32)) hx hb dX12_whyStop_67 (by decide) ?_
  exact r_iret X hr hH hS hm dX12_whyStop_68
def b_X12_whyStop_164 (a : Nat)  (S : m_M) (t0 : Int32) : Option (Int32 × m_M) :=
    some (t0, S)
set_option maxHeartbeats 4000000 in
set_option maxRecDepth 100000 in
theorem k_X12_whyStop_164 {p : Program} {l : Launch} {e : Env} {s : State} {m : MethodId} {args : Array Value} {below : List Frame} {meth : Method} {c : Code} {G : m_G} {nx : Nat} {κ : Nat → Nat} {res : (Int32 × m_M)} {a : Nat} (X : m_Cx p s m args meth c cX12_whyStop 3 RX12 G) (hr : meth.sig.returnType = (some .int)) (hT : m_Str κ) (hk_a : κ a = 13)  : ∀ (S : m_M) (t0 : Int32) (H : Heap) (locs : List Loc) (ls : Array Slot), m_H G nx κ S H → m_S G s H locs → lv_has ls 3 [] → b_X12_whyStop_164 a S t0 = some res → W p l e rm_X12_whyStop s m args below meth c H locs 0 0 (m_Qi below args s G nx κ res) (F0 m 164 ls [.int t0]) := by
  have hx := X.1.1
  have hb := X.1.2.1
  intro S t0 H locs ls hH hS hl hm
  rw [b_X12_whyStop_164] at hm
  exact r_iret X hr hH hS hm dX12_whyStop_164
def b_X12_whyStop_145 (a : Nat)  (S : m_M)  : Option (Int32 × m_M) :=
    (m_ldi S (a + 2) 2647 (216 : Int32)).bind fun v1 =>
    if v1 = (5000 : Int32) then (
    b_X12_whyStop_164 a S (5 : Int32)) else (
    b_X12_whyStop_164 a S (0 : Int32))
set_option maxHeartbeats 4000000 in
set_option maxRecDepth 100000 in
theorem k_X12_whyStop_145 {p : Program} {l : Launch} {e : Env} {s : State} {m : MethodId} {args : Array Value} {below : List Frame} {meth : Method} {c : Code} {G : m_G} {nx : Nat} {κ : Nat → Nat} {res : (Int32 × m_M)} {a : Nat} (X : m_Cx p s m args meth c cX12_whyStop 3 RX12 G) (hr : meth.sig.returnType = (some .int)) (hT : m_Str κ) (hk_a : κ a = 13)  : ∀ (S : m_M)  (H : Heap) (locs : List Loc) (ls : Array Slot), m_H G nx κ S H → m_S G s H locs → lv_has ls 3 [(0, .ref a)] → b_X12_whyStop_145 a S  = some res → W p l e rm_X12_whyStop s m args below meth c H locs 0 0 (m_Qi below args s G nx κ res) (F0 m 145 ls []) := by
  have hx := X.1.1
  have hb := X.1.2.1
  intro S H locs ls hH hS hl hm
  rw [b_X12_whyStop_145] at hm
  refine lv_aload_n hx hb dX12_whyStop_145 rfl (lv_at hl 0 rfl) ?_
  refine r_getp X hH (k := 12) (a := a) (j := 14) (b := (a + 2)) (A := 2) (B := 0) hk_a (by decide) rfl m_wi12 (by decide) in_7_29 rfl rfl rfl dX12_whyStop_146 ?_
  refine lv_sipush (v := (216 : Int32)) hx hb dX12_whyStop_149 (by decide) ?_
  obtain ⟨v1, h_v1, e_v1, hm⟩ := n_ldi hm
  refine n_iald X hH (n := 2647) (m_lay_at hT hk_a (by decide) (i := 2) rfl) h_v1 e_v1 dX12_whyStop_152 ?_
  refine lv_sipush (v := (5000 : Int32)) hx hb dX12_whyStop_153 (by decide) ?_
  refine lv_icmp_ne (tgt := 163) hx hb dX12_whyStop_156 (by decide) (fun c2 => ?_) (fun c2 => ?_)
  · have hm := m_ite_f hm c2
    refine lv_iconst (v := (0 : Int32)) hx hb dX12_whyStop_163 (by decide) ?_
    exact k_X12_whyStop_164 (a := a) X hr hT hk_a   S (0 : Int32) _ _ _ hH hS (lv_sub hl [] rfl) hm
  · have hm := m_ite_t hm c2
    refine lv_iconst (v := (5 : Int32)) hx hb dX12_whyStop_159 (by decide) ?_
    refine lv_goto (tgt := 164) hx hb dX12_whyStop_160 (by decide) ?_
    exact k_X12_whyStop_164 (a := a) X hr hT hk_a   S (5 : Int32) _ _ _ hH hS (lv_sub hl [] rfl) hm
def b_X12_whyStop_124 (a : Nat)  (S : m_M) (l2 : Int32) : Option (Int32 × m_M) :=
    if l2 = (2 : Int32) then (
    (m_ldi S (a + 2) 2647 (213 : Int32)).bind fun v2 =>
    if v2 = (200 : Int32) then (
    some ((4 : Int32), S)) else (
    b_X12_whyStop_145 a S)) else (
    b_X12_whyStop_145 a S)
set_option maxHeartbeats 4000000 in
set_option maxRecDepth 100000 in
theorem k_X12_whyStop_124 {p : Program} {l : Launch} {e : Env} {s : State} {m : MethodId} {args : Array Value} {below : List Frame} {meth : Method} {c : Code} {G : m_G} {nx : Nat} {κ : Nat → Nat} {res : (Int32 × m_M)} {a : Nat} (X : m_Cx p s m args meth c cX12_whyStop 3 RX12 G) (hr : meth.sig.returnType = (some .int)) (hT : m_Str κ) (hk_a : κ a = 13)  : ∀ (S : m_M) (l2 : Int32) (H : Heap) (locs : List Loc) (ls : Array Slot), m_H G nx κ S H → m_S G s H locs → lv_has ls 3 [(0, .ref a), (2, .int l2)] → b_X12_whyStop_124 a S l2 = some res → W p l e rm_X12_whyStop s m args below meth c H locs 0 0 (m_Qi below args s G nx κ res) (F0 m 124 ls []) := by
  have hx := X.1.1
  have hb := X.1.2.1
  intro S l2 H locs ls hH hS hl hm
  rw [b_X12_whyStop_124] at hm
  refine lv_iload_n hx hb dX12_whyStop_124 rfl (lv_at hl 1 rfl) ?_
  refine lv_iconst (v := (2 : Int32)) hx hb dX12_whyStop_125 (by decide) ?_
  refine lv_icmp_ne (tgt := 145) hx hb dX12_whyStop_126 (by decide) (fun c1 => ?_) (fun c1 => ?_)
  · have hm := m_ite_f hm c1
    exact k_X12_whyStop_145 (a := a) X hr hT hk_a   S _ _ _ hH hS (lv_sub hl [0] rfl) hm
  · have hm := m_ite_t hm c1
    refine lv_aload_n hx hb dX12_whyStop_129 rfl (lv_at hl 0 rfl) ?_
    refine r_getp X hH (k := 12) (a := a) (j := 14) (b := (a + 2)) (A := 2) (B := 0) hk_a (by decide) rfl m_wi12 (by decide) in_7_29 rfl rfl rfl dX12_whyStop_130 ?_
    refine lv_sipush (v := (213 : Int32)) hx hb dX12_whyStop_133 (by decide) ?_
    obtain ⟨v2, h_v2, e_v2, hm⟩ := n_ldi hm
    refine n_iald X hH (n := 2647) (m_lay_at hT hk_a (by decide) (i := 2) rfl) h_v2 e_v2 dX12_whyStop_136 ?_
    refine lv_sipush (v := (200 : Int32)) hx hb dX12_whyStop_137 (by decide) ?_
    refine lv_icmp_ne (tgt := 145) hx hb dX12_whyStop_140 (by decide) (fun c3 => ?_) (fun c3 => ?_)
    · have hm := m_ite_f hm c3
      exact k_X12_whyStop_145 (a := a) X hr hT hk_a   S _ _ _ hH hS (lv_sub hl [0] rfl) hm
    · have hm := m_ite_t hm c3
      refine lv_iconst (v := (4 : Int32)) hx hb dX12_whyStop_143 (by decide) ?_
      exact r_iret X hr hH hS hm dX12_whyStop_144
def b_X12_whyStop_93 (a : Nat)  (S : m_M) (l1 : Int32) (l2 : Int32) : Option (Int32 × m_M) :=
    m_call (f_X12_calls a S l1) fun v2 S1 =>
    if v2 = 0 then (
    b_X12_whyStop_124 a S1 l2) else (
    (m_ldi S1 (a + 2) 2647 (212 : Int32)).bind fun v4 =>
    if v4 = (12 : Int32) then (
    m_call (f_X12_goesAhead a S1 l1) fun v7 S6 =>
    if v7 = 0 then (
    some ((3 : Int32), S6)) else (
    b_X12_whyStop_124 a S6 l2)) else (
    b_X12_whyStop_124 a S1 l2))
set_option maxHeartbeats 4000000 in
set_option maxRecDepth 100000 in
theorem k_X12_whyStop_93 {p : Program} {l : Launch} {e : Env} {s : State} {m : MethodId} {args : Array Value} {below : List Frame} {meth : Method} {c : Code} {G : m_G} {nx : Nat} {κ : Nat → Nat} {res : (Int32 × m_M)} {a : Nat} (X : m_Cx p s m args meth c cX12_whyStop 3 RX12 G) (hr : meth.sig.returnType = (some .int)) (hT : m_Str κ) (hk_a : κ a = 13)  : ∀ (S : m_M) (l1 : Int32) (l2 : Int32) (H : Heap) (locs : List Loc) (ls : Array Slot), m_H G nx κ S H → m_S G s H locs → lv_has ls 3 [(0, .ref a), (1, .int l1), (2, .int l2)] → b_X12_whyStop_93 a S l1 l2 = some res → W p l e rm_X12_whyStop s m args below meth c H locs 0 0 (m_Qi below args s G nx κ res) (F0 m 93 ls []) := by
  have hx := X.1.1
  have hb := X.1.2.1
  intro S l1 l2 H locs ls hH hS hl hm
  rw [b_X12_whyStop_93] at hm
  refine lv_aload_n hx hb dX12_whyStop_93 rfl (lv_at hl 0 rfl) ?_
  refine lv_iload_n hx hb dX12_whyStop_94 rfl (lv_at hl 1 rfl) ?_
  obtain ⟨v2, S1, e_S1, hm⟩ := m_call_of hm
  refine n_cVi X hH hS (k := 12) (c_X12_calls (a := a) hT hk_a e_S1) mw_X12_calls in_8_168 hk_a (by decide) rfl rfl rfl ⟨rfl, rfl⟩ ⟨Nat.le_of_ble_eq_true rfl, Nat.le_of_ble_eq_true rfl⟩ ⟨Nat.zero_le _, Nat.zero_le _⟩ hl.1 (Nat.le_of_ble_eq_true rfl) dX12_whyStop_95 (fun H locs hH hS => ?_)
  refine lv_if_eq (tgt := 124) hx hb dX12_whyStop_98 (by decide) (fun c3 => ?_) (fun c3 => ?_)
  · have hm := m_ite_t hm c3
    exact k_X12_whyStop_124 (a := a) X hr hT hk_a   S1 l2 _ _ _ hH hS (lv_sub hl [0, 2] rfl) hm
  · have hm := m_ite_f hm c3
    refine lv_aload_n hx hb dX12_whyStop_101 rfl (lv_at hl 0 rfl) ?_
    refine r_getp X hH (k := 12) (a := a) (j := 14) (b := (a + 2)) (A := 2) (B := 0) hk_a (by decide) rfl m_wi12 (by decide) in_7_29 rfl rfl rfl dX12_whyStop_102 ?_
    refine lv_sipush (v := (212 : Int32)) hx hb dX12_whyStop_105 (by decide) ?_
    obtain ⟨v4, h_v4, e_v4, hm⟩ := n_ldi hm
    refine n_iald X hH (n := 2647) (m_lay_at hT hk_a (by decide) (i := 2) rfl) h_v4 e_v4 dX12_whyStop_108 ?_
    refine lv_bipush (v := (12 : Int32)) hx hb dX12_whyStop_109 (by decide) ?_
    refine lv_icmp_ne (tgt := 124) hx hb dX12_whyStop_111 (by decide) (fun c5 => ?_) (fun c5 => ?_)
    · have hm := m_ite_f hm c5
      exact k_X12_whyStop_124 (a := a) X hr hT hk_a   S1 l2 _ _ _ hH hS (lv_sub hl [0, 2] rfl) hm
    · have hm := m_ite_t hm c5
      refine lv_aload_n hx hb dX12_whyStop_114 rfl (lv_at hl 0 rfl) ?_
      refine lv_iload_n hx hb dX12_whyStop_115 rfl (lv_at hl 1 rfl) ?_
      obtain ⟨v7, S6, e_S6, hm⟩ := m_call_of hm
      refine n_cVi X hH hS (k := 12) (c_X12_goesAhead (a := a) hT hk_a e_S6) mw_X12_goesAhead in_8_176 hk_a (by decide) rfl rfl rfl ⟨rfl, rfl⟩ ⟨Nat.le_of_ble_eq_true rfl, Nat.le_of_ble_eq_true rfl⟩ ⟨Nat.zero_le _, Nat.zero_le _⟩ hl.1 (Nat.le_of_ble_eq_true rfl) dX12_whyStop_116 (fun H locs hH hS => ?_)
      refine lv_if_ne (tgt := 124) hx hb dX12_whyStop_119 (by decide) (fun c8 => ?_) (fun c8 => ?_)
      · have hm := m_ite_f hm c8
        exact k_X12_whyStop_124 (a := a) X hr hT hk_a   S6 l2 _ _ _ hH hS (lv_sub hl [0, 2] rfl) hm
      · have hm := m_ite_t hm c8
        refine lv_iconst (v := (3 : Int32)) hx hb dX12_whyStop_122 (by decide) ?_
        exact r_iret X hr hH hS hm dX12_whyStop_123
def b_X12_whyStop_81 (a : Nat)  (S : m_M) (l1 : Int32) (l2 : Int32) : Option (Int32 × m_M) :=
    m_call (f_X12_kindAt a S l1 (0 : Int32)) fun v2 S1 =>
    if v2 = (2 : Int32) then (
    some ((2 : Int32), S1)) else (
    b_X12_whyStop_93 a S1 l1 l2)
set_option maxHeartbeats 4000000 in
set_option maxRecDepth 100000 in
theorem k_X12_whyStop_81 {p : Program} {l : Launch} {e : Env} {s : State} {m : MethodId} {args : Array Value} {below : List Frame} {meth : Method} {c : Code} {G : m_G} {nx : Nat} {κ : Nat → Nat} {res : (Int32 × m_M)} {a : Nat} (X : m_Cx p s m args meth c cX12_whyStop 3 RX12 G) (hr : meth.sig.returnType = (some .int)) (hT : m_Str κ) (hk_a : κ a = 13)  : ∀ (S : m_M) (l1 : Int32) (l2 : Int32) (H : Heap) (locs : List Loc) (ls : Array Slot), m_H G nx κ S H → m_S G s H locs → lv_has ls 3 [(0, .ref a), (1, .int l1), (2, .int l2)] → b_X12_whyStop_81 a S l1 l2 = some res → W p l e rm_X12_whyStop s m args below meth c H locs 0 0 (m_Qi below args s G nx κ res) (F0 m 81 ls []) := by
  have hx := X.1.1
  have hb := X.1.2.1
  intro S l1 l2 H locs ls hH hS hl hm
  rw [b_X12_whyStop_81] at hm
  refine lv_aload_n hx hb dX12_whyStop_81 rfl (lv_at hl 0 rfl) ?_
  refine lv_iload_n hx hb dX12_whyStop_82 rfl (lv_at hl 1 rfl) ?_
  refine lv_iconst (v := (0 : Int32)) hx hb dX12_whyStop_83 (by decide) ?_
  obtain ⟨v2, S1, e_S1, hm⟩ := m_call_of hm
  refine n_cVi X hH hS (k := 12) (c_X12_kindAt (a := a) hT hk_a e_S1) mw_X12_kindAt in_8_164 hk_a (by decide) rfl rfl rfl ⟨rfl, rfl⟩ ⟨Nat.le_of_ble_eq_true rfl, Nat.le_of_ble_eq_true rfl⟩ ⟨Nat.zero_le _, Nat.zero_le _⟩ hl.1 (Nat.le_of_ble_eq_true rfl) dX12_whyStop_84 (fun H locs hH hS => ?_)
  refine lv_iconst (v := (2 : Int32)) hx hb dX12_whyStop_87 (by decide) ?_
  refine lv_icmp_ne (tgt := 93) hx hb dX12_whyStop_88 (by decide) (fun c3 => ?_) (fun c3 => ?_)
  · have hm := m_ite_f hm c3
    exact k_X12_whyStop_93 (a := a) X hr hT hk_a   S1 l1 l2 _ _ _ hH hS hl hm
  · have hm := m_ite_t hm c3
    refine lv_iconst (v := (2 : Int32)) hx hb dX12_whyStop_91 (by decide) ?_
    exact r_iret X hr hH hS hm dX12_whyStop_92
def b_X12_whyStop_69 (a : Nat)  (S : m_M) (l1 : Int32) (l2 : Int32) : Option (Int32 × m_M) :=
    if l2 = (7 : Int32) then (
    b_X12_whyStop_81 a S l1 l2) else (
    if l2 = (9 : Int32) then (
    b_X12_whyStop_81 a S l1 l2) else (
    b_X12_whyStop_93 a S l1 l2))
set_option maxHeartbeats 4000000 in
set_option maxRecDepth 100000 in
theorem k_X12_whyStop_69 {p : Program} {l : Launch} {e : Env} {s : State} {m : MethodId} {args : Array Value} {below : List Frame} {meth : Method} {c : Code} {G : m_G} {nx : Nat} {κ : Nat → Nat} {res : (Int32 × m_M)} {a : Nat} (X : m_Cx p s m args meth c cX12_whyStop 3 RX12 G) (hr : meth.sig.returnType = (some .int)) (hT : m_Str κ) (hk_a : κ a = 13)  : ∀ (S : m_M) (l1 : Int32) (l2 : Int32) (H : Heap) (locs : List Loc) (ls : Array Slot), m_H G nx κ S H → m_S G s H locs → lv_has ls 3 [(0, .ref a), (1, .int l1), (2, .int l2)] → b_X12_whyStop_69 a S l1 l2 = some res → W p l e rm_X12_whyStop s m args below meth c H locs 0 0 (m_Qi below args s G nx κ res) (F0 m 69 ls []) := by
  have hx := X.1.1
  have hb := X.1.2.1
  intro S l1 l2 H locs ls hH hS hl hm
  rw [b_X12_whyStop_69] at hm
  refine lv_iload_n hx hb dX12_whyStop_69 rfl (lv_at hl 2 rfl) ?_
  refine lv_bipush (v := (7 : Int32)) hx hb dX12_whyStop_70 (by decide) ?_
  refine lv_icmp_eq (tgt := 81) hx hb dX12_whyStop_72 (by decide) (fun c1 => ?_) (fun c1 => ?_)
  · have hm := m_ite_t hm c1
    exact k_X12_whyStop_81 (a := a) X hr hT hk_a   S l1 l2 _ _ _ hH hS hl hm
  · have hm := m_ite_f hm c1
    refine lv_iload_n hx hb dX12_whyStop_75 rfl (lv_at hl 2 rfl) ?_
    refine lv_bipush (v := (9 : Int32)) hx hb dX12_whyStop_76 (by decide) ?_
    refine lv_icmp_ne (tgt := 93) hx hb dX12_whyStop_78 (by decide) (fun c2 => ?_) (fun c2 => ?_)
    · have hm := m_ite_f hm c2
      exact k_X12_whyStop_93 (a := a) X hr hT hk_a   S l1 l2 _ _ _ hH hS hl hm
    · have hm := m_ite_t hm c2
      exact k_X12_whyStop_81 (a := a) X hr hT hk_a   S l1 l2 _ _ _ hH hS hl hm
def b_X12_whyStop_47 (a : Nat)  (S : m_M) (l1 : Int32) (l2 : Int32) : Option (Int32 × m_M) :=
    m_call (f_X12_kindAt a S l1 (0 : Int32)) fun v2 S1 =>
    if v2 = (2 : Int32) then (
    b_X12_whyStop_67 a S1) else (
    m_call (f_X12_kindAt a S1 l1 (1 : Int32)) fun v5 S4 =>
    if v5 = (2 : Int32) then (
    b_X12_whyStop_67 a S4) else (
    b_X12_whyStop_69 a S4 l1 l2))
set_option maxHeartbeats 4000000 in
set_option maxRecDepth 100000 in
theorem k_X12_whyStop_47 {p : Program} {l : Launch} {e : Env} {s : State} {m : MethodId} {args : Array Value} {below : List Frame} {meth : Method} {c : Code} {G : m_G} {nx : Nat} {κ : Nat → Nat} {res : (Int32 × m_M)} {a : Nat} (X : m_Cx p s m args meth c cX12_whyStop 3 RX12 G) (hr : meth.sig.returnType = (some .int)) (hT : m_Str κ) (hk_a : κ a = 13)  : ∀ (S : m_M) (l1 : Int32) (l2 : Int32) (H : Heap) (locs : List Loc) (ls : Array Slot), m_H G nx κ S H → m_S G s H locs → lv_has ls 3 [(0, .ref a), (1, .int l1), (2, .int l2)] → b_X12_whyStop_47 a S l1 l2 = some res → W p l e rm_X12_whyStop s m args below meth c H locs 0 0 (m_Qi below args s G nx κ res) (F0 m 47 ls []) := by
  have hx := X.1.1
  have hb := X.1.2.1
  intro S l1 l2 H locs ls hH hS hl hm
  rw [b_X12_whyStop_47] at hm
  refine lv_aload_n hx hb dX12_whyStop_47 rfl (lv_at hl 0 rfl) ?_
  refine lv_iload_n hx hb dX12_whyStop_48 rfl (lv_at hl 1 rfl) ?_
  refine lv_iconst (v := (0 : Int32)) hx hb dX12_whyStop_49 (by decide) ?_
  obtain ⟨v2, S1, e_S1, hm⟩ := m_call_of hm
  refine n_cVi X hH hS (k := 12) (c_X12_kindAt (a := a) hT hk_a e_S1) mw_X12_kindAt in_8_164 hk_a (by decide) rfl rfl rfl ⟨rfl, rfl⟩ ⟨Nat.le_of_ble_eq_true rfl, Nat.le_of_ble_eq_true rfl⟩ ⟨Nat.zero_le _, Nat.zero_le _⟩ hl.1 (Nat.le_of_ble_eq_true rfl) dX12_whyStop_50 (fun H locs hH hS => ?_)
  refine lv_iconst (v := (2 : Int32)) hx hb dX12_whyStop_53 (by decide) ?_
  refine lv_icmp_eq (tgt := 67) hx hb dX12_whyStop_54 (by decide) (fun c3 => ?_) (fun c3 => ?_)
  · have hm := m_ite_t hm c3
    exact k_X12_whyStop_67 (a := a) X hr hT hk_a   S1 _ _ _ hH hS (lv_sub hl [] rfl) hm
  · have hm := m_ite_f hm c3
    refine lv_aload_n hx hb dX12_whyStop_57 rfl (lv_at hl 0 rfl) ?_
    refine lv_iload_n hx hb dX12_whyStop_58 rfl (lv_at hl 1 rfl) ?_
    refine lv_iconst (v := (1 : Int32)) hx hb dX12_whyStop_59 (by decide) ?_
    obtain ⟨v5, S4, e_S4, hm⟩ := m_call_of hm
    refine n_cVi X hH hS (k := 12) (c_X12_kindAt (a := a) hT hk_a e_S4) mw_X12_kindAt in_8_164 hk_a (by decide) rfl rfl rfl ⟨rfl, rfl⟩ ⟨Nat.le_of_ble_eq_true rfl, Nat.le_of_ble_eq_true rfl⟩ ⟨Nat.zero_le _, Nat.zero_le _⟩ hl.1 (Nat.le_of_ble_eq_true rfl) dX12_whyStop_60 (fun H locs hH hS => ?_)
    refine lv_iconst (v := (2 : Int32)) hx hb dX12_whyStop_63 (by decide) ?_
    refine lv_icmp_ne (tgt := 69) hx hb dX12_whyStop_64 (by decide) (fun c6 => ?_) (fun c6 => ?_)
    · have hm := m_ite_f hm c6
      exact k_X12_whyStop_69 (a := a) X hr hT hk_a   S4 l1 l2 _ _ _ hH hS hl hm
    · have hm := m_ite_t hm c6
      exact k_X12_whyStop_67 (a := a) X hr hT hk_a   S4 _ _ _ hH hS (lv_sub hl [] rfl) hm
def b_X12_whyStop_36 (a : Nat)  (S : m_M) (l1 : Int32) (l2 : Int32) : Option (Int32 × m_M) :=
    if l2 = (5 : Int32) then (
    b_X12_whyStop_47 a S l1 l2) else (
    if l2 = (6 : Int32) then (
    b_X12_whyStop_47 a S l1 l2) else (
    b_X12_whyStop_69 a S l1 l2))
set_option maxHeartbeats 4000000 in
set_option maxRecDepth 100000 in
theorem k_X12_whyStop_36 {p : Program} {l : Launch} {e : Env} {s : State} {m : MethodId} {args : Array Value} {below : List Frame} {meth : Method} {c : Code} {G : m_G} {nx : Nat} {κ : Nat → Nat} {res : (Int32 × m_M)} {a : Nat} (X : m_Cx p s m args meth c cX12_whyStop 3 RX12 G) (hr : meth.sig.returnType = (some .int)) (hT : m_Str κ) (hk_a : κ a = 13)  : ∀ (S : m_M) (l1 : Int32) (l2 : Int32) (H : Heap) (locs : List Loc) (ls : Array Slot), m_H G nx κ S H → m_S G s H locs → lv_has ls 3 [(0, .ref a), (1, .int l1), (2, .int l2)] → b_X12_whyStop_36 a S l1 l2 = some res → W p l e rm_X12_whyStop s m args below meth c H locs 0 0 (m_Qi below args s G nx κ res) (F0 m 36 ls []) := by
  have hx := X.1.1
  have hb := X.1.2.1
  intro S l1 l2 H locs ls hH hS hl hm
  rw [b_X12_whyStop_36] at hm
  refine lv_iload_n hx hb dX12_whyStop_36 rfl (lv_at hl 2 rfl) ?_
  refine lv_iconst (v := (5 : Int32)) hx hb dX12_whyStop_37 (by decide) ?_
  refine lv_icmp_eq (tgt := 47) hx hb dX12_whyStop_38 (by decide) (fun c1 => ?_) (fun c1 => ?_)
  · have hm := m_ite_t hm c1
    exact k_X12_whyStop_47 (a := a) X hr hT hk_a   S l1 l2 _ _ _ hH hS hl hm
  · have hm := m_ite_f hm c1
    refine lv_iload_n hx hb dX12_whyStop_41 rfl (lv_at hl 2 rfl) ?_
    refine lv_bipush (v := (6 : Int32)) hx hb dX12_whyStop_42 (by decide) ?_
    refine lv_icmp_ne (tgt := 69) hx hb dX12_whyStop_44 (by decide) (fun c2 => ?_) (fun c2 => ?_)
    · have hm := m_ite_f hm c2
      exact k_X12_whyStop_69 (a := a) X hr hT hk_a   S l1 l2 _ _ _ hH hS hl hm
    · have hm := m_ite_t hm c2
      exact k_X12_whyStop_47 (a := a) X hr hT hk_a   S l1 l2 _ _ _ hH hS hl hm
def b_X12_whyStop_24 (a : Nat)  (S : m_M) (l1 : Int32) (l2 : Int32) : Option (Int32 × m_M) :=
    m_call (f_X12_kindAt a S l1 (0 : Int32)) fun v2 S1 =>
    if v2 = (1 : Int32) then (
    some ((1 : Int32), S1)) else (
    b_X12_whyStop_36 a S1 l1 l2)
set_option maxHeartbeats 4000000 in
set_option maxRecDepth 100000 in
theorem k_X12_whyStop_24 {p : Program} {l : Launch} {e : Env} {s : State} {m : MethodId} {args : Array Value} {below : List Frame} {meth : Method} {c : Code} {G : m_G} {nx : Nat} {κ : Nat → Nat} {res : (Int32 × m_M)} {a : Nat} (X : m_Cx p s m args meth c cX12_whyStop 3 RX12 G) (hr : meth.sig.returnType = (some .int)) (hT : m_Str κ) (hk_a : κ a = 13)  : ∀ (S : m_M) (l1 : Int32) (l2 : Int32) (H : Heap) (locs : List Loc) (ls : Array Slot), m_H G nx κ S H → m_S G s H locs → lv_has ls 3 [(0, .ref a), (1, .int l1), (2, .int l2)] → b_X12_whyStop_24 a S l1 l2 = some res → W p l e rm_X12_whyStop s m args below meth c H locs 0 0 (m_Qi below args s G nx κ res) (F0 m 24 ls []) := by
  have hx := X.1.1
  have hb := X.1.2.1
  intro S l1 l2 H locs ls hH hS hl hm
  rw [b_X12_whyStop_24] at hm
  refine lv_aload_n hx hb dX12_whyStop_24 rfl (lv_at hl 0 rfl) ?_
  refine lv_iload_n hx hb dX12_whyStop_25 rfl (lv_at hl 1 rfl) ?_
  refine lv_iconst (v := (0 : Int32)) hx hb dX12_whyStop_26 (by decide) ?_
  obtain ⟨v2, S1, e_S1, hm⟩ := m_call_of hm
  refine n_cVi X hH hS (k := 12) (c_X12_kindAt (a := a) hT hk_a e_S1) mw_X12_kindAt in_8_164 hk_a (by decide) rfl rfl rfl ⟨rfl, rfl⟩ ⟨Nat.le_of_ble_eq_true rfl, Nat.le_of_ble_eq_true rfl⟩ ⟨Nat.zero_le _, Nat.zero_le _⟩ hl.1 (Nat.le_of_ble_eq_true rfl) dX12_whyStop_27 (fun H locs hH hS => ?_)
  refine lv_iconst (v := (1 : Int32)) hx hb dX12_whyStop_30 (by decide) ?_
  refine lv_icmp_ne (tgt := 36) hx hb dX12_whyStop_31 (by decide) (fun c3 => ?_) (fun c3 => ?_)
  · have hm := m_ite_f hm c3
    exact k_X12_whyStop_36 (a := a) X hr hT hk_a   S1 l1 l2 _ _ _ hH hS hl hm
  · have hm := m_ite_t hm c3
    refine lv_iconst (v := (1 : Int32)) hx hb dX12_whyStop_34 (by decide) ?_
    exact r_iret X hr hH hS hm dX12_whyStop_35
def f_X12_whyStop (a : Nat) (S : m_M) (i1 : Int32) : Option (Int32 × m_M) :=
    m_call (f_X12_lineOf a S i1) fun v2 S1 =>
    (m_ldi S1 (a + 2) 2647 ((18 : Int32) + v2)).bind fun v3 =>
    if v3 = (3 : Int32) then (
    b_X12_whyStop_24 a S1 i1 v3) else (
    if v3 = (4 : Int32) then (
    b_X12_whyStop_24 a S1 i1 v3) else (
    b_X12_whyStop_36 a S1 i1 v3))
set_option maxHeartbeats 4000000 in
set_option maxRecDepth 100000 in
theorem c_X12_whyStop {l : Launch} {G : m_G} {nx : Nat} {κ : Nat → Nat} {a : Nat} {S : m_M} {i1 : Int32} {res : (Int32 × m_M)} (hT : m_Str κ) (hk_a : κ a = 13) (hm : f_X12_whyStop a S i1 = some res) : m_Ci l yX12_whyStop cX12_whyStop 3 (some .int) rm_X12_whyStop G nx κ [.ref a, .int i1] S res := by
  refine m_Ci.of (by decide) (Nat.le_of_ble_eq_true rfl) ?_
  intro p e s m args below meth c ls X hr hH hl
  have hx := X.1.1
  have hb := X.1.2.1
  have hS : m_S G s s.heap [] := va_S.rf
  have hl : lv_has ls 3 [(0, .ref a), (1, .int i1)] := hl
  rw [f_X12_whyStop] at hm
  refine lv_aload_n hx hb dX12_whyStop_0 rfl (lv_at hl 0 rfl) ?_
  refine r_getp X hH (k := 12) (a := a) (j := 14) (b := (a + 2)) (A := 2) (B := 0) hk_a (by decide) rfl m_wi12 (by decide) in_7_29 rfl rfl rfl dX12_whyStop_1 ?_
  refine lv_bipush (v := (18 : Int32)) hx hb dX12_whyStop_4 (by decide) ?_
  refine lv_aload_n hx hb dX12_whyStop_6 rfl (lv_at hl 0 rfl) ?_
  refine lv_iload_n hx hb dX12_whyStop_7 rfl (lv_at hl 1 rfl) ?_
  obtain ⟨v2, S1, e_S1, hm⟩ := m_call_of hm
  refine n_cVi X hH hS (k := 12) (c_X12_lineOf (a := a) hT hk_a e_S1) mw_X12_lineOf in_8_160 hk_a (by decide) rfl rfl rfl ⟨rfl, rfl⟩ ⟨Nat.le_of_ble_eq_true rfl, Nat.le_of_ble_eq_true rfl⟩ ⟨Nat.zero_le _, Nat.zero_le _⟩ hl.1 (Nat.le_of_ble_eq_true rfl) dX12_whyStop_8 (fun H locs hH hS => ?_)
  refine lv_iadd hx hb dX12_whyStop_11 ?_
  obtain ⟨v3, h_v3, e_v3, hm⟩ := n_ldi hm
  refine n_iald X hH (n := 2647) (m_lay_at hT hk_a (by decide) (i := 2) rfl) h_v3 e_v3 dX12_whyStop_12 ?_
  refine lv_istore_n (lv' := [(2, .int v3), (0, .ref a), (1, .int i1)]) hx hb dX12_whyStop_13 rfl hl (by decide) rfl (fun ls hl => ?_)
  refine lv_iload_n hx hb dX12_whyStop_14 rfl (lv_at hl 0 rfl) ?_
  refine lv_iconst (v := (3 : Int32)) hx hb dX12_whyStop_15 (by decide) ?_
  refine lv_icmp_eq (tgt := 24) hx hb dX12_whyStop_16 (by decide) (fun c4 => ?_) (fun c4 => ?_)
  · have hm := m_ite_t hm c4
    exact k_X12_whyStop_24 (a := a) X hr hT hk_a   S1 i1 v3 _ _ _ hH hS (lv_sub hl [1, 2, 0] rfl) hm
  · have hm := m_ite_f hm c4
    refine lv_iload_n hx hb dX12_whyStop_19 rfl (lv_at hl 0 rfl) ?_
    refine lv_iconst (v := (4 : Int32)) hx hb dX12_whyStop_20 (by decide) ?_
    refine lv_icmp_ne (tgt := 36) hx hb dX12_whyStop_21 (by decide) (fun c5 => ?_) (fun c5 => ?_)
    · have hm := m_ite_f hm c5
      exact k_X12_whyStop_36 (a := a) X hr hT hk_a   S1 i1 v3 _ _ _ hH hS (lv_sub hl [1, 2, 0] rfl) hm
    · have hm := m_ite_t hm c5
      exact k_X12_whyStop_24 (a := a) X hr hT hk_a   S1 i1 v3 _ _ _ hH hS (lv_sub hl [1, 2, 0] rfl) hm
def rm_X12_layCell : Room := { frames := 3, cells := 0, slots := 0, locals := 64 }
def b_X12_layCell_196 (a : Nat)  (S : m_M) (l2 : Int32) : Option (Int32 × m_M) :=
    some (l2, S)
set_option maxHeartbeats 4000000 in
set_option maxRecDepth 100000 in
theorem k_X12_layCell_196 {p : Program} {l : Launch} {e : Env} {s : State} {m : MethodId} {args : Array Value} {below : List Frame} {meth : Method} {c : Code} {G : m_G} {nx : Nat} {κ : Nat → Nat} {res : (Int32 × m_M)} {a : Nat} (X : m_Cx p s m args meth c cX12_layCell 6 RX12 G) (hr : meth.sig.returnType = (some .int)) (hT : m_Str κ) (hk_a : κ a = 13)  : ∀ (S : m_M) (l2 : Int32) (H : Heap) (locs : List Loc) (ls : Array Slot), m_H G nx κ S H → m_S G s H locs → lv_has ls 6 [(2, .int l2)] → b_X12_layCell_196 a S l2 = some res → W p l e rm_X12_layCell s m args below meth c H locs 0 0 (m_Qi below args s G nx κ res) (F0 m 196 ls []) := by
  have hx := X.1.1
  have hb := X.1.2.1
  intro S l2 H locs ls hH hS hl hm
  rw [b_X12_layCell_196] at hm
  refine lv_iload_n hx hb dX12_layCell_196 rfl (lv_at hl 0 rfl) ?_
  exact r_iret X hr hH hS hm dX12_layCell_197
def b_X12_layCell_81 (a : Nat)  : Nat → m_M → Int32 → Int32 → Int32 → Option (Int32 × m_M)
  | 0, _, _, _, _ => none
  | n + 1, S, l1, l2, l5 =>
    if (2 : Int32) ≤ l5 then (
    (m_ldi S (a + 2) 2647 (213 : Int32)).bind fun v2 =>
    (m_sti S (a + 2) 2647 (213 : Int32) (v2 + (1 : Int32))).bind fun S3 =>
    (m_ldi S3 (a + 2) 2647 (217 : Int32)).bind fun v4 =>
    (m_sti S3 (a + 2) 2647 (217 : Int32) (v4 + (1 : Int32))).bind fun S5 =>
    (m_ldi S5 (a + 2) 2647 (213 : Int32)).bind fun v6 =>
    (m_ldi S5 (a + 2) 2647 (215 : Int32)).bind fun v7 =>
    if v6 ≤ v7 then (
    b_X12_layCell_196 a S5 l2) else (
    (m_ldi S5 (a + 2) 2647 (213 : Int32)).bind fun v9 =>
    (m_sti S5 (a + 2) 2647 (215 : Int32) v9).bind fun S10 =>
    b_X12_layCell_196 a S10 l2)) else (
    m_call (f_X12_kindAt a S l1 l5) fun v12 S11 =>
    (m_sti S11 (a + 2) 2647 (((1293 : Int32) + ((2 : Int32) * l2)) + l5) v12).bind fun S13 =>
    m_call (f_X12_valueAt a S13 l1 l5) fun v15 S14 =>
    (m_sti S14 (a + 2) 2647 (((1693 : Int32) + ((2 : Int32) * l2)) + l5) v15).bind fun S16 =>
    m_let (l5 + (1 : Int32)) fun v17 =>
    b_X12_layCell_81 a n S16 l1 l2 v17)
set_option maxHeartbeats 4000000 in
set_option maxRecDepth 100000 in
theorem k_X12_layCell_81 {p : Program} {l : Launch} {e : Env} {s : State} {m : MethodId} {args : Array Value} {below : List Frame} {meth : Method} {c : Code} {G : m_G} {nx : Nat} {κ : Nat → Nat} {res : (Int32 × m_M)} {a : Nat} (X : m_Cx p s m args meth c cX12_layCell 6 RX12 G) (hr : meth.sig.returnType = (some .int)) (hT : m_Str κ) (hk_a : κ a = 13)  (n : Nat) : ∀ (S : m_M) (l1 : Int32) (l2 : Int32) (l5 : Int32) (H : Heap) (locs : List Loc) (ls : Array Slot), m_H G nx κ S H → m_S G s H locs → lv_has ls 6 [(0, .ref a), (1, .int l1), (2, .int l2), (5, .int l5)] → b_X12_layCell_81 a n S l1 l2 l5 = some res → W p l e rm_X12_layCell s m args below meth c H locs 0 0 (m_Qi below args s G nx κ res) (F0 m 81 ls []) := by
  have hx := X.1.1
  have hb := X.1.2.1
  induction n with
  | zero => intro S l1 l2 l5 H locs ls hH hS hl hm; have hm : (none : Option (Int32 × m_M)) = some res := hm; cases hm
  | succ n ih =>
    intro S l1 l2 l5 H locs ls hH hS hl hm
    rw [b_X12_layCell_81] at hm
    refine lv_iload hx hb dX12_layCell_81 (lv_at hl 3 rfl) ?_
    refine lv_iconst (v := (2 : Int32)) hx hb dX12_layCell_83 (by decide) ?_
    refine lv_icmp_ge (tgt := 137) hx hb dX12_layCell_84 (by decide) (fun c1 => ?_) (fun c1 => ?_)
    · have hm := m_ite_t hm c1
      refine lv_aload_n hx hb dX12_layCell_137 rfl (lv_at hl 0 rfl) ?_
      refine r_getp X hH (k := 12) (a := a) (j := 14) (b := (a + 2)) (A := 2) (B := 0) hk_a (by decide) rfl m_wi12 (by decide) in_7_29 rfl rfl rfl dX12_layCell_138 ?_
      refine lv_sipush (v := (213 : Int32)) hx hb dX12_layCell_141 (by decide) ?_
      refine lv_dup2_11 hx hb dX12_layCell_144 rfl rfl ?_
      obtain ⟨v2, h_v2, e_v2, hm⟩ := n_ldi hm
      refine n_iald X hH (n := 2647) (m_lay_at hT hk_a (by decide) (i := 2) rfl) h_v2 e_v2 dX12_layCell_145 ?_
      refine lv_iconst (v := (1 : Int32)) hx hb dX12_layCell_146 (by decide) ?_
      refine lv_iadd hx hb dX12_layCell_147 ?_
      obtain ⟨S3, h_S3, e_S3, hm⟩ := n_sti hm
      refine n_iast X hH hS (n := 2647) (m_lay_at hT hk_a (by decide) (i := 2) rfl) h_S3 e_S3 dX12_layCell_148 (fun H locs hH hS => ?_)
      refine lv_aload_n hx hb dX12_layCell_149 rfl (lv_at hl 0 rfl) ?_
      refine r_getp X hH (k := 12) (a := a) (j := 14) (b := (a + 2)) (A := 2) (B := 0) hk_a (by decide) rfl m_wi12 (by decide) in_7_29 rfl rfl rfl dX12_layCell_150 ?_
      refine lv_sipush (v := (217 : Int32)) hx hb dX12_layCell_153 (by decide) ?_
      refine lv_dup2_11 hx hb dX12_layCell_156 rfl rfl ?_
      obtain ⟨v4, h_v4, e_v4, hm⟩ := n_ldi hm
      refine n_iald X hH (n := 2647) (m_lay_at hT hk_a (by decide) (i := 2) rfl) h_v4 e_v4 dX12_layCell_157 ?_
      refine lv_iconst (v := (1 : Int32)) hx hb dX12_layCell_158 (by decide) ?_
      refine lv_iadd hx hb dX12_layCell_159 ?_
      obtain ⟨S5, h_S5, e_S5, hm⟩ := n_sti hm
      refine n_iast X hH hS (n := 2647) (m_lay_at hT hk_a (by decide) (i := 2) rfl) h_S5 e_S5 dX12_layCell_160 (fun H locs hH hS => ?_)
      refine lv_aload_n hx hb dX12_layCell_161 rfl (lv_at hl 0 rfl) ?_
      refine r_getp X hH (k := 12) (a := a) (j := 14) (b := (a + 2)) (A := 2) (B := 0) hk_a (by decide) rfl m_wi12 (by decide) in_7_29 rfl rfl rfl dX12_layCell_162 ?_
      refine lv_sipush (v := (213 : Int32)) hx hb dX12_layCell_165 (by decide) ?_
      obtain ⟨v6, h_v6, e_v6, hm⟩ := n_ldi hm
      refine n_iald X hH (n := 2647) (m_lay_at hT hk_a (by decide) (i := 2) rfl) h_v6 e_v6 dX12_layCell_168 ?_
      refine lv_aload_n hx hb dX12_layCell_169 rfl (lv_at hl 0 rfl) ?_
      refine r_getp X hH (k := 12) (a := a) (j := 14) (b := (a + 2)) (A := 2) (B := 0) hk_a (by decide) rfl m_wi12 (by decide) in_7_29 rfl rfl rfl dX12_layCell_170 ?_
      refine lv_sipush (v := (215 : Int32)) hx hb dX12_layCell_173 (by decide) ?_
      obtain ⟨v7, h_v7, e_v7, hm⟩ := n_ldi hm
      refine n_iald X hH (n := 2647) (m_lay_at hT hk_a (by decide) (i := 2) rfl) h_v7 e_v7 dX12_layCell_176 ?_
      refine lv_icmp_le (tgt := 196) hx hb dX12_layCell_177 (by decide) (fun c8 => ?_) (fun c8 => ?_)
      · have hm := m_ite_t hm c8
        exact k_X12_layCell_196 (a := a) X hr hT hk_a   S5 l2 _ _ _ hH hS (lv_sub hl [2] rfl) hm
      · have hm := m_ite_f hm c8
        refine lv_aload_n hx hb dX12_layCell_180 rfl (lv_at hl 0 rfl) ?_
        refine r_getp X hH (k := 12) (a := a) (j := 14) (b := (a + 2)) (A := 2) (B := 0) hk_a (by decide) rfl m_wi12 (by decide) in_7_29 rfl rfl rfl dX12_layCell_181 ?_
        refine lv_sipush (v := (215 : Int32)) hx hb dX12_layCell_184 (by decide) ?_
        refine lv_aload_n hx hb dX12_layCell_187 rfl (lv_at hl 0 rfl) ?_
        refine r_getp X hH (k := 12) (a := a) (j := 14) (b := (a + 2)) (A := 2) (B := 0) hk_a (by decide) rfl m_wi12 (by decide) in_7_29 rfl rfl rfl dX12_layCell_188 ?_
        refine lv_sipush (v := (213 : Int32)) hx hb dX12_layCell_191 (by decide) ?_
        obtain ⟨v9, h_v9, e_v9, hm⟩ := n_ldi hm
        refine n_iald X hH (n := 2647) (m_lay_at hT hk_a (by decide) (i := 2) rfl) h_v9 e_v9 dX12_layCell_194 ?_
        obtain ⟨S10, h_S10, e_S10, hm⟩ := n_sti hm
        refine n_iast X hH hS (n := 2647) (m_lay_at hT hk_a (by decide) (i := 2) rfl) h_S10 e_S10 dX12_layCell_195 (fun H locs hH hS => ?_)
        exact k_X12_layCell_196 (a := a) X hr hT hk_a   S10 l2 _ _ _ hH hS (lv_sub hl [2] rfl) hm
    · have hm := m_ite_f hm c1
      refine lv_aload_n hx hb dX12_layCell_87 rfl (lv_at hl 0 rfl) ?_
      refine r_getp X hH (k := 12) (a := a) (j := 14) (b := (a + 2)) (A := 2) (B := 0) hk_a (by decide) rfl m_wi12 (by decide) in_7_29 rfl rfl rfl dX12_layCell_88 ?_
      refine lv_sipush (v := (1293 : Int32)) hx hb dX12_layCell_91 (by decide) ?_
      refine lv_iconst (v := (2 : Int32)) hx hb dX12_layCell_94 (by decide) ?_
      refine lv_iload_n hx hb dX12_layCell_95 rfl (lv_at hl 2 rfl) ?_
      refine lv_imul hx hb dX12_layCell_96 ?_
      refine lv_iadd hx hb dX12_layCell_97 ?_
      refine lv_iload hx hb dX12_layCell_98 (lv_at hl 3 rfl) ?_
      refine lv_iadd hx hb dX12_layCell_100 ?_
      refine lv_aload_n hx hb dX12_layCell_101 rfl (lv_at hl 0 rfl) ?_
      refine lv_iload_n hx hb dX12_layCell_102 rfl (lv_at hl 1 rfl) ?_
      refine lv_iload hx hb dX12_layCell_103 (lv_at hl 3 rfl) ?_
      obtain ⟨v12, S11, e_S11, hm⟩ := m_call_of hm
      refine n_cVi X hH hS (k := 12) (c_X12_kindAt (a := a) hT hk_a e_S11) mw_X12_kindAt in_8_164 hk_a (by decide) rfl rfl rfl ⟨rfl, rfl⟩ ⟨Nat.le_of_ble_eq_true rfl, Nat.le_of_ble_eq_true rfl⟩ ⟨Nat.zero_le _, Nat.zero_le _⟩ hl.1 (Nat.le_of_ble_eq_true rfl) dX12_layCell_105 (fun H locs hH hS => ?_)
      obtain ⟨S13, h_S13, e_S13, hm⟩ := n_sti hm
      refine n_iast X hH hS (n := 2647) (m_lay_at hT hk_a (by decide) (i := 2) rfl) h_S13 e_S13 dX12_layCell_108 (fun H locs hH hS => ?_)
      refine lv_aload_n hx hb dX12_layCell_109 rfl (lv_at hl 0 rfl) ?_
      refine r_getp X hH (k := 12) (a := a) (j := 14) (b := (a + 2)) (A := 2) (B := 0) hk_a (by decide) rfl m_wi12 (by decide) in_7_29 rfl rfl rfl dX12_layCell_110 ?_
      refine lv_sipush (v := (1693 : Int32)) hx hb dX12_layCell_113 (by decide) ?_
      refine lv_iconst (v := (2 : Int32)) hx hb dX12_layCell_116 (by decide) ?_
      refine lv_iload_n hx hb dX12_layCell_117 rfl (lv_at hl 2 rfl) ?_
      refine lv_imul hx hb dX12_layCell_118 ?_
      refine lv_iadd hx hb dX12_layCell_119 ?_
      refine lv_iload hx hb dX12_layCell_120 (lv_at hl 3 rfl) ?_
      refine lv_iadd hx hb dX12_layCell_122 ?_
      refine lv_aload_n hx hb dX12_layCell_123 rfl (lv_at hl 0 rfl) ?_
      refine lv_iload_n hx hb dX12_layCell_124 rfl (lv_at hl 1 rfl) ?_
      refine lv_iload hx hb dX12_layCell_125 (lv_at hl 3 rfl) ?_
      obtain ⟨v15, S14, e_S14, hm⟩ := m_call_of hm
      refine n_cVi X hH hS (k := 12) (c_X12_valueAt (a := a) hT hk_a e_S14) mw_X12_valueAt in_8_172 hk_a (by decide) rfl rfl rfl ⟨rfl, rfl⟩ ⟨Nat.le_of_ble_eq_true rfl, Nat.le_of_ble_eq_true rfl⟩ ⟨Nat.zero_le _, Nat.zero_le _⟩ hl.1 (Nat.le_of_ble_eq_true rfl) dX12_layCell_127 (fun H locs hH hS => ?_)
      obtain ⟨S16, h_S16, e_S16, hm⟩ := n_sti hm
      refine n_iast X hH hS (n := 2647) (m_lay_at hT hk_a (by decide) (i := 2) rfl) h_S16 e_S16 dX12_layCell_130 (fun H locs hH hS => ?_)
      obtain ⟨v17, e_v17, hm⟩ := m_let_of hm
      refine lv_iinc (v := v17) (lv' := [(5, .int v17), (0, .ref a), (1, .int l1), (2, .int l2)]) hx hb dX12_layCell_131 hl (k := 3) rfl (by rw [← e_v17]; rfl) (by decide) rfl (fun ls hl => ?_)
      refine lv_goto (tgt := 81) hx hb dX12_layCell_134 (by decide) ?_
      exact ih S16 l1 l2 v17 _ _ _ hH hS (lv_sub hl [1, 2, 3, 0] rfl) hm
def b_X12_layCell_2 (a : Nat)  : Nat → m_M → Int32 → Int32 → Option (Int32 × m_M)
  | 0, _, _, _ => none
  | n + 1, S, l1, l2 =>
    (m_ldi S (a + 2) 2647 ((893 : Int32) + l2)).bind fun v1 =>
    if v1 = (-1 : Int32) then (
    m_call (f_X12_funOf a S l1) fun v4 S3 =>
    m_call (f_X12_lineOf a S3 l1) fun v6 S5 =>
    m_call (f_X12_madeBy a S5 v4 v6) fun v8 S7 =>
    m_call (f_X12_node a S7 v4 v8) fun v10 S9 =>
    (m_ldi S9 (a + 15) 135 v10).bind fun v11 =>
    (m_sti S9 (a + 2) 2647 ((893 : Int32) + l2) v11).bind fun S12 =>
    m_call (f_X12_latestRoom a S12 v11) fun v14 S13 =>
    (m_sti S13 (a + 2) 2647 ((1093 : Int32) + l2) v14).bind fun S15 =>
    b_X12_layCell_81 a m_fu S15 l1 l2 (0 : Int32)) else (
    m_let (l2 + (1 : Int32)) fun v16 =>
    b_X12_layCell_2 a n S l1 v16)
set_option maxHeartbeats 4000000 in
set_option maxRecDepth 100000 in
theorem k_X12_layCell_2 {p : Program} {l : Launch} {e : Env} {s : State} {m : MethodId} {args : Array Value} {below : List Frame} {meth : Method} {c : Code} {G : m_G} {nx : Nat} {κ : Nat → Nat} {res : (Int32 × m_M)} {a : Nat} (X : m_Cx p s m args meth c cX12_layCell 6 RX12 G) (hr : meth.sig.returnType = (some .int)) (hT : m_Str κ) (hk_a : κ a = 13)  (n : Nat) : ∀ (S : m_M) (l1 : Int32) (l2 : Int32) (H : Heap) (locs : List Loc) (ls : Array Slot), m_H G nx κ S H → m_S G s H locs → lv_has ls 6 [(0, .ref a), (1, .int l1), (2, .int l2)] → b_X12_layCell_2 a n S l1 l2 = some res → W p l e rm_X12_layCell s m args below meth c H locs 0 0 (m_Qi below args s G nx κ res) (F0 m 2 ls []) := by
  have hx := X.1.1
  have hb := X.1.2.1
  induction n with
  | zero => intro S l1 l2 H locs ls hH hS hl hm; have hm : (none : Option (Int32 × m_M)) = some res := hm; cases hm
  | succ n ih =>
    intro S l1 l2 H locs ls hH hS hl hm
    rw [b_X12_layCell_2] at hm
    refine lv_aload_n hx hb dX12_layCell_2 rfl (lv_at hl 0 rfl) ?_
    refine r_getp X hH (k := 12) (a := a) (j := 14) (b := (a + 2)) (A := 2) (B := 0) hk_a (by decide) rfl m_wi12 (by decide) in_7_29 rfl rfl rfl dX12_layCell_3 ?_
    refine lv_sipush (v := (893 : Int32)) hx hb dX12_layCell_6 (by decide) ?_
    refine lv_iload_n hx hb dX12_layCell_9 rfl (lv_at hl 2 rfl) ?_
    refine lv_iadd hx hb dX12_layCell_10 ?_
    obtain ⟨v1, h_v1, e_v1, hm⟩ := n_ldi hm
    refine n_iald X hH (n := 2647) (m_lay_at hT hk_a (by decide) (i := 2) rfl) h_v1 e_v1 dX12_layCell_11 ?_
    refine lv_iconst (v := (-1 : Int32)) hx hb dX12_layCell_12 (by decide) ?_
    refine lv_icmp_eq (tgt := 22) hx hb dX12_layCell_13 (by decide) (fun c2 => ?_) (fun c2 => ?_)
    · have hm := m_ite_t hm c2
      refine lv_aload_n hx hb dX12_layCell_22 rfl (lv_at hl 0 rfl) ?_
      refine lv_iload_n hx hb dX12_layCell_23 rfl (lv_at hl 1 rfl) ?_
      obtain ⟨v4, S3, e_S3, hm⟩ := m_call_of hm
      refine n_cVi X hH hS (k := 12) (c_X12_funOf (a := a) hT hk_a e_S3) mw_X12_funOf in_8_152 hk_a (by decide) rfl rfl rfl ⟨rfl, rfl⟩ ⟨Nat.le_of_ble_eq_true rfl, Nat.le_of_ble_eq_true rfl⟩ ⟨Nat.zero_le _, Nat.zero_le _⟩ hl.1 (Nat.le_of_ble_eq_true rfl) dX12_layCell_24 (fun H locs hH hS => ?_)
      refine lv_istore_n (lv' := [(3, .int v4), (0, .ref a), (1, .int l1), (2, .int l2)]) hx hb dX12_layCell_27 rfl hl (by decide) rfl (fun ls hl => ?_)
      refine lv_aload_n hx hb dX12_layCell_28 rfl (lv_at hl 1 rfl) ?_
      refine r_getp X hH (k := 12) (a := a) (j := 28) (b := (a + 15)) (A := 15) (B := 0) hk_a (by decide) rfl m_wi12 (by decide) in_7_43 rfl rfl rfl dX12_layCell_29 ?_
      refine lv_aload_n hx hb dX12_layCell_32 rfl (lv_at hl 1 rfl) ?_
      refine lv_iload_n hx hb dX12_layCell_33 rfl (lv_at hl 0 rfl) ?_
      refine lv_aload_n hx hb dX12_layCell_34 rfl (lv_at hl 1 rfl) ?_
      refine lv_iload_n hx hb dX12_layCell_35 rfl (lv_at hl 0 rfl) ?_
      refine lv_aload_n hx hb dX12_layCell_36 rfl (lv_at hl 1 rfl) ?_
      refine lv_iload_n hx hb dX12_layCell_37 rfl (lv_at hl 2 rfl) ?_
      obtain ⟨v6, S5, e_S5, hm⟩ := m_call_of hm
      refine n_cVi X hH hS (k := 12) (c_X12_lineOf (a := a) hT hk_a e_S5) mw_X12_lineOf in_8_160 hk_a (by decide) rfl rfl rfl ⟨rfl, rfl⟩ ⟨Nat.le_of_ble_eq_true rfl, Nat.le_of_ble_eq_true rfl⟩ ⟨Nat.zero_le _, Nat.zero_le _⟩ hl.1 (Nat.le_of_ble_eq_true rfl) dX12_layCell_38 (fun H locs hH hS => ?_)
      obtain ⟨v8, S7, e_S7, hm⟩ := m_call_of hm
      refine n_cVi X hH hS (k := 12) (c_X12_madeBy (a := a) hT hk_a e_S7) mw_X12_madeBy in_6_196 hk_a (by decide) rfl rfl rfl ⟨rfl, rfl⟩ ⟨Nat.le_of_ble_eq_true rfl, Nat.le_of_ble_eq_true rfl⟩ ⟨Nat.zero_le _, Nat.zero_le _⟩ hl.1 (Nat.le_of_ble_eq_true rfl) dX12_layCell_41 (fun H locs hH hS => ?_)
      obtain ⟨v10, S9, e_S9, hm⟩ := m_call_of hm
      refine n_cVi X hH hS (k := 12) (c_X12_node (a := a) hT hk_a e_S9) mw_X12_node in_6_200 hk_a (by decide) rfl rfl rfl ⟨rfl, rfl⟩ ⟨Nat.le_of_ble_eq_true rfl, Nat.le_of_ble_eq_true rfl⟩ ⟨Nat.zero_le _, Nat.zero_le _⟩ hl.1 (Nat.le_of_ble_eq_true rfl) dX12_layCell_44 (fun H locs hH hS => ?_)
      obtain ⟨v11, h_v11, e_v11, hm⟩ := n_ldi hm
      refine n_iald X hH (n := 135) (m_lay_at hT hk_a (by decide) (i := 15) rfl) h_v11 e_v11 dX12_layCell_47 ?_
      refine lv_istore (lv' := [(4, .int v11), (3, .int v4), (0, .ref a), (1, .int l1), (2, .int l2)]) hx hb dX12_layCell_48 hl (by decide) rfl (fun ls hl => ?_)
      refine lv_aload_n hx hb dX12_layCell_50 rfl (lv_at hl 2 rfl) ?_
      refine r_getp X hH (k := 12) (a := a) (j := 14) (b := (a + 2)) (A := 2) (B := 0) hk_a (by decide) rfl m_wi12 (by decide) in_7_29 rfl rfl rfl dX12_layCell_51 ?_
      refine lv_sipush (v := (893 : Int32)) hx hb dX12_layCell_54 (by decide) ?_
      refine lv_iload_n hx hb dX12_layCell_57 rfl (lv_at hl 4 rfl) ?_
      refine lv_iadd hx hb dX12_layCell_58 ?_
      refine lv_iload hx hb dX12_layCell_59 (lv_at hl 0 rfl) ?_
      obtain ⟨S12, h_S12, e_S12, hm⟩ := n_sti hm
      refine n_iast X hH hS (n := 2647) (m_lay_at hT hk_a (by decide) (i := 2) rfl) h_S12 e_S12 dX12_layCell_61 (fun H locs hH hS => ?_)
      refine lv_aload_n hx hb dX12_layCell_62 rfl (lv_at hl 2 rfl) ?_
      refine r_getp X hH (k := 12) (a := a) (j := 14) (b := (a + 2)) (A := 2) (B := 0) hk_a (by decide) rfl m_wi12 (by decide) in_7_29 rfl rfl rfl dX12_layCell_63 ?_
      refine lv_sipush (v := (1093 : Int32)) hx hb dX12_layCell_66 (by decide) ?_
      refine lv_iload_n hx hb dX12_layCell_69 rfl (lv_at hl 4 rfl) ?_
      refine lv_iadd hx hb dX12_layCell_70 ?_
      refine lv_aload_n hx hb dX12_layCell_71 rfl (lv_at hl 2 rfl) ?_
      refine lv_iload hx hb dX12_layCell_72 (lv_at hl 0 rfl) ?_
      obtain ⟨v14, S13, e_S13, hm⟩ := m_call_of hm
      refine n_cVi X hH hS (k := 12) (c_X12_latestRoom (a := a) hT hk_a e_S13) mw_X12_latestRoom in_8_192 hk_a (by decide) rfl rfl rfl ⟨rfl, rfl⟩ ⟨Nat.le_of_ble_eq_true rfl, Nat.le_of_ble_eq_true rfl⟩ ⟨Nat.zero_le _, Nat.zero_le _⟩ hl.1 (Nat.le_of_ble_eq_true rfl) dX12_layCell_74 (fun H locs hH hS => ?_)
      obtain ⟨S15, h_S15, e_S15, hm⟩ := n_sti hm
      refine n_iast X hH hS (n := 2647) (m_lay_at hT hk_a (by decide) (i := 2) rfl) h_S15 e_S15 dX12_layCell_77 (fun H locs hH hS => ?_)
      refine lv_iconst (v := (0 : Int32)) hx hb dX12_layCell_78 (by decide) ?_
      refine lv_istore (lv' := [(5, .int (0 : Int32)), (4, .int v11), (3, .int v4), (0, .ref a), (1, .int l1), (2, .int l2)]) hx hb dX12_layCell_79 hl (by decide) rfl (fun ls hl => ?_)
      exact k_X12_layCell_81 (a := a) X hr hT hk_a  m_fu S15 l1 l2 (0 : Int32) _ _ _ hH hS (lv_sub hl [3, 4, 5, 0] rfl) hm
    · have hm := m_ite_f hm c2
      obtain ⟨v16, e_v16, hm⟩ := m_let_of hm
      refine lv_iinc (v := v16) (lv' := [(2, .int v16), (0, .ref a), (1, .int l1)]) hx hb dX12_layCell_16 hl (k := 2) rfl (by rw [← e_v16]; rfl) (by decide) rfl (fun ls hl => ?_)
      refine lv_goto (tgt := 2) hx hb dX12_layCell_19 (by decide) ?_
      exact ih S l1 v16 _ _ _ hH hS (lv_sub hl [1, 2, 0] rfl) hm
def f_X12_layCell (a : Nat) (S : m_M) (i1 : Int32) : Option (Int32 × m_M) :=
    b_X12_layCell_2 a m_fu S i1 (0 : Int32)
set_option maxHeartbeats 4000000 in
set_option maxRecDepth 100000 in
theorem c_X12_layCell {l : Launch} {G : m_G} {nx : Nat} {κ : Nat → Nat} {a : Nat} {S : m_M} {i1 : Int32} {res : (Int32 × m_M)} (hT : m_Str κ) (hk_a : κ a = 13) (hm : f_X12_layCell a S i1 = some res) : m_Ci l yX12_layCell cX12_layCell 6 (some .int) rm_X12_layCell G nx κ [.ref a, .int i1] S res := by
  refine m_Ci.of (by decide) (Nat.le_of_ble_eq_true rfl) ?_
  intro p e s m args below meth c ls X hr hH hl
  have hx := X.1.1
  have hb := X.1.2.1
  have hS : m_S G s s.heap [] := va_S.rf
  have hl : lv_has ls 6 [(0, .ref a), (1, .int i1)] := hl
  rw [f_X12_layCell] at hm
  refine lv_iconst (v := (0 : Int32)) hx hb dX12_layCell_0 (by decide) ?_
  refine lv_istore_n (lv' := [(2, .int (0 : Int32)), (0, .ref a), (1, .int i1)]) hx hb dX12_layCell_1 rfl hl (by decide) rfl (fun ls hl => ?_)
  exact k_X12_layCell_2 (a := a) X hr hT hk_a  m_fu S i1 (0 : Int32) _ _ _ hH hS (lv_sub hl [1, 2, 0] rfl) hm
