def rm_X4_readsIs : Room := { frames := 4, cells := 0, slots := 0, locals := 92 }
def b_X4_readsIs_66 (x : Nat)  (S : m_M)  : Option (Int32 × m_M) :=
    m_call (f_X9_failsBy x S (4 : Int32)) fun v2 S1 =>
    if v2 = 0 ∨ v2 = 1 then some (v2, S1) else none
set_option maxHeartbeats 4000000 in
set_option maxRecDepth 100000 in
theorem k_X4_readsIs_66 {p : Program} {l : Launch} {e : Env} {s : State} {m : MethodId} {args : Array Value} {below : List Frame} {meth : Method} {c : Code} {G : m_G} {nx : Nat} {κ : Nat → Nat} {res : (Int32 × m_M)} {x : Nat} (X : m_Cx p s m args meth c cX4_readsIs 3 RX4 G) (hr : meth.sig.returnType = (some .boolean)) (hT : m_Str κ) (hk_x : κ x = 12)  : ∀ (S : m_M)  (H : Heap) (locs : List Loc) (ls : Array Slot), m_H G nx κ S H → m_S G s H locs → lv_has ls 3 [(0, .ref (x + 2))] → b_X4_readsIs_66 x S  = some res → W p l e rm_X4_readsIs s m args below meth c H locs 0 0 (m_Qi below args s G nx κ res) (F0 m 66 ls []) := by
  have hx := X.1.1
  have hb := X.1.2.1
  intro S H locs ls hH hS hl hm
  rw [b_X4_readsIs_66] at hm
  refine lv_aload_n hx hb dX4_readsIs_66 rfl (lv_at hl 0 rfl) ?_
  refine r_getp X hH (k := 4) (a := (x + 2)) (j := 1) (b := (x + 25)) (A := 23) (B := 0) (m_lay_at hT hk_x (by decide) (i := 2) rfl) (by decide) rfl m_wi4 (by decide) in_2_74 rfl rfl rfl dX4_readsIs_67 ?_
  refine lv_iconst (v := (4 : Int32)) hx hb dX4_readsIs_70 (by decide) ?_
  obtain ⟨v2, S1, e_S1, hm⟩ := m_call_of hm
  refine n_cVi X hH hS (k := 9) (c_X9_failsBy (x := x) hT hk_x e_S1) mw_X9_failsBy in_3_182 (m_lay_at hT hk_x (by decide) (i := 25) rfl) (by decide) rfl rfl rfl ⟨rfl, rfl⟩ ⟨Nat.le_of_ble_eq_true rfl, Nat.le_of_ble_eq_true rfl⟩ ⟨Nat.zero_le _, Nat.zero_le _⟩ hl.1 (Nat.le_of_ble_eq_true rfl) dX4_readsIs_71 (fun H locs hH hS => ?_)
  exact r_zret X hr hH hS hm dX4_readsIs_74
def b_X4_readsIs_115 (x : Nat)  (S : m_M)  : Option (Int32 × m_M) :=
    if (0 : Int32) = 0 ∨ (0 : Int32) = 1 then some ((0 : Int32), S) else none
set_option maxHeartbeats 4000000 in
set_option maxRecDepth 100000 in
theorem k_X4_readsIs_115 {p : Program} {l : Launch} {e : Env} {s : State} {m : MethodId} {args : Array Value} {below : List Frame} {meth : Method} {c : Code} {G : m_G} {nx : Nat} {κ : Nat → Nat} {res : (Int32 × m_M)} {x : Nat} (X : m_Cx p s m args meth c cX4_readsIs 3 RX4 G) (hr : meth.sig.returnType = (some .boolean)) (hT : m_Str κ) (hk_x : κ x = 12)  : ∀ (S : m_M)  (H : Heap) (locs : List Loc) (ls : Array Slot), m_H G nx κ S H → m_S G s H locs → lv_has ls 3 [] → b_X4_readsIs_115 x S  = some res → W p l e rm_X4_readsIs s m args below meth c H locs 0 0 (m_Qi below args s G nx κ res) (F0 m 115 ls []) := by
  have hx := X.1.1
  have hb := X.1.2.1
  intro S H locs ls hH hS hl hm
  rw [b_X4_readsIs_115] at hm
  refine lv_iconst (v := (0 : Int32)) hx hb dX4_readsIs_115 (by decide) ?_
  exact r_zret X hr hH hS hm dX4_readsIs_116
def f_X4_readsIs (x : Nat) (S : m_M)  : Option (Int32 × m_M) :=
    if (m_ri S (x + 25) 9) = (2 : Int32) then (
    m_call (f_X4_varOf x S (m_rj S (x + 25) 14)) fun v3 S2 =>
    if v3 = (-1 : Int32) then (
    if (m_ri S2 (x + 3) 0) = 0 then (
    b_X4_readsIs_66 x S2) else (
    if (m_ri S2 (x + 3) 1) < (24 : Int32) then (
    m_let (m_rj S2 (x + 25) 14) fun v7 =>
    m_cal0 (f_X9_advance x S2) fun S8 =>
    m_call (f_X9_takesKeyword x S8 (1 : Int32)) fun v10 S9 =>
    if v10 = 0 then (
    b_X4_readsIs_115 x S9) else (
    m_call (f_X4_readsExpr x S9 (m_ri S9 (x + 3) 1)) fun v13 S12 =>
    if v13 = 0 then (
    b_X4_readsIs_115 x S12) else (
    m_cal0 (f_X4_addVar x S12 v7) fun S15 =>
    m_cal0 (f_X3_closeLine (x + 3) S15) fun S16 =>
    if (1 : Int32) = 0 ∨ (1 : Int32) = 1 then some ((1 : Int32), S16) else none))) else (
    b_X4_readsIs_66 x S2))) else (
    m_call (f_X9_failsBy x S2 (3 : Int32)) fun v18 S17 =>
    if v18 = 0 ∨ v18 = 1 then some (v18, S17) else none)) else (
    m_call (f_X9_failsBy x S (1 : Int32)) fun v20 S19 =>
    if v20 = 0 ∨ v20 = 1 then some (v20, S19) else none)
set_option maxHeartbeats 4000000 in
set_option maxRecDepth 100000 in
theorem c_X4_readsIs {l : Launch} {G : m_G} {nx : Nat} {κ : Nat → Nat} {x : Nat} {S : m_M}  {res : (Int32 × m_M)} (hT : m_Str κ) (hk_x : κ x = 12) (hm : f_X4_readsIs x S = some res) : m_Ci l yX4_readsIs cX4_readsIs 3 (some .boolean) rm_X4_readsIs G nx κ [.ref (x + 2)] S res := by
  refine m_Ci.of (by decide) (Nat.le_of_ble_eq_true rfl) ?_
  intro p e s m args below meth c ls X hr hH hl
  have hx := X.1.1
  have hb := X.1.2.1
  have hS : m_S G s s.heap [] := va_S.rf
  have hl : lv_has ls 3 [(0, .ref (x + 2))] := hl
  rw [f_X4_readsIs] at hm
  refine lv_aload_n hx hb dX4_readsIs_0 rfl (lv_at hl 0 rfl) ?_
  refine r_getp X hH (k := 4) (a := (x + 2)) (j := 1) (b := (x + 25)) (A := 23) (B := 0) (m_lay_at hT hk_x (by decide) (i := 2) rfl) (by decide) rfl m_wi4 (by decide) in_2_74 rfl rfl rfl dX4_readsIs_1 ?_
  refine r_geti X hH (k := 9) (a := (x + 25)) (j := 9) (m_lay_at hT hk_x (by decide) (i := 25) rfl) (by decide) rfl m_wi9 (by decide) in_2_19 rfl rfl dX4_readsIs_4 ?_
  refine lv_iconst (v := (2 : Int32)) hx hb dX4_readsIs_7 (by decide) ?_
  refine lv_icmp_eq (tgt := 20) hx hb dX4_readsIs_8 (by decide) (fun c1 => ?_) (fun c1 => ?_)
  · have hm := m_ite_t hm c1
    refine lv_aload_n hx hb dX4_readsIs_20 rfl (lv_at hl 0 rfl) ?_
    refine lv_aload_n hx hb dX4_readsIs_21 rfl (lv_at hl 0 rfl) ?_
    refine r_getp X hH (k := 4) (a := (x + 2)) (j := 1) (b := (x + 25)) (A := 23) (B := 0) (m_lay_at hT hk_x (by decide) (i := 2) rfl) (by decide) rfl m_wi4 (by decide) in_2_74 rfl rfl rfl dX4_readsIs_22 ?_
    refine r_getj X hH (k := 9) (a := (x + 25)) (j := 14) (m_lay_at hT hk_x (by decide) (i := 25) rfl) (by decide) rfl m_wi9 (by decide) in_2_31 rfl rfl dX4_readsIs_25 ?_
    obtain ⟨v3, S2, e_S2, hm⟩ := m_call_of hm
    refine n_cVi X hH hS (k := 4) (c_X4_varOf (x := x) hT hk_x e_S2) mw_X4_varOf in_3_199 (m_lay_at hT hk_x (by decide) (i := 2) rfl) (by decide) rfl rfl rfl ⟨rfl, rfl⟩ ⟨Nat.le_of_ble_eq_true rfl, Nat.le_of_ble_eq_true rfl⟩ ⟨Nat.zero_le _, Nat.zero_le _⟩ hl.1 (Nat.le_of_ble_eq_true rfl) dX4_readsIs_28 (fun H locs hH hS => ?_)
    refine lv_iconst (v := (-1 : Int32)) hx hb dX4_readsIs_31 (by decide) ?_
    refine lv_icmp_eq (tgt := 44) hx hb dX4_readsIs_32 (by decide) (fun c4 => ?_) (fun c4 => ?_)
    · have hm := m_ite_t hm c4
      refine lv_aload_n hx hb dX4_readsIs_44 rfl (lv_at hl 0 rfl) ?_
      refine r_getp X hH (k := 4) (a := (x + 2)) (j := 0) (b := (x + 3)) (A := 1) (B := 0) (m_lay_at hT hk_x (by decide) (i := 2) rfl) (by decide) rfl m_wi4 (by decide) in_2_72 rfl rfl rfl dX4_readsIs_45 ?_
      refine r_geti X hH (k := 3) (a := (x + 3)) (j := 0) (m_lay_at hT hk_x (by decide) (i := 3) rfl) (by decide) rfl m_wi3 (by decide) in_1_124 rfl rfl dX4_readsIs_48 ?_
      refine lv_if_eq (tgt := 66) hx hb dX4_readsIs_51 (by decide) (fun c5 => ?_) (fun c5 => ?_)
      · have hm := m_ite_t hm c5
        exact k_X4_readsIs_66 (x := x) X hr hT hk_x   S2 _ _ _ hH hS hl hm
      · have hm := m_ite_f hm c5
        refine lv_aload_n hx hb dX4_readsIs_54 rfl (lv_at hl 0 rfl) ?_
        refine r_getp X hH (k := 4) (a := (x + 2)) (j := 0) (b := (x + 3)) (A := 1) (B := 0) (m_lay_at hT hk_x (by decide) (i := 2) rfl) (by decide) rfl m_wi4 (by decide) in_2_72 rfl rfl rfl dX4_readsIs_55 ?_
        refine r_geti X hH (k := 3) (a := (x + 3)) (j := 1) (m_lay_at hT hk_x (by decide) (i := 3) rfl) (by decide) rfl m_wi3 (by decide) in_1_131 rfl rfl dX4_readsIs_58 ?_
        refine lv_bipush (v := (24 : Int32)) hx hb dX4_readsIs_61 (by decide) ?_
        refine lv_icmp_lt (tgt := 75) hx hb dX4_readsIs_63 (by decide) (fun c6 => ?_) (fun c6 => ?_)
        · have hm := m_ite_t hm c6
          refine lv_aload_n hx hb dX4_readsIs_75 rfl (lv_at hl 0 rfl) ?_
          refine r_getp X hH (k := 4) (a := (x + 2)) (j := 1) (b := (x + 25)) (A := 23) (B := 0) (m_lay_at hT hk_x (by decide) (i := 2) rfl) (by decide) rfl m_wi4 (by decide) in_2_74 rfl rfl rfl dX4_readsIs_76 ?_
          refine r_getj X hH (k := 9) (a := (x + 25)) (j := 14) (m_lay_at hT hk_x (by decide) (i := 25) rfl) (by decide) rfl m_wi9 (by decide) in_2_31 rfl rfl dX4_readsIs_79 ?_
          obtain ⟨v7, e_v7, hm⟩ := m_let_of hm
          refine n_topl e_v7 ?_
          refine lv_lstore_n (lv' := [(1, .long v7), (0, .ref (x + 2))]) hx hb dX4_readsIs_82 rfl hl (by decide) rfl (fun ls hl => ?_)
          refine lv_aload_n hx hb dX4_readsIs_83 rfl (lv_at hl 1 rfl) ?_
          refine r_getp X hH (k := 4) (a := (x + 2)) (j := 1) (b := (x + 25)) (A := 23) (B := 0) (m_lay_at hT hk_x (by decide) (i := 2) rfl) (by decide) rfl m_wi4 (by decide) in_2_74 rfl rfl rfl dX4_readsIs_84 ?_
          obtain ⟨S8, e_S8, hm⟩ := m_cal0_of hm
          refine r_cVv X hH hS (k := 9) (c_X9_advance (x := x) hT hk_x e_S8) mw_X9_advance in_3_186 (m_lay_at hT hk_x (by decide) (i := 25) rfl) (by decide) rfl rfl rfl ⟨rfl, rfl⟩ ⟨Nat.le_of_ble_eq_true rfl, Nat.le_of_ble_eq_true rfl⟩ ⟨Nat.zero_le _, Nat.zero_le _⟩ hl.1 (Nat.le_of_ble_eq_true rfl) dX4_readsIs_87 (fun H locs hH hS => ?_)
          refine lv_aload_n hx hb dX4_readsIs_90 rfl (lv_at hl 1 rfl) ?_
          refine r_getp X hH (k := 4) (a := (x + 2)) (j := 1) (b := (x + 25)) (A := 23) (B := 0) (m_lay_at hT hk_x (by decide) (i := 2) rfl) (by decide) rfl m_wi4 (by decide) in_2_74 rfl rfl rfl dX4_readsIs_91 ?_
          refine lv_iconst (v := (1 : Int32)) hx hb dX4_readsIs_94 (by decide) ?_
          obtain ⟨v10, S9, e_S9, hm⟩ := m_call_of hm
          refine n_cVi X hH hS (k := 9) (c_X9_takesKeyword (x := x) hT hk_x e_S9) mw_X9_takesKeyword in_3_211 (m_lay_at hT hk_x (by decide) (i := 25) rfl) (by decide) rfl rfl rfl ⟨rfl, rfl⟩ ⟨Nat.le_of_ble_eq_true rfl, Nat.le_of_ble_eq_true rfl⟩ ⟨Nat.zero_le _, Nat.zero_le _⟩ hl.1 (Nat.le_of_ble_eq_true rfl) dX4_readsIs_95 (fun H locs hH hS => ?_)
          refine lv_if_eq (tgt := 115) hx hb dX4_readsIs_98 (by decide) (fun c11 => ?_) (fun c11 => ?_)
          · have hm := m_ite_t hm c11
            exact k_X4_readsIs_115 (x := x) X hr hT hk_x   S9 _ _ _ hH hS (lv_sub hl [] rfl) hm
          · have hm := m_ite_f hm c11
            refine lv_aload_n hx hb dX4_readsIs_101 rfl (lv_at hl 1 rfl) ?_
            refine lv_aload_n hx hb dX4_readsIs_102 rfl (lv_at hl 1 rfl) ?_
            refine r_getp X hH (k := 4) (a := (x + 2)) (j := 0) (b := (x + 3)) (A := 1) (B := 0) (m_lay_at hT hk_x (by decide) (i := 2) rfl) (by decide) rfl m_wi4 (by decide) in_2_72 rfl rfl rfl dX4_readsIs_103 ?_
            refine r_geti X hH (k := 3) (a := (x + 3)) (j := 1) (m_lay_at hT hk_x (by decide) (i := 3) rfl) (by decide) rfl m_wi3 (by decide) in_1_131 rfl rfl dX4_readsIs_106 ?_
            obtain ⟨v13, S12, e_S12, hm⟩ := m_call_of hm
            refine n_cVi X hH hS (k := 4) (c_X4_readsExpr (x := x) hT hk_x e_S12) mw_X4_readsExpr in_3_216 (m_lay_at hT hk_x (by decide) (i := 2) rfl) (by decide) rfl rfl rfl ⟨rfl, rfl⟩ ⟨Nat.le_of_ble_eq_true rfl, Nat.le_of_ble_eq_true rfl⟩ ⟨Nat.zero_le _, Nat.zero_le _⟩ hl.1 (Nat.le_of_ble_eq_true rfl) dX4_readsIs_109 (fun H locs hH hS => ?_)
            refine lv_if_ne (tgt := 117) hx hb dX4_readsIs_112 (by decide) (fun c14 => ?_) (fun c14 => ?_)
            · have hm := m_ite_f hm c14
              refine lv_aload_n hx hb dX4_readsIs_117 rfl (lv_at hl 1 rfl) ?_
              refine lv_lload_n hx hb dX4_readsIs_118 rfl (lv_at hl 0 rfl) ?_
              obtain ⟨S15, e_S15, hm⟩ := m_cal0_of hm
              refine r_cVv X hH hS (k := 4) (c_X4_addVar (x := x) hT hk_x e_S15) mw_X4_addVar in_3_203 (m_lay_at hT hk_x (by decide) (i := 2) rfl) (by decide) rfl rfl rfl ⟨rfl, rfl⟩ ⟨Nat.le_of_ble_eq_true rfl, Nat.le_of_ble_eq_true rfl⟩ ⟨Nat.zero_le _, Nat.zero_le _⟩ hl.1 (Nat.le_of_ble_eq_true rfl) dX4_readsIs_119 (fun H locs hH hS => ?_)
              refine lv_aload_n hx hb dX4_readsIs_122 rfl (lv_at hl 1 rfl) ?_
              refine r_getp X hH (k := 4) (a := (x + 2)) (j := 0) (b := (x + 3)) (A := 1) (B := 0) (m_lay_at hT hk_x (by decide) (i := 2) rfl) (by decide) rfl m_wi4 (by decide) in_2_72 rfl rfl rfl dX4_readsIs_123 ?_
              obtain ⟨S16, e_S16, hm⟩ := m_cal0_of hm
              refine r_cVv X hH hS (k := 3) (c_X3_closeLine (a := (x + 3)) hT (m_lay_at hT hk_x (by decide) (i := 3) rfl) e_S16) mw_X3_closeLine in_3_236 (m_lay_at hT hk_x (by decide) (i := 3) rfl) (by decide) rfl rfl rfl ⟨rfl, rfl⟩ ⟨Nat.le_of_ble_eq_true rfl, Nat.le_of_ble_eq_true rfl⟩ ⟨Nat.zero_le _, Nat.zero_le _⟩ hl.1 (Nat.le_of_ble_eq_true rfl) dX4_readsIs_126 (fun H locs hH hS => ?_)
              refine lv_iconst (v := (1 : Int32)) hx hb dX4_readsIs_129 (by decide) ?_
              exact r_zret X hr hH hS hm dX4_readsIs_130
            · have hm := m_ite_t hm c14
              exact k_X4_readsIs_115 (x := x) X hr hT hk_x   S12 _ _ _ hH hS (lv_sub hl [] rfl) hm
        · have hm := m_ite_f hm c6
          exact k_X4_readsIs_66 (x := x) X hr hT hk_x   S2 _ _ _ hH hS hl hm
    · have hm := m_ite_f hm c4
      refine lv_aload_n hx hb dX4_readsIs_35 rfl (lv_at hl 0 rfl) ?_
      refine r_getp X hH (k := 4) (a := (x + 2)) (j := 1) (b := (x + 25)) (A := 23) (B := 0) (m_lay_at hT hk_x (by decide) (i := 2) rfl) (by decide) rfl m_wi4 (by decide) in_2_74 rfl rfl rfl dX4_readsIs_36 ?_
      refine lv_iconst (v := (3 : Int32)) hx hb dX4_readsIs_39 (by decide) ?_
      obtain ⟨v18, S17, e_S17, hm⟩ := m_call_of hm
      refine n_cVi X hH hS (k := 9) (c_X9_failsBy (x := x) hT hk_x e_S17) mw_X9_failsBy in_3_182 (m_lay_at hT hk_x (by decide) (i := 25) rfl) (by decide) rfl rfl rfl ⟨rfl, rfl⟩ ⟨Nat.le_of_ble_eq_true rfl, Nat.le_of_ble_eq_true rfl⟩ ⟨Nat.zero_le _, Nat.zero_le _⟩ hl.1 (Nat.le_of_ble_eq_true rfl) dX4_readsIs_40 (fun H locs hH hS => ?_)
      exact r_zret X hr hH hS hm dX4_readsIs_43
  · have hm := m_ite_f hm c1
    refine lv_aload_n hx hb dX4_readsIs_11 rfl (lv_at hl 0 rfl) ?_
    refine r_getp X hH (k := 4) (a := (x + 2)) (j := 1) (b := (x + 25)) (A := 23) (B := 0) (m_lay_at hT hk_x (by decide) (i := 2) rfl) (by decide) rfl m_wi4 (by decide) in_2_74 rfl rfl rfl dX4_readsIs_12 ?_
    refine lv_iconst (v := (1 : Int32)) hx hb dX4_readsIs_15 (by decide) ?_
    obtain ⟨v20, S19, e_S19, hm⟩ := m_call_of hm
    refine n_cVi X hH hS (k := 9) (c_X9_failsBy (x := x) hT hk_x e_S19) mw_X9_failsBy in_3_182 (m_lay_at hT hk_x (by decide) (i := 25) rfl) (by decide) rfl rfl rfl ⟨rfl, rfl⟩ ⟨Nat.le_of_ble_eq_true rfl, Nat.le_of_ble_eq_true rfl⟩ ⟨Nat.zero_le _, Nat.zero_le _⟩ hl.1 (Nat.le_of_ble_eq_true rfl) dX4_readsIs_16 (fun H locs hH hS => ?_)
    exact r_zret X hr hH hS hm dX4_readsIs_19
def rm_X9_takesSign : Room := { frames := 1, cells := 0, slots := 0, locals := 21 }
def f_X9_takesSign (x : Nat) (S : m_M) (i1 : Int32) : Option (Int32 × m_M) :=
    if (m_ri S (x + 25) 13) = i1 then (
    m_cal0 (f_X9_advance x S) fun S2 =>
    if (1 : Int32) = 0 ∨ (1 : Int32) = 1 then some ((1 : Int32), S2) else none) else (
    m_call (f_X9_failsBy x S (1 : Int32)) fun v4 S3 =>
    if v4 = 0 ∨ v4 = 1 then some (v4, S3) else none)
set_option maxHeartbeats 4000000 in
set_option maxRecDepth 100000 in
theorem c_X9_takesSign {l : Launch} {G : m_G} {nx : Nat} {κ : Nat → Nat} {x : Nat} {S : m_M} {i1 : Int32} {res : (Int32 × m_M)} (hT : m_Str κ) (hk_x : κ x = 12) (hm : f_X9_takesSign x S i1 = some res) : m_Ci l yX9_takesSign cX9_takesSign 2 (some .boolean) rm_X9_takesSign G nx κ [.ref (x + 25), .int i1] S res := by
  refine m_Ci.of (by decide) (Nat.le_of_ble_eq_true rfl) ?_
  intro p e s m args below meth c ls X hr hH hl
  have hx := X.1.1
  have hb := X.1.2.1
  have hS : m_S G s s.heap [] := va_S.rf
  have hl : lv_has ls 2 [(0, .ref (x + 25)), (1, .int i1)] := hl
  rw [f_X9_takesSign] at hm
  refine lv_aload_n hx hb dX9_takesSign_0 rfl (lv_at hl 0 rfl) ?_
  refine r_geti X hH (k := 9) (a := (x + 25)) (j := 13) (m_lay_at hT hk_x (by decide) (i := 25) rfl) (by decide) rfl m_wi9 (by decide) in_2_28 rfl rfl dX9_takesSign_1 ?_
  refine lv_iload_n hx hb dX9_takesSign_4 rfl (lv_at hl 1 rfl) ?_
  refine lv_icmp_eq (tgt := 14) hx hb dX9_takesSign_5 (by decide) (fun c1 => ?_) (fun c1 => ?_)
  · have hm := m_ite_t hm c1
    refine lv_aload_n hx hb dX9_takesSign_14 rfl (lv_at hl 0 rfl) ?_
    obtain ⟨S2, e_S2, hm⟩ := m_cal0_of hm
    refine r_cVv X hH hS (k := 9) (c_X9_advance (x := x) hT hk_x e_S2) mw_X9_advance in_3_170 (m_lay_at hT hk_x (by decide) (i := 25) rfl) (by decide) rfl rfl rfl ⟨rfl, rfl⟩ ⟨Nat.le_of_ble_eq_true rfl, Nat.le_of_ble_eq_true rfl⟩ ⟨Nat.zero_le _, Nat.zero_le _⟩ hl.1 (Nat.le_of_ble_eq_true rfl) dX9_takesSign_15 (fun H locs hH hS => ?_)
    refine lv_iconst (v := (1 : Int32)) hx hb dX9_takesSign_18 (by decide) ?_
    exact r_zret X hr hH hS hm dX9_takesSign_19
  · have hm := m_ite_f hm c1
    refine lv_aload_n hx hb dX9_takesSign_8 rfl (lv_at hl 0 rfl) ?_
    refine lv_iconst (v := (1 : Int32)) hx hb dX9_takesSign_9 (by decide) ?_
    obtain ⟨v4, S3, e_S3, hm⟩ := m_call_of hm
    refine n_cVi X hH hS (k := 9) (c_X9_failsBy (x := x) hT hk_x e_S3) mw_X9_failsBy in_3_215 (m_lay_at hT hk_x (by decide) (i := 25) rfl) (by decide) rfl rfl rfl ⟨rfl, rfl⟩ ⟨Nat.le_of_ble_eq_true rfl, Nat.le_of_ble_eq_true rfl⟩ ⟨Nat.zero_le _, Nat.zero_le _⟩ hl.1 (Nat.le_of_ble_eq_true rfl) dX9_takesSign_10 (fun H locs hH hS => ?_)
    exact r_zret X hr hH hS hm dX9_takesSign_13
def rm_X9s_takesSign : Room := { frames := 1, cells := 0, slots := 0, locals := 21 }
def f_X9s_takesSign (x : Nat) (S : m_M) (i1 : Int32) : Option (Int32 × m_M) :=
    if (m_ri S (x + 37) 13) = i1 then (
    m_cal0 (f_X9s_advance x S) fun S2 =>
    if (1 : Int32) = 0 ∨ (1 : Int32) = 1 then some ((1 : Int32), S2) else none) else (
    m_call (f_X9s_failsBy x S (1 : Int32)) fun v4 S3 =>
    if v4 = 0 ∨ v4 = 1 then some (v4, S3) else none)
set_option maxHeartbeats 4000000 in
set_option maxRecDepth 100000 in
theorem c_X9s_takesSign {l : Launch} {G : m_G} {nx : Nat} {κ : Nat → Nat} {x : Nat} {S : m_M} {i1 : Int32} {res : (Int32 × m_M)} (hT : m_Str κ) (hk_x : κ x = 12) (hm : f_X9s_takesSign x S i1 = some res) : m_Ci l yX9_takesSign cX9_takesSign 2 (some .boolean) rm_X9s_takesSign G nx κ [.ref (x + 37), .int i1] S res := by
  refine m_Ci.of (by decide) (Nat.le_of_ble_eq_true rfl) ?_
  intro p e s m args below meth c ls X hr hH hl
  have hx := X.1.1
  have hb := X.1.2.1
  have hS : m_S G s s.heap [] := va_S.rf
  have hl : lv_has ls 2 [(0, .ref (x + 37)), (1, .int i1)] := hl
  rw [f_X9s_takesSign] at hm
  refine lv_aload_n hx hb dX9_takesSign_0 rfl (lv_at hl 0 rfl) ?_
  refine r_geti X hH (k := 9) (a := (x + 37)) (j := 13) (m_lay_at hT hk_x (by decide) (i := 37) rfl) (by decide) rfl m_wi9 (by decide) in_2_28 rfl rfl dX9_takesSign_1 ?_
  refine lv_iload_n hx hb dX9_takesSign_4 rfl (lv_at hl 1 rfl) ?_
  refine lv_icmp_eq (tgt := 14) hx hb dX9_takesSign_5 (by decide) (fun c1 => ?_) (fun c1 => ?_)
  · have hm := m_ite_t hm c1
    refine lv_aload_n hx hb dX9_takesSign_14 rfl (lv_at hl 0 rfl) ?_
    obtain ⟨S2, e_S2, hm⟩ := m_cal0_of hm
    refine r_cVv X hH hS (k := 9) (c_X9s_advance (x := x) hT hk_x e_S2) mw_X9_advance in_3_170 (m_lay_at hT hk_x (by decide) (i := 37) rfl) (by decide) rfl rfl rfl ⟨rfl, rfl⟩ ⟨Nat.le_of_ble_eq_true rfl, Nat.le_of_ble_eq_true rfl⟩ ⟨Nat.zero_le _, Nat.zero_le _⟩ hl.1 (Nat.le_of_ble_eq_true rfl) dX9_takesSign_15 (fun H locs hH hS => ?_)
    refine lv_iconst (v := (1 : Int32)) hx hb dX9_takesSign_18 (by decide) ?_
    exact r_zret X hr hH hS hm dX9_takesSign_19
  · have hm := m_ite_f hm c1
    refine lv_aload_n hx hb dX9_takesSign_8 rfl (lv_at hl 0 rfl) ?_
    refine lv_iconst (v := (1 : Int32)) hx hb dX9_takesSign_9 (by decide) ?_
    obtain ⟨v4, S3, e_S3, hm⟩ := m_call_of hm
    refine n_cVi X hH hS (k := 9) (c_X9s_failsBy (x := x) hT hk_x e_S3) mw_X9_failsBy in_3_215 (m_lay_at hT hk_x (by decide) (i := 37) rfl) (by decide) rfl rfl rfl ⟨rfl, rfl⟩ ⟨Nat.le_of_ble_eq_true rfl, Nat.le_of_ble_eq_true rfl⟩ ⟨Nat.zero_le _, Nat.zero_le _⟩ hl.1 (Nat.le_of_ble_eq_true rfl) dX9_takesSign_10 (fun H locs hH hS => ?_)
    exact r_zret X hr hH hS hm dX9_takesSign_13
def rm_X4_readsAll : Room := { frames := 5, cells := 0, slots := 0, locals := 114 }
def b_X4_readsAll_80 (x : Nat)  (S : m_M)  : Option (Int32 × m_M) :=
    if (0 : Int32) = 0 ∨ (0 : Int32) = 1 then some ((0 : Int32), S) else none
set_option maxHeartbeats 4000000 in
set_option maxRecDepth 100000 in
theorem k_X4_readsAll_80 {p : Program} {l : Launch} {e : Env} {s : State} {m : MethodId} {args : Array Value} {below : List Frame} {meth : Method} {c : Code} {G : m_G} {nx : Nat} {κ : Nat → Nat} {res : (Int32 × m_M)} {x : Nat} (X : m_Cx p s m args meth c cX4_readsAll 5 RX4 G) (hr : meth.sig.returnType = (some .boolean)) (hT : m_Str κ) (hk_x : κ x = 12)  : ∀ (S : m_M)  (H : Heap) (locs : List Loc) (ls : Array Slot), m_H G nx κ S H → m_S G s H locs → lv_has ls 5 [] → b_X4_readsAll_80 x S  = some res → W p l e rm_X4_readsAll s m args below meth c H locs 0 0 (m_Qi below args s G nx κ res) (F0 m 80 ls []) := by
  have hx := X.1.1
  have hb := X.1.2.1
  intro S H locs ls hH hS hl hm
  rw [b_X4_readsAll_80] at hm
  refine lv_iconst (v := (0 : Int32)) hx hb dX4_readsAll_80 (by decide) ?_
  exact r_zret X hr hH hS hm dX4_readsAll_81
def b_X4_readsAll_61 (x : Nat) (K_23 : m_M → Int32 → Option (Int32 × m_M)) (S : m_M) (l3 : Int32) (t0 : Int32) : Option (Int32 × m_M) :=
    if t0 = 0 then (
    b_X4_readsAll_80 x S) else (
    m_call (f_X9_takesSign x S (59 : Int32)) fun v3 S2 =>
    if v3 = 0 then (
    b_X4_readsAll_80 x S2) else (
    m_let (l3 + (1 : Int32)) fun v5 =>
    K_23 S2 v5))
set_option maxHeartbeats 4000000 in
set_option maxRecDepth 100000 in
theorem k_X4_readsAll_61 {p : Program} {l : Launch} {e : Env} {s : State} {m : MethodId} {args : Array Value} {below : List Frame} {meth : Method} {c : Code} {G : m_G} {nx : Nat} {κ : Nat → Nat} {res : (Int32 × m_M)} {x : Nat} (X : m_Cx p s m args meth c cX4_readsAll 5 RX4 G) (hr : meth.sig.returnType = (some .boolean)) (hT : m_Str κ) (hk_x : κ x = 12) (K_23 : m_M → Int32 → Option (Int32 × m_M)) (hK_23 : ∀ (S : m_M) (l3 : Int32) (H : Heap) (locs : List Loc) (ls : Array Slot), m_H G nx κ S H → m_S G s H locs → lv_has ls 5 [(0, .ref (x + 2)), (3, .int l3)] → K_23 S l3 = some res → W p l e rm_X4_readsAll s m args below meth c H locs 0 0 (m_Qi below args s G nx κ res) (F0 m 23 ls [])) : ∀ (S : m_M) (l3 : Int32) (t0 : Int32) (H : Heap) (locs : List Loc) (ls : Array Slot), m_H G nx κ S H → m_S G s H locs → lv_has ls 5 [(0, .ref (x + 2)), (3, .int l3)] → b_X4_readsAll_61 x K_23 S l3 t0 = some res → W p l e rm_X4_readsAll s m args below meth c H locs 0 0 (m_Qi below args s G nx κ res) (F0 m 61 ls [.int t0]) := by
  have hx := X.1.1
  have hb := X.1.2.1
  intro S l3 t0 H locs ls hH hS hl hm
  rw [b_X4_readsAll_61] at hm
  refine lv_istore (lv' := [(4, .int t0), (0, .ref (x + 2)), (3, .int l3)]) hx hb dX4_readsAll_61 hl (by decide) rfl (fun ls hl => ?_)
  refine lv_iload hx hb dX4_readsAll_63 (lv_at hl 0 rfl) ?_
  refine lv_if_eq (tgt := 80) hx hb dX4_readsAll_65 (by decide) (fun c1 => ?_) (fun c1 => ?_)
  · have hm := m_ite_t hm c1
    exact k_X4_readsAll_80 (x := x) X hr hT hk_x   S _ _ _ hH hS (lv_sub hl [] rfl) hm
  · have hm := m_ite_f hm c1
    refine lv_aload_n hx hb dX4_readsAll_68 rfl (lv_at hl 1 rfl) ?_
    refine r_getp X hH (k := 4) (a := (x + 2)) (j := 1) (b := (x + 25)) (A := 23) (B := 0) (m_lay_at hT hk_x (by decide) (i := 2) rfl) (by decide) rfl m_wi4 (by decide) in_2_74 rfl rfl rfl dX4_readsAll_69 ?_
    refine lv_bipush (v := (59 : Int32)) hx hb dX4_readsAll_72 (by decide) ?_
    obtain ⟨v3, S2, e_S2, hm⟩ := m_call_of hm
    refine n_cVi X hH hS (k := 9) (c_X9_takesSign (x := x) hT hk_x e_S2) mw_X9_takesSign in_4_0 (m_lay_at hT hk_x (by decide) (i := 25) rfl) (by decide) rfl rfl rfl ⟨rfl, rfl⟩ ⟨Nat.le_of_ble_eq_true rfl, Nat.le_of_ble_eq_true rfl⟩ ⟨Nat.zero_le _, Nat.zero_le _⟩ hl.1 (Nat.le_of_ble_eq_true rfl) dX4_readsAll_74 (fun H locs hH hS => ?_)
    refine lv_if_ne (tgt := 82) hx hb dX4_readsAll_77 (by decide) (fun c4 => ?_) (fun c4 => ?_)
    · have hm := m_ite_f hm c4
      obtain ⟨v5, e_v5, hm⟩ := m_let_of hm
      refine lv_iinc (v := v5) (lv' := [(3, .int v5), (4, .int t0), (0, .ref (x + 2))]) hx hb dX4_readsAll_82 hl (k := 2) rfl (by rw [← e_v5]; rfl) (by decide) rfl (fun ls hl => ?_)
      refine lv_goto (tgt := 23) hx hb dX4_readsAll_85 (by decide) ?_
      exact hK_23 S2 v5 _ _ _ hH hS (lv_sub hl [2, 0] rfl) hm
    · have hm := m_ite_t hm c4
      exact k_X4_readsAll_80 (x := x) X hr hT hk_x   S2 _ _ _ hH hS (lv_sub hl [] rfl) hm
def b_X4_readsAll_111 (x : Nat)  (S : m_M) (t0 : Int32) : Option (Int32 × m_M) :=
    if t0 = 0 ∨ t0 = 1 then some (t0, S) else none
set_option maxHeartbeats 4000000 in
set_option maxRecDepth 100000 in
theorem k_X4_readsAll_111 {p : Program} {l : Launch} {e : Env} {s : State} {m : MethodId} {args : Array Value} {below : List Frame} {meth : Method} {c : Code} {G : m_G} {nx : Nat} {κ : Nat → Nat} {res : (Int32 × m_M)} {x : Nat} (X : m_Cx p s m args meth c cX4_readsAll 5 RX4 G) (hr : meth.sig.returnType = (some .boolean)) (hT : m_Str κ) (hk_x : κ x = 12)  : ∀ (S : m_M) (t0 : Int32) (H : Heap) (locs : List Loc) (ls : Array Slot), m_H G nx κ S H → m_S G s H locs → lv_has ls 5 [] → b_X4_readsAll_111 x S t0 = some res → W p l e rm_X4_readsAll s m args below meth c H locs 0 0 (m_Qi below args s G nx κ res) (F0 m 111 ls [.int t0]) := by
  have hx := X.1.1
  have hb := X.1.2.1
  intro S t0 H locs ls hH hS hl hm
  rw [b_X4_readsAll_111] at hm
  exact r_zret X hr hH hS hm dX4_readsAll_111
def b_X4_readsAll_106 (x : Nat)  (S : m_M)  : Option (Int32 × m_M) :=
    b_X4_readsAll_111 x S (1 : Int32)
set_option maxHeartbeats 4000000 in
set_option maxRecDepth 100000 in
theorem k_X4_readsAll_106 {p : Program} {l : Launch} {e : Env} {s : State} {m : MethodId} {args : Array Value} {below : List Frame} {meth : Method} {c : Code} {G : m_G} {nx : Nat} {κ : Nat → Nat} {res : (Int32 × m_M)} {x : Nat} (X : m_Cx p s m args meth c cX4_readsAll 5 RX4 G) (hr : meth.sig.returnType = (some .boolean)) (hT : m_Str κ) (hk_x : κ x = 12)  : ∀ (S : m_M)  (H : Heap) (locs : List Loc) (ls : Array Slot), m_H G nx κ S H → m_S G s H locs → lv_has ls 5 [] → b_X4_readsAll_106 x S  = some res → W p l e rm_X4_readsAll s m args below meth c H locs 0 0 (m_Qi below args s G nx κ res) (F0 m 106 ls []) := by
  have hx := X.1.1
  have hb := X.1.2.1
  intro S H locs ls hH hS hl hm
  rw [b_X4_readsAll_106] at hm
  refine lv_iconst (v := (1 : Int32)) hx hb dX4_readsAll_106 (by decide) ?_
  refine lv_goto (tgt := 111) hx hb dX4_readsAll_107 (by decide) ?_
  exact k_X4_readsAll_111 (x := x) X hr hT hk_x   S (1 : Int32) _ _ _ hH hS hl hm
def b_X4_readsAll_88 (x : Nat)  (S : m_M)  : Option (Int32 × m_M) :=
    m_call (f_X4_latestFunIsBare x S) fun v2 S1 =>
    if v2 = 0 then (
    b_X4_readsAll_106 x S1) else (
    m_call (f_X9_failsBy x S1 (3 : Int32)) fun v5 S4 =>
    if v5 = 0 then (
    b_X4_readsAll_111 x S4 (0 : Int32)) else (
    b_X4_readsAll_106 x S4))
set_option maxHeartbeats 4000000 in
set_option maxRecDepth 100000 in
theorem k_X4_readsAll_88 {p : Program} {l : Launch} {e : Env} {s : State} {m : MethodId} {args : Array Value} {below : List Frame} {meth : Method} {c : Code} {G : m_G} {nx : Nat} {κ : Nat → Nat} {res : (Int32 × m_M)} {x : Nat} (X : m_Cx p s m args meth c cX4_readsAll 5 RX4 G) (hr : meth.sig.returnType = (some .boolean)) (hT : m_Str κ) (hk_x : κ x = 12)  : ∀ (S : m_M)  (H : Heap) (locs : List Loc) (ls : Array Slot), m_H G nx κ S H → m_S G s H locs → lv_has ls 5 [(0, .ref (x + 2))] → b_X4_readsAll_88 x S  = some res → W p l e rm_X4_readsAll s m args below meth c H locs 0 0 (m_Qi below args s G nx κ res) (F0 m 88 ls []) := by
  have hx := X.1.1
  have hb := X.1.2.1
  intro S H locs ls hH hS hl hm
  rw [b_X4_readsAll_88] at hm
  refine lv_aload_n hx hb dX4_readsAll_88 rfl (lv_at hl 0 rfl) ?_
  obtain ⟨v2, S1, e_S1, hm⟩ := m_call_of hm
  refine n_cVi X hH hS (k := 4) (c_X4_latestFunIsBare (x := x) hT hk_x e_S1) mw_X4_latestFunIsBare in_3_178 (m_lay_at hT hk_x (by decide) (i := 2) rfl) (by decide) rfl rfl rfl ⟨rfl, rfl⟩ ⟨Nat.le_of_ble_eq_true rfl, Nat.le_of_ble_eq_true rfl⟩ ⟨Nat.zero_le _, Nat.zero_le _⟩ hl.1 (Nat.le_of_ble_eq_true rfl) dX4_readsAll_89 (fun H locs hH hS => ?_)
  refine lv_if_eq (tgt := 106) hx hb dX4_readsAll_92 (by decide) (fun c3 => ?_) (fun c3 => ?_)
  · have hm := m_ite_t hm c3
    exact k_X4_readsAll_106 (x := x) X hr hT hk_x   S1 _ _ _ hH hS (lv_sub hl [] rfl) hm
  · have hm := m_ite_f hm c3
    refine lv_aload_n hx hb dX4_readsAll_95 rfl (lv_at hl 0 rfl) ?_
    refine r_getp X hH (k := 4) (a := (x + 2)) (j := 1) (b := (x + 25)) (A := 23) (B := 0) (m_lay_at hT hk_x (by decide) (i := 2) rfl) (by decide) rfl m_wi4 (by decide) in_2_74 rfl rfl rfl dX4_readsAll_96 ?_
    refine lv_iconst (v := (3 : Int32)) hx hb dX4_readsAll_99 (by decide) ?_
    obtain ⟨v5, S4, e_S4, hm⟩ := m_call_of hm
    refine n_cVi X hH hS (k := 9) (c_X9_failsBy (x := x) hT hk_x e_S4) mw_X9_failsBy in_3_182 (m_lay_at hT hk_x (by decide) (i := 25) rfl) (by decide) rfl rfl rfl ⟨rfl, rfl⟩ ⟨Nat.le_of_ble_eq_true rfl, Nat.le_of_ble_eq_true rfl⟩ ⟨Nat.zero_le _, Nat.zero_le _⟩ hl.1 (Nat.le_of_ble_eq_true rfl) dX4_readsAll_100 (fun H locs hH hS => ?_)
    refine lv_if_eq (tgt := 110) hx hb dX4_readsAll_103 (by decide) (fun c6 => ?_) (fun c6 => ?_)
    · have hm := m_ite_t hm c6
      refine lv_iconst (v := (0 : Int32)) hx hb dX4_readsAll_110 (by decide) ?_
      exact k_X4_readsAll_111 (x := x) X hr hT hk_x   S4 (0 : Int32) _ _ _ hH hS (lv_sub hl [] rfl) hm
    · have hm := m_ite_f hm c6
      exact k_X4_readsAll_106 (x := x) X hr hT hk_x   S4 _ _ _ hH hS (lv_sub hl [] rfl) hm
def b_X4_readsAll_23 (x : Nat)  : Nat → m_M → Int32 → Option (Int32 × m_M)
  | 0, _, _ => none
  | n + 1, S, l3 =>
    if (900 : Int32) ≤ l3 then (
    b_X4_readsAll_88 x S) else (
    if (m_ri S (x + 25) 9) = 0 then (
    b_X4_readsAll_88 x S) else (
    if (m_ri S (x + 25) 11) = 0 then (
    m_call (f_X4_readsFun x S) fun v7 S6 =>
    b_X4_readsAll_61 x (b_X4_readsAll_23 x n) S6 l3 v7) else (
    m_call (f_X4_readsIs x S) fun v5 S4 =>
    b_X4_readsAll_61 x (b_X4_readsAll_23 x n) S4 l3 v5)))
set_option maxHeartbeats 4000000 in
set_option maxRecDepth 100000 in
theorem k_X4_readsAll_23 {p : Program} {l : Launch} {e : Env} {s : State} {m : MethodId} {args : Array Value} {below : List Frame} {meth : Method} {c : Code} {G : m_G} {nx : Nat} {κ : Nat → Nat} {res : (Int32 × m_M)} {x : Nat} (X : m_Cx p s m args meth c cX4_readsAll 5 RX4 G) (hr : meth.sig.returnType = (some .boolean)) (hT : m_Str κ) (hk_x : κ x = 12)  (n : Nat) : ∀ (S : m_M) (l3 : Int32) (H : Heap) (locs : List Loc) (ls : Array Slot), m_H G nx κ S H → m_S G s H locs → lv_has ls 5 [(0, .ref (x + 2)), (3, .int l3)] → b_X4_readsAll_23 x n S l3 = some res → W p l e rm_X4_readsAll s m args below meth c H locs 0 0 (m_Qi below args s G nx κ res) (F0 m 23 ls []) := by
  have hx := X.1.1
  have hb := X.1.2.1
  induction n with
  | zero => intro S l3 H locs ls hH hS hl hm; have hm : (none : Option (Int32 × m_M)) = some res := hm; cases hm
  | succ n ih =>
    intro S l3 H locs ls hH hS hl hm
    rw [b_X4_readsAll_23] at hm
    refine lv_iload_n hx hb dX4_readsAll_23 rfl (lv_at hl 1 rfl) ?_
    refine lv_sipush (v := (900 : Int32)) hx hb dX4_readsAll_24 (by decide) ?_
    refine lv_icmp_ge (tgt := 88) hx hb dX4_readsAll_27 (by decide) (fun c1 => ?_) (fun c1 => ?_)
    · have hm := m_ite_t hm c1
      exact k_X4_readsAll_88 (x := x) X hr hT hk_x   S _ _ _ hH hS (lv_sub hl [0] rfl) hm
    · have hm := m_ite_f hm c1
      refine lv_aload_n hx hb dX4_readsAll_30 rfl (lv_at hl 0 rfl) ?_
      refine r_getp X hH (k := 4) (a := (x + 2)) (j := 1) (b := (x + 25)) (A := 23) (B := 0) (m_lay_at hT hk_x (by decide) (i := 2) rfl) (by decide) rfl m_wi4 (by decide) in_2_74 rfl rfl rfl dX4_readsAll_31 ?_
      refine r_geti X hH (k := 9) (a := (x + 25)) (j := 9) (m_lay_at hT hk_x (by decide) (i := 25) rfl) (by decide) rfl m_wi9 (by decide) in_2_19 rfl rfl dX4_readsAll_34 ?_
      refine lv_if_eq (tgt := 88) hx hb dX4_readsAll_37 (by decide) (fun c2 => ?_) (fun c2 => ?_)
      · have hm := m_ite_t hm c2
        exact k_X4_readsAll_88 (x := x) X hr hT hk_x   S _ _ _ hH hS (lv_sub hl [0] rfl) hm
      · have hm := m_ite_f hm c2
        refine lv_aload_n hx hb dX4_readsAll_40 rfl (lv_at hl 0 rfl) ?_
        refine r_getp X hH (k := 4) (a := (x + 2)) (j := 1) (b := (x + 25)) (A := 23) (B := 0) (m_lay_at hT hk_x (by decide) (i := 2) rfl) (by decide) rfl m_wi4 (by decide) in_2_74 rfl rfl rfl dX4_readsAll_41 ?_
        refine r_geti X hH (k := 9) (a := (x + 25)) (j := 11) (m_lay_at hT hk_x (by decide) (i := 25) rfl) (by decide) rfl m_wi9 (by decide) in_2_23 rfl rfl dX4_readsAll_44 ?_
        refine lv_if_ne (tgt := 57) hx hb dX4_readsAll_47 (by decide) (fun c3 => ?_) (fun c3 => ?_)
        · have hm := m_ite_f hm c3
          refine lv_aload_n hx hb dX4_readsAll_57 rfl (lv_at hl 0 rfl) ?_
          obtain ⟨v5, S4, e_S4, hm⟩ := m_call_of hm
          refine n_cVi X hH hS (k := 4) (c_X4_readsIs (x := x) hT hk_x e_S4) mw_X4_readsIs in_3_207 (m_lay_at hT hk_x (by decide) (i := 2) rfl) (by decide) rfl rfl rfl ⟨rfl, rfl⟩ ⟨Nat.le_of_ble_eq_true rfl, Nat.le_of_ble_eq_true rfl⟩ ⟨Nat.zero_le _, Nat.zero_le _⟩ hl.1 (Nat.le_of_ble_eq_true rfl) dX4_readsAll_58 (fun H locs hH hS => ?_)
          exact k_X4_readsAll_61 (x := x) X hr hT hk_x (b_X4_readsAll_23 x n) ih  S4 l3 v5 _ _ _ hH hS hl hm
        · have hm := m_ite_t hm c3
          refine lv_aload_n hx hb dX4_readsAll_50 rfl (lv_at hl 0 rfl) ?_
          obtain ⟨v7, S6, e_S6, hm⟩ := m_call_of hm
          refine n_cVi X hH hS (k := 4) (c_X4_readsFun (x := x) hT hk_x e_S6) mw_X4_readsFun in_3_174 (m_lay_at hT hk_x (by decide) (i := 2) rfl) (by decide) rfl rfl rfl ⟨rfl, rfl⟩ ⟨Nat.le_of_ble_eq_true rfl, Nat.le_of_ble_eq_true rfl⟩ ⟨Nat.zero_le _, Nat.zero_le _⟩ hl.1 (Nat.le_of_ble_eq_true rfl) dX4_readsAll_51 (fun H locs hH hS => ?_)
          refine lv_goto (tgt := 61) hx hb dX4_readsAll_54 (by decide) ?_
          exact k_X4_readsAll_61 (x := x) X hr hT hk_x (b_X4_readsAll_23 x n) ih  S6 l3 v7 _ _ _ hH hS hl hm
def f_X4_readsAll (x : Nat) (S : m_M) (i2 : Int32) : Option (Int32 × m_M) :=
    m_cal0 (f_X3_clear (x + 3) S) fun S1 =>
    m_let (m_si S1 (x + 2) 3 (0 : Int32)) fun S2 =>
    m_cal0 (f_X9_open x S2 i2) fun S3 =>
    b_X4_readsAll_23 x m_fu S3 (0 : Int32)
set_option maxHeartbeats 4000000 in
set_option maxRecDepth 100000 in
theorem c_X4_readsAll {l : Launch} {G : m_G} {nx : Nat} {κ : Nat → Nat} {x : Nat} {S : m_M} {i2 : Int32} {res : (Int32 × m_M)} (hT : m_Str κ) (hk_x : κ x = 12) (hm : f_X4_readsAll x S i2 = some res) : m_Ci l yX4_readsAll cX4_readsAll 5 (some .boolean) rm_X4_readsAll G nx κ [.ref (x + 2), .ref (x + 1), .int i2] S res := by
  refine m_Ci.of (by decide) (Nat.le_of_ble_eq_true rfl) ?_
  intro p e s m args below meth c ls X hr hH hl
  have hx := X.1.1
  have hb := X.1.2.1
  have hS : m_S G s s.heap [] := va_S.rf
  have hl : lv_has ls 5 [(0, .ref (x + 2)), (1, .ref (x + 1)), (2, .int i2)] := hl
  rw [f_X4_readsAll] at hm
  refine lv_aload_n hx hb dX4_readsAll_0 rfl (lv_at hl 0 rfl) ?_
  refine r_getp X hH (k := 4) (a := (x + 2)) (j := 0) (b := (x + 3)) (A := 1) (B := 0) (m_lay_at hT hk_x (by decide) (i := 2) rfl) (by decide) rfl m_wi4 (by decide) in_2_72 rfl rfl rfl dX4_readsAll_1 ?_
  obtain ⟨S1, e_S1, hm⟩ := m_cal0_of hm
  refine r_cVv X hH hS (k := 3) (c_X3_clear (a := (x + 3)) hT (m_lay_at hT hk_x (by decide) (i := 3) rfl) e_S1) mw_X3_clear in_3_137 (m_lay_at hT hk_x (by decide) (i := 3) rfl) (by decide) rfl rfl rfl ⟨rfl, rfl⟩ ⟨Nat.le_of_ble_eq_true rfl, Nat.le_of_ble_eq_true rfl⟩ ⟨Nat.zero_le _, Nat.zero_le _⟩ hl.1 (Nat.le_of_ble_eq_true rfl) dX4_readsAll_4 (fun H locs hH hS => ?_)
  refine lv_aload_n hx hb dX4_readsAll_7 rfl (lv_at hl 0 rfl) ?_
  refine lv_iconst (v := (0 : Int32)) hx hb dX4_readsAll_8 (by decide) ?_
  obtain ⟨S2, e_S2, hm⟩ := m_let_of hm
  refine n_puti X hH hS tyX4 (k := 4) (a := (x + 2)) (j := 3) (m_lay_at hT hk_x (by decide) (i := 2) rfl) (by decide) rfl m_wi4 tyX4_ok nmX4 (by decide) in_2_77 rfl rfl rfl ⟨rfl, rfl⟩ e_S2 dX4_readsAll_9 (fun H locs hH hS => ?_)
  refine lv_aload_n hx hb dX4_readsAll_12 rfl (lv_at hl 0 rfl) ?_
  refine r_getp X hH (k := 4) (a := (x + 2)) (j := 1) (b := (x + 25)) (A := 23) (B := 0) (m_lay_at hT hk_x (by decide) (i := 2) rfl) (by decide) rfl m_wi4 (by decide) in_2_74 rfl rfl rfl dX4_readsAll_13 ?_
  refine lv_aload_n hx hb dX4_readsAll_16 rfl (lv_at hl 1 rfl) ?_
  refine lv_iload_n hx hb dX4_readsAll_17 rfl (lv_at hl 2 rfl) ?_
  obtain ⟨S3, e_S3, hm⟩ := m_cal0_of hm
  refine r_cVv X hH hS (k := 9) (c_X9_open (x := x) hT hk_x e_S3) mw_X9_open in_3_141 (m_lay_at hT hk_x (by decide) (i := 25) rfl) (by decide) rfl rfl rfl ⟨rfl, rfl⟩ ⟨Nat.le_of_ble_eq_true rfl, Nat.le_of_ble_eq_true rfl⟩ ⟨Nat.zero_le _, Nat.zero_le _⟩ hl.1 (Nat.le_of_ble_eq_true rfl) dX4_readsAll_18 (fun H locs hH hS => ?_)
  refine lv_iconst (v := (0 : Int32)) hx hb dX4_readsAll_21 (by decide) ?_
  refine lv_istore_n (lv' := [(3, .int (0 : Int32)), (0, .ref (x + 2)), (1, .ref (x + 1)), (2, .int i2)]) hx hb dX4_readsAll_22 rfl hl (by decide) rfl (fun ls hl => ?_)
  exact k_X4_readsAll_23 (x := x) X hr hT hk_x  m_fu S3 (0 : Int32) _ _ _ hH hS (lv_sub hl [1, 0] rfl) hm
def rm_X5_clear : Room := { frames := 1, cells := 0, slots := 0, locals := 23 }
def b_X5_clear_9 (a : Nat)  : Nat → m_M → Int32 → Option m_M
  | 0, _, _ => none
  | n + 1, S, l1 =>
    if (183 : Int32) ≤ l1 then (
    m_cal0 (f_J7_fill_53178 (a + 2) 183 S (-1 : Int32)) fun S2 =>
    m_cal0 (f_J7_fill_53178 (a + 3) 183 S2 (-1 : Int32)) fun S3 =>
    m_cal0 (f_J7_fill_53178 (a + 4) 183 S3 (-1 : Int32)) fun S4 =>
    some S4) else (
    (m_sti S (a + 1) 183 l1 l1).bind fun S5 =>
    m_let (l1 + (1 : Int32)) fun v6 =>
    b_X5_clear_9 a n S5 v6)
set_option maxHeartbeats 4000000 in
set_option maxRecDepth 100000 in
theorem k_X5_clear_9 {p : Program} {l : Launch} {e : Env} {s : State} {m : MethodId} {args : Array Value} {below : List Frame} {meth : Method} {c : Code} {G : m_G} {nx : Nat} {κ : Nat → Nat} {res : m_M} {a : Nat} (X : m_Cx p s m args meth c cX5_clear 2 RX5 G) (hr : meth.sig.returnType = none) (hT : m_Str κ) (hk_a : κ a = 6)  (n : Nat) : ∀ (S : m_M) (l1 : Int32) (H : Heap) (locs : List Loc) (ls : Array Slot), m_H G nx κ S H → m_S G s H locs → lv_has ls 2 [(0, .ref a), (1, .int l1)] → b_X5_clear_9 a n S l1 = some res → W p l e rm_X5_clear s m args below meth c H locs 0 0 (m_Qv below args s G nx κ res) (F0 m 9 ls []) := by
  have hx := X.1.1
  have hb := X.1.2.1
  induction n with
  | zero => intro S l1 H locs ls hH hS hl hm; have hm : (none : Option m_M) = some res := hm; cases hm
  | succ n ih =>
    intro S l1 H locs ls hH hS hl hm
    rw [b_X5_clear_9] at hm
    refine lv_iload_n hx hb dX5_clear_9 rfl (lv_at hl 1 rfl) ?_
    refine lv_sipush (v := (183 : Int32)) hx hb dX5_clear_10 (by decide) ?_
    refine lv_icmp_ge (tgt := 29) hx hb dX5_clear_13 (by decide) (fun c1 => ?_) (fun c1 => ?_)
    · have hm := m_ite_t hm c1
      refine lv_aload_n hx hb dX5_clear_29 rfl (lv_at hl 0 rfl) ?_
      refine r_getp X hH (k := 5) (a := a) (j := 1) (b := (a + 2)) (A := 2) (B := 0) hk_a (by decide) rfl m_wi5 (by decide) in_2_144 rfl rfl rfl dX5_clear_30 ?_
      refine lv_iconst (v := (-1 : Int32)) hx hb dX5_clear_33 (by decide) ?_
      obtain ⟨S2, e_S2, hm⟩ := m_cal0_of hm
      refine r_cSv X hH hS (c_J7_fill_53178 (o0 := (a + 2)) (n0 := 183) hT (m_lay_at hT hk_a (by decide) (i := 2) rfl) e_S2) mw_J7_fill_53178 in_4_12 rfl ⟨rfl, rfl⟩ ⟨Nat.le_of_ble_eq_true rfl, Nat.le_of_ble_eq_true rfl⟩ ⟨Nat.zero_le _, Nat.zero_le _⟩ hl.1 (Nat.le_of_ble_eq_true rfl) dX5_clear_34 (fun H locs hH hS => ?_)
      refine lv_aload_n hx hb dX5_clear_37 rfl (lv_at hl 0 rfl) ?_
      refine r_getp X hH (k := 5) (a := a) (j := 2) (b := (a + 3)) (A := 3) (B := 0) hk_a (by decide) rfl m_wi5 (by decide) in_2_145 rfl rfl rfl dX5_clear_38 ?_
      refine lv_iconst (v := (-1 : Int32)) hx hb dX5_clear_41 (by decide) ?_
      obtain ⟨S3, e_S3, hm⟩ := m_cal0_of hm
      refine r_cSv X hH hS (c_J7_fill_53178 (o0 := (a + 3)) (n0 := 183) hT (m_lay_at hT hk_a (by decide) (i := 3) rfl) e_S3) mw_J7_fill_53178 in_4_12 rfl ⟨rfl, rfl⟩ ⟨Nat.le_of_ble_eq_true rfl, Nat.le_of_ble_eq_true rfl⟩ ⟨Nat.zero_le _, Nat.zero_le _⟩ hl.1 (Nat.le_of_ble_eq_true rfl) dX5_clear_42 (fun H locs hH hS => ?_)
      refine lv_aload_n hx hb dX5_clear_45 rfl (lv_at hl 0 rfl) ?_
      refine r_getp X hH (k := 5) (a := a) (j := 3) (b := (a + 4)) (A := 4) (B := 0) hk_a (by decide) rfl m_wi5 (by decide) in_2_146 rfl rfl rfl dX5_clear_46 ?_
      refine lv_iconst (v := (-1 : Int32)) hx hb dX5_clear_49 (by decide) ?_
      obtain ⟨S4, e_S4, hm⟩ := m_cal0_of hm
      refine r_cSv X hH hS (c_J7_fill_53178 (o0 := (a + 4)) (n0 := 183) hT (m_lay_at hT hk_a (by decide) (i := 4) rfl) e_S4) mw_J7_fill_53178 in_4_12 rfl ⟨rfl, rfl⟩ ⟨Nat.le_of_ble_eq_true rfl, Nat.le_of_ble_eq_true rfl⟩ ⟨Nat.zero_le _, Nat.zero_le _⟩ hl.1 (Nat.le_of_ble_eq_true rfl) dX5_clear_50 (fun H locs hH hS => ?_)
      exact r_vret X hr hH hS hm dX5_clear_53
    · have hm := m_ite_f hm c1
      refine lv_aload_n hx hb dX5_clear_16 rfl (lv_at hl 0 rfl) ?_
      refine r_getp X hH (k := 5) (a := a) (j := 0) (b := (a + 1)) (A := 1) (B := 0) hk_a (by decide) rfl m_wi5 (by decide) in_2_143 rfl rfl rfl dX5_clear_17 ?_
      refine lv_iload_n hx hb dX5_clear_20 rfl (lv_at hl 1 rfl) ?_
      refine lv_iload_n hx hb dX5_clear_21 rfl (lv_at hl 1 rfl) ?_
      obtain ⟨S5, h_S5, e_S5, hm⟩ := n_sti hm
      refine n_iast X hH hS (n := 183) (m_lay_at hT hk_a (by decide) (i := 1) rfl) h_S5 e_S5 dX5_clear_22 (fun H locs hH hS => ?_)
      obtain ⟨v6, e_v6, hm⟩ := m_let_of hm
      refine lv_iinc (v := v6) (lv' := [(1, .int v6), (0, .ref a)]) hx hb dX5_clear_23 hl (k := 1) rfl (by rw [← e_v6]; rfl) (by decide) rfl (fun ls hl => ?_)
      refine lv_goto (tgt := 9) hx hb dX5_clear_26 (by decide) ?_
      exact ih S5 v6 _ _ _ hH hS (lv_sub hl [1, 0] rfl) hm
def f_X5_clear (a : Nat) (S : m_M)  : Option m_M :=
    m_let (m_si S a 4 (135 : Int32)) fun S1 =>
    b_X5_clear_9 a m_fu S1 (0 : Int32)
set_option maxHeartbeats 4000000 in
set_option maxRecDepth 100000 in
theorem c_X5_clear {l : Launch} {G : m_G} {nx : Nat} {κ : Nat → Nat} {a : Nat} {S : m_M}  {res : m_M} (hT : m_Str κ) (hk_a : κ a = 6) (hm : f_X5_clear a S = some res) : m_Cv l yX5_clear cX5_clear 2 rm_X5_clear G nx κ [.ref a] S res := by
  refine m_Cv.of (by decide) (Nat.le_of_ble_eq_true rfl) ?_
  intro p e s m args below meth c ls X hr hH hl
  have hx := X.1.1
  have hb := X.1.2.1
  have hS : m_S G s s.heap [] := va_S.rf
  have hl : lv_has ls 2 [(0, .ref a)] := hl
  rw [f_X5_clear] at hm
  refine lv_aload_n hx hb dX5_clear_0 rfl (lv_at hl 0 rfl) ?_
  refine lv_sipush (v := (135 : Int32)) hx hb dX5_clear_1 (by decide) ?_
  obtain ⟨S1, e_S1, hm⟩ := m_let_of hm
  refine n_puti X hH hS tyX5 (k := 5) (a := a) (j := 4) hk_a (by decide) rfl m_wi5 tyX5_ok nmX5 (by decide) in_2_147 rfl rfl rfl ⟨rfl, rfl⟩ e_S1 dX5_clear_4 (fun H locs hH hS => ?_)
  refine lv_iconst (v := (0 : Int32)) hx hb dX5_clear_7 (by decide) ?_
  refine lv_istore_n (lv' := [(1, .int (0 : Int32)), (0, .ref a)]) hx hb dX5_clear_8 rfl hl (by decide) rfl (fun ls hl => ?_)
  exact k_X5_clear_9 (a := a) X hr hT hk_a  m_fu S1 (0 : Int32) _ _ _ hH hS (lv_sub hl [1, 0] rfl) hm
def rm_X5_nodeOf : Room := { frames := 0, cells := 0, slots := 0, locals := 0 }
def f_X5_nodeOf (S : m_M) (i0 : Int32) (i1 : Int32) : Option (Int32 × m_M) :=
    some (((i0 * (27 : Int32)) + i1), S)
set_option maxHeartbeats 4000000 in
set_option maxRecDepth 100000 in
theorem c_X5_nodeOf {l : Launch} {G : m_G} {nx : Nat} {κ : Nat → Nat} {S : m_M} {i0 : Int32} {i1 : Int32} {res : (Int32 × m_M)} (hT : m_Str κ)  (hm : f_X5_nodeOf S i0 i1 = some res) : m_Ci l yX5_nodeOf cX5_nodeOf 2 (some .int) rm_X5_nodeOf G nx κ [.int i0, .int i1] S res := by
  refine m_Ci.of (by decide) (Nat.le_of_ble_eq_true rfl) ?_
  intro p e s m args below meth c ls X hr hH hl
  have hx := X.1.1
  have hb := X.1.2.1
  have hS : m_S G s s.heap [] := va_S.rf
  have hl : lv_has ls 2 [(0, .int i0), (1, .int i1)] := hl
  rw [f_X5_nodeOf] at hm
  refine lv_iload_n hx hb dX5_nodeOf_0 rfl (lv_at hl 0 rfl) ?_
  refine lv_bipush (v := (27 : Int32)) hx hb dX5_nodeOf_1 (by decide) ?_
  refine lv_imul hx hb dX5_nodeOf_3 ?_
  refine lv_iload_n hx hb dX5_nodeOf_4 rfl (lv_at hl 1 rfl) ?_
  refine lv_iadd hx hb dX5_nodeOf_5 ?_
  exact r_iret X hr hH hS hm dX5_nodeOf_6
def rm_X5_operandNode : Room := { frames := 1, cells := 0, slots := 0, locals := 22 }
def f_X5_operandNode (o0 : Nat) (S : m_M) (i1 : Int32) (i2 : Int32) (i3 : Int32) : Option (Int32 × m_M) :=
    m_call (f_X3_operandAt o0 S i2 i3) fun v2 S1 =>
    m_call (f_X5_nodeOf S1 i1 v2) fun v4 S3 =>
    some (v4, S3)
set_option maxHeartbeats 4000000 in
set_option maxRecDepth 100000 in
theorem c_X5_operandNode {l : Launch} {G : m_G} {nx : Nat} {κ : Nat → Nat} {o0 : Nat} {S : m_M} {i1 : Int32} {i2 : Int32} {i3 : Int32} {res : (Int32 × m_M)} (hT : m_Str κ) (hk_o0 : κ o0 = 4) (hm : f_X5_operandNode o0 S i1 i2 i3 = some res) : m_Ci l yX5_operandNode cX5_operandNode 4 (some .int) rm_X5_operandNode G nx κ [.ref o0, .int i1, .int i2, .int i3] S res := by
  refine m_Ci.of (by decide) (Nat.le_of_ble_eq_true rfl) ?_
  intro p e s m args below meth c ls X hr hH hl
  have hx := X.1.1
  have hb := X.1.2.1
  have hS : m_S G s s.heap [] := va_S.rf
  have hl : lv_has ls 4 [(0, .ref o0), (1, .int i1), (2, .int i2), (3, .int i3)] := hl
  rw [f_X5_operandNode] at hm
  refine lv_iload_n hx hb dX5_operandNode_0 rfl (lv_at hl 1 rfl) ?_
  refine lv_aload_n hx hb dX5_operandNode_1 rfl (lv_at hl 0 rfl) ?_
  refine lv_iload_n hx hb dX5_operandNode_2 rfl (lv_at hl 2 rfl) ?_
  refine lv_iload_n hx hb dX5_operandNode_3 rfl (lv_at hl 3 rfl) ?_
  obtain ⟨v2, S1, e_S1, hm⟩ := m_call_of hm
  refine n_cVi X hH hS (k := 3) (c_X3_operandAt (a := o0) hT hk_o0 e_S1) mw_X3_operandAt in_4_27 hk_o0 (by decide) rfl rfl rfl ⟨rfl, rfl⟩ ⟨Nat.le_of_ble_eq_true rfl, Nat.le_of_ble_eq_true rfl⟩ ⟨Nat.zero_le _, Nat.zero_le _⟩ hl.1 (Nat.le_of_ble_eq_true rfl) dX5_operandNode_4 (fun H locs hH hS => ?_)
  obtain ⟨v4, S3, e_S3, hm⟩ := m_call_of hm
  refine n_cSi X hH hS (c_X5_nodeOf  hT  e_S3) mw_X5_nodeOf in_4_21 rfl ⟨rfl, rfl⟩ ⟨Nat.le_of_ble_eq_true rfl, Nat.le_of_ble_eq_true rfl⟩ ⟨Nat.zero_le _, Nat.zero_le _⟩ hl.1 (Nat.le_of_ble_eq_true rfl) dX5_operandNode_7 (fun H locs hH hS => ?_)
  exact r_iret X hr hH hS hm dX5_operandNode_10
def rm_X5_rootOf : Room := { frames := 0, cells := 0, slots := 0, locals := 0 }
def b_X5_rootOf_34 (a : Nat)  (S : m_M) (l2 : Int32) : Option (Int32 × m_M) :=
    some (l2, S)
set_option maxHeartbeats 4000000 in
set_option maxRecDepth 100000 in
theorem k_X5_rootOf_34 {p : Program} {l : Launch} {e : Env} {s : State} {m : MethodId} {args : Array Value} {below : List Frame} {meth : Method} {c : Code} {G : m_G} {nx : Nat} {κ : Nat → Nat} {res : (Int32 × m_M)} {a : Nat} (X : m_Cx p s m args meth c cX5_rootOf 4 RX5 G) (hr : meth.sig.returnType = (some .int)) (hT : m_Str κ) (hk_a : κ a = 6)  : ∀ (S : m_M) (l2 : Int32) (H : Heap) (locs : List Loc) (ls : Array Slot), m_H G nx κ S H → m_S G s H locs → lv_has ls 4 [(2, .int l2)] → b_X5_rootOf_34 a S l2 = some res → W p l e rm_X5_rootOf s m args below meth c H locs 0 0 (m_Qi below args s G nx κ res) (F0 m 34 ls []) := by
  have hx := X.1.1
  have hb := X.1.2.1
  intro S l2 H locs ls hH hS hl hm
  rw [b_X5_rootOf_34] at hm
  refine lv_iload_n hx hb dX5_rootOf_34 rfl (lv_at hl 0 rfl) ?_
  exact r_iret X hr hH hS hm dX5_rootOf_35
def b_X5_rootOf_4 (a : Nat)  : Nat → m_M → Int32 → Int32 → Option (Int32 × m_M)
  | 0, _, _, _ => none
  | n + 1, S, l2, l3 =>
    if (183 : Int32) ≤ l3 then (
    b_X5_rootOf_34 a S l2) else (
    (m_ldi S (a + 1) 183 l2).bind fun v2 =>
    if v2 = l2 then (
    b_X5_rootOf_34 a S l2) else (
    (m_ldi S (a + 1) 183 l2).bind fun v4 =>
    m_let (l3 + (1 : Int32)) fun v5 =>
    b_X5_rootOf_4 a n S v4 v5))
set_option maxHeartbeats 4000000 in
set_option maxRecDepth 100000 in
theorem k_X5_rootOf_4 {p : Program} {l : Launch} {e : Env} {s : State} {m : MethodId} {args : Array Value} {below : List Frame} {meth : Method} {c : Code} {G : m_G} {nx : Nat} {κ : Nat → Nat} {res : (Int32 × m_M)} {a : Nat} (X : m_Cx p s m args meth c cX5_rootOf 4 RX5 G) (hr : meth.sig.returnType = (some .int)) (hT : m_Str κ) (hk_a : κ a = 6)  (n : Nat) : ∀ (S : m_M) (l2 : Int32) (l3 : Int32) (H : Heap) (locs : List Loc) (ls : Array Slot), m_H G nx κ S H → m_S G s H locs → lv_has ls 4 [(0, .ref a), (2, .int l2), (3, .int l3)] → b_X5_rootOf_4 a n S l2 l3 = some res → W p l e rm_X5_rootOf s m args below meth c H locs 0 0 (m_Qi below args s G nx κ res) (F0 m 4 ls []) := by
  have hx := X.1.1
  have hb := X.1.2.1
  induction n with
  | zero => intro S l2 l3 H locs ls hH hS hl hm; have hm : (none : Option (Int32 × m_M)) = some res := hm; cases hm
  | succ n ih =>
    intro S l2 l3 H locs ls hH hS hl hm
    rw [b_X5_rootOf_4] at hm
    refine lv_iload_n hx hb dX5_rootOf_4 rfl (lv_at hl 2 rfl) ?_
    refine lv_sipush (v := (183 : Int32)) hx hb dX5_rootOf_5 (by decide) ?_
    refine lv_icmp_ge (tgt := 34) hx hb dX5_rootOf_8 (by decide) (fun c1 => ?_) (fun c1 => ?_)
    · have hm := m_ite_t hm c1
      exact k_X5_rootOf_34 (a := a) X hr hT hk_a   S l2 _ _ _ hH hS (lv_sub hl [1] rfl) hm
    · have hm := m_ite_f hm c1
      refine lv_aload_n hx hb dX5_rootOf_11 rfl (lv_at hl 0 rfl) ?_
      refine r_getp X hH (k := 5) (a := a) (j := 0) (b := (a + 1)) (A := 1) (B := 0) hk_a (by decide) rfl m_wi5 (by decide) in_2_143 rfl rfl rfl dX5_rootOf_12 ?_
      refine lv_iload_n hx hb dX5_rootOf_15 rfl (lv_at hl 1 rfl) ?_
      obtain ⟨v2, h_v2, e_v2, hm⟩ := n_ldi hm
      refine n_iald X hH (n := 183) (m_lay_at hT hk_a (by decide) (i := 1) rfl) h_v2 e_v2 dX5_rootOf_16 ?_
      refine lv_iload_n hx hb dX5_rootOf_17 rfl (lv_at hl 1 rfl) ?_
      refine lv_icmp_eq (tgt := 34) hx hb dX5_rootOf_18 (by decide) (fun c3 => ?_) (fun c3 => ?_)
      · have hm := m_ite_t hm c3
        exact k_X5_rootOf_34 (a := a) X hr hT hk_a   S l2 _ _ _ hH hS (lv_sub hl [1] rfl) hm
      · have hm := m_ite_f hm c3
        refine lv_aload_n hx hb dX5_rootOf_21 rfl (lv_at hl 0 rfl) ?_
        refine r_getp X hH (k := 5) (a := a) (j := 0) (b := (a + 1)) (A := 1) (B := 0) hk_a (by decide) rfl m_wi5 (by decide) in_2_143 rfl rfl rfl dX5_rootOf_22 ?_
        refine lv_iload_n hx hb dX5_rootOf_25 rfl (lv_at hl 1 rfl) ?_
        obtain ⟨v4, h_v4, e_v4, hm⟩ := n_ldi hm
        refine n_iald X hH (n := 183) (m_lay_at hT hk_a (by decide) (i := 1) rfl) h_v4 e_v4 dX5_rootOf_26 ?_
        refine lv_istore_n (lv' := [(2, .int v4), (0, .ref a), (3, .int l3)]) hx hb dX5_rootOf_27 rfl hl (by decide) rfl (fun ls hl => ?_)
        obtain ⟨v5, e_v5, hm⟩ := m_let_of hm
        refine lv_iinc (v := v5) (lv' := [(3, .int v5), (2, .int v4), (0, .ref a)]) hx hb dX5_rootOf_28 hl (k := 2) rfl (by rw [← e_v5]; rfl) (by decide) rfl (fun ls hl => ?_)
        refine lv_goto (tgt := 4) hx hb dX5_rootOf_31 (by decide) ?_
        exact ih S v4 v5 _ _ _ hH hS (lv_sub hl [2, 1, 0] rfl) hm
def f_X5_rootOf (a : Nat) (S : m_M) (i1 : Int32) : Option (Int32 × m_M) :=
    b_X5_rootOf_4 a m_fu S i1 (0 : Int32)
set_option maxHeartbeats 4000000 in
set_option maxRecDepth 100000 in
theorem c_X5_rootOf {l : Launch} {G : m_G} {nx : Nat} {κ : Nat → Nat} {a : Nat} {S : m_M} {i1 : Int32} {res : (Int32 × m_M)} (hT : m_Str κ) (hk_a : κ a = 6) (hm : f_X5_rootOf a S i1 = some res) : m_Ci l yX5_rootOf cX5_rootOf 4 (some .int) rm_X5_rootOf G nx κ [.ref a, .int i1] S res := by
  refine m_Ci.of (by decide) (Nat.le_of_ble_eq_true rfl) ?_
  intro p e s m args below meth c ls X hr hH hl
  have hx := X.1.1
  have hb := X.1.2.1
  have hS : m_S G s s.heap [] := va_S.rf
  have hl : lv_has ls 4 [(0, .ref a), (1, .int i1)] := hl
  rw [f_X5_rootOf] at hm
  refine lv_iload_n hx hb dX5_rootOf_0 rfl (lv_at hl 1 rfl) ?_
  refine lv_istore_n (lv' := [(2, .int i1), (0, .ref a), (1, .int i1)]) hx hb dX5_rootOf_1 rfl hl (by decide) rfl (fun ls hl => ?_)
  refine lv_iconst (v := (0 : Int32)) hx hb dX5_rootOf_2 (by decide) ?_
  refine lv_istore_n (lv' := [(3, .int (0 : Int32)), (2, .int i1), (0, .ref a), (1, .int i1)]) hx hb dX5_rootOf_3 rfl hl (by decide) rfl (fun ls hl => ?_)
  exact k_X5_rootOf_4 (a := a) X hr hT hk_a  m_fu S i1 (0 : Int32) _ _ _ hH hS (lv_sub hl [2, 1, 0] rfl) hm
def rm_X5_join_ (r : Room) : Room := { frames := r.frames + 1, cells := 0, slots := 0, locals := r.locals + 28 }
def b_X5_join_10 (F : Nat → m_M → Int32 → Int32 → Int32 → Option m_M) (a : Nat)  (S : m_M)  : Option m_M :=
    some S
set_option maxHeartbeats 4000000 in
set_option maxRecDepth 100000 in
theorem k_X5_join_10 {p : Program} {l : Launch} {e : Env} {s : State} {m : MethodId} {args : Array Value} {below : List Frame} {meth : Method} {c : Code} {G : m_G} {nx : Nat} {κ : Nat → Nat} {res : m_M} {F : Nat → m_M → Int32 → Int32 → Int32 → Option m_M} {a : Nat} (X : m_Cx p s m args meth c cX5_join 9 RX5 G) (hr : meth.sig.returnType = none) (hT : m_Str κ) (rF : Room) (hrF : rF.cells = 0 ∧ rF.slots = 0) (hF : ∀ (a : Nat) (S : m_M) (i1 : Int32) (i2 : Int32) (i3 : Int32) (res : m_M), κ a = 6 → F a S i1 i2 i3 = some res → m_Cv l yX5_join cX5_join 9 rF G nx κ [.ref a, .int i1, .int i2, .int i3] S res) (hk_a : κ a = 6)  : ∀ (S : m_M)  (H : Heap) (locs : List Loc) (ls : Array Slot), m_H G nx κ S H → m_S G s H locs → lv_has ls 9 [] → b_X5_join_10 F a S  = some res → W p l e (rm_X5_join_ rF) s m args below meth c H locs 0 0 (m_Qv below args s G nx κ res) (F0 m 10 ls []) := by
  have hx := X.1.1
  have hb := X.1.2.1
  intro S H locs ls hH hS hl hm
  rw [b_X5_join_10] at hm
  exact r_vret X hr hH hS hm dX5_join_10
def b_X5_join_38 (F : Nat → m_M → Int32 → Int32 → Int32 → Option m_M) (a : Nat)  (S : m_M)  : Option m_M :=
    some S
set_option maxHeartbeats 4000000 in
set_option maxRecDepth 100000 in
theorem k_X5_join_38 {p : Program} {l : Launch} {e : Env} {s : State} {m : MethodId} {args : Array Value} {below : List Frame} {meth : Method} {c : Code} {G : m_G} {nx : Nat} {κ : Nat → Nat} {res : m_M} {F : Nat → m_M → Int32 → Int32 → Int32 → Option m_M} {a : Nat} (X : m_Cx p s m args meth c cX5_join 9 RX5 G) (hr : meth.sig.returnType = none) (hT : m_Str κ) (rF : Room) (hrF : rF.cells = 0 ∧ rF.slots = 0) (hF : ∀ (a : Nat) (S : m_M) (i1 : Int32) (i2 : Int32) (i3 : Int32) (res : m_M), κ a = 6 → F a S i1 i2 i3 = some res → m_Cv l yX5_join cX5_join 9 rF G nx κ [.ref a, .int i1, .int i2, .int i3] S res) (hk_a : κ a = 6)  : ∀ (S : m_M)  (H : Heap) (locs : List Loc) (ls : Array Slot), m_H G nx κ S H → m_S G s H locs → lv_has ls 9 [] → b_X5_join_38 F a S  = some res → W p l e (rm_X5_join_ rF) s m args below meth c H locs 0 0 (m_Qv below args s G nx κ res) (F0 m 38 ls []) := by
  have hx := X.1.1
  have hb := X.1.2.1
  intro S H locs ls hH hS hl hm
  rw [b_X5_join_38] at hm
  exact r_vret X hr hH hS hm dX5_join_38
def b_X5_join_140 (F : Nat → m_M → Int32 → Int32 → Int32 → Option m_M) (a : Nat)  (S : m_M)  : Option m_M :=
    some S
set_option maxHeartbeats 4000000 in
set_option maxRecDepth 100000 in
theorem k_X5_join_140 {p : Program} {l : Launch} {e : Env} {s : State} {m : MethodId} {args : Array Value} {below : List Frame} {meth : Method} {c : Code} {G : m_G} {nx : Nat} {κ : Nat → Nat} {res : m_M} {F : Nat → m_M → Int32 → Int32 → Int32 → Option m_M} {a : Nat} (X : m_Cx p s m args meth c cX5_join 9 RX5 G) (hr : meth.sig.returnType = none) (hT : m_Str κ) (rF : Room) (hrF : rF.cells = 0 ∧ rF.slots = 0) (hF : ∀ (a : Nat) (S : m_M) (i1 : Int32) (i2 : Int32) (i3 : Int32) (res : m_M), κ a = 6 → F a S i1 i2 i3 = some res → m_Cv l yX5_join cX5_join 9 rF G nx κ [.ref a, .int i1, .int i2, .int i3] S res) (hk_a : κ a = 6)  : ∀ (S : m_M)  (H : Heap) (locs : List Loc) (ls : Array Slot), m_H G nx κ S H → m_S G s H locs → lv_has ls 9 [] → b_X5_join_140 F a S  = some res → W p l e (rm_X5_join_ rF) s m args below meth c H locs 0 0 (m_Qv below args s G nx κ res) (F0 m 140 ls []) := by
  have hx := X.1.1
  have hb := X.1.2.1
  intro S H locs ls hH hS hl hm
  rw [b_X5_join_140] at hm
  exact r_vret X hr hH hS hm dX5_join_140
def g_X5_join (F : Nat → m_M → Int32 → Int32 → Int32 → Option m_M) (a : Nat) (S : m_M) (i1 : Int32) (i2 : Int32) (i3 : Int32) : Option m_M :=
    if i1 = (-1 : Int32) then (
    b_X5_join_10 F a S) else (
    if i2 = (-1 : Int32) then (
    b_X5_join_10 F a S) else (
    m_call (f_X5_rootOf a S i1) fun v4 S3 =>
    m_call (f_X5_rootOf a S3 i2) fun v6 S5 =>
    if v4 = v6 then (
    b_X5_join_38 F a S5) else (
    if i3 ≤ (25 : Int32) then (
    (m_sti S5 (a + 1) 183 v6 v4).bind fun S9 =>
    (m_ldi S9 (a + 2) 183 v6).bind fun v10 =>
    (m_ldi S9 (a + 3) 183 v6).bind fun v11 =>
    (m_ldi S9 (a + 2) 183 v4).bind fun v12 =>
    if v12 = (-1 : Int32) then (
    (m_sti S9 (a + 2) 183 v4 v10).bind fun S19 =>
    (m_sti S19 (a + 3) 183 v4 v11).bind fun S20 =>
    b_X5_join_140 F a S20) else (
    if v10 = (-1 : Int32) then (
    b_X5_join_140 F a S9) else (
    (m_ldi S9 (a + 3) 183 v4).bind fun v15 =>
    (m_ldi S9 (a + 2) 183 v4).bind fun v16 =>
    m_cal0 (F a S9 v16 v10 (i3 + (1 : Int32))) fun S17 =>
    m_cal0 (F a S17 v15 v11 (i3 + (1 : Int32))) fun S18 =>
    b_X5_join_140 F a S18))) else (
    b_X5_join_38 F a S5))))
set_option maxHeartbeats 4000000 in
set_option maxRecDepth 100000 in
theorem cg_X5_join {l : Launch} {G : m_G} {nx : Nat} {κ : Nat → Nat} {F : Nat → m_M → Int32 → Int32 → Int32 → Option m_M} {rF : Room} (hrF : rF.cells = 0 ∧ rF.slots = 0) (hF : ∀ (a : Nat) (S : m_M) (i1 : Int32) (i2 : Int32) (i3 : Int32) (res : m_M), κ a = 6 → F a S i1 i2 i3 = some res → m_Cv l yX5_join cX5_join 9 rF G nx κ [.ref a, .int i1, .int i2, .int i3] S res) {a : Nat} {S : m_M} {i1 : Int32} {i2 : Int32} {i3 : Int32} {res : m_M} (hT : m_Str κ) (hk_a : κ a = 6) (hm : g_X5_join F a S i1 i2 i3 = some res) : m_Cv l yX5_join cX5_join 9 (rm_X5_join_ rF) G nx κ [.ref a, .int i1, .int i2, .int i3] S res := by
  refine m_Cv.of (by decide) (Nat.le_of_ble_eq_true rfl) ?_
  intro p e s m args below meth c ls X hr hH hl
  have hx := X.1.1
  have hb := X.1.2.1
  have hS : m_S G s s.heap [] := va_S.rf
  have hl : lv_has ls 9 [(0, .ref a), (1, .int i1), (2, .int i2), (3, .int i3)] := hl
  rw [g_X5_join] at hm
  refine lv_iload_n hx hb dX5_join_0 rfl (lv_at hl 1 rfl) ?_
  refine lv_iconst (v := (-1 : Int32)) hx hb dX5_join_1 (by decide) ?_
  refine lv_icmp_eq (tgt := 10) hx hb dX5_join_2 (by decide) (fun c1 => ?_) (fun c1 => ?_)
  · have hm := m_ite_t hm c1
    exact k_X5_join_10 (F := F) (a := a) X hr hT rF hrF hF hk_a   S _ _ _ hH hS (lv_sub hl [] rfl) hm
  · have hm := m_ite_f hm c1
    refine lv_iload_n hx hb dX5_join_5 rfl (lv_at hl 2 rfl) ?_
    refine lv_iconst (v := (-1 : Int32)) hx hb dX5_join_6 (by decide) ?_
    refine lv_icmp_ne (tgt := 11) hx hb dX5_join_7 (by decide) (fun c2 => ?_) (fun c2 => ?_)
    · have hm := m_ite_f hm c2
      refine lv_aload_n hx hb dX5_join_11 rfl (lv_at hl 0 rfl) ?_
      refine lv_iload_n hx hb dX5_join_12 rfl (lv_at hl 1 rfl) ?_
      obtain ⟨v4, S3, e_S3, hm⟩ := m_call_of hm
      refine n_cVi X hH hS (k := 5) (c_X5_rootOf (a := a) hT hk_a e_S3) mw_X5_rootOf in_4_35 hk_a (by decide) rfl rfl rfl ⟨rfl, rfl⟩ ⟨by simp only [rm_X5_join_, rm_X5_rootOf]; omega, by simp only [rm_X5_join_, rm_X5_rootOf]; omega⟩ ⟨Nat.zero_le _, Nat.zero_le _⟩ hl.1 (Nat.le_of_ble_eq_true rfl) dX5_join_13 (fun H locs hH hS => ?_)
      refine lv_istore (lv' := [(4, .int v4), (0, .ref a), (1, .int i1), (2, .int i2), (3, .int i3)]) hx hb dX5_join_16 hl (by decide) rfl (fun ls hl => ?_)
      refine lv_aload_n hx hb dX5_join_18 rfl (lv_at hl 1 rfl) ?_
      refine lv_iload_n hx hb dX5_join_19 rfl (lv_at hl 3 rfl) ?_
      obtain ⟨v6, S5, e_S5, hm⟩ := m_call_of hm
      refine n_cVi X hH hS (k := 5) (c_X5_rootOf (a := a) hT hk_a e_S5) mw_X5_rootOf in_4_35 hk_a (by decide) rfl rfl rfl ⟨rfl, rfl⟩ ⟨by simp only [rm_X5_join_, rm_X5_rootOf]; omega, by simp only [rm_X5_join_, rm_X5_rootOf]; omega⟩ ⟨Nat.zero_le _, Nat.zero_le _⟩ hl.1 (Nat.le_of_ble_eq_true rfl) dX5_join_20 (fun H locs hH hS => ?_)
      refine lv_istore (lv' := [(5, .int v6), (4, .int v4), (0, .ref a), (1, .int i1), (2, .int i2), (3, .int i3)]) hx hb dX5_join_23 hl (by decide) rfl (fun ls hl => ?_)
      refine lv_iload hx hb dX5_join_25 (lv_at hl 1 rfl) ?_
      refine lv_iload hx hb dX5_join_27 (lv_at hl 0 rfl) ?_
      refine lv_icmp_eq (tgt := 38) hx hb dX5_join_29 (by decide) (fun c7 => ?_) (fun c7 => ?_)
      · have hm := m_ite_t hm c7
        exact k_X5_join_38 (F := F) (a := a) X hr hT rF hrF hF hk_a   S5 _ _ _ hH hS (lv_sub hl [] rfl) hm
      · have hm := m_ite_f hm c7
        refine lv_iload_n hx hb dX5_join_32 rfl (lv_at hl 5 rfl) ?_
        refine lv_bipush (v := (25 : Int32)) hx hb dX5_join_33 (by decide) ?_
        refine lv_icmp_le (tgt := 39) hx hb dX5_join_35 (by decide) (fun c8 => ?_) (fun c8 => ?_)
        · have hm := m_ite_t hm c8
          refine lv_aload_n hx hb dX5_join_39 rfl (lv_at hl 2 rfl) ?_
          refine r_getp X hH (k := 5) (a := a) (j := 0) (b := (a + 1)) (A := 1) (B := 0) hk_a (by decide) rfl m_wi5 (by decide) in_2_143 rfl rfl rfl dX5_join_40 ?_
          refine lv_iload hx hb dX5_join_43 (lv_at hl 0 rfl) ?_
          refine lv_iload hx hb dX5_join_45 (lv_at hl 1 rfl) ?_
          obtain ⟨S9, h_S9, e_S9, hm⟩ := n_sti hm
          refine n_iast X hH hS (n := 183) (m_lay_at hT hk_a (by decide) (i := 1) rfl) h_S9 e_S9 dX5_join_47 (fun H locs hH hS => ?_)
          refine lv_aload_n hx hb dX5_join_48 rfl (lv_at hl 2 rfl) ?_
          refine r_getp X hH (k := 5) (a := a) (j := 1) (b := (a + 2)) (A := 2) (B := 0) hk_a (by decide) rfl m_wi5 (by decide) in_2_144 rfl rfl rfl dX5_join_49 ?_
          refine lv_iload hx hb dX5_join_52 (lv_at hl 0 rfl) ?_
          obtain ⟨v10, h_v10, e_v10, hm⟩ := n_ldi hm
          refine n_iald X hH (n := 183) (m_lay_at hT hk_a (by decide) (i := 2) rfl) h_v10 e_v10 dX5_join_54 ?_
          refine lv_istore (lv' := [(6, .int v10), (5, .int v6), (4, .int v4), (0, .ref a), (1, .int i1), (2, .int i2), (3, .int i3)]) hx hb dX5_join_55 hl (by decide) rfl (fun ls hl => ?_)
          refine lv_aload_n hx hb dX5_join_57 rfl (lv_at hl 3 rfl) ?_
          refine r_getp X hH (k := 5) (a := a) (j := 2) (b := (a + 3)) (A := 3) (B := 0) hk_a (by decide) rfl m_wi5 (by decide) in_2_145 rfl rfl rfl dX5_join_58 ?_
          refine lv_iload hx hb dX5_join_61 (lv_at hl 1 rfl) ?_
          obtain ⟨v11, h_v11, e_v11, hm⟩ := n_ldi hm
          refine n_iald X hH (n := 183) (m_lay_at hT hk_a (by decide) (i := 3) rfl) h_v11 e_v11 dX5_join_63 ?_
          refine lv_istore (lv' := [(7, .int v11), (6, .int v10), (5, .int v6), (4, .int v4), (0, .ref a), (1, .int i1), (2, .int i2), (3, .int i3)]) hx hb dX5_join_64 hl (by decide) rfl (fun ls hl => ?_)
          refine lv_aload_n hx hb dX5_join_66 rfl (lv_at hl 4 rfl) ?_
          refine r_getp X hH (k := 5) (a := a) (j := 1) (b := (a + 2)) (A := 2) (B := 0) hk_a (by decide) rfl m_wi5 (by decide) in_2_144 rfl rfl rfl dX5_join_67 ?_
          refine lv_iload hx hb dX5_join_70 (lv_at hl 3 rfl) ?_
          obtain ⟨v12, h_v12, e_v12, hm⟩ := n_ldi hm
          refine n_iald X hH (n := 183) (m_lay_at hT hk_a (by decide) (i := 2) rfl) h_v12 e_v12 dX5_join_72 ?_
          refine lv_iconst (v := (-1 : Int32)) hx hb dX5_join_73 (by decide) ?_
          refine lv_icmp_ne (tgt := 98) hx hb dX5_join_74 (by decide) (fun c13 => ?_) (fun c13 => ?_)
          · have hm := m_ite_f hm c13
            refine lv_iload hx hb dX5_join_98 (lv_at hl 1 rfl) ?_
            refine lv_iconst (v := (-1 : Int32)) hx hb dX5_join_100 (by decide) ?_
            refine lv_icmp_eq (tgt := 140) hx hb dX5_join_101 (by decide) (fun c14 => ?_) (fun c14 => ?_)
            · have hm := m_ite_t hm c14
              exact k_X5_join_140 (F := F) (a := a) X hr hT rF hrF hF hk_a   S9 _ _ _ hH hS (lv_sub hl [] rfl) hm
            · have hm := m_ite_f hm c14
              refine lv_aload_n hx hb dX5_join_104 rfl (lv_at hl 4 rfl) ?_
              refine r_getp X hH (k := 5) (a := a) (j := 2) (b := (a + 3)) (A := 3) (B := 0) hk_a (by decide) rfl m_wi5 (by decide) in_2_145 rfl rfl rfl dX5_join_105 ?_
              refine lv_iload hx hb dX5_join_108 (lv_at hl 3 rfl) ?_
              obtain ⟨v15, h_v15, e_v15, hm⟩ := n_ldi hm
              refine n_iald X hH (n := 183) (m_lay_at hT hk_a (by decide) (i := 3) rfl) h_v15 e_v15 dX5_join_110 ?_
              refine lv_istore (lv' := [(8, .int v15), (7, .int v11), (6, .int v10), (5, .int v6), (4, .int v4), (0, .ref a), (1, .int i1), (2, .int i2), (3, .int i3)]) hx hb dX5_join_111 hl (by decide) rfl (fun ls hl => ?_)
              refine lv_aload_n hx hb dX5_join_113 rfl (lv_at hl 5 rfl) ?_
              refine lv_aload_n hx hb dX5_join_114 rfl (lv_at hl 5 rfl) ?_
              refine r_getp X hH (k := 5) (a := a) (j := 1) (b := (a + 2)) (A := 2) (B := 0) hk_a (by decide) rfl m_wi5 (by decide) in_2_144 rfl rfl rfl dX5_join_115 ?_
              refine lv_iload hx hb dX5_join_118 (lv_at hl 4 rfl) ?_
              obtain ⟨v16, h_v16, e_v16, hm⟩ := n_ldi hm
              refine n_iald X hH (n := 183) (m_lay_at hT hk_a (by decide) (i := 2) rfl) h_v16 e_v16 dX5_join_120 ?_
              refine lv_iload hx hb dX5_join_121 (lv_at hl 2 rfl) ?_
              refine lv_iload_n hx hb dX5_join_123 rfl (lv_at hl 8 rfl) ?_
              refine lv_iconst (v := (1 : Int32)) hx hb dX5_join_124 (by decide) ?_
              refine lv_iadd hx hb dX5_join_125 ?_
              obtain ⟨S17, e_S17, hm⟩ := m_cal0_of hm
              refine r_cVv X hH hS (k := 5) (hF a S9 v16 v10 (i3 + (1 : Int32)) _ hk_a e_S17) mw_X5_join in_4_31 hk_a (by decide) rfl rfl rfl hrF ⟨by simp only [rm_X5_join_]; omega, by simp only [rm_X5_join_]; omega⟩ ⟨Nat.zero_le _, Nat.zero_le _⟩ hl.1 (Nat.le_of_ble_eq_true rfl) dX5_join_126 (fun H locs hH hS => ?_)
              refine lv_aload_n hx hb dX5_join_129 rfl (lv_at hl 5 rfl) ?_
              refine lv_iload hx hb dX5_join_130 (lv_at hl 0 rfl) ?_
              refine lv_iload hx hb dX5_join_132 (lv_at hl 1 rfl) ?_
              refine lv_iload_n hx hb dX5_join_134 rfl (lv_at hl 8 rfl) ?_
              refine lv_iconst (v := (1 : Int32)) hx hb dX5_join_135 (by decide) ?_
              refine lv_iadd hx hb dX5_join_136 ?_
              obtain ⟨S18, e_S18, hm⟩ := m_cal0_of hm
              refine r_cVv X hH hS (k := 5) (hF a S17 v15 v11 (i3 + (1 : Int32)) _ hk_a e_S18) mw_X5_join in_4_31 hk_a (by decide) rfl rfl rfl hrF ⟨by simp only [rm_X5_join_]; omega, by simp only [rm_X5_join_]; omega⟩ ⟨Nat.zero_le _, Nat.zero_le _⟩ hl.1 (Nat.le_of_ble_eq_true rfl) dX5_join_137 (fun H locs hH hS => ?_)
              exact k_X5_join_140 (F := F) (a := a) X hr hT rF hrF hF hk_a   S18 _ _ _ hH hS (lv_sub hl [] rfl) hm
          · have hm := m_ite_t hm c13
            refine lv_aload_n hx hb dX5_join_77 rfl (lv_at hl 4 rfl) ?_
            refine r_getp X hH (k := 5) (a := a) (j := 1) (b := (a + 2)) (A := 2) (B := 0) hk_a (by decide) rfl m_wi5 (by decide) in_2_144 rfl rfl rfl dX5_join_78 ?_
            refine lv_iload hx hb dX5_join_81 (lv_at hl 3 rfl) ?_
            refine lv_iload hx hb dX5_join_83 (lv_at hl 1 rfl) ?_
            obtain ⟨S19, h_S19, e_S19, hm⟩ := n_sti hm
            refine n_iast X hH hS (n := 183) (m_lay_at hT hk_a (by decide) (i := 2) rfl) h_S19 e_S19 dX5_join_85 (fun H locs hH hS => ?_)
            refine lv_aload_n hx hb dX5_join_86 rfl (lv_at hl 4 rfl) ?_
            refine r_getp X hH (k := 5) (a := a) (j := 2) (b := (a + 3)) (A := 3) (B := 0) hk_a (by decide) rfl m_wi5 (by decide) in_2_145 rfl rfl rfl dX5_join_87 ?_
            refine lv_iload hx hb dX5_join_90 (lv_at hl 3 rfl) ?_
            refine lv_iload hx hb dX5_join_92 (lv_at hl 0 rfl) ?_
            obtain ⟨S20, h_S20, e_S20, hm⟩ := n_sti hm
            refine n_iast X hH hS (n := 183) (m_lay_at hT hk_a (by decide) (i := 3) rfl) h_S20 e_S20 dX5_join_94 (fun H locs hH hS => ?_)
            refine lv_goto (tgt := 140) hx hb dX5_join_95 (by decide) ?_
            exact k_X5_join_140 (F := F) (a := a) X hr hT rF hrF hF hk_a   S20 _ _ _ hH hS (lv_sub hl [] rfl) hm
        · have hm := m_ite_f hm c8
          exact k_X5_join_38 (F := F) (a := a) X hr hT rF hrF hF hk_a   S5 _ _ _ hH hS (lv_sub hl [] rfl) hm
    · have hm := m_ite_t hm c2
      exact k_X5_join_10 (F := F) (a := a) X hr hT rF hrF hF hk_a   S _ _ _ hH hS (lv_sub hl [] rfl) hm
def f_X5_join : Nat → Nat → m_M → Int32 → Int32 → Int32 → Option m_M
  | 0, _, _, _, _, _ => none
  | d + 1, a, S, i1, i2, i3 => g_X5_join (f_X5_join d) a S i1 i2 i3
def rm_X5_join : Nat → Room
  | 0 => { frames := 0, cells := 0, slots := 0, locals := 0 }
  | d + 1 => rm_X5_join_ (rm_X5_join d)
theorem rd_X5_join (d : Nat) : (rm_X5_join d).cells = 0 ∧ (rm_X5_join d).slots = 0 := by cases d <;> exact ⟨rfl, rfl⟩
theorem c_X5_join {l : Launch} {G : m_G} {nx : Nat} {κ : Nat → Nat} (d : Nat) (hT : m_Str κ) : ∀ (a : Nat) (S : m_M) (i1 : Int32) (i2 : Int32) (i3 : Int32) (res : m_M), κ a = 6 → f_X5_join d a S i1 i2 i3 = some res → m_Cv l yX5_join cX5_join 9 (rm_X5_join d) G nx κ [.ref a, .int i1, .int i2, .int i3] S res := by
  induction d with
  | zero => intro a S i1 i2 i3 res hk_a hm; have hm : (none : Option m_M) = some res := hm; cases hm
  | succ d ih => intro a S i1 i2 i3 res hk_a hm; exact cg_X5_join (F := f_X5_join d) (rF := rm_X5_join d) (rd_X5_join d) ih hT hk_a hm
def rm_X5_rootWithRegion : Room := { frames := 1, cells := 0, slots := 0, locals := 23 }
def b_X5_rootWithRegion_60 (a : Nat)  (S : m_M) (l2 : Int32) : Option (Int32 × m_M) :=
    some (l2, S)
set_option maxHeartbeats 4000000 in
set_option maxRecDepth 100000 in
theorem k_X5_rootWithRegion_60 {p : Program} {l : Launch} {e : Env} {s : State} {m : MethodId} {args : Array Value} {below : List Frame} {meth : Method} {c : Code} {G : m_G} {nx : Nat} {κ : Nat → Nat} {res : (Int32 × m_M)} {a : Nat} (X : m_Cx p s m args meth c cX5_rootWithRegion 3 RX5 G) (hr : meth.sig.returnType = (some .int)) (hT : m_Str κ) (hk_a : κ a = 6)  : ∀ (S : m_M) (l2 : Int32) (H : Heap) (locs : List Loc) (ls : Array Slot), m_H G nx κ S H → m_S G s H locs → lv_has ls 3 [(2, .int l2)] → b_X5_rootWithRegion_60 a S l2 = some res → W p l e rm_X5_rootWithRegion s m args below meth c H locs 0 0 (m_Qi below args s G nx κ res) (F0 m 60 ls []) := by
  have hx := X.1.1
  have hb := X.1.2.1
  intro S l2 H locs ls hH hS hl hm
  rw [b_X5_rootWithRegion_60] at hm
  refine lv_iload_n hx hb dX5_rootWithRegion_60 rfl (lv_at hl 0 rfl) ?_
  exact r_iret X hr hH hS hm dX5_rootWithRegion_61
def f_X5_rootWithRegion (a : Nat) (S : m_M) (i1 : Int32) : Option (Int32 × m_M) :=
    m_call (f_X5_rootOf a S i1) fun v2 S1 =>
    (m_ldi S1 (a + 2) 183 v2).bind fun v3 =>
    if v3 = (-1 : Int32) then (
    if (183 : Int32) < ((m_ri S1 a 4) + (2 : Int32)) then (
    b_X5_rootWithRegion_60 a S1 v2) else (
    (m_sti S1 (a + 2) 183 v2 (m_ri S1 a 4)).bind fun S6 =>
    (m_sti S6 (a + 3) 183 v2 ((m_ri S6 a 4) + (1 : Int32))).bind fun S7 =>
    m_let (m_si S7 a 4 ((m_ri S7 a 4) + (2 : Int32))) fun S8 =>
    b_X5_rootWithRegion_60 a S8 v2)) else (
    b_X5_rootWithRegion_60 a S1 v2)
set_option maxHeartbeats 4000000 in
set_option maxRecDepth 100000 in
theorem c_X5_rootWithRegion {l : Launch} {G : m_G} {nx : Nat} {κ : Nat → Nat} {a : Nat} {S : m_M} {i1 : Int32} {res : (Int32 × m_M)} (hT : m_Str κ) (hk_a : κ a = 6) (hm : f_X5_rootWithRegion a S i1 = some res) : m_Ci l yX5_rootWithRegion cX5_rootWithRegion 3 (some .int) rm_X5_rootWithRegion G nx κ [.ref a, .int i1] S res := by
  refine m_Ci.of (by decide) (Nat.le_of_ble_eq_true rfl) ?_
  intro p e s m args below meth c ls X hr hH hl
  have hx := X.1.1
  have hb := X.1.2.1
  have hS : m_S G s s.heap [] := va_S.rf
  have hl : lv_has ls 3 [(0, .ref a), (1, .int i1)] := hl
  rw [f_X5_rootWithRegion] at hm
  refine lv_aload_n hx hb dX5_rootWithRegion_0 rfl (lv_at hl 0 rfl) ?_
  refine lv_iload_n hx hb dX5_rootWithRegion_1 rfl (lv_at hl 1 rfl) ?_
  obtain ⟨v2, S1, e_S1, hm⟩ := m_call_of hm
  refine n_cVi X hH hS (k := 5) (c_X5_rootOf (a := a) hT hk_a e_S1) mw_X5_rootOf in_4_35 hk_a (by decide) rfl rfl rfl ⟨rfl, rfl⟩ ⟨Nat.le_of_ble_eq_true rfl, Nat.le_of_ble_eq_true rfl⟩ ⟨Nat.zero_le _, Nat.zero_le _⟩ hl.1 (Nat.le_of_ble_eq_true rfl) dX5_rootWithRegion_2 (fun H locs hH hS => ?_)
  refine lv_istore_n (lv' := [(2, .int v2), (0, .ref a), (1, .int i1)]) hx hb dX5_rootWithRegion_5 rfl hl (by decide) rfl (fun ls hl => ?_)
  refine lv_aload_n hx hb dX5_rootWithRegion_6 rfl (lv_at hl 1 rfl) ?_
  refine r_getp X hH (k := 5) (a := a) (j := 1) (b := (a + 2)) (A := 2) (B := 0) hk_a (by decide) rfl m_wi5 (by decide) in_2_144 rfl rfl rfl dX5_rootWithRegion_7 ?_
  refine lv_iload_n hx hb dX5_rootWithRegion_10 rfl (lv_at hl 0 rfl) ?_
  obtain ⟨v3, h_v3, e_v3, hm⟩ := n_ldi hm
  refine n_iald X hH (n := 183) (m_lay_at hT hk_a (by decide) (i := 2) rfl) h_v3 e_v3 dX5_rootWithRegion_11 ?_
  refine lv_iconst (v := (-1 : Int32)) hx hb dX5_rootWithRegion_12 (by decide) ?_
  refine lv_icmp_ne (tgt := 60) hx hb dX5_rootWithRegion_13 (by decide) (fun c4 => ?_) (fun c4 => ?_)
  · have hm := m_ite_f hm c4
    exact k_X5_rootWithRegion_60 (a := a) X hr hT hk_a   S1 v2 _ _ _ hH hS (lv_sub hl [0] rfl) hm
  · have hm := m_ite_t hm c4
    refine lv_aload_n hx hb dX5_rootWithRegion_16 rfl (lv_at hl 1 rfl) ?_
    refine r_geti X hH (k := 5) (a := a) (j := 4) hk_a (by decide) rfl m_wi5 (by decide) in_2_147 rfl rfl dX5_rootWithRegion_17 ?_
    refine lv_iconst (v := (2 : Int32)) hx hb dX5_rootWithRegion_20 (by decide) ?_
    refine lv_iadd hx hb dX5_rootWithRegion_21 ?_
    refine lv_sipush (v := (183 : Int32)) hx hb dX5_rootWithRegion_22 (by decide) ?_
    refine lv_icmp_gt (tgt := 60) hx hb dX5_rootWithRegion_25 (by decide) (fun c5 => ?_) (fun c5 => ?_)
    · have hm := m_ite_t hm c5
      exact k_X5_rootWithRegion_60 (a := a) X hr hT hk_a   S1 v2 _ _ _ hH hS (lv_sub hl [0] rfl) hm
    · have hm := m_ite_f hm c5
      refine lv_aload_n hx hb dX5_rootWithRegion_28 rfl (lv_at hl 1 rfl) ?_
      refine r_getp X hH (k := 5) (a := a) (j := 1) (b := (a + 2)) (A := 2) (B := 0) hk_a (by decide) rfl m_wi5 (by decide) in_2_144 rfl rfl rfl dX5_rootWithRegion_29 ?_
      refine lv_iload_n hx hb dX5_rootWithRegion_32 rfl (lv_at hl 0 rfl) ?_
      refine lv_aload_n hx hb dX5_rootWithRegion_33 rfl (lv_at hl 1 rfl) ?_
      refine r_geti X hH (k := 5) (a := a) (j := 4) hk_a (by decide) rfl m_wi5 (by decide) in_2_147 rfl rfl dX5_rootWithRegion_34 ?_
      obtain ⟨S6, h_S6, e_S6, hm⟩ := n_sti hm
      refine n_iast X hH hS (n := 183) (m_lay_at hT hk_a (by decide) (i := 2) rfl) h_S6 e_S6 dX5_rootWithRegion_37 (fun H locs hH hS => ?_)
      refine lv_aload_n hx hb dX5_rootWithRegion_38 rfl (lv_at hl 1 rfl) ?_
      refine r_getp X hH (k := 5) (a := a) (j := 2) (b := (a + 3)) (A := 3) (B := 0) hk_a (by decide) rfl m_wi5 (by decide) in_2_145 rfl rfl rfl dX5_rootWithRegion_39 ?_
      refine lv_iload_n hx hb dX5_rootWithRegion_42 rfl (lv_at hl 0 rfl) ?_
      refine lv_aload_n hx hb dX5_rootWithRegion_43 rfl (lv_at hl 1 rfl) ?_
      refine r_geti X hH (k := 5) (a := a) (j := 4) hk_a (by decide) rfl m_wi5 (by decide) in_2_147 rfl rfl dX5_rootWithRegion_44 ?_
      refine lv_iconst (v := (1 : Int32)) hx hb dX5_rootWithRegion_47 (by decide) ?_
      refine lv_iadd hx hb dX5_rootWithRegion_48 ?_
      obtain ⟨S7, h_S7, e_S7, hm⟩ := n_sti hm
      refine n_iast X hH hS (n := 183) (m_lay_at hT hk_a (by decide) (i := 3) rfl) h_S7 e_S7 dX5_rootWithRegion_49 (fun H locs hH hS => ?_)
      refine lv_aload_n hx hb dX5_rootWithRegion_50 rfl (lv_at hl 1 rfl) ?_
      refine lv_dup hx hb dX5_rootWithRegion_51 rfl ?_
      refine r_geti X hH (k := 5) (a := a) (j := 4) hk_a (by decide) rfl m_wi5 (by decide) in_2_147 rfl rfl dX5_rootWithRegion_52 ?_
      refine lv_iconst (v := (2 : Int32)) hx hb dX5_rootWithRegion_55 (by decide) ?_
      refine lv_iadd hx hb dX5_rootWithRegion_56 ?_
      obtain ⟨S8, e_S8, hm⟩ := m_let_of hm
      refine n_puti X hH hS tyX5 (k := 5) (a := a) (j := 4) hk_a (by decide) rfl m_wi5 tyX5_ok nmX5 (by decide) in_2_147 rfl rfl rfl ⟨rfl, rfl⟩ e_S8 dX5_rootWithRegion_57 (fun H locs hH hS => ?_)
      exact k_X5_rootWithRegion_60 (a := a) X hr hT hk_a   S8 v2 _ _ _ hH hS (lv_sub hl [0] rfl) hm
def rm_X5_leftOf : Room := { frames := 2, cells := 0, slots := 0, locals := 45 }
def f_X5_leftOf (a : Nat) (S : m_M) (i1 : Int32) : Option (Int32 × m_M) :=
    m_call (f_X5_rootWithRegion a S i1) fun v2 S1 =>
    (m_ldi S1 (a + 2) 183 v2).bind fun v3 =>
    some (v3, S1)
set_option maxHeartbeats 4000000 in
set_option maxRecDepth 100000 in
theorem c_X5_leftOf {l : Launch} {G : m_G} {nx : Nat} {κ : Nat → Nat} {a : Nat} {S : m_M} {i1 : Int32} {res : (Int32 × m_M)} (hT : m_Str κ) (hk_a : κ a = 6) (hm : f_X5_leftOf a S i1 = some res) : m_Ci l yX5_leftOf cX5_leftOf 2 (some .int) rm_X5_leftOf G nx κ [.ref a, .int i1] S res := by
  refine m_Ci.of (by decide) (Nat.le_of_ble_eq_true rfl) ?_
  intro p e s m args below meth c ls X hr hH hl
  have hx := X.1.1
  have hb := X.1.2.1
  have hS : m_S G s s.heap [] := va_S.rf
  have hl : lv_has ls 2 [(0, .ref a), (1, .int i1)] := hl
  rw [f_X5_leftOf] at hm
  refine lv_aload_n hx hb dX5_leftOf_0 rfl (lv_at hl 0 rfl) ?_
  refine r_getp X hH (k := 5) (a := a) (j := 1) (b := (a + 2)) (A := 2) (B := 0) hk_a (by decide) rfl m_wi5 (by decide) in_2_144 rfl rfl rfl dX5_leftOf_1 ?_
  refine lv_aload_n hx hb dX5_leftOf_4 rfl (lv_at hl 0 rfl) ?_
  refine lv_iload_n hx hb dX5_leftOf_5 rfl (lv_at hl 1 rfl) ?_
  obtain ⟨v2, S1, e_S1, hm⟩ := m_call_of hm
  refine n_cVi X hH hS (k := 5) (c_X5_rootWithRegion (a := a) hT hk_a e_S1) mw_X5_rootWithRegion in_4_43 hk_a (by decide) rfl rfl rfl ⟨rfl, rfl⟩ ⟨Nat.le_of_ble_eq_true rfl, Nat.le_of_ble_eq_true rfl⟩ ⟨Nat.zero_le _, Nat.zero_le _⟩ hl.1 (Nat.le_of_ble_eq_true rfl) dX5_leftOf_6 (fun H locs hH hS => ?_)
  obtain ⟨v3, h_v3, e_v3, hm⟩ := n_ldi hm
  refine n_iald X hH (n := 183) (m_lay_at hT hk_a (by decide) (i := 2) rfl) h_v3 e_v3 dX5_leftOf_9 ?_
  exact r_iret X hr hH hS hm dX5_leftOf_10
def rm_X5_rightOf : Room := { frames := 2, cells := 0, slots := 0, locals := 45 }
def f_X5_rightOf (a : Nat) (S : m_M) (i1 : Int32) : Option (Int32 × m_M) :=
    m_call (f_X5_rootWithRegion a S i1) fun v2 S1 =>
    (m_ldi S1 (a + 3) 183 v2).bind fun v3 =>
    some (v3, S1)
set_option maxHeartbeats 4000000 in
set_option maxRecDepth 100000 in
theorem c_X5_rightOf {l : Launch} {G : m_G} {nx : Nat} {κ : Nat → Nat} {a : Nat} {S : m_M} {i1 : Int32} {res : (Int32 × m_M)} (hT : m_Str κ) (hk_a : κ a = 6) (hm : f_X5_rightOf a S i1 = some res) : m_Ci l yX5_rightOf cX5_rightOf 2 (some .int) rm_X5_rightOf G nx κ [.ref a, .int i1] S res := by
  refine m_Ci.of (by decide) (Nat.le_of_ble_eq_true rfl) ?_
  intro p e s m args below meth c ls X hr hH hl
  have hx := X.1.1
  have hb := X.1.2.1
  have hS : m_S G s s.heap [] := va_S.rf
  have hl : lv_has ls 2 [(0, .ref a), (1, .int i1)] := hl
  rw [f_X5_rightOf] at hm
  refine lv_aload_n hx hb dX5_rightOf_0 rfl (lv_at hl 0 rfl) ?_
  refine r_getp X hH (k := 5) (a := a) (j := 2) (b := (a + 3)) (A := 3) (B := 0) hk_a (by decide) rfl m_wi5 (by decide) in_2_145 rfl rfl rfl dX5_rightOf_1 ?_
  refine lv_aload_n hx hb dX5_rightOf_4 rfl (lv_at hl 0 rfl) ?_
  refine lv_iload_n hx hb dX5_rightOf_5 rfl (lv_at hl 1 rfl) ?_
  obtain ⟨v2, S1, e_S1, hm⟩ := m_call_of hm
  refine n_cVi X hH hS (k := 5) (c_X5_rootWithRegion (a := a) hT hk_a e_S1) mw_X5_rootWithRegion in_4_43 hk_a (by decide) rfl rfl rfl ⟨rfl, rfl⟩ ⟨Nat.le_of_ble_eq_true rfl, Nat.le_of_ble_eq_true rfl⟩ ⟨Nat.zero_le _, Nat.zero_le _⟩ hl.1 (Nat.le_of_ble_eq_true rfl) dX5_rightOf_6 (fun H locs hH hS => ?_)
  obtain ⟨v3, h_v3, e_v3, hm⟩ := n_ldi hm
  refine n_iald X hH (n := 183) (m_lay_at hT hk_a (by decide) (i := 3) rfl) h_v3 e_v3 dX5_rightOf_9 ?_
  exact r_iret X hr hH hS hm dX5_rightOf_10
def rm_X5_joinCall : Room := { frames := 31, cells := 0, slots := 0, locals := 868 }
def b_X5_joinCall_11 (a o1 : Nat)  : Nat → m_M → Int32 → Int32 → Int32 → Int32 → Int32 → Option m_M
  | 0, _, _, _, _, _, _ => none
  | n + 1, S, l2, l3, l4, l5, l6 =>
    (m_ldi S (o1 + 2) 5 l5).bind fun v1 =>
    if v1 ≤ l6 then (
    m_call (f_X3_resultOf o1 S l5) fun v4 S3 =>
    m_call (f_X5_nodeOf S3 l5 v4) fun v6 S5 =>
    m_cal0 (f_X5_join 30 a S5 v6 l4 (0 : Int32)) fun S7 =>
    some S7) else (
    m_call (f_X5_nodeOf S l5 l6) fun v9 S8 =>
    m_call (f_X5_operandNode o1 S8 l2 l3 l6) fun v11 S10 =>
    m_cal0 (f_X5_join 30 a S10 v9 v11 (0 : Int32)) fun S12 =>
    m_let (l6 + (1 : Int32)) fun v13 =>
    b_X5_joinCall_11 a o1 n S12 l2 l3 l4 l5 v13)
set_option maxHeartbeats 4000000 in
set_option maxRecDepth 100000 in
theorem k_X5_joinCall_11 {p : Program} {l : Launch} {e : Env} {s : State} {m : MethodId} {args : Array Value} {below : List Frame} {meth : Method} {c : Code} {G : m_G} {nx : Nat} {κ : Nat → Nat} {res : m_M} {a o1 : Nat} (X : m_Cx p s m args meth c cX5_joinCall 7 RX5 G) (hr : meth.sig.returnType = none) (hT : m_Str κ) (hk_a : κ a = 6) (hk_o1 : κ o1 = 4)  (n : Nat) : ∀ (S : m_M) (l2 : Int32) (l3 : Int32) (l4 : Int32) (l5 : Int32) (l6 : Int32) (H : Heap) (locs : List Loc) (ls : Array Slot), m_H G nx κ S H → m_S G s H locs → lv_has ls 7 [(0, .ref a), (1, .ref o1), (2, .int l2), (3, .int l3), (4, .int l4), (5, .int l5), (6, .int l6)] → b_X5_joinCall_11 a o1 n S l2 l3 l4 l5 l6 = some res → W p l e rm_X5_joinCall s m args below meth c H locs 0 0 (m_Qv below args s G nx κ res) (F0 m 11 ls []) := by
  have hx := X.1.1
  have hb := X.1.2.1
  induction n with
  | zero => intro S l2 l3 l4 l5 l6 H locs ls hH hS hl hm; have hm : (none : Option m_M) = some res := hm; cases hm
  | succ n ih =>
    intro S l2 l3 l4 l5 l6 H locs ls hH hS hl hm
    rw [b_X5_joinCall_11] at hm
    refine lv_iload hx hb dX5_joinCall_11 (lv_at hl 6 rfl) ?_
    refine lv_aload_n hx hb dX5_joinCall_13 rfl (lv_at hl 1 rfl) ?_
    refine r_getp X hH (k := 3) (a := o1) (j := 3) (b := (o1 + 2)) (A := 2) (B := 0) hk_o1 (by decide) rfl m_wi3 (by decide) in_1_136 rfl rfl rfl dX5_joinCall_14 ?_
    refine lv_iload hx hb dX5_joinCall_17 (lv_at hl 5 rfl) ?_
    obtain ⟨v1, h_v1, e_v1, hm⟩ := n_ldi hm
    refine n_iald X hH (n := 5) (m_lay_at hT hk_o1 (by decide) (i := 2) rfl) h_v1 e_v1 dX5_joinCall_19 ?_
    refine lv_icmp_ge (tgt := 49) hx hb dX5_joinCall_20 (by decide) (fun c2 => ?_) (fun c2 => ?_)
    · have hm := m_ite_t hm c2
      refine lv_aload_n hx hb dX5_joinCall_49 rfl (lv_at hl 0 rfl) ?_
      refine lv_iload hx hb dX5_joinCall_50 (lv_at hl 5 rfl) ?_
      refine lv_aload_n hx hb dX5_joinCall_52 rfl (lv_at hl 1 rfl) ?_
      refine lv_iload hx hb dX5_joinCall_53 (lv_at hl 5 rfl) ?_
      obtain ⟨v4, S3, e_S3, hm⟩ := m_call_of hm
      refine n_cVi X hH hS (k := 3) (c_X3_resultOf (a := o1) hT hk_o1 e_S3) mw_X3_resultOf in_4_55 hk_o1 (by decide) rfl rfl rfl ⟨rfl, rfl⟩ ⟨Nat.le_of_ble_eq_true rfl, Nat.le_of_ble_eq_true rfl⟩ ⟨Nat.zero_le _, Nat.zero_le _⟩ hl.1 (Nat.le_of_ble_eq_true rfl) dX5_joinCall_55 (fun H locs hH hS => ?_)
      obtain ⟨v6, S5, e_S5, hm⟩ := m_call_of hm
      refine n_cSi X hH hS (c_X5_nodeOf  hT  e_S5) mw_X5_nodeOf in_4_21 rfl ⟨rfl, rfl⟩ ⟨Nat.le_of_ble_eq_true rfl, Nat.le_of_ble_eq_true rfl⟩ ⟨Nat.zero_le _, Nat.zero_le _⟩ hl.1 (Nat.le_of_ble_eq_true rfl) dX5_joinCall_58 (fun H locs hH hS => ?_)
      refine lv_iload hx hb dX5_joinCall_61 (lv_at hl 4 rfl) ?_
      refine lv_iconst (v := (0 : Int32)) hx hb dX5_joinCall_63 (by decide) ?_
      obtain ⟨S7, e_S7, hm⟩ := m_cal0_of hm
      refine r_cVv X hH hS (k := 5) (c_X5_join 30 hT a S5 v6 l4 (0 : Int32) _ hk_a e_S7) mw_X5_join in_4_31 hk_a (by decide) rfl rfl rfl (rd_X5_join 30) ⟨Nat.le_of_ble_eq_true rfl, Nat.le_of_ble_eq_true rfl⟩ ⟨Nat.zero_le _, Nat.zero_le _⟩ hl.1 (Nat.le_of_ble_eq_true rfl) dX5_joinCall_64 (fun H locs hH hS => ?_)
      exact r_vret X hr hH hS hm dX5_joinCall_67
    · have hm := m_ite_f hm c2
      refine lv_aload_n hx hb dX5_joinCall_23 rfl (lv_at hl 0 rfl) ?_
      refine lv_iload hx hb dX5_joinCall_24 (lv_at hl 5 rfl) ?_
      refine lv_iload hx hb dX5_joinCall_26 (lv_at hl 6 rfl) ?_
      obtain ⟨v9, S8, e_S8, hm⟩ := m_call_of hm
      refine n_cSi X hH hS (c_X5_nodeOf  hT  e_S8) mw_X5_nodeOf in_4_21 rfl ⟨rfl, rfl⟩ ⟨Nat.le_of_ble_eq_true rfl, Nat.le_of_ble_eq_true rfl⟩ ⟨Nat.zero_le _, Nat.zero_le _⟩ hl.1 (Nat.le_of_ble_eq_true rfl) dX5_joinCall_28 (fun H locs hH hS => ?_)
      refine lv_aload_n hx hb dX5_joinCall_31 rfl (lv_at hl 1 rfl) ?_
      refine lv_iload_n hx hb dX5_joinCall_32 rfl (lv_at hl 2 rfl) ?_
      refine lv_iload_n hx hb dX5_joinCall_33 rfl (lv_at hl 3 rfl) ?_
      refine lv_iload hx hb dX5_joinCall_34 (lv_at hl 6 rfl) ?_
      obtain ⟨v11, S10, e_S10, hm⟩ := m_call_of hm
      refine n_cSi X hH hS (c_X5_operandNode (o0 := o1) hT hk_o1 e_S10) mw_X5_operandNode in_4_24 rfl ⟨rfl, rfl⟩ ⟨Nat.le_of_ble_eq_true rfl, Nat.le_of_ble_eq_true rfl⟩ ⟨Nat.zero_le _, Nat.zero_le _⟩ hl.1 (Nat.le_of_ble_eq_true rfl) dX5_joinCall_36 (fun H locs hH hS => ?_)
      refine lv_iconst (v := (0 : Int32)) hx hb dX5_joinCall_39 (by decide) ?_
      obtain ⟨S12, e_S12, hm⟩ := m_cal0_of hm
      refine r_cVv X hH hS (k := 5) (c_X5_join 30 hT a S10 v9 v11 (0 : Int32) _ hk_a e_S12) mw_X5_join in_4_31 hk_a (by decide) rfl rfl rfl (rd_X5_join 30) ⟨Nat.le_of_ble_eq_true rfl, Nat.le_of_ble_eq_true rfl⟩ ⟨Nat.zero_le _, Nat.zero_le _⟩ hl.1 (Nat.le_of_ble_eq_true rfl) dX5_joinCall_40 (fun H locs hH hS => ?_)
      obtain ⟨v13, e_v13, hm⟩ := m_let_of hm
      refine lv_iinc (v := v13) (lv' := [(6, .int v13), (0, .ref a), (1, .ref o1), (2, .int l2), (3, .int l3), (4, .int l4), (5, .int l5)]) hx hb dX5_joinCall_43 hl (k := 6) rfl (by rw [← e_v13]; rfl) (by decide) rfl (fun ls hl => ?_)
      refine lv_goto (tgt := 11) hx hb dX5_joinCall_46 (by decide) ?_
      exact ih S12 l2 l3 l4 l5 v13 _ _ _ hH hS (lv_sub hl [1, 2, 3, 4, 5, 6, 0] rfl) hm
def f_X5_joinCall (a o1 : Nat) (S : m_M) (i2 : Int32) (i3 : Int32) (i4 : Int32) : Option m_M :=
    (m_ldi S (o1 + 6) 24 i3).bind fun v1 =>
    b_X5_joinCall_11 a o1 m_fu S i2 i3 i4 v1 (0 : Int32)
set_option maxHeartbeats 4000000 in
set_option maxRecDepth 100000 in
theorem c_X5_joinCall {l : Launch} {G : m_G} {nx : Nat} {κ : Nat → Nat} {a o1 : Nat} {S : m_M} {i2 : Int32} {i3 : Int32} {i4 : Int32} {res : m_M} (hT : m_Str κ) (hk_a : κ a = 6) (hk_o1 : κ o1 = 4) (hm : f_X5_joinCall a o1 S i2 i3 i4 = some res) : m_Cv l yX5_joinCall cX5_joinCall 7 rm_X5_joinCall G nx κ [.ref a, .ref o1, .int i2, .int i3, .int i4] S res := by
  refine m_Cv.of (by decide) (Nat.le_of_ble_eq_true rfl) ?_
  intro p e s m args below meth c ls X hr hH hl
  have hx := X.1.1
  have hb := X.1.2.1
  have hS : m_S G s s.heap [] := va_S.rf
  have hl : lv_has ls 7 [(0, .ref a), (1, .ref o1), (2, .int i2), (3, .int i3), (4, .int i4)] := hl
  rw [f_X5_joinCall] at hm
  refine lv_aload_n hx hb dX5_joinCall_0 rfl (lv_at hl 1 rfl) ?_
  refine r_getp X hH (k := 3) (a := o1) (j := 7) (b := (o1 + 6)) (A := 6) (B := 0) hk_o1 (by decide) rfl m_wi3 (by decide) in_1_155 rfl rfl rfl dX5_joinCall_1 ?_
  refine lv_iload_n hx hb dX5_joinCall_4 rfl (lv_at hl 3 rfl) ?_
  obtain ⟨v1, h_v1, e_v1, hm⟩ := n_ldi hm
  refine n_iald X hH (n := 24) (m_lay_at hT hk_o1 (by decide) (i := 6) rfl) h_v1 e_v1 dX5_joinCall_5 ?_
  refine lv_istore (lv' := [(5, .int v1), (0, .ref a), (1, .ref o1), (2, .int i2), (3, .int i3), (4, .int i4)]) hx hb dX5_joinCall_6 hl (by decide) rfl (fun ls hl => ?_)
  refine lv_iconst (v := (0 : Int32)) hx hb dX5_joinCall_8 (by decide) ?_
  refine lv_istore (lv' := [(6, .int (0 : Int32)), (5, .int v1), (0, .ref a), (1, .ref o1), (2, .int i2), (3, .int i3), (4, .int i4)]) hx hb dX5_joinCall_9 hl (by decide) rfl (fun ls hl => ?_)
  exact k_X5_joinCall_11 (a := a) (o1 := o1) X hr hT hk_a hk_o1  m_fu S i2 i3 i4 v1 (0 : Int32) _ _ _ hH hS (lv_sub hl [2, 3, 4, 5, 6, 1, 0] rfl) hm
def rm_X5_joinLine : Room := { frames := 32, cells := 0, slots := 0, locals := 894 }
def b_X5_joinLine_291 (a o1 : Nat)  (S : m_M)  : Option m_M :=
    some S
set_option maxHeartbeats 4000000 in
set_option maxRecDepth 100000 in
theorem k_X5_joinLine_291 {p : Program} {l : Launch} {e : Env} {s : State} {m : MethodId} {args : Array Value} {below : List Frame} {meth : Method} {c : Code} {G : m_G} {nx : Nat} {κ : Nat → Nat} {res : m_M} {a o1 : Nat} (X : m_Cx p s m args meth c cX5_joinLine 5 RX5 G) (hr : meth.sig.returnType = none) (hT : m_Str κ) (hk_a : κ a = 6) (hk_o1 : κ o1 = 4)  : ∀ (S : m_M)  (H : Heap) (locs : List Loc) (ls : Array Slot), m_H G nx κ S H → m_S G s H locs → lv_has ls 5 [] → b_X5_joinLine_291 a o1 S  = some res → W p l e rm_X5_joinLine s m args below meth c H locs 0 0 (m_Qv below args s G nx κ res) (F0 m 291 ls []) := by
  have hx := X.1.1
  have hb := X.1.2.1
  intro S H locs ls hH hS hl hm
  rw [b_X5_joinLine_291] at hm
  exact r_vret X hr hH hS hm dX5_joinLine_291
def f_X5_joinLine (a o1 : Nat) (S : m_M) (i2 : Int32) (i3 : Int32) : Option m_M :=
    m_call (f_X3_varOfLine o1 S i2 i3) fun v2 S1 =>
    m_call (f_X5_nodeOf S1 i2 v2) fun v4 S3 =>
    (m_ldi S3 (o1 + 5) 24 i3).bind fun v5 =>
    if v5 = (2 : Int32) then (
    m_call (f_X5_leftOf a S3 v4) fun v8 S7 =>
    m_call (f_X5_operandNode o1 S7 i2 i3 (0 : Int32)) fun v10 S9 =>
    m_cal0 (f_X5_join 30 a S9 v8 v10 (0 : Int32)) fun S11 =>
    m_call (f_X5_rightOf a S11 v4) fun v13 S12 =>
    m_call (f_X5_operandNode o1 S12 i2 i3 (1 : Int32)) fun v15 S14 =>
    m_cal0 (f_X5_join 30 a S14 v13 v15 (0 : Int32)) fun S16 =>
    b_X5_joinLine_291 a o1 S16) else (
    if v5 = (3 : Int32) then (
    m_call (f_X5_operandNode o1 S3 i2 i3 (0 : Int32)) fun v19 S18 =>
    m_call (f_X5_leftOf a S18 v19) fun v21 S20 =>
    m_cal0 (f_X5_join 30 a S20 v21 v4 (0 : Int32)) fun S22 =>
    b_X5_joinLine_291 a o1 S22) else (
    if v5 = (4 : Int32) then (
    m_call (f_X5_operandNode o1 S3 i2 i3 (0 : Int32)) fun v25 S24 =>
    m_call (f_X5_rightOf a S24 v25) fun v27 S26 =>
    m_cal0 (f_X5_join 30 a S26 v27 v4 (0 : Int32)) fun S28 =>
    b_X5_joinLine_291 a o1 S28) else (
    if v5 = (5 : Int32) then (
    b_X5_joinLine_291 a o1 S3) else (
    if v5 = (6 : Int32) then (
    b_X5_joinLine_291 a o1 S3) else (
    if v5 = (7 : Int32) then (
    m_call (f_X5_operandNode o1 S3 i2 i3 (1 : Int32)) fun v33 S32 =>
    m_cal0 (f_X5_join 30 a S32 v4 v33 (0 : Int32)) fun S34 =>
    m_call (f_X5_operandNode o1 S34 i2 i3 (2 : Int32)) fun v36 S35 =>
    m_cal0 (f_X5_join 30 a S35 v4 v36 (0 : Int32)) fun S37 =>
    b_X5_joinLine_291 a o1 S37) else (
    if v5 = (8 : Int32) then (
    m_cal0 (f_X5_joinCall a o1 S3 i2 i3 v4) fun S39 =>
    b_X5_joinLine_291 a o1 S39) else (
    if v5 = (9 : Int32) then (
    m_cal0 (f_X5_joinCall a o1 S3 i2 i3 v4) fun S41 =>
    m_call (f_X3_elseSlot o1 S41 i3) fun v43 S42 =>
    m_call (f_X5_operandNode o1 S42 i2 i3 v43) fun v45 S44 =>
    m_cal0 (f_X5_join 30 a S44 v4 v45 (0 : Int32)) fun S46 =>
    b_X5_joinLine_291 a o1 S46) else (
    if v5 = (10 : Int32) then (
    b_X5_joinLine_291 a o1 S3) else (
    if v5 = (11 : Int32) then (
    b_X5_joinLine_291 a o1 S3) else (
    if v5 = (12 : Int32) then (
    b_X5_joinLine_291 a o1 S3) else (
    if v5 = (13 : Int32) then (
    b_X5_joinLine_291 a o1 S3) else (
    if v5 = (14 : Int32) then (
    b_X5_joinLine_291 a o1 S3) else (
    if v5 = (15 : Int32) then (
    b_X5_joinLine_291 a o1 S3) else (
    if v5 = (16 : Int32) then (
    b_X5_joinLine_291 a o1 S3) else (
    if v5 = (17 : Int32) then (
    b_X5_joinLine_291 a o1 S3) else (
    if v5 = (18 : Int32) then (
    b_X5_joinLine_291 a o1 S3) else (
    if v5 = (19 : Int32) then (
    b_X5_joinLine_291 a o1 S3) else (
    if v5 = (20 : Int32) then (
    b_X5_joinLine_291 a o1 S3) else (
    if v5 = (21 : Int32) then (
    b_X5_joinLine_291 a o1 S3) else (
    if v5 = (22 : Int32) then (
    b_X5_joinLine_291 a o1 S3) else (
    if v5 = (23 : Int32) then (
    m_call (f_X5_operandNode o1 S3 i2 i3 (0 : Int32)) fun v62 S61 =>
    m_cal0 (f_X5_join 30 a S61 v4 v62 (0 : Int32)) fun S63 =>
    b_X5_joinLine_291 a o1 S63) else (
    b_X5_joinLine_291 a o1 S3))))))))))))))))))))))
set_option maxHeartbeats 4000000 in
set_option maxRecDepth 100000 in
theorem c_X5_joinLine {l : Launch} {G : m_G} {nx : Nat} {κ : Nat → Nat} {a o1 : Nat} {S : m_M} {i2 : Int32} {i3 : Int32} {res : m_M} (hT : m_Str κ) (hk_a : κ a = 6) (hk_o1 : κ o1 = 4) (hm : f_X5_joinLine a o1 S i2 i3 = some res) : m_Cv l yX5_joinLine cX5_joinLine 5 rm_X5_joinLine G nx κ [.ref a, .ref o1, .int i2, .int i3] S res := by
  refine m_Cv.of (by decide) (Nat.le_of_ble_eq_true rfl) ?_
  intro p e s m args below meth c ls X hr hH hl
  have hx := X.1.1
  have hb := X.1.2.1
  have hS : m_S G s s.heap [] := va_S.rf
  have hl : lv_has ls 5 [(0, .ref a), (1, .ref o1), (2, .int i2), (3, .int i3)] := hl
  rw [f_X5_joinLine] at hm
  refine lv_iload_n hx hb dX5_joinLine_0 rfl (lv_at hl 2 rfl) ?_
  refine lv_aload_n hx hb dX5_joinLine_1 rfl (lv_at hl 1 rfl) ?_
  refine lv_iload_n hx hb dX5_joinLine_2 rfl (lv_at hl 2 rfl) ?_
  refine lv_iload_n hx hb dX5_joinLine_3 rfl (lv_at hl 3 rfl) ?_
  obtain ⟨v2, S1, e_S1, hm⟩ := m_call_of hm
  refine n_cVi X hH hS (k := 3) (c_X3_varOfLine (a := o1) hT hk_o1 e_S1) mw_X3_varOfLine in_4_17 hk_o1 (by decide) rfl rfl rfl ⟨rfl, rfl⟩ ⟨Nat.le_of_ble_eq_true rfl, Nat.le_of_ble_eq_true rfl⟩ ⟨Nat.zero_le _, Nat.zero_le _⟩ hl.1 (Nat.le_of_ble_eq_true rfl) dX5_joinLine_4 (fun H locs hH hS => ?_)
  obtain ⟨v4, S3, e_S3, hm⟩ := m_call_of hm
  refine n_cSi X hH hS (c_X5_nodeOf  hT  e_S3) mw_X5_nodeOf in_4_21 rfl ⟨rfl, rfl⟩ ⟨Nat.le_of_ble_eq_true rfl, Nat.le_of_ble_eq_true rfl⟩ ⟨Nat.zero_le _, Nat.zero_le _⟩ hl.1 (Nat.le_of_ble_eq_true rfl) dX5_joinLine_7 (fun H locs hH hS => ?_)
  refine lv_istore (lv' := [(4, .int v4), (0, .ref a), (1, .ref o1), (2, .int i2), (3, .int i3)]) hx hb dX5_joinLine_10 hl (by decide) rfl (fun ls hl => ?_)
  refine lv_aload_n hx hb dX5_joinLine_12 rfl (lv_at hl 2 rfl) ?_
  refine r_getp X hH (k := 3) (a := o1) (j := 6) (b := (o1 + 5)) (A := 5) (B := 0) hk_o1 (by decide) rfl m_wi3 (by decide) in_1_150 rfl rfl rfl dX5_joinLine_13 ?_
  refine lv_iload_n hx hb dX5_joinLine_16 rfl (lv_at hl 4 rfl) ?_
  obtain ⟨v5, h_v5, e_v5, hm⟩ := n_ldi hm
  refine n_iald X hH (n := 24) (m_lay_at hT hk_o1 (by decide) (i := 5) rfl) h_v5 e_v5 dX5_joinLine_17 ?_
  by_cases c6 : v5 = (2 : Int32)
  · have hm := m_ite_t hm c6
    refine lv_tableIn (off := 119) (tgt := 137) hx hb dX5_joinLine_18 (by rw [c6]; decide) (by rw [c6]; decide) (by rw [c6]; rfl) (by decide) ?_
    refine lv_aload_n hx hb dX5_joinLine_137 rfl (lv_at hl 1 rfl) ?_
    refine lv_aload_n hx hb dX5_joinLine_138 rfl (lv_at hl 1 rfl) ?_
    refine lv_iload hx hb dX5_joinLine_139 (lv_at hl 0 rfl) ?_
    obtain ⟨v8, S7, e_S7, hm⟩ := m_call_of hm
    refine n_cVi X hH hS (k := 5) (c_X5_leftOf (a := a) hT hk_a e_S7) mw_X5_leftOf in_4_39 hk_a (by decide) rfl rfl rfl ⟨rfl, rfl⟩ ⟨Nat.le_of_ble_eq_true rfl, Nat.le_of_ble_eq_true rfl⟩ ⟨Nat.zero_le _, Nat.zero_le _⟩ hl.1 (Nat.le_of_ble_eq_true rfl) dX5_joinLine_141 (fun H locs hH hS => ?_)
    refine lv_aload_n hx hb dX5_joinLine_144 rfl (lv_at hl 2 rfl) ?_
    refine lv_iload_n hx hb dX5_joinLine_145 rfl (lv_at hl 3 rfl) ?_
    refine lv_iload_n hx hb dX5_joinLine_146 rfl (lv_at hl 4 rfl) ?_
    refine lv_iconst (v := (0 : Int32)) hx hb dX5_joinLine_147 (by decide) ?_
    obtain ⟨v10, S9, e_S9, hm⟩ := m_call_of hm
    refine n_cSi X hH hS (c_X5_operandNode (o0 := o1) hT hk_o1 e_S9) mw_X5_operandNode in_4_24 rfl ⟨rfl, rfl⟩ ⟨Nat.le_of_ble_eq_true rfl, Nat.le_of_ble_eq_true rfl⟩ ⟨Nat.zero_le _, Nat.zero_le _⟩ hl.1 (Nat.le_of_ble_eq_true rfl) dX5_joinLine_148 (fun H locs hH hS => ?_)
    refine lv_iconst (v := (0 : Int32)) hx hb dX5_joinLine_151 (by decide) ?_
    obtain ⟨S11, e_S11, hm⟩ := m_cal0_of hm
    refine r_cVv X hH hS (k := 5) (c_X5_join 30 hT a S9 v8 v10 (0 : Int32) _ hk_a e_S11) mw_X5_join in_4_31 hk_a (by decide) rfl rfl rfl (rd_X5_join 30) ⟨Nat.le_of_ble_eq_true rfl, Nat.le_of_ble_eq_true rfl⟩ ⟨Nat.zero_le _, Nat.zero_le _⟩ hl.1 (Nat.le_of_ble_eq_true rfl) dX5_joinLine_152 (fun H locs hH hS => ?_)
    refine lv_aload_n hx hb dX5_joinLine_155 rfl (lv_at hl 1 rfl) ?_
    refine lv_aload_n hx hb dX5_joinLine_156 rfl (lv_at hl 1 rfl) ?_
    refine lv_iload hx hb dX5_joinLine_157 (lv_at hl 0 rfl) ?_
    obtain ⟨v13, S12, e_S12, hm⟩ := m_call_of hm
    refine n_cVi X hH hS (k := 5) (c_X5_rightOf (a := a) hT hk_a e_S12) mw_X5_rightOf in_4_47 hk_a (by decide) rfl rfl rfl ⟨rfl, rfl⟩ ⟨Nat.le_of_ble_eq_true rfl, Nat.le_of_ble_eq_true rfl⟩ ⟨Nat.zero_le _, Nat.zero_le _⟩ hl.1 (Nat.le_of_ble_eq_true rfl) dX5_joinLine_159 (fun H locs hH hS => ?_)
    refine lv_aload_n hx hb dX5_joinLine_162 rfl (lv_at hl 2 rfl) ?_
    refine lv_iload_n hx hb dX5_joinLine_163 rfl (lv_at hl 3 rfl) ?_
    refine lv_iload_n hx hb dX5_joinLine_164 rfl (lv_at hl 4 rfl) ?_
    refine lv_iconst (v := (1 : Int32)) hx hb dX5_joinLine_165 (by decide) ?_
    obtain ⟨v15, S14, e_S14, hm⟩ := m_call_of hm
    refine n_cSi X hH hS (c_X5_operandNode (o0 := o1) hT hk_o1 e_S14) mw_X5_operandNode in_4_24 rfl ⟨rfl, rfl⟩ ⟨Nat.le_of_ble_eq_true rfl, Nat.le_of_ble_eq_true rfl⟩ ⟨Nat.zero_le _, Nat.zero_le _⟩ hl.1 (Nat.le_of_ble_eq_true rfl) dX5_joinLine_166 (fun H locs hH hS => ?_)
    refine lv_iconst (v := (0 : Int32)) hx hb dX5_joinLine_169 (by decide) ?_
    obtain ⟨S16, e_S16, hm⟩ := m_cal0_of hm
    refine r_cVv X hH hS (k := 5) (c_X5_join 30 hT a S14 v13 v15 (0 : Int32) _ hk_a e_S16) mw_X5_join in_4_31 hk_a (by decide) rfl rfl rfl (rd_X5_join 30) ⟨Nat.le_of_ble_eq_true rfl, Nat.le_of_ble_eq_true rfl⟩ ⟨Nat.zero_le _, Nat.zero_le _⟩ hl.1 (Nat.le_of_ble_eq_true rfl) dX5_joinLine_170 (fun H locs hH hS => ?_)
    refine lv_goto (tgt := 291) hx hb dX5_joinLine_173 (by decide) ?_
    exact k_X5_joinLine_291 (a := a) (o1 := o1) X hr hT hk_a hk_o1   S16 _ _ _ hH hS (lv_sub hl [] rfl) hm
  · have hm := m_ite_f hm c6
    by_cases c17 : v5 = (3 : Int32)
    · have hm := m_ite_t hm c17
      refine lv_tableIn (off := 158) (tgt := 176) hx hb dX5_joinLine_18 (by rw [c17]; decide) (by rw [c17]; decide) (by rw [c17]; rfl) (by decide) ?_
      refine lv_aload_n hx hb dX5_joinLine_176 rfl (lv_at hl 1 rfl) ?_
      refine lv_aload_n hx hb dX5_joinLine_177 rfl (lv_at hl 1 rfl) ?_
      refine lv_aload_n hx hb dX5_joinLine_178 rfl (lv_at hl 2 rfl) ?_
      refine lv_iload_n hx hb dX5_joinLine_179 rfl (lv_at hl 3 rfl) ?_
      refine lv_iload_n hx hb dX5_joinLine_180 rfl (lv_at hl 4 rfl) ?_
      refine lv_iconst (v := (0 : Int32)) hx hb dX5_joinLine_181 (by decide) ?_
      obtain ⟨v19, S18, e_S18, hm⟩ := m_call_of hm
      refine n_cSi X hH hS (c_X5_operandNode (o0 := o1) hT hk_o1 e_S18) mw_X5_operandNode in_4_24 rfl ⟨rfl, rfl⟩ ⟨Nat.le_of_ble_eq_true rfl, Nat.le_of_ble_eq_true rfl⟩ ⟨Nat.zero_le _, Nat.zero_le _⟩ hl.1 (Nat.le_of_ble_eq_true rfl) dX5_joinLine_182 (fun H locs hH hS => ?_)
      obtain ⟨v21, S20, e_S20, hm⟩ := m_call_of hm
      refine n_cVi X hH hS (k := 5) (c_X5_leftOf (a := a) hT hk_a e_S20) mw_X5_leftOf in_4_39 hk_a (by decide) rfl rfl rfl ⟨rfl, rfl⟩ ⟨Nat.le_of_ble_eq_true rfl, Nat.le_of_ble_eq_true rfl⟩ ⟨Nat.zero_le _, Nat.zero_le _⟩ hl.1 (Nat.le_of_ble_eq_true rfl) dX5_joinLine_185 (fun H locs hH hS => ?_)
      refine lv_iload hx hb dX5_joinLine_188 (lv_at hl 0 rfl) ?_
      refine lv_iconst (v := (0 : Int32)) hx hb dX5_joinLine_190 (by decide) ?_
      obtain ⟨S22, e_S22, hm⟩ := m_cal0_of hm
      refine r_cVv X hH hS (k := 5) (c_X5_join 30 hT a S20 v21 v4 (0 : Int32) _ hk_a e_S22) mw_X5_join in_4_31 hk_a (by decide) rfl rfl rfl (rd_X5_join 30) ⟨Nat.le_of_ble_eq_true rfl, Nat.le_of_ble_eq_true rfl⟩ ⟨Nat.zero_le _, Nat.zero_le _⟩ hl.1 (Nat.le_of_ble_eq_true rfl) dX5_joinLine_191 (fun H locs hH hS => ?_)
      refine lv_goto (tgt := 291) hx hb dX5_joinLine_194 (by decide) ?_
      exact k_X5_joinLine_291 (a := a) (o1 := o1) X hr hT hk_a hk_o1   S22 _ _ _ hH hS (lv_sub hl [] rfl) hm
    · have hm := m_ite_f hm c17
      by_cases c23 : v5 = (4 : Int32)
      · have hm := m_ite_t hm c23
        refine lv_tableIn (off := 179) (tgt := 197) hx hb dX5_joinLine_18 (by rw [c23]; decide) (by rw [c23]; decide) (by rw [c23]; rfl) (by decide) ?_
        refine lv_aload_n hx hb dX5_joinLine_197 rfl (lv_at hl 1 rfl) ?_
        refine lv_aload_n hx hb dX5_joinLine_198 rfl (lv_at hl 1 rfl) ?_
        refine lv_aload_n hx hb dX5_joinLine_199 rfl (lv_at hl 2 rfl) ?_
        refine lv_iload_n hx hb dX5_joinLine_200 rfl (lv_at hl 3 rfl) ?_
        refine lv_iload_n hx hb dX5_joinLine_201 rfl (lv_at hl 4 rfl) ?_
        refine lv_iconst (v := (0 : Int32)) hx hb dX5_joinLine_202 (by decide) ?_
        obtain ⟨v25, S24, e_S24, hm⟩ := m_call_of hm
        refine n_cSi X hH hS (c_X5_operandNode (o0 := o1) hT hk_o1 e_S24) mw_X5_operandNode in_4_24 rfl ⟨rfl, rfl⟩ ⟨Nat.le_of_ble_eq_true rfl, Nat.le_of_ble_eq_true rfl⟩ ⟨Nat.zero_le _, Nat.zero_le _⟩ hl.1 (Nat.le_of_ble_eq_true rfl) dX5_joinLine_203 (fun H locs hH hS => ?_)
        obtain ⟨v27, S26, e_S26, hm⟩ := m_call_of hm
        refine n_cVi X hH hS (k := 5) (c_X5_rightOf (a := a) hT hk_a e_S26) mw_X5_rightOf in_4_47 hk_a (by decide) rfl rfl rfl ⟨rfl, rfl⟩ ⟨Nat.le_of_ble_eq_true rfl, Nat.le_of_ble_eq_true rfl⟩ ⟨Nat.zero_le _, Nat.zero_le _⟩ hl.1 (Nat.le_of_ble_eq_true rfl) dX5_joinLine_206 (fun H locs hH hS => ?_)
        refine lv_iload hx hb dX5_joinLine_209 (lv_at hl 0 rfl) ?_
        refine lv_iconst (v := (0 : Int32)) hx hb dX5_joinLine_211 (by decide) ?_
        obtain ⟨S28, e_S28, hm⟩ := m_cal0_of hm
        refine r_cVv X hH hS (k := 5) (c_X5_join 30 hT a S26 v27 v4 (0 : Int32) _ hk_a e_S28) mw_X5_join in_4_31 hk_a (by decide) rfl rfl rfl (rd_X5_join 30) ⟨Nat.le_of_ble_eq_true rfl, Nat.le_of_ble_eq_true rfl⟩ ⟨Nat.zero_le _, Nat.zero_le _⟩ hl.1 (Nat.le_of_ble_eq_true rfl) dX5_joinLine_212 (fun H locs hH hS => ?_)
        refine lv_goto (tgt := 291) hx hb dX5_joinLine_215 (by decide) ?_
        exact k_X5_joinLine_291 (a := a) (o1 := o1) X hr hT hk_a hk_o1   S28 _ _ _ hH hS (lv_sub hl [] rfl) hm
      · have hm := m_ite_f hm c23
        by_cases c29 : v5 = (5 : Int32)
        · have hm := m_ite_t hm c29
          refine lv_tableIn (off := 273) (tgt := 291) hx hb dX5_joinLine_18 (by rw [c29]; decide) (by rw [c29]; decide) (by rw [c29]; rfl) (by decide) ?_
          exact k_X5_joinLine_291 (a := a) (o1 := o1) X hr hT hk_a hk_o1   S3 _ _ _ hH hS (lv_sub hl [] rfl) hm
        · have hm := m_ite_f hm c29
          by_cases c30 : v5 = (6 : Int32)
          · have hm := m_ite_t hm c30
            refine lv_tableIn (off := 273) (tgt := 291) hx hb dX5_joinLine_18 (by rw [c30]; decide) (by rw [c30]; decide) (by rw [c30]; rfl) (by decide) ?_
            exact k_X5_joinLine_291 (a := a) (o1 := o1) X hr hT hk_a hk_o1   S3 _ _ _ hH hS (lv_sub hl [] rfl) hm
          · have hm := m_ite_f hm c30
            by_cases c31 : v5 = (7 : Int32)
            · have hm := m_ite_t hm c31
              refine lv_tableIn (off := 200) (tgt := 218) hx hb dX5_joinLine_18 (by rw [c31]; decide) (by rw [c31]; decide) (by rw [c31]; rfl) (by decide) ?_
              refine lv_aload_n hx hb dX5_joinLine_218 rfl (lv_at hl 1 rfl) ?_
              refine lv_iload hx hb dX5_joinLine_219 (lv_at hl 0 rfl) ?_
              refine lv_aload_n hx hb dX5_joinLine_221 rfl (lv_at hl 2 rfl) ?_
              refine lv_iload_n hx hb dX5_joinLine_222 rfl (lv_at hl 3 rfl) ?_
              refine lv_iload_n hx hb dX5_joinLine_223 rfl (lv_at hl 4 rfl) ?_
              refine lv_iconst (v := (1 : Int32)) hx hb dX5_joinLine_224 (by decide) ?_
              obtain ⟨v33, S32, e_S32, hm⟩ := m_call_of hm
              refine n_cSi X hH hS (c_X5_operandNode (o0 := o1) hT hk_o1 e_S32) mw_X5_operandNode in_4_24 rfl ⟨rfl, rfl⟩ ⟨Nat.le_of_ble_eq_true rfl, Nat.le_of_ble_eq_true rfl⟩ ⟨Nat.zero_le _, Nat.zero_le _⟩ hl.1 (Nat.le_of_ble_eq_true rfl) dX5_joinLine_225 (fun H locs hH hS => ?_)
              refine lv_iconst (v := (0 : Int32)) hx hb dX5_joinLine_228 (by decide) ?_
              obtain ⟨S34, e_S34, hm⟩ := m_cal0_of hm
              refine r_cVv X hH hS (k := 5) (c_X5_join 30 hT a S32 v4 v33 (0 : Int32) _ hk_a e_S34) mw_X5_join in_4_31 hk_a (by decide) rfl rfl rfl (rd_X5_join 30) ⟨Nat.le_of_ble_eq_true rfl, Nat.le_of_ble_eq_true rfl⟩ ⟨Nat.zero_le _, Nat.zero_le _⟩ hl.1 (Nat.le_of_ble_eq_true rfl) dX5_joinLine_229 (fun H locs hH hS => ?_)
              refine lv_aload_n hx hb dX5_joinLine_232 rfl (lv_at hl 1 rfl) ?_
              refine lv_iload hx hb dX5_joinLine_233 (lv_at hl 0 rfl) ?_
              refine lv_aload_n hx hb dX5_joinLine_235 rfl (lv_at hl 2 rfl) ?_
              refine lv_iload_n hx hb dX5_joinLine_236 rfl (lv_at hl 3 rfl) ?_
              refine lv_iload_n hx hb dX5_joinLine_237 rfl (lv_at hl 4 rfl) ?_
              refine lv_iconst (v := (2 : Int32)) hx hb dX5_joinLine_238 (by decide) ?_
              obtain ⟨v36, S35, e_S35, hm⟩ := m_call_of hm
              refine n_cSi X hH hS (c_X5_operandNode (o0 := o1) hT hk_o1 e_S35) mw_X5_operandNode in_4_24 rfl ⟨rfl, rfl⟩ ⟨Nat.le_of_ble_eq_true rfl, Nat.le_of_ble_eq_true rfl⟩ ⟨Nat.zero_le _, Nat.zero_le _⟩ hl.1 (Nat.le_of_ble_eq_true rfl) dX5_joinLine_239 (fun H locs hH hS => ?_)
              refine lv_iconst (v := (0 : Int32)) hx hb dX5_joinLine_242 (by decide) ?_
              obtain ⟨S37, e_S37, hm⟩ := m_cal0_of hm
              refine r_cVv X hH hS (k := 5) (c_X5_join 30 hT a S35 v4 v36 (0 : Int32) _ hk_a e_S37) mw_X5_join in_4_31 hk_a (by decide) rfl rfl rfl (rd_X5_join 30) ⟨Nat.le_of_ble_eq_true rfl, Nat.le_of_ble_eq_true rfl⟩ ⟨Nat.zero_le _, Nat.zero_le _⟩ hl.1 (Nat.le_of_ble_eq_true rfl) dX5_joinLine_243 (fun H locs hH hS => ?_)
              refine lv_goto (tgt := 291) hx hb dX5_joinLine_246 (by decide) ?_
              exact k_X5_joinLine_291 (a := a) (o1 := o1) X hr hT hk_a hk_o1   S37 _ _ _ hH hS (lv_sub hl [] rfl) hm
            · have hm := m_ite_f hm c31
              by_cases c38 : v5 = (8 : Int32)
              · have hm := m_ite_t hm c38
                refine lv_tableIn (off := 231) (tgt := 249) hx hb dX5_joinLine_18 (by rw [c38]; decide) (by rw [c38]; decide) (by rw [c38]; rfl) (by decide) ?_
                refine lv_aload_n hx hb dX5_joinLine_249 rfl (lv_at hl 1 rfl) ?_
                refine lv_aload_n hx hb dX5_joinLine_250 rfl (lv_at hl 2 rfl) ?_
                refine lv_iload_n hx hb dX5_joinLine_251 rfl (lv_at hl 3 rfl) ?_
                refine lv_iload_n hx hb dX5_joinLine_252 rfl (lv_at hl 4 rfl) ?_
                refine lv_iload hx hb dX5_joinLine_253 (lv_at hl 0 rfl) ?_
                obtain ⟨S39, e_S39, hm⟩ := m_cal0_of hm
                refine r_cVv X hH hS (k := 5) (c_X5_joinCall (a := a) (o1 := o1) hT hk_a hk_o1 e_S39) mw_X5_joinCall in_4_51 hk_a (by decide) rfl rfl rfl ⟨rfl, rfl⟩ ⟨Nat.le_of_ble_eq_true rfl, Nat.le_of_ble_eq_true rfl⟩ ⟨Nat.zero_le _, Nat.zero_le _⟩ hl.1 (Nat.le_of_ble_eq_true rfl) dX5_joinLine_255 (fun H locs hH hS => ?_)
                refine lv_goto (tgt := 291) hx hb dX5_joinLine_258 (by decide) ?_
                exact k_X5_joinLine_291 (a := a) (o1 := o1) X hr hT hk_a hk_o1   S39 _ _ _ hH hS (lv_sub hl [] rfl) hm
              · have hm := m_ite_f hm c38
                by_cases c40 : v5 = (9 : Int32)
                · have hm := m_ite_t hm c40
                  refine lv_tableIn (off := 243) (tgt := 261) hx hb dX5_joinLine_18 (by rw [c40]; decide) (by rw [c40]; decide) (by rw [c40]; rfl) (by decide) ?_
                  refine lv_aload_n hx hb dX5_joinLine_261 rfl (lv_at hl 1 rfl) ?_
                  refine lv_aload_n hx hb dX5_joinLine_262 rfl (lv_at hl 2 rfl) ?_
                  refine lv_iload_n hx hb dX5_joinLine_263 rfl (lv_at hl 3 rfl) ?_
                  refine lv_iload_n hx hb dX5_joinLine_264 rfl (lv_at hl 4 rfl) ?_
                  refine lv_iload hx hb dX5_joinLine_265 (lv_at hl 0 rfl) ?_
                  obtain ⟨S41, e_S41, hm⟩ := m_cal0_of hm
                  refine r_cVv X hH hS (k := 5) (c_X5_joinCall (a := a) (o1 := o1) hT hk_a hk_o1 e_S41) mw_X5_joinCall in_4_51 hk_a (by decide) rfl rfl rfl ⟨rfl, rfl⟩ ⟨Nat.le_of_ble_eq_true rfl, Nat.le_of_ble_eq_true rfl⟩ ⟨Nat.zero_le _, Nat.zero_le _⟩ hl.1 (Nat.le_of_ble_eq_true rfl) dX5_joinLine_267 (fun H locs hH hS => ?_)
                  refine lv_aload_n hx hb dX5_joinLine_270 rfl (lv_at hl 1 rfl) ?_
                  refine lv_iload hx hb dX5_joinLine_271 (lv_at hl 0 rfl) ?_
                  refine lv_aload_n hx hb dX5_joinLine_273 rfl (lv_at hl 2 rfl) ?_
                  refine lv_iload_n hx hb dX5_joinLine_274 rfl (lv_at hl 3 rfl) ?_
                  refine lv_iload_n hx hb dX5_joinLine_275 rfl (lv_at hl 4 rfl) ?_
                  refine lv_aload_n hx hb dX5_joinLine_276 rfl (lv_at hl 2 rfl) ?_
                  refine lv_iload_n hx hb dX5_joinLine_277 rfl (lv_at hl 4 rfl) ?_
                  obtain ⟨v43, S42, e_S42, hm⟩ := m_call_of hm
                  refine n_cVi X hH hS (k := 3) (c_X3_elseSlot (a := o1) hT hk_o1 e_S42) mw_X3_elseSlot in_4_63 hk_o1 (by decide) rfl rfl rfl ⟨rfl, rfl⟩ ⟨Nat.le_of_ble_eq_true rfl, Nat.le_of_ble_eq_true rfl⟩ ⟨Nat.zero_le _, Nat.zero_le _⟩ hl.1 (Nat.le_of_ble_eq_true rfl) dX5_joinLine_278 (fun H locs hH hS => ?_)
                  obtain ⟨v45, S44, e_S44, hm⟩ := m_call_of hm
                  refine n_cSi X hH hS (c_X5_operandNode (o0 := o1) hT hk_o1 e_S44) mw_X5_operandNode in_4_24 rfl ⟨rfl, rfl⟩ ⟨Nat.le_of_ble_eq_true rfl, Nat.le_of_ble_eq_true rfl⟩ ⟨Nat.zero_le _, Nat.zero_le _⟩ hl.1 (Nat.le_of_ble_eq_true rfl) dX5_joinLine_281 (fun H locs hH hS => ?_)
                  refine lv_iconst (v := (0 : Int32)) hx hb dX5_joinLine_284 (by decide) ?_
                  obtain ⟨S46, e_S46, hm⟩ := m_cal0_of hm
                  refine r_cVv X hH hS (k := 5) (c_X5_join 30 hT a S44 v4 v45 (0 : Int32) _ hk_a e_S46) mw_X5_join in_4_31 hk_a (by decide) rfl rfl rfl (rd_X5_join 30) ⟨Nat.le_of_ble_eq_true rfl, Nat.le_of_ble_eq_true rfl⟩ ⟨Nat.zero_le _, Nat.zero_le _⟩ hl.1 (Nat.le_of_ble_eq_true rfl) dX5_joinLine_285 (fun H locs hH hS => ?_)
                  refine lv_goto (tgt := 291) hx hb dX5_joinLine_288 (by decide) ?_
                  exact k_X5_joinLine_291 (a := a) (o1 := o1) X hr hT hk_a hk_o1   S46 _ _ _ hH hS (lv_sub hl [] rfl) hm
                · have hm := m_ite_f hm c40
                  by_cases c47 : v5 = (10 : Int32)
                  · have hm := m_ite_t hm c47
                    refine lv_tableIn (off := 273) (tgt := 291) hx hb dX5_joinLine_18 (by rw [c47]; decide) (by rw [c47]; decide) (by rw [c47]; rfl) (by decide) ?_
                    exact k_X5_joinLine_291 (a := a) (o1 := o1) X hr hT hk_a hk_o1   S3 _ _ _ hH hS (lv_sub hl [] rfl) hm
                  · have hm := m_ite_f hm c47
                    by_cases c48 : v5 = (11 : Int32)
                    · have hm := m_ite_t hm c48
                      refine lv_tableIn (off := 273) (tgt := 291) hx hb dX5_joinLine_18 (by rw [c48]; decide) (by rw [c48]; decide) (by rw [c48]; rfl) (by decide) ?_
                      exact k_X5_joinLine_291 (a := a) (o1 := o1) X hr hT hk_a hk_o1   S3 _ _ _ hH hS (lv_sub hl [] rfl) hm
                    · have hm := m_ite_f hm c48
                      by_cases c49 : v5 = (12 : Int32)
                      · have hm := m_ite_t hm c49
                        refine lv_tableIn (off := 273) (tgt := 291) hx hb dX5_joinLine_18 (by rw [c49]; decide) (by rw [c49]; decide) (by rw [c49]; rfl) (by decide) ?_
                        exact k_X5_joinLine_291 (a := a) (o1 := o1) X hr hT hk_a hk_o1   S3 _ _ _ hH hS (lv_sub hl [] rfl) hm
                      · have hm := m_ite_f hm c49
                        by_cases c50 : v5 = (13 : Int32)
                        · have hm := m_ite_t hm c50
                          refine lv_tableIn (off := 273) (tgt := 291) hx hb dX5_joinLine_18 (by rw [c50]; decide) (by rw [c50]; decide) (by rw [c50]; rfl) (by decide) ?_
                          exact k_X5_joinLine_291 (a := a) (o1 := o1) X hr hT hk_a hk_o1   S3 _ _ _ hH hS (lv_sub hl [] rfl) hm
                        · have hm := m_ite_f hm c50
                          by_cases c51 : v5 = (14 : Int32)
                          · have hm := m_ite_t hm c51
                            refine lv_tableIn (off := 273) (tgt := 291) hx hb dX5_joinLine_18 (by rw [c51]; decide) (by rw [c51]; decide) (by rw [c51]; rfl) (by decide) ?_
                            exact k_X5_joinLine_291 (a := a) (o1 := o1) X hr hT hk_a hk_o1   S3 _ _ _ hH hS (lv_sub hl [] rfl) hm
                          · have hm := m_ite_f hm c51
                            by_cases c52 : v5 = (15 : Int32)
                            · have hm := m_ite_t hm c52
                              refine lv_tableIn (off := 273) (tgt := 291) hx hb dX5_joinLine_18 (by rw [c52]; decide) (by rw [c52]; decide) (by rw [c52]; rfl) (by decide) ?_
                              exact k_X5_joinLine_291 (a := a) (o1 := o1) X hr hT hk_a hk_o1   S3 _ _ _ hH hS (lv_sub hl [] rfl) hm
                            · have hm := m_ite_f hm c52
                              by_cases c53 : v5 = (16 : Int32)
                              · have hm := m_ite_t hm c53
                                refine lv_tableIn (off := 273) (tgt := 291) hx hb dX5_joinLine_18 (by rw [c53]; decide) (by rw [c53]; decide) (by rw [c53]; rfl) (by decide) ?_
                                exact k_X5_joinLine_291 (a := a) (o1 := o1) X hr hT hk_a hk_o1   S3 _ _ _ hH hS (lv_sub hl [] rfl) hm
                              · have hm := m_ite_f hm c53
                                by_cases c54 : v5 = (17 : Int32)
                                · have hm := m_ite_t hm c54
                                  refine lv_tableIn (off := 273) (tgt := 291) hx hb dX5_joinLine_18 (by rw [c54]; decide) (by rw [c54]; decide) (by rw [c54]; rfl) (by decide) ?_
                                  exact k_X5_joinLine_291 (a := a) (o1 := o1) X hr hT hk_a hk_o1   S3 _ _ _ hH hS (lv_sub hl [] rfl) hm
                                · have hm := m_ite_f hm c54
                                  by_cases c55 : v5 = (18 : Int32)
                                  · have hm := m_ite_t hm c55
                                    refine lv_tableIn (off := 273) (tgt := 291) hx hb dX5_joinLine_18 (by rw [c55]; decide) (by rw [c55]; decide) (by rw [c55]; rfl) (by decide) ?_
                                    exact k_X5_joinLine_291 (a := a) (o1 := o1) X hr hT hk_a hk_o1   S3 _ _ _ hH hS (lv_sub hl [] rfl) hm
                                  · have hm := m_ite_f hm c55
                                    by_cases c56 : v5 = (19 : Int32)
                                    · have hm := m_ite_t hm c56
                                      refine lv_tableIn (off := 273) (tgt := 291) hx hb dX5_joinLine_18 (by rw [c56]; decide) (by rw [c56]; decide) (by rw [c56]; rfl) (by decide) ?_
                                      exact k_X5_joinLine_291 (a := a) (o1 := o1) X hr hT hk_a hk_o1   S3 _ _ _ hH hS (lv_sub hl [] rfl) hm
                                    · have hm := m_ite_f hm c56
                                      by_cases c57 : v5 = (20 : Int32)
                                      · have hm := m_ite_t hm c57
                                        refine lv_tableIn (off := 273) (tgt := 291) hx hb dX5_joinLine_18 (by rw [c57]; decide) (by rw [c57]; decide) (by rw [c57]; rfl) (by decide) ?_
                                        exact k_X5_joinLine_291 (a := a) (o1 := o1) X hr hT hk_a hk_o1   S3 _ _ _ hH hS (lv_sub hl [] rfl) hm
                                      · have hm := m_ite_f hm c57
                                        by_cases c58 : v5 = (21 : Int32)
                                        · have hm := m_ite_t hm c58
                                          refine lv_tableIn (off := 273) (tgt := 291) hx hb dX5_joinLine_18 (by rw [c58]; decide) (by rw [c58]; decide) (by rw [c58]; rfl) (by decide) ?_
                                          exact k_X5_joinLine_291 (a := a) (o1 := o1) X hr hT hk_a hk_o1   S3 _ _ _ hH hS (lv_sub hl [] rfl) hm
                                        · have hm := m_ite_f hm c58
                                          by_cases c59 : v5 = (22 : Int32)
                                          · have hm := m_ite_t hm c59
                                            refine lv_tableIn (off := 273) (tgt := 291) hx hb dX5_joinLine_18 (by rw [c59]; decide) (by rw [c59]; decide) (by rw [c59]; rfl) (by decide) ?_
                                            exact k_X5_joinLine_291 (a := a) (o1 := o1) X hr hT hk_a hk_o1   S3 _ _ _ hH hS (lv_sub hl [] rfl) hm
                                          · have hm := m_ite_f hm c59
                                            by_cases c60 : v5 = (23 : Int32)
                                            · have hm := m_ite_t hm c60
                                              refine lv_tableIn (off := 102) (tgt := 120) hx hb dX5_joinLine_18 (by rw [c60]; decide) (by rw [c60]; decide) (by rw [c60]; rfl) (by decide) ?_
                                              refine lv_aload_n hx hb dX5_joinLine_120 rfl (lv_at hl 1 rfl) ?_
                                              refine lv_iload hx hb dX5_joinLine_121 (lv_at hl 0 rfl) ?_
                                              refine lv_aload_n hx hb dX5_joinLine_123 rfl (lv_at hl 2 rfl) ?_
                                              refine lv_iload_n hx hb dX5_joinLine_124 rfl (lv_at hl 3 rfl) ?_
                                              refine lv_iload_n hx hb dX5_joinLine_125 rfl (lv_at hl 4 rfl) ?_
                                              refine lv_iconst (v := (0 : Int32)) hx hb dX5_joinLine_126 (by decide) ?_
                                              obtain ⟨v62, S61, e_S61, hm⟩ := m_call_of hm
                                              refine n_cSi X hH hS (c_X5_operandNode (o0 := o1) hT hk_o1 e_S61) mw_X5_operandNode in_4_24 rfl ⟨rfl, rfl⟩ ⟨Nat.le_of_ble_eq_true rfl, Nat.le_of_ble_eq_true rfl⟩ ⟨Nat.zero_le _, Nat.zero_le _⟩ hl.1 (Nat.le_of_ble_eq_true rfl) dX5_joinLine_127 (fun H locs hH hS => ?_)
                                              refine lv_iconst (v := (0 : Int32)) hx hb dX5_joinLine_130 (by decide) ?_
                                              obtain ⟨S63, e_S63, hm⟩ := m_cal0_of hm
                                              refine r_cVv X hH hS (k := 5) (c_X5_join 30 hT a S61 v4 v62 (0 : Int32) _ hk_a e_S63) mw_X5_join in_4_31 hk_a (by decide) rfl rfl rfl (rd_X5_join 30) ⟨Nat.le_of_ble_eq_true rfl, Nat.le_of_ble_eq_true rfl⟩ ⟨Nat.zero_le _, Nat.zero_le _⟩ hl.1 (Nat.le_of_ble_eq_true rfl) dX5_joinLine_131 (fun H locs hH hS => ?_)
                                              refine lv_goto (tgt := 291) hx hb dX5_joinLine_134 (by decide) ?_
                                              exact k_X5_joinLine_291 (a := a) (o1 := o1) X hr hT hk_a hk_o1   S63 _ _ _ hH hS (lv_sub hl [] rfl) hm
                                            · have hm := m_ite_f hm c60
                                              refine lv_tableOut (tgt := 291) hx hb dX5_joinLine_18 (by have h_c6 := lv_neT (a := 2) c6 rfl; have h_c17 := lv_neT (a := 3) c17 rfl; have h_c23 := lv_neT (a := 4) c23 rfl; have h_c29 := lv_neT (a := 5) c29 rfl; have h_c30 := lv_neT (a := 6) c30 rfl; have h_c31 := lv_neT (a := 7) c31 rfl; have h_c38 := lv_neT (a := 8) c38 rfl; have h_c40 := lv_neT (a := 9) c40 rfl; have h_c47 := lv_neT (a := 10) c47 rfl; have h_c48 := lv_neT (a := 11) c48 rfl; have h_c49 := lv_neT (a := 12) c49 rfl; have h_c50 := lv_neT (a := 13) c50 rfl; have h_c51 := lv_neT (a := 14) c51 rfl; have h_c52 := lv_neT (a := 15) c52 rfl; have h_c53 := lv_neT (a := 16) c53 rfl; have h_c54 := lv_neT (a := 17) c54 rfl; have h_c55 := lv_neT (a := 18) c55 rfl; have h_c56 := lv_neT (a := 19) c56 rfl; have h_c57 := lv_neT (a := 20) c57 rfl; have h_c58 := lv_neT (a := 21) c58 rfl; have h_c59 := lv_neT (a := 22) c59 rfl; have h_c60 := lv_neT (a := 23) c60 rfl; omega) (by decide) ?_
                                              exact k_X5_joinLine_291 (a := a) (o1 := o1) X hr hT hk_a hk_o1   S3 _ _ _ hH hS (lv_sub hl [] rfl) hm
def rm_X5_numberFrom_ (r : Room) : Room := { frames := r.frames + 1, cells := 0, slots := 0, locals := r.locals + 24 }
def b_X5_numberFrom_29 (F : Nat → Nat → m_M → Int32 → Int32 → Option m_M) (a o2 : Nat)  (S : m_M)  : Option m_M :=
    some S
set_option maxHeartbeats 4000000 in
set_option maxRecDepth 100000 in
theorem k_X5_numberFrom_29 {p : Program} {l : Launch} {e : Env} {s : State} {m : MethodId} {args : Array Value} {below : List Frame} {meth : Method} {c : Code} {G : m_G} {nx : Nat} {κ : Nat → Nat} {res : m_M} {F : Nat → Nat → m_M → Int32 → Int32 → Option m_M} {a o2 : Nat} (X : m_Cx p s m args meth c cX5_numberFrom 5 RX5 G) (hr : meth.sig.returnType = none) (hT : m_Str κ) (rF : Room) (hrF : rF.cells = 0 ∧ rF.slots = 0) (hF : ∀ (a o2 : Nat) (S : m_M) (i1 : Int32) (i3 : Int32) (res : m_M), κ a = 6 → κ o2 = 7 → F a o2 S i1 i3 = some res → m_Cv l yX5_numberFrom cX5_numberFrom 5 rF G nx κ [.ref a, .int i1, .ref o2, .int i3] S res) (hk_a : κ a = 6) (hk_o2 : κ o2 = 7)  : ∀ (S : m_M)  (H : Heap) (locs : List Loc) (ls : Array Slot), m_H G nx κ S H → m_S G s H locs → lv_has ls 5 [] → b_X5_numberFrom_29 F a o2 S  = some res → W p l e (rm_X5_numberFrom_ rF) s m args below meth c H locs 0 0 (m_Qv below args s G nx κ res) (F0 m 29 ls []) := by
  have hx := X.1.1
  have hb := X.1.2.1
  intro S H locs ls hH hS hl hm
  rw [b_X5_numberFrom_29] at hm
  exact r_vret X hr hH hS hm dX5_numberFrom_29
def b_X5_numberFrom_45 (F : Nat → Nat → m_M → Int32 → Int32 → Option m_M) (a o2 : Nat)  (S : m_M)  : Option m_M :=
    some S
set_option maxHeartbeats 4000000 in
set_option maxRecDepth 100000 in
theorem k_X5_numberFrom_45 {p : Program} {l : Launch} {e : Env} {s : State} {m : MethodId} {args : Array Value} {below : List Frame} {meth : Method} {c : Code} {G : m_G} {nx : Nat} {κ : Nat → Nat} {res : m_M} {F : Nat → Nat → m_M → Int32 → Int32 → Option m_M} {a o2 : Nat} (X : m_Cx p s m args meth c cX5_numberFrom 5 RX5 G) (hr : meth.sig.returnType = none) (hT : m_Str κ) (rF : Room) (hrF : rF.cells = 0 ∧ rF.slots = 0) (hF : ∀ (a o2 : Nat) (S : m_M) (i1 : Int32) (i3 : Int32) (res : m_M), κ a = 6 → κ o2 = 7 → F a o2 S i1 i3 = some res → m_Cv l yX5_numberFrom cX5_numberFrom 5 rF G nx κ [.ref a, .int i1, .ref o2, .int i3] S res) (hk_a : κ a = 6) (hk_o2 : κ o2 = 7)  : ∀ (S : m_M)  (H : Heap) (locs : List Loc) (ls : Array Slot), m_H G nx κ S H → m_S G s H locs → lv_has ls 5 [] → b_X5_numberFrom_45 F a o2 S  = some res → W p l e (rm_X5_numberFrom_ rF) s m args below meth c H locs 0 0 (m_Qv below args s G nx κ res) (F0 m 45 ls []) := by
  have hx := X.1.1
  have hb := X.1.2.1
  intro S H locs ls hH hS hl hm
  rw [b_X5_numberFrom_45] at hm
  exact r_vret X hr hH hS hm dX5_numberFrom_45
def g_X5_numberFrom (F : Nat → Nat → m_M → Int32 → Int32 → Option m_M) (a o2 : Nat) (S : m_M) (i1 : Int32) (i3 : Int32) : Option m_M :=
    m_call (f_X5_rootOf a S i1) fun v2 S1 =>
    (m_ldi S1 (a + 2) 183 v2).bind fun v3 =>
    if v3 = (-1 : Int32) then (
    b_X5_numberFrom_29 F a o2 S1) else (
    (m_ldi S1 (a + 4) 183 v2).bind fun v5 =>
    if v5 = (-1 : Int32) then (
    if (25 : Int32) < i3 then (
    b_X5_numberFrom_45 F a o2 S1) else (
    if (m_ri S1 o2 0) < (24 : Int32) then (
    (m_sti S1 (a + 4) 183 v2 (m_ri S1 o2 0)).bind fun S9 =>
    m_let (m_si S9 o2 0 ((m_ri S9 o2 0) + (1 : Int32))) fun S10 =>
    (m_ldi S10 (a + 2) 183 v2).bind fun v11 =>
    m_cal0 (F a o2 S10 v11 (i3 + (1 : Int32))) fun S12 =>
    (m_ldi S12 (a + 3) 183 v2).bind fun v13 =>
    m_cal0 (F a o2 S12 v13 (i3 + (1 : Int32))) fun S14 =>
    some S14) else (
    b_X5_numberFrom_45 F a o2 S1))) else (
    b_X5_numberFrom_29 F a o2 S1))
set_option maxHeartbeats 4000000 in
set_option maxRecDepth 100000 in
theorem cg_X5_numberFrom {l : Launch} {G : m_G} {nx : Nat} {κ : Nat → Nat} {F : Nat → Nat → m_M → Int32 → Int32 → Option m_M} {rF : Room} (hrF : rF.cells = 0 ∧ rF.slots = 0) (hF : ∀ (a o2 : Nat) (S : m_M) (i1 : Int32) (i3 : Int32) (res : m_M), κ a = 6 → κ o2 = 7 → F a o2 S i1 i3 = some res → m_Cv l yX5_numberFrom cX5_numberFrom 5 rF G nx κ [.ref a, .int i1, .ref o2, .int i3] S res) {a o2 : Nat} {S : m_M} {i1 : Int32} {i3 : Int32} {res : m_M} (hT : m_Str κ) (hk_a : κ a = 6) (hk_o2 : κ o2 = 7) (hm : g_X5_numberFrom F a o2 S i1 i3 = some res) : m_Cv l yX5_numberFrom cX5_numberFrom 5 (rm_X5_numberFrom_ rF) G nx κ [.ref a, .int i1, .ref o2, .int i3] S res := by
  refine m_Cv.of (by decide) (Nat.le_of_ble_eq_true rfl) ?_
  intro p e s m args below meth c ls X hr hH hl
  have hx := X.1.1
  have hb := X.1.2.1
  have hS : m_S G s s.heap [] := va_S.rf
  have hl : lv_has ls 5 [(0, .ref a), (1, .int i1), (2, .ref o2), (3, .int i3)] := hl
  rw [g_X5_numberFrom] at hm
  refine lv_aload_n hx hb dX5_numberFrom_0 rfl (lv_at hl 0 rfl) ?_
  refine lv_iload_n hx hb dX5_numberFrom_1 rfl (lv_at hl 1 rfl) ?_
  obtain ⟨v2, S1, e_S1, hm⟩ := m_call_of hm
  refine n_cVi X hH hS (k := 5) (c_X5_rootOf (a := a) hT hk_a e_S1) mw_X5_rootOf in_4_35 hk_a (by decide) rfl rfl rfl ⟨rfl, rfl⟩ ⟨by simp only [rm_X5_numberFrom_, rm_X5_rootOf]; omega, by simp only [rm_X5_numberFrom_, rm_X5_rootOf]; omega⟩ ⟨Nat.zero_le _, Nat.zero_le _⟩ hl.1 (Nat.le_of_ble_eq_true rfl) dX5_numberFrom_2 (fun H locs hH hS => ?_)
  refine lv_istore (lv' := [(4, .int v2), (0, .ref a), (1, .int i1), (2, .ref o2), (3, .int i3)]) hx hb dX5_numberFrom_5 hl (by decide) rfl (fun ls hl => ?_)
  refine lv_aload_n hx hb dX5_numberFrom_7 rfl (lv_at hl 1 rfl) ?_
  refine r_getp X hH (k := 5) (a := a) (j := 1) (b := (a + 2)) (A := 2) (B := 0) hk_a (by decide) rfl m_wi5 (by decide) in_2_144 rfl rfl rfl dX5_numberFrom_8 ?_
  refine lv_iload hx hb dX5_numberFrom_11 (lv_at hl 0 rfl) ?_
  obtain ⟨v3, h_v3, e_v3, hm⟩ := n_ldi hm
  refine n_iald X hH (n := 183) (m_lay_at hT hk_a (by decide) (i := 2) rfl) h_v3 e_v3 dX5_numberFrom_13 ?_
  refine lv_iconst (v := (-1 : Int32)) hx hb dX5_numberFrom_14 (by decide) ?_
  refine lv_icmp_eq (tgt := 29) hx hb dX5_numberFrom_15 (by decide) (fun c4 => ?_) (fun c4 => ?_)
  · have hm := m_ite_t hm c4
    exact k_X5_numberFrom_29 (F := F) (a := a) (o2 := o2) X hr hT rF hrF hF hk_a hk_o2   S1 _ _ _ hH hS (lv_sub hl [] rfl) hm
  · have hm := m_ite_f hm c4
    refine lv_aload_n hx hb dX5_numberFrom_18 rfl (lv_at hl 1 rfl) ?_
    refine r_getp X hH (k := 5) (a := a) (j := 3) (b := (a + 4)) (A := 4) (B := 0) hk_a (by decide) rfl m_wi5 (by decide) in_2_146 rfl rfl rfl dX5_numberFrom_19 ?_
    refine lv_iload hx hb dX5_numberFrom_22 (lv_at hl 0 rfl) ?_
    obtain ⟨v5, h_v5, e_v5, hm⟩ := n_ldi hm
    refine n_iald X hH (n := 183) (m_lay_at hT hk_a (by decide) (i := 4) rfl) h_v5 e_v5 dX5_numberFrom_24 ?_
    refine lv_iconst (v := (-1 : Int32)) hx hb dX5_numberFrom_25 (by decide) ?_
    refine lv_icmp_eq (tgt := 30) hx hb dX5_numberFrom_26 (by decide) (fun c6 => ?_) (fun c6 => ?_)
    · have hm := m_ite_t hm c6
      refine lv_iload_n hx hb dX5_numberFrom_30 rfl (lv_at hl 4 rfl) ?_
      refine lv_bipush (v := (25 : Int32)) hx hb dX5_numberFrom_31 (by decide) ?_
      refine lv_icmp_gt (tgt := 45) hx hb dX5_numberFrom_33 (by decide) (fun c7 => ?_) (fun c7 => ?_)
      · have hm := m_ite_t hm c7
        exact k_X5_numberFrom_45 (F := F) (a := a) (o2 := o2) X hr hT rF hrF hF hk_a hk_o2   S1 _ _ _ hH hS (lv_sub hl [] rfl) hm
      · have hm := m_ite_f hm c7
        refine lv_aload_n hx hb dX5_numberFrom_36 rfl (lv_at hl 3 rfl) ?_
        refine r_geti X hH (k := 6) (a := o2) (j := 0) hk_o2 (by decide) rfl m_wi6 (by decide) in_1_53 rfl rfl dX5_numberFrom_37 ?_
        refine lv_bipush (v := (24 : Int32)) hx hb dX5_numberFrom_40 (by decide) ?_
        refine lv_icmp_lt (tgt := 46) hx hb dX5_numberFrom_42 (by decide) (fun c8 => ?_) (fun c8 => ?_)
        · have hm := m_ite_t hm c8
          refine lv_aload_n hx hb dX5_numberFrom_46 rfl (lv_at hl 1 rfl) ?_
          refine r_getp X hH (k := 5) (a := a) (j := 3) (b := (a + 4)) (A := 4) (B := 0) hk_a (by decide) rfl m_wi5 (by decide) in_2_146 rfl rfl rfl dX5_numberFrom_47 ?_
          refine lv_iload hx hb dX5_numberFrom_50 (lv_at hl 0 rfl) ?_
          refine lv_aload_n hx hb dX5_numberFrom_52 rfl (lv_at hl 3 rfl) ?_
          refine r_geti X hH (k := 6) (a := o2) (j := 0) hk_o2 (by decide) rfl m_wi6 (by decide) in_1_53 rfl rfl dX5_numberFrom_53 ?_
          obtain ⟨S9, h_S9, e_S9, hm⟩ := n_sti hm
          refine n_iast X hH hS (n := 183) (m_lay_at hT hk_a (by decide) (i := 4) rfl) h_S9 e_S9 dX5_numberFrom_56 (fun H locs hH hS => ?_)
          refine lv_aload_n hx hb dX5_numberFrom_57 rfl (lv_at hl 3 rfl) ?_
          refine lv_dup hx hb dX5_numberFrom_58 rfl ?_
          refine r_geti X hH (k := 6) (a := o2) (j := 0) hk_o2 (by decide) rfl m_wi6 (by decide) in_1_53 rfl rfl dX5_numberFrom_59 ?_
          refine lv_iconst (v := (1 : Int32)) hx hb dX5_numberFrom_62 (by decide) ?_
          refine lv_iadd hx hb dX5_numberFrom_63 ?_
          obtain ⟨S10, e_S10, hm⟩ := m_let_of hm
          refine n_puti X hH hS tyX6 (k := 6) (a := o2) (j := 0) hk_o2 (by decide) rfl m_wi6 tyX6_ok nmX6 (by decide) in_1_53 rfl rfl rfl ⟨rfl, rfl⟩ e_S10 dX5_numberFrom_64 (fun H locs hH hS => ?_)
          refine lv_aload_n hx hb dX5_numberFrom_67 rfl (lv_at hl 1 rfl) ?_
          refine lv_aload_n hx hb dX5_numberFrom_68 rfl (lv_at hl 1 rfl) ?_
          refine r_getp X hH (k := 5) (a := a) (j := 1) (b := (a + 2)) (A := 2) (B := 0) hk_a (by decide) rfl m_wi5 (by decide) in_2_144 rfl rfl rfl dX5_numberFrom_69 ?_
          refine lv_iload hx hb dX5_numberFrom_72 (lv_at hl 0 rfl) ?_
          obtain ⟨v11, h_v11, e_v11, hm⟩ := n_ldi hm
          refine n_iald X hH (n := 183) (m_lay_at hT hk_a (by decide) (i := 2) rfl) h_v11 e_v11 dX5_numberFrom_74 ?_
          refine lv_aload_n hx hb dX5_numberFrom_75 rfl (lv_at hl 3 rfl) ?_
          refine lv_iload_n hx hb dX5_numberFrom_76 rfl (lv_at hl 4 rfl) ?_
          refine lv_iconst (v := (1 : Int32)) hx hb dX5_numberFrom_77 (by decide) ?_
          refine lv_iadd hx hb dX5_numberFrom_78 ?_
          obtain ⟨S12, e_S12, hm⟩ := m_cal0_of hm
          refine r_cVv X hH hS (k := 5) (hF a o2 S10 v11 (i3 + (1 : Int32)) _ hk_a hk_o2 e_S12) mw_X5_numberFrom in_4_73 hk_a (by decide) rfl rfl rfl hrF ⟨by simp only [rm_X5_numberFrom_]; omega, by simp only [rm_X5_numberFrom_]; omega⟩ ⟨Nat.zero_le _, Nat.zero_le _⟩ hl.1 (Nat.le_of_ble_eq_true rfl) dX5_numberFrom_79 (fun H locs hH hS => ?_)
          refine lv_aload_n hx hb dX5_numberFrom_82 rfl (lv_at hl 1 rfl) ?_
          refine lv_aload_n hx hb dX5_numberFrom_83 rfl (lv_at hl 1 rfl) ?_
          refine r_getp X hH (k := 5) (a := a) (j := 2) (b := (a + 3)) (A := 3) (B := 0) hk_a (by decide) rfl m_wi5 (by decide) in_2_145 rfl rfl rfl dX5_numberFrom_84 ?_
          refine lv_iload hx hb dX5_numberFrom_87 (lv_at hl 0 rfl) ?_
          obtain ⟨v13, h_v13, e_v13, hm⟩ := n_ldi hm
          refine n_iald X hH (n := 183) (m_lay_at hT hk_a (by decide) (i := 3) rfl) h_v13 e_v13 dX5_numberFrom_89 ?_
          refine lv_aload_n hx hb dX5_numberFrom_90 rfl (lv_at hl 3 rfl) ?_
          refine lv_iload_n hx hb dX5_numberFrom_91 rfl (lv_at hl 4 rfl) ?_
          refine lv_iconst (v := (1 : Int32)) hx hb dX5_numberFrom_92 (by decide) ?_
          refine lv_iadd hx hb dX5_numberFrom_93 ?_
          obtain ⟨S14, e_S14, hm⟩ := m_cal0_of hm
          refine r_cVv X hH hS (k := 5) (hF a o2 S12 v13 (i3 + (1 : Int32)) _ hk_a hk_o2 e_S14) mw_X5_numberFrom in_4_73 hk_a (by decide) rfl rfl rfl hrF ⟨by simp only [rm_X5_numberFrom_]; omega, by simp only [rm_X5_numberFrom_]; omega⟩ ⟨Nat.zero_le _, Nat.zero_le _⟩ hl.1 (Nat.le_of_ble_eq_true rfl) dX5_numberFrom_94 (fun H locs hH hS => ?_)
          exact r_vret X hr hH hS hm dX5_numberFrom_97
        · have hm := m_ite_f hm c8
          exact k_X5_numberFrom_45 (F := F) (a := a) (o2 := o2) X hr hT rF hrF hF hk_a hk_o2   S1 _ _ _ hH hS (lv_sub hl [] rfl) hm
    · have hm := m_ite_f hm c6
      exact k_X5_numberFrom_29 (F := F) (a := a) (o2 := o2) X hr hT rF hrF hF hk_a hk_o2   S1 _ _ _ hH hS (lv_sub hl [] rfl) hm
def f_X5_numberFrom : Nat → Nat → Nat → m_M → Int32 → Int32 → Option m_M
  | 0, _, _, _, _, _ => none
  | d + 1, a, o2, S, i1, i3 => g_X5_numberFrom (f_X5_numberFrom d) a o2 S i1 i3
def rm_X5_numberFrom : Nat → Room
  | 0 => { frames := 0, cells := 0, slots := 0, locals := 0 }
  | d + 1 => rm_X5_numberFrom_ (rm_X5_numberFrom d)
theorem rd_X5_numberFrom (d : Nat) : (rm_X5_numberFrom d).cells = 0 ∧ (rm_X5_numberFrom d).slots = 0 := by cases d <;> exact ⟨rfl, rfl⟩
theorem c_X5_numberFrom {l : Launch} {G : m_G} {nx : Nat} {κ : Nat → Nat} (d : Nat) (hT : m_Str κ) : ∀ (a o2 : Nat) (S : m_M) (i1 : Int32) (i3 : Int32) (res : m_M), κ a = 6 → κ o2 = 7 → f_X5_numberFrom d a o2 S i1 i3 = some res → m_Cv l yX5_numberFrom cX5_numberFrom 5 (rm_X5_numberFrom d) G nx κ [.ref a, .int i1, .ref o2, .int i3] S res := by
  induction d with
  | zero => intro a o2 S i1 i3 res hk_a hk_o2 hm; have hm : (none : Option m_M) = some res := hm; cases hm
  | succ d ih => intro a o2 S i1 i3 res hk_a hk_o2 hm; exact cg_X5_numberFrom (F := f_X5_numberFrom d) (rF := rm_X5_numberFrom d) (rd_X5_numberFrom d) ih hT hk_a hk_o2 hm
def rm_X5_numberAll : Room := { frames := 31, cells := 0, slots := 0, locals := 744 }
def b_X5_numberAll_20 (a o1 : Nat) (K_10 : m_M → Int32 → Option m_M) : Nat → m_M → Int32 → Int32 → Option m_M
  | 0, _, _, _ => none
  | n + 1, S, l2, l3 =>
    m_call (f_X3_varCount o1 S l2) fun v2 S1 =>
    if v2 ≤ l3 then (
    m_let (l2 + (1 : Int32)) fun v4 =>
    K_10 S1 v4) else (
    m_call (f_X5_nodeOf S1 l2 l3) fun v6 S5 =>
    m_cal0 (f_X5_numberFrom 30 a (o1 + 8) S5 v6 (0 : Int32)) fun S7 =>
    m_let (l3 + (1 : Int32)) fun v8 =>
    b_X5_numberAll_20 a o1 K_10 n S7 l2 v8)
set_option maxHeartbeats 4000000 in
set_option maxRecDepth 100000 in
theorem k_X5_numberAll_20 {p : Program} {l : Launch} {e : Env} {s : State} {m : MethodId} {args : Array Value} {below : List Frame} {meth : Method} {c : Code} {G : m_G} {nx : Nat} {κ : Nat → Nat} {res : m_M} {a o1 : Nat} (X : m_Cx p s m args meth c cX5_numberAll 4 RX5 G) (hr : meth.sig.returnType = none) (hT : m_Str κ) (hk_a : κ a = 6) (hk_o1 : κ o1 = 4) (K_10 : m_M → Int32 → Option m_M) (hK_10 : ∀ (S : m_M) (l2 : Int32) (H : Heap) (locs : List Loc) (ls : Array Slot), m_H G nx κ S H → m_S G s H locs → lv_has ls 4 [(0, .ref a), (1, .ref o1), (2, .int l2)] → K_10 S l2 = some res → W p l e rm_X5_numberAll s m args below meth c H locs 0 0 (m_Qv below args s G nx κ res) (F0 m 10 ls [])) (n : Nat) : ∀ (S : m_M) (l2 : Int32) (l3 : Int32) (H : Heap) (locs : List Loc) (ls : Array Slot), m_H G nx κ S H → m_S G s H locs → lv_has ls 4 [(0, .ref a), (1, .ref o1), (2, .int l2), (3, .int l3)] → b_X5_numberAll_20 a o1 K_10 n S l2 l3 = some res → W p l e rm_X5_numberAll s m args below meth c H locs 0 0 (m_Qv below args s G nx κ res) (F0 m 20 ls []) := by
  have hx := X.1.1
  have hb := X.1.2.1
  induction n with
  | zero => intro S l2 l3 H locs ls hH hS hl hm; have hm : (none : Option m_M) = some res := hm; cases hm
  | succ n ih =>
    intro S l2 l3 H locs ls hH hS hl hm
    rw [b_X5_numberAll_20] at hm
    refine lv_iload_n hx hb dX5_numberAll_20 rfl (lv_at hl 3 rfl) ?_
    refine lv_aload_n hx hb dX5_numberAll_21 rfl (lv_at hl 1 rfl) ?_
    refine lv_iload_n hx hb dX5_numberAll_22 rfl (lv_at hl 2 rfl) ?_
    obtain ⟨v2, S1, e_S1, hm⟩ := m_call_of hm
    refine n_cVi X hH hS (k := 3) (c_X3_varCount (a := o1) hT hk_o1 e_S1) mw_X3_varCount in_4_72 hk_o1 (by decide) rfl rfl rfl ⟨rfl, rfl⟩ ⟨Nat.le_of_ble_eq_true rfl, Nat.le_of_ble_eq_true rfl⟩ ⟨Nat.zero_le _, Nat.zero_le _⟩ hl.1 (Nat.le_of_ble_eq_true rfl) dX5_numberAll_23 (fun H locs hH hS => ?_)
    refine lv_icmp_ge (tgt := 49) hx hb dX5_numberAll_26 (by decide) (fun c3 => ?_) (fun c3 => ?_)
    · have hm := m_ite_t hm c3
      obtain ⟨v4, e_v4, hm⟩ := m_let_of hm
      refine lv_iinc (v := v4) (lv' := [(2, .int v4), (0, .ref a), (1, .ref o1), (3, .int l3)]) hx hb dX5_numberAll_49 hl (k := 2) rfl (by rw [← e_v4]; rfl) (by decide) rfl (fun ls hl => ?_)
      refine lv_goto (tgt := 10) hx hb dX5_numberAll_52 (by decide) ?_
      exact hK_10 S1 v4 _ _ _ hH hS (lv_sub hl [1, 2, 0] rfl) hm
    · have hm := m_ite_f hm c3
      refine lv_aload_n hx hb dX5_numberAll_29 rfl (lv_at hl 0 rfl) ?_
      refine lv_iload_n hx hb dX5_numberAll_30 rfl (lv_at hl 2 rfl) ?_
      refine lv_iload_n hx hb dX5_numberAll_31 rfl (lv_at hl 3 rfl) ?_
      obtain ⟨v6, S5, e_S5, hm⟩ := m_call_of hm
      refine n_cSi X hH hS (c_X5_nodeOf  hT  e_S5) mw_X5_nodeOf in_4_21 rfl ⟨rfl, rfl⟩ ⟨Nat.le_of_ble_eq_true rfl, Nat.le_of_ble_eq_true rfl⟩ ⟨Nat.zero_le _, Nat.zero_le _⟩ hl.1 (Nat.le_of_ble_eq_true rfl) dX5_numberAll_32 (fun H locs hH hS => ?_)
      refine lv_aload_n hx hb dX5_numberAll_35 rfl (lv_at hl 1 rfl) ?_
      refine r_getp X hH (k := 3) (a := o1) (j := 9) (b := (o1 + 8)) (A := 8) (B := 0) hk_o1 (by decide) rfl m_wi3 (by decide) in_1_164 rfl rfl rfl dX5_numberAll_36 ?_
      refine lv_iconst (v := (0 : Int32)) hx hb dX5_numberAll_39 (by decide) ?_
      obtain ⟨S7, e_S7, hm⟩ := m_cal0_of hm
      refine r_cVv X hH hS (k := 5) (c_X5_numberFrom 30 hT a (o1 + 8) S5 v6 (0 : Int32) _ hk_a (m_lay_at hT hk_o1 (by decide) (i := 8) rfl) e_S7) mw_X5_numberFrom in_4_73 hk_a (by decide) rfl rfl rfl (rd_X5_numberFrom 30) ⟨Nat.le_of_ble_eq_true rfl, Nat.le_of_ble_eq_true rfl⟩ ⟨Nat.zero_le _, Nat.zero_le _⟩ hl.1 (Nat.le_of_ble_eq_true rfl) dX5_numberAll_40 (fun H locs hH hS => ?_)
      obtain ⟨v8, e_v8, hm⟩ := m_let_of hm
      refine lv_iinc (v := v8) (lv' := [(3, .int v8), (0, .ref a), (1, .ref o1), (2, .int l2)]) hx hb dX5_numberAll_43 hl (k := 3) rfl (by rw [← e_v8]; rfl) (by decide) rfl (fun ls hl => ?_)
      refine lv_goto (tgt := 20) hx hb dX5_numberAll_46 (by decide) ?_
      exact ih S7 l2 v8 _ _ _ hH hS (lv_sub hl [1, 2, 3, 0] rfl) hm
def b_X5_numberAll_10 (a o1 : Nat)  : Nat → m_M → Int32 → Option m_M
  | 0, _, _ => none
  | n + 1, S, l2 =>
    if (m_ri S o1 0) ≤ l2 then (
    some S) else (
    b_X5_numberAll_20 a o1 (b_X5_numberAll_10 a o1 n) m_fu S l2 (0 : Int32))
set_option maxHeartbeats 4000000 in
set_option maxRecDepth 100000 in
theorem k_X5_numberAll_10 {p : Program} {l : Launch} {e : Env} {s : State} {m : MethodId} {args : Array Value} {below : List Frame} {meth : Method} {c : Code} {G : m_G} {nx : Nat} {κ : Nat → Nat} {res : m_M} {a o1 : Nat} (X : m_Cx p s m args meth c cX5_numberAll 4 RX5 G) (hr : meth.sig.returnType = none) (hT : m_Str κ) (hk_a : κ a = 6) (hk_o1 : κ o1 = 4)  (n : Nat) : ∀ (S : m_M) (l2 : Int32) (H : Heap) (locs : List Loc) (ls : Array Slot), m_H G nx κ S H → m_S G s H locs → lv_has ls 4 [(0, .ref a), (1, .ref o1), (2, .int l2)] → b_X5_numberAll_10 a o1 n S l2 = some res → W p l e rm_X5_numberAll s m args below meth c H locs 0 0 (m_Qv below args s G nx κ res) (F0 m 10 ls []) := by
  have hx := X.1.1
  have hb := X.1.2.1
  induction n with
  | zero => intro S l2 H locs ls hH hS hl hm; have hm : (none : Option m_M) = some res := hm; cases hm
  | succ n ih =>
    intro S l2 H locs ls hH hS hl hm
    rw [b_X5_numberAll_10] at hm
    refine lv_iload_n hx hb dX5_numberAll_10 rfl (lv_at hl 2 rfl) ?_
    refine lv_aload_n hx hb dX5_numberAll_11 rfl (lv_at hl 1 rfl) ?_
    refine r_geti X hH (k := 3) (a := o1) (j := 0) hk_o1 (by decide) rfl m_wi3 (by decide) in_1_123 rfl rfl dX5_numberAll_12 ?_
    refine lv_icmp_ge (tgt := 55) hx hb dX5_numberAll_15 (by decide) (fun c1 => ?_) (fun c1 => ?_)
    · have hm := m_ite_t hm c1
      exact r_vret X hr hH hS hm dX5_numberAll_55
    · have hm := m_ite_f hm c1
      refine lv_iconst (v := (0 : Int32)) hx hb dX5_numberAll_18 (by decide) ?_
      refine lv_istore_n (lv' := [(3, .int (0 : Int32)), (0, .ref a), (1, .ref o1), (2, .int l2)]) hx hb dX5_numberAll_19 rfl hl (by decide) rfl (fun ls hl => ?_)
      exact k_X5_numberAll_20 (a := a) (o1 := o1) X hr hT hk_a hk_o1 (b_X5_numberAll_10 a o1 n) ih m_fu S l2 (0 : Int32) _ _ _ hH hS (lv_sub hl [1, 2, 3, 0] rfl) hm
def f_X5_numberAll (a o1 : Nat) (S : m_M)  : Option m_M :=
    m_let (m_si S (o1 + 8) 0 (0 : Int32)) fun S1 =>
    b_X5_numberAll_10 a o1 m_fu S1 (0 : Int32)
set_option maxHeartbeats 4000000 in
set_option maxRecDepth 100000 in
theorem c_X5_numberAll {l : Launch} {G : m_G} {nx : Nat} {κ : Nat → Nat} {a o1 : Nat} {S : m_M}  {res : m_M} (hT : m_Str κ) (hk_a : κ a = 6) (hk_o1 : κ o1 = 4) (hm : f_X5_numberAll a o1 S = some res) : m_Cv l yX5_numberAll cX5_numberAll 4 rm_X5_numberAll G nx κ [.ref a, .ref o1] S res := by
  refine m_Cv.of (by decide) (Nat.le_of_ble_eq_true rfl) ?_
  intro p e s m args below meth c ls X hr hH hl
  have hx := X.1.1
  have hb := X.1.2.1
  have hS : m_S G s s.heap [] := va_S.rf
  have hl : lv_has ls 4 [(0, .ref a), (1, .ref o1)] := hl
  rw [f_X5_numberAll] at hm
  refine lv_aload_n hx hb dX5_numberAll_0 rfl (lv_at hl 1 rfl) ?_
  refine r_getp X hH (k := 3) (a := o1) (j := 9) (b := (o1 + 8)) (A := 8) (B := 0) hk_o1 (by decide) rfl m_wi3 (by decide) in_1_164 rfl rfl rfl dX5_numberAll_1 ?_
  refine lv_iconst (v := (0 : Int32)) hx hb dX5_numberAll_4 (by decide) ?_
  obtain ⟨S1, e_S1, hm⟩ := m_let_of hm
  refine n_puti X hH hS tyX6 (k := 6) (a := (o1 + 8)) (j := 0) (m_lay_at hT hk_o1 (by decide) (i := 8) rfl) (by decide) rfl m_wi6 tyX6_ok nmX6 (by decide) in_1_53 rfl rfl rfl ⟨rfl, rfl⟩ e_S1 dX5_numberAll_5 (fun H locs hH hS => ?_)
  refine lv_iconst (v := (0 : Int32)) hx hb dX5_numberAll_8 (by decide) ?_
  refine lv_istore_n (lv' := [(2, .int (0 : Int32)), (0, .ref a), (1, .ref o1)]) hx hb dX5_numberAll_9 rfl hl (by decide) rfl (fun ls hl => ?_)
  exact k_X5_numberAll_10 (a := a) (o1 := o1) X hr hT hk_a hk_o1  m_fu S1 (0 : Int32) _ _ _ hH hS (lv_sub hl [1, 2, 0] rfl) hm
def rm_X5_tellAll : Room := { frames := 1, cells := 0, slots := 0, locals := 23 }
def b_X5_tellAll_12 (a o1 : Nat) (K_2 : m_M → Int32 → Option m_M) : Nat → m_M → Int32 → Int32 → Option m_M
  | 0, _, _, _ => none
  | n + 1, S, l2, l3 =>
    m_call (f_X3_varCount o1 S l2) fun v2 S1 =>
    if v2 ≤ l3 then (
    m_let (l2 + (1 : Int32)) fun v4 =>
    K_2 S1 v4) else (
    m_call (f_X5_nodeOf S1 l2 l3) fun v6 S5 =>
    m_call (f_X5_nodeOf S5 l2 l3) fun v8 S7 =>
    m_call (f_X5_rootOf a S7 v8) fun v10 S9 =>
    (m_ldi S9 (a + 4) 183 v10).bind fun v11 =>
    (m_sti S9 (o1 + 9) 135 v6 v11).bind fun S12 =>
    m_let (l3 + (1 : Int32)) fun v13 =>
    b_X5_tellAll_12 a o1 K_2 n S12 l2 v13)
set_option maxHeartbeats 4000000 in
set_option maxRecDepth 100000 in
theorem k_X5_tellAll_12 {p : Program} {l : Launch} {e : Env} {s : State} {m : MethodId} {args : Array Value} {below : List Frame} {meth : Method} {c : Code} {G : m_G} {nx : Nat} {κ : Nat → Nat} {res : m_M} {a o1 : Nat} (X : m_Cx p s m args meth c cX5_tellAll 4 RX5 G) (hr : meth.sig.returnType = none) (hT : m_Str κ) (hk_a : κ a = 6) (hk_o1 : κ o1 = 4) (K_2 : m_M → Int32 → Option m_M) (hK_2 : ∀ (S : m_M) (l2 : Int32) (H : Heap) (locs : List Loc) (ls : Array Slot), m_H G nx κ S H → m_S G s H locs → lv_has ls 4 [(0, .ref a), (1, .ref o1), (2, .int l2)] → K_2 S l2 = some res → W p l e rm_X5_tellAll s m args below meth c H locs 0 0 (m_Qv below args s G nx κ res) (F0 m 2 ls [])) (n : Nat) : ∀ (S : m_M) (l2 : Int32) (l3 : Int32) (H : Heap) (locs : List Loc) (ls : Array Slot), m_H G nx κ S H → m_S G s H locs → lv_has ls 4 [(0, .ref a), (1, .ref o1), (2, .int l2), (3, .int l3)] → b_X5_tellAll_12 a o1 K_2 n S l2 l3 = some res → W p l e rm_X5_tellAll s m args below meth c H locs 0 0 (m_Qv below args s G nx κ res) (F0 m 12 ls []) := by
  have hx := X.1.1
  have hb := X.1.2.1
  induction n with
  | zero => intro S l2 l3 H locs ls hH hS hl hm; have hm : (none : Option m_M) = some res := hm; cases hm
  | succ n ih =>
    intro S l2 l3 H locs ls hH hS hl hm
    rw [b_X5_tellAll_12] at hm
    refine lv_iload_n hx hb dX5_tellAll_12 rfl (lv_at hl 3 rfl) ?_
    refine lv_aload_n hx hb dX5_tellAll_13 rfl (lv_at hl 1 rfl) ?_
    refine lv_iload_n hx hb dX5_tellAll_14 rfl (lv_at hl 2 rfl) ?_
    obtain ⟨v2, S1, e_S1, hm⟩ := m_call_of hm
    refine n_cVi X hH hS (k := 3) (c_X3_varCount (a := o1) hT hk_o1 e_S1) mw_X3_varCount in_4_72 hk_o1 (by decide) rfl rfl rfl ⟨rfl, rfl⟩ ⟨Nat.le_of_ble_eq_true rfl, Nat.le_of_ble_eq_true rfl⟩ ⟨Nat.zero_le _, Nat.zero_le _⟩ hl.1 (Nat.le_of_ble_eq_true rfl) dX5_tellAll_15 (fun H locs hH hS => ?_)
    refine lv_icmp_ge (tgt := 54) hx hb dX5_tellAll_18 (by decide) (fun c3 => ?_) (fun c3 => ?_)
    · have hm := m_ite_t hm c3
      obtain ⟨v4, e_v4, hm⟩ := m_let_of hm
      refine lv_iinc (v := v4) (lv' := [(2, .int v4), (0, .ref a), (1, .ref o1), (3, .int l3)]) hx hb dX5_tellAll_54 hl (k := 2) rfl (by rw [← e_v4]; rfl) (by decide) rfl (fun ls hl => ?_)
      refine lv_goto (tgt := 2) hx hb dX5_tellAll_57 (by decide) ?_
      exact hK_2 S1 v4 _ _ _ hH hS (lv_sub hl [1, 2, 0] rfl) hm
    · have hm := m_ite_f hm c3
      refine lv_aload_n hx hb dX5_tellAll_21 rfl (lv_at hl 1 rfl) ?_
      refine r_getp X hH (k := 3) (a := o1) (j := 9) (b := (o1 + 8)) (A := 8) (B := 0) hk_o1 (by decide) rfl m_wi3 (by decide) in_1_164 rfl rfl rfl dX5_tellAll_22 ?_
      refine r_getp X hH (k := 6) (a := (o1 + 8)) (j := 2) (b := (o1 + 9)) (A := 1) (B := 0) (m_lay_at hT hk_o1 (by decide) (i := 8) rfl) (by decide) rfl m_wi6 (by decide) in_1_58 rfl rfl rfl dX5_tellAll_25 ?_
      refine lv_iload_n hx hb dX5_tellAll_28 rfl (lv_at hl 2 rfl) ?_
      refine lv_iload_n hx hb dX5_tellAll_29 rfl (lv_at hl 3 rfl) ?_
      obtain ⟨v6, S5, e_S5, hm⟩ := m_call_of hm
      refine n_cSi X hH hS (c_X5_nodeOf  hT  e_S5) mw_X5_nodeOf in_4_21 rfl ⟨rfl, rfl⟩ ⟨Nat.le_of_ble_eq_true rfl, Nat.le_of_ble_eq_true rfl⟩ ⟨Nat.zero_le _, Nat.zero_le _⟩ hl.1 (Nat.le_of_ble_eq_true rfl) dX5_tellAll_30 (fun H locs hH hS => ?_)
      refine lv_aload_n hx hb dX5_tellAll_33 rfl (lv_at hl 0 rfl) ?_
      refine r_getp X hH (k := 5) (a := a) (j := 3) (b := (a + 4)) (A := 4) (B := 0) hk_a (by decide) rfl m_wi5 (by decide) in_2_146 rfl rfl rfl dX5_tellAll_34 ?_
      refine lv_aload_n hx hb dX5_tellAll_37 rfl (lv_at hl 0 rfl) ?_
      refine lv_iload_n hx hb dX5_tellAll_38 rfl (lv_at hl 2 rfl) ?_
      refine lv_iload_n hx hb dX5_tellAll_39 rfl (lv_at hl 3 rfl) ?_
      obtain ⟨v8, S7, e_S7, hm⟩ := m_call_of hm
      refine n_cSi X hH hS (c_X5_nodeOf  hT  e_S7) mw_X5_nodeOf in_4_21 rfl ⟨rfl, rfl⟩ ⟨Nat.le_of_ble_eq_true rfl, Nat.le_of_ble_eq_true rfl⟩ ⟨Nat.zero_le _, Nat.zero_le _⟩ hl.1 (Nat.le_of_ble_eq_true rfl) dX5_tellAll_40 (fun H locs hH hS => ?_)
      obtain ⟨v10, S9, e_S9, hm⟩ := m_call_of hm
      refine n_cVi X hH hS (k := 5) (c_X5_rootOf (a := a) hT hk_a e_S9) mw_X5_rootOf in_4_35 hk_a (by decide) rfl rfl rfl ⟨rfl, rfl⟩ ⟨Nat.le_of_ble_eq_true rfl, Nat.le_of_ble_eq_true rfl⟩ ⟨Nat.zero_le _, Nat.zero_le _⟩ hl.1 (Nat.le_of_ble_eq_true rfl) dX5_tellAll_43 (fun H locs hH hS => ?_)
      obtain ⟨v11, h_v11, e_v11, hm⟩ := n_ldi hm
      refine n_iald X hH (n := 183) (m_lay_at hT hk_a (by decide) (i := 4) rfl) h_v11 e_v11 dX5_tellAll_46 ?_
      obtain ⟨S12, h_S12, e_S12, hm⟩ := n_sti hm
      refine n_iast X hH hS (n := 135) (m_lay_at hT hk_o1 (by decide) (i := 9) rfl) h_S12 e_S12 dX5_tellAll_47 (fun H locs hH hS => ?_)
      obtain ⟨v13, e_v13, hm⟩ := m_let_of hm
      refine lv_iinc (v := v13) (lv' := [(3, .int v13), (0, .ref a), (1, .ref o1), (2, .int l2)]) hx hb dX5_tellAll_48 hl (k := 3) rfl (by rw [← e_v13]; rfl) (by decide) rfl (fun ls hl => ?_)
      refine lv_goto (tgt := 12) hx hb dX5_tellAll_51 (by decide) ?_
      exact ih S12 l2 v13 _ _ _ hH hS (lv_sub hl [1, 2, 3, 0] rfl) hm
def b_X5_tellAll_129 (a o1 : Nat) (K_62 : m_M → Int32 → Option m_M) (S : m_M) (l2 : Int32) : Option m_M :=
    m_let (l2 + (1 : Int32)) fun v1 =>
    K_62 S v1
set_option maxHeartbeats 4000000 in
set_option maxRecDepth 100000 in
theorem k_X5_tellAll_129 {p : Program} {l : Launch} {e : Env} {s : State} {m : MethodId} {args : Array Value} {below : List Frame} {meth : Method} {c : Code} {G : m_G} {nx : Nat} {κ : Nat → Nat} {res : m_M} {a o1 : Nat} (X : m_Cx p s m args meth c cX5_tellAll 4 RX5 G) (hr : meth.sig.returnType = none) (hT : m_Str κ) (hk_a : κ a = 6) (hk_o1 : κ o1 = 4) (K_62 : m_M → Int32 → Option m_M) (hK_62 : ∀ (S : m_M) (l2 : Int32) (H : Heap) (locs : List Loc) (ls : Array Slot), m_H G nx κ S H → m_S G s H locs → lv_has ls 4 [(0, .ref a), (1, .ref o1), (2, .int l2)] → K_62 S l2 = some res → W p l e rm_X5_tellAll s m args below meth c H locs 0 0 (m_Qv below args s G nx κ res) (F0 m 62 ls [])) : ∀ (S : m_M) (l2 : Int32) (H : Heap) (locs : List Loc) (ls : Array Slot), m_H G nx κ S H → m_S G s H locs → lv_has ls 4 [(0, .ref a), (1, .ref o1), (2, .int l2)] → b_X5_tellAll_129 a o1 K_62 S l2 = some res → W p l e rm_X5_tellAll s m args below meth c H locs 0 0 (m_Qv below args s G nx κ res) (F0 m 129 ls []) := by
  have hx := X.1.1
  have hb := X.1.2.1
  intro S l2 H locs ls hH hS hl hm
  rw [b_X5_tellAll_129] at hm
  obtain ⟨v1, e_v1, hm⟩ := m_let_of hm
  refine lv_iinc (v := v1) (lv' := [(2, .int v1), (0, .ref a), (1, .ref o1)]) hx hb dX5_tellAll_129 hl (k := 2) rfl (by rw [← e_v1]; rfl) (by decide) rfl (fun ls hl => ?_)
  refine lv_goto (tgt := 62) hx hb dX5_tellAll_132 (by decide) ?_
  exact hK_62 S v1 _ _ _ hH hS (lv_sub hl [1, 2, 0] rfl) hm
def b_X5_tellAll_62 (a o1 : Nat)  : Nat → m_M → Int32 → Option m_M
  | 0, _, _ => none
  | n + 1, S, l2 =>
    if (183 : Int32) ≤ l2 then (
    some S) else (
    (m_ldi S (a + 4) 183 l2).bind fun v2 =>
    if v2 = (-1 : Int32) then (
    b_X5_tellAll_129 a o1 (b_X5_tellAll_62 a o1 n) S l2) else (
    (m_ldi S (a + 2) 183 l2).bind fun v4 =>
    m_call (f_X5_rootOf a S v4) fun v6 S5 =>
    (m_ldi S5 (a + 4) 183 v6).bind fun v7 =>
    (m_sti S5 (o1 + 11) 24 v2 v7).bind fun S8 =>
    (m_ldi S8 (a + 3) 183 l2).bind fun v9 =>
    m_call (f_X5_rootOf a S8 v9) fun v11 S10 =>
    (m_ldi S10 (a + 4) 183 v11).bind fun v12 =>
    (m_sti S10 (o1 + 12) 24 v2 v12).bind fun S13 =>
    b_X5_tellAll_129 a o1 (b_X5_tellAll_62 a o1 n) S13 l2))
set_option maxHeartbeats 4000000 in
set_option maxRecDepth 100000 in
theorem k_X5_tellAll_62 {p : Program} {l : Launch} {e : Env} {s : State} {m : MethodId} {args : Array Value} {below : List Frame} {meth : Method} {c : Code} {G : m_G} {nx : Nat} {κ : Nat → Nat} {res : m_M} {a o1 : Nat} (X : m_Cx p s m args meth c cX5_tellAll 4 RX5 G) (hr : meth.sig.returnType = none) (hT : m_Str κ) (hk_a : κ a = 6) (hk_o1 : κ o1 = 4)  (n : Nat) : ∀ (S : m_M) (l2 : Int32) (H : Heap) (locs : List Loc) (ls : Array Slot), m_H G nx κ S H → m_S G s H locs → lv_has ls 4 [(0, .ref a), (1, .ref o1), (2, .int l2)] → b_X5_tellAll_62 a o1 n S l2 = some res → W p l e rm_X5_tellAll s m args below meth c H locs 0 0 (m_Qv below args s G nx κ res) (F0 m 62 ls []) := by
  have hx := X.1.1
  have hb := X.1.2.1
  induction n with
  | zero => intro S l2 H locs ls hH hS hl hm; have hm : (none : Option m_M) = some res := hm; cases hm
  | succ n ih =>
    intro S l2 H locs ls hH hS hl hm
    rw [b_X5_tellAll_62] at hm
    refine lv_iload_n hx hb dX5_tellAll_62 rfl (lv_at hl 2 rfl) ?_
    refine lv_sipush (v := (183 : Int32)) hx hb dX5_tellAll_63 (by decide) ?_
    refine lv_icmp_ge (tgt := 135) hx hb dX5_tellAll_66 (by decide) (fun c1 => ?_) (fun c1 => ?_)
    · have hm := m_ite_t hm c1
      exact r_vret X hr hH hS hm dX5_tellAll_135
    · have hm := m_ite_f hm c1
      refine lv_aload_n hx hb dX5_tellAll_69 rfl (lv_at hl 0 rfl) ?_
      refine r_getp X hH (k := 5) (a := a) (j := 3) (b := (a + 4)) (A := 4) (B := 0) hk_a (by decide) rfl m_wi5 (by decide) in_2_146 rfl rfl rfl dX5_tellAll_70 ?_
      refine lv_iload_n hx hb dX5_tellAll_73 rfl (lv_at hl 2 rfl) ?_
      obtain ⟨v2, h_v2, e_v2, hm⟩ := n_ldi hm
      refine n_iald X hH (n := 183) (m_lay_at hT hk_a (by decide) (i := 4) rfl) h_v2 e_v2 dX5_tellAll_74 ?_
      refine lv_istore_n (lv' := [(3, .int v2), (0, .ref a), (1, .ref o1), (2, .int l2)]) hx hb dX5_tellAll_75 rfl hl (by decide) rfl (fun ls hl => ?_)
      refine lv_iload_n hx hb dX5_tellAll_76 rfl (lv_at hl 0 rfl) ?_
      refine lv_iconst (v := (-1 : Int32)) hx hb dX5_tellAll_77 (by decide) ?_
      refine lv_icmp_eq (tgt := 129) hx hb dX5_tellAll_78 (by decide) (fun c3 => ?_) (fun c3 => ?_)
      · have hm := m_ite_t hm c3
        exact k_X5_tellAll_129 (a := a) (o1 := o1) X hr hT hk_a hk_o1 (b_X5_tellAll_62 a o1 n) ih  S l2 _ _ _ hH hS (lv_sub hl [1, 2, 3] rfl) hm
      · have hm := m_ite_f hm c3
        refine lv_aload_n hx hb dX5_tellAll_81 rfl (lv_at hl 2 rfl) ?_
        refine r_getp X hH (k := 3) (a := o1) (j := 9) (b := (o1 + 8)) (A := 8) (B := 0) hk_o1 (by decide) rfl m_wi3 (by decide) in_1_164 rfl rfl rfl dX5_tellAll_82 ?_
        refine r_getp X hH (k := 6) (a := (o1 + 8)) (j := 4) (b := (o1 + 11)) (A := 3) (B := 0) (m_lay_at hT hk_o1 (by decide) (i := 8) rfl) (by decide) rfl m_wi6 (by decide) in_1_62 rfl rfl rfl dX5_tellAll_85 ?_
        refine lv_iload_n hx hb dX5_tellAll_88 rfl (lv_at hl 0 rfl) ?_
        refine lv_aload_n hx hb dX5_tellAll_89 rfl (lv_at hl 1 rfl) ?_
        refine r_getp X hH (k := 5) (a := a) (j := 3) (b := (a + 4)) (A := 4) (B := 0) hk_a (by decide) rfl m_wi5 (by decide) in_2_146 rfl rfl rfl dX5_tellAll_90 ?_
        refine lv_aload_n hx hb dX5_tellAll_93 rfl (lv_at hl 1 rfl) ?_
        refine lv_aload_n hx hb dX5_tellAll_94 rfl (lv_at hl 1 rfl) ?_
        refine r_getp X hH (k := 5) (a := a) (j := 1) (b := (a + 2)) (A := 2) (B := 0) hk_a (by decide) rfl m_wi5 (by decide) in_2_144 rfl rfl rfl dX5_tellAll_95 ?_
        refine lv_iload_n hx hb dX5_tellAll_98 rfl (lv_at hl 3 rfl) ?_
        obtain ⟨v4, h_v4, e_v4, hm⟩ := n_ldi hm
        refine n_iald X hH (n := 183) (m_lay_at hT hk_a (by decide) (i := 2) rfl) h_v4 e_v4 dX5_tellAll_99 ?_
        obtain ⟨v6, S5, e_S5, hm⟩ := m_call_of hm
        refine n_cVi X hH hS (k := 5) (c_X5_rootOf (a := a) hT hk_a e_S5) mw_X5_rootOf in_4_35 hk_a (by decide) rfl rfl rfl ⟨rfl, rfl⟩ ⟨Nat.le_of_ble_eq_true rfl, Nat.le_of_ble_eq_true rfl⟩ ⟨Nat.zero_le _, Nat.zero_le _⟩ hl.1 (Nat.le_of_ble_eq_true rfl) dX5_tellAll_100 (fun H locs hH hS => ?_)
        obtain ⟨v7, h_v7, e_v7, hm⟩ := n_ldi hm
        refine n_iald X hH (n := 183) (m_lay_at hT hk_a (by decide) (i := 4) rfl) h_v7 e_v7 dX5_tellAll_103 ?_
        obtain ⟨S8, h_S8, e_S8, hm⟩ := n_sti hm
        refine n_iast X hH hS (n := 24) (m_lay_at hT hk_o1 (by decide) (i := 11) rfl) h_S8 e_S8 dX5_tellAll_104 (fun H locs hH hS => ?_)
        refine lv_aload_n hx hb dX5_tellAll_105 rfl (lv_at hl 2 rfl) ?_
        refine r_getp X hH (k := 3) (a := o1) (j := 9) (b := (o1 + 8)) (A := 8) (B := 0) hk_o1 (by decide) rfl m_wi3 (by decide) in_1_164 rfl rfl rfl dX5_tellAll_106 ?_
        refine r_getp X hH (k := 6) (a := (o1 + 8)) (j := 5) (b := (o1 + 12)) (A := 4) (B := 0) (m_lay_at hT hk_o1 (by decide) (i := 8) rfl) (by decide) rfl m_wi6 (by decide) in_1_65 rfl rfl rfl dX5_tellAll_109 ?_
        refine lv_iload_n hx hb dX5_tellAll_112 rfl (lv_at hl 0 rfl) ?_
        refine lv_aload_n hx hb dX5_tellAll_113 rfl (lv_at hl 1 rfl) ?_
        refine r_getp X hH (k := 5) (a := a) (j := 3) (b := (a + 4)) (A := 4) (B := 0) hk_a (by decide) rfl m_wi5 (by decide) in_2_146 rfl rfl rfl dX5_tellAll_114 ?_
        refine lv_aload_n hx hb dX5_tellAll_117 rfl (lv_at hl 1 rfl) ?_
        refine lv_aload_n hx hb dX5_tellAll_118 rfl (lv_at hl 1 rfl) ?_
        refine r_getp X hH (k := 5) (a := a) (j := 2) (b := (a + 3)) (A := 3) (B := 0) hk_a (by decide) rfl m_wi5 (by decide) in_2_145 rfl rfl rfl dX5_tellAll_119 ?_
        refine lv_iload_n hx hb dX5_tellAll_122 rfl (lv_at hl 3 rfl) ?_
        obtain ⟨v9, h_v9, e_v9, hm⟩ := n_ldi hm
        refine n_iald X hH (n := 183) (m_lay_at hT hk_a (by decide) (i := 3) rfl) h_v9 e_v9 dX5_tellAll_123 ?_
        obtain ⟨v11, S10, e_S10, hm⟩ := m_call_of hm
        refine n_cVi X hH hS (k := 5) (c_X5_rootOf (a := a) hT hk_a e_S10) mw_X5_rootOf in_4_35 hk_a (by decide) rfl rfl rfl ⟨rfl, rfl⟩ ⟨Nat.le_of_ble_eq_true rfl, Nat.le_of_ble_eq_true rfl⟩ ⟨Nat.zero_le _, Nat.zero_le _⟩ hl.1 (Nat.le_of_ble_eq_true rfl) dX5_tellAll_124 (fun H locs hH hS => ?_)
        obtain ⟨v12, h_v12, e_v12, hm⟩ := n_ldi hm
        refine n_iald X hH (n := 183) (m_lay_at hT hk_a (by decide) (i := 4) rfl) h_v12 e_v12 dX5_tellAll_127 ?_
        obtain ⟨S13, h_S13, e_S13, hm⟩ := n_sti hm
        refine n_iast X hH hS (n := 24) (m_lay_at hT hk_o1 (by decide) (i := 12) rfl) h_S13 e_S13 dX5_tellAll_128 (fun H locs hH hS => ?_)
        exact k_X5_tellAll_129 (a := a) (o1 := o1) X hr hT hk_a hk_o1 (b_X5_tellAll_62 a o1 n) ih  S13 l2 _ _ _ hH hS (lv_sub hl [1, 2, 3] rfl) hm
def b_X5_tellAll_2 (a o1 : Nat)  : Nat → m_M → Int32 → Option m_M
  | 0, _, _ => none
  | n + 1, S, l2 =>
    if (m_ri S o1 0) ≤ l2 then (
    b_X5_tellAll_62 a o1 m_fu S (0 : Int32)) else (
    b_X5_tellAll_12 a o1 (b_X5_tellAll_2 a o1 n) m_fu S l2 (0 : Int32))
set_option maxHeartbeats 4000000 in
set_option maxRecDepth 100000 in
theorem k_X5_tellAll_2 {p : Program} {l : Launch} {e : Env} {s : State} {m : MethodId} {args : Array Value} {below : List Frame} {meth : Method} {c : Code} {G : m_G} {nx : Nat} {κ : Nat → Nat} {res : m_M} {a o1 : Nat} (X : m_Cx p s m args meth c cX5_tellAll 4 RX5 G) (hr : meth.sig.returnType = none) (hT : m_Str κ) (hk_a : κ a = 6) (hk_o1 : κ o1 = 4)  (n : Nat) : ∀ (S : m_M) (l2 : Int32) (H : Heap) (locs : List Loc) (ls : Array Slot), m_H G nx κ S H → m_S G s H locs → lv_has ls 4 [(0, .ref a), (1, .ref o1), (2, .int l2)] → b_X5_tellAll_2 a o1 n S l2 = some res → W p l e rm_X5_tellAll s m args below meth c H locs 0 0 (m_Qv below args s G nx κ res) (F0 m 2 ls []) := by
  have hx := X.1.1
  have hb := X.1.2.1
  induction n with
  | zero => intro S l2 H locs ls hH hS hl hm; have hm : (none : Option m_M) = some res := hm; cases hm
  | succ n ih =>
    intro S l2 H locs ls hH hS hl hm
    rw [b_X5_tellAll_2] at hm
    refine lv_iload_n hx hb dX5_tellAll_2 rfl (lv_at hl 2 rfl) ?_
    refine lv_aload_n hx hb dX5_tellAll_3 rfl (lv_at hl 1 rfl) ?_
    refine r_geti X hH (k := 3) (a := o1) (j := 0) hk_o1 (by decide) rfl m_wi3 (by decide) in_1_123 rfl rfl dX5_tellAll_4 ?_
    refine lv_icmp_ge (tgt := 60) hx hb dX5_tellAll_7 (by decide) (fun c1 => ?_) (fun c1 => ?_)
    · have hm := m_ite_t hm c1
      refine lv_iconst (v := (0 : Int32)) hx hb dX5_tellAll_60 (by decide) ?_
      refine lv_istore_n (lv' := [(2, .int (0 : Int32)), (0, .ref a), (1, .ref o1)]) hx hb dX5_tellAll_61 rfl hl (by decide) rfl (fun ls hl => ?_)
      exact k_X5_tellAll_62 (a := a) (o1 := o1) X hr hT hk_a hk_o1  m_fu S (0 : Int32) _ _ _ hH hS (lv_sub hl [1, 2, 0] rfl) hm
    · have hm := m_ite_f hm c1
      refine lv_iconst (v := (0 : Int32)) hx hb dX5_tellAll_10 (by decide) ?_
      refine lv_istore_n (lv' := [(3, .int (0 : Int32)), (0, .ref a), (1, .ref o1), (2, .int l2)]) hx hb dX5_tellAll_11 rfl hl (by decide) rfl (fun ls hl => ?_)
      exact k_X5_tellAll_12 (a := a) (o1 := o1) X hr hT hk_a hk_o1 (b_X5_tellAll_2 a o1 n) ih m_fu S l2 (0 : Int32) _ _ _ hH hS (lv_sub hl [1, 2, 3, 0] rfl) hm
def f_X5_tellAll (a o1 : Nat) (S : m_M)  : Option m_M :=
    b_X5_tellAll_2 a o1 m_fu S (0 : Int32)
set_option maxHeartbeats 4000000 in
set_option maxRecDepth 100000 in
theorem c_X5_tellAll {l : Launch} {G : m_G} {nx : Nat} {κ : Nat → Nat} {a o1 : Nat} {S : m_M}  {res : m_M} (hT : m_Str κ) (hk_a : κ a = 6) (hk_o1 : κ o1 = 4) (hm : f_X5_tellAll a o1 S = some res) : m_Cv l yX5_tellAll cX5_tellAll 4 rm_X5_tellAll G nx κ [.ref a, .ref o1] S res := by
  refine m_Cv.of (by decide) (Nat.le_of_ble_eq_true rfl) ?_
  intro p e s m args below meth c ls X hr hH hl
  have hx := X.1.1
  have hb := X.1.2.1
  have hS : m_S G s s.heap [] := va_S.rf
  have hl : lv_has ls 4 [(0, .ref a), (1, .ref o1)] := hl
  rw [f_X5_tellAll] at hm
  refine lv_iconst (v := (0 : Int32)) hx hb dX5_tellAll_0 (by decide) ?_
  refine lv_istore_n (lv' := [(2, .int (0 : Int32)), (0, .ref a), (1, .ref o1)]) hx hb dX5_tellAll_1 rfl hl (by decide) rfl (fun ls hl => ?_)
  exact k_X5_tellAll_2 (a := a) (o1 := o1) X hr hT hk_a hk_o1  m_fu S (0 : Int32) _ _ _ hH hS (lv_sub hl [1, 2, 0] rfl) hm
def rm_X5_findAll : Room := { frames := 33, cells := 0, slots := 0, locals := 918 }
def b_X5_findAll_21 (a o1 : Nat) (K_6 : m_M → Int32 → Option m_M) : Nat → m_M → Int32 → Int32 → Option m_M
  | 0, _, _, _ => none
  | n + 1, S, l2, l3 =>
    (m_ldi S (o1 + 3) 5 l2).bind fun v1 =>
    (m_ldi S (o1 + 4) 5 l2).bind fun v2 =>
    if (v1 + v2) ≤ l3 then (
    m_let (l2 + (1 : Int32)) fun v4 =>
    K_6 S v4) else (
    m_cal0 (f_X5_joinLine a o1 S l2 l3) fun S5 =>
    m_let (l3 + (1 : Int32)) fun v6 =>
    b_X5_findAll_21 a o1 K_6 n S5 l2 v6)
set_option maxHeartbeats 4000000 in
set_option maxRecDepth 100000 in
theorem k_X5_findAll_21 {p : Program} {l : Launch} {e : Env} {s : State} {m : MethodId} {args : Array Value} {below : List Frame} {meth : Method} {c : Code} {G : m_G} {nx : Nat} {κ : Nat → Nat} {res : m_M} {a o1 : Nat} (X : m_Cx p s m args meth c cX5_findAll 4 RX5 G) (hr : meth.sig.returnType = none) (hT : m_Str κ) (hk_a : κ a = 6) (hk_o1 : κ o1 = 4) (K_6 : m_M → Int32 → Option m_M) (hK_6 : ∀ (S : m_M) (l2 : Int32) (H : Heap) (locs : List Loc) (ls : Array Slot), m_H G nx κ S H → m_S G s H locs → lv_has ls 4 [(0, .ref a), (1, .ref o1), (2, .int l2)] → K_6 S l2 = some res → W p l e rm_X5_findAll s m args below meth c H locs 0 0 (m_Qv below args s G nx κ res) (F0 m 6 ls [])) (n : Nat) : ∀ (S : m_M) (l2 : Int32) (l3 : Int32) (H : Heap) (locs : List Loc) (ls : Array Slot), m_H G nx κ S H → m_S G s H locs → lv_has ls 4 [(0, .ref a), (1, .ref o1), (2, .int l2), (3, .int l3)] → b_X5_findAll_21 a o1 K_6 n S l2 l3 = some res → W p l e rm_X5_findAll s m args below meth c H locs 0 0 (m_Qv below args s G nx κ res) (F0 m 21 ls []) := by
  have hx := X.1.1
  have hb := X.1.2.1
  induction n with
  | zero => intro S l2 l3 H locs ls hH hS hl hm; have hm : (none : Option m_M) = some res := hm; cases hm
  | succ n ih =>
    intro S l2 l3 H locs ls hH hS hl hm
    rw [b_X5_findAll_21] at hm
    refine lv_iload_n hx hb dX5_findAll_21 rfl (lv_at hl 3 rfl) ?_
    refine lv_aload_n hx hb dX5_findAll_22 rfl (lv_at hl 1 rfl) ?_
    refine r_getp X hH (k := 3) (a := o1) (j := 4) (b := (o1 + 3)) (A := 3) (B := 0) hk_o1 (by decide) rfl m_wi3 (by decide) in_1_140 rfl rfl rfl dX5_findAll_23 ?_
    refine lv_iload_n hx hb dX5_findAll_26 rfl (lv_at hl 2 rfl) ?_
    obtain ⟨v1, h_v1, e_v1, hm⟩ := n_ldi hm
    refine n_iald X hH (n := 5) (m_lay_at hT hk_o1 (by decide) (i := 3) rfl) h_v1 e_v1 dX5_findAll_27 ?_
    refine lv_aload_n hx hb dX5_findAll_28 rfl (lv_at hl 1 rfl) ?_
    refine r_getp X hH (k := 3) (a := o1) (j := 5) (b := (o1 + 4)) (A := 4) (B := 0) hk_o1 (by decide) rfl m_wi3 (by decide) in_1_144 rfl rfl rfl dX5_findAll_29 ?_
    refine lv_iload_n hx hb dX5_findAll_32 rfl (lv_at hl 2 rfl) ?_
    obtain ⟨v2, h_v2, e_v2, hm⟩ := n_ldi hm
    refine n_iald X hH (n := 5) (m_lay_at hT hk_o1 (by decide) (i := 4) rfl) h_v2 e_v2 dX5_findAll_33 ?_
    refine lv_iadd hx hb dX5_findAll_34 ?_
    refine lv_icmp_ge (tgt := 51) hx hb dX5_findAll_35 (by decide) (fun c3 => ?_) (fun c3 => ?_)
    · have hm := m_ite_t hm c3
      obtain ⟨v4, e_v4, hm⟩ := m_let_of hm
      refine lv_iinc (v := v4) (lv' := [(2, .int v4), (0, .ref a), (1, .ref o1), (3, .int l3)]) hx hb dX5_findAll_51 hl (k := 2) rfl (by rw [← e_v4]; rfl) (by decide) rfl (fun ls hl => ?_)
      refine lv_goto (tgt := 6) hx hb dX5_findAll_54 (by decide) ?_
      exact hK_6 S v4 _ _ _ hH hS (lv_sub hl [1, 2, 0] rfl) hm
    · have hm := m_ite_f hm c3
      refine lv_aload_n hx hb dX5_findAll_38 rfl (lv_at hl 0 rfl) ?_
      refine lv_aload_n hx hb dX5_findAll_39 rfl (lv_at hl 1 rfl) ?_
      refine lv_iload_n hx hb dX5_findAll_40 rfl (lv_at hl 2 rfl) ?_
      refine lv_iload_n hx hb dX5_findAll_41 rfl (lv_at hl 3 rfl) ?_
      obtain ⟨S5, e_S5, hm⟩ := m_cal0_of hm
      refine r_cVv X hH hS (k := 5) (c_X5_joinLine (a := a) (o1 := o1) hT hk_a hk_o1 e_S5) mw_X5_joinLine in_4_13 hk_a (by decide) rfl rfl rfl ⟨rfl, rfl⟩ ⟨Nat.le_of_ble_eq_true rfl, Nat.le_of_ble_eq_true rfl⟩ ⟨Nat.zero_le _, Nat.zero_le _⟩ hl.1 (Nat.le_of_ble_eq_true rfl) dX5_findAll_42 (fun H locs hH hS => ?_)
      obtain ⟨v6, e_v6, hm⟩ := m_let_of hm
      refine lv_iinc (v := v6) (lv' := [(3, .int v6), (0, .ref a), (1, .ref o1), (2, .int l2)]) hx hb dX5_findAll_45 hl (k := 3) rfl (by rw [← e_v6]; rfl) (by decide) rfl (fun ls hl => ?_)
      refine lv_goto (tgt := 21) hx hb dX5_findAll_48 (by decide) ?_
      exact ih S5 l2 v6 _ _ _ hH hS (lv_sub hl [1, 2, 3, 0] rfl) hm
def b_X5_findAll_6 (a o1 : Nat)  : Nat → m_M → Int32 → Option m_M
  | 0, _, _ => none
  | n + 1, S, l2 =>
    if (m_ri S o1 0) ≤ l2 then (
    m_cal0 (f_X5_numberAll a o1 S) fun S2 =>
    m_cal0 (f_X5_tellAll a o1 S2) fun S3 =>
    some S3) else (
    (m_ldi S (o1 + 3) 5 l2).bind fun v4 =>
    b_X5_findAll_21 a o1 (b_X5_findAll_6 a o1 n) m_fu S l2 v4)
set_option maxHeartbeats 4000000 in
set_option maxRecDepth 100000 in
theorem k_X5_findAll_6 {p : Program} {l : Launch} {e : Env} {s : State} {m : MethodId} {args : Array Value} {below : List Frame} {meth : Method} {c : Code} {G : m_G} {nx : Nat} {κ : Nat → Nat} {res : m_M} {a o1 : Nat} (X : m_Cx p s m args meth c cX5_findAll 4 RX5 G) (hr : meth.sig.returnType = none) (hT : m_Str κ) (hk_a : κ a = 6) (hk_o1 : κ o1 = 4)  (n : Nat) : ∀ (S : m_M) (l2 : Int32) (H : Heap) (locs : List Loc) (ls : Array Slot), m_H G nx κ S H → m_S G s H locs → lv_has ls 4 [(0, .ref a), (1, .ref o1), (2, .int l2)] → b_X5_findAll_6 a o1 n S l2 = some res → W p l e rm_X5_findAll s m args below meth c H locs 0 0 (m_Qv below args s G nx κ res) (F0 m 6 ls []) := by
  have hx := X.1.1
  have hb := X.1.2.1
  induction n with
  | zero => intro S l2 H locs ls hH hS hl hm; have hm : (none : Option m_M) = some res := hm; cases hm
  | succ n ih =>
    intro S l2 H locs ls hH hS hl hm
    rw [b_X5_findAll_6] at hm
    refine lv_iload_n hx hb dX5_findAll_6 rfl (lv_at hl 2 rfl) ?_
    refine lv_aload_n hx hb dX5_findAll_7 rfl (lv_at hl 1 rfl) ?_
    refine r_geti X hH (k := 3) (a := o1) (j := 0) hk_o1 (by decide) rfl m_wi3 (by decide) in_1_123 rfl rfl dX5_findAll_8 ?_
    refine lv_icmp_ge (tgt := 57) hx hb dX5_findAll_11 (by decide) (fun c1 => ?_) (fun c1 => ?_)
    · have hm := m_ite_t hm c1
      refine lv_aload_n hx hb dX5_findAll_57 rfl (lv_at hl 0 rfl) ?_
      refine lv_aload_n hx hb dX5_findAll_58 rfl (lv_at hl 1 rfl) ?_
      obtain ⟨S2, e_S2, hm⟩ := m_cal0_of hm
      refine r_cVv X hH hS (k := 5) (c_X5_numberAll (a := a) (o1 := o1) hT hk_a hk_o1 e_S2) mw_X5_numberAll in_4_68 hk_a (by decide) rfl rfl rfl ⟨rfl, rfl⟩ ⟨Nat.le_of_ble_eq_true rfl, Nat.le_of_ble_eq_true rfl⟩ ⟨Nat.zero_le _, Nat.zero_le _⟩ hl.1 (Nat.le_of_ble_eq_true rfl) dX5_findAll_59 (fun H locs hH hS => ?_)
      refine lv_aload_n hx hb dX5_findAll_62 rfl (lv_at hl 0 rfl) ?_
      refine lv_aload_n hx hb dX5_findAll_63 rfl (lv_at hl 1 rfl) ?_
      obtain ⟨S3, e_S3, hm⟩ := m_cal0_of hm
      refine r_cVv X hH hS (k := 5) (c_X5_tellAll (a := a) (o1 := o1) hT hk_a hk_o1 e_S3) mw_X5_tellAll in_4_77 hk_a (by decide) rfl rfl rfl ⟨rfl, rfl⟩ ⟨Nat.le_of_ble_eq_true rfl, Nat.le_of_ble_eq_true rfl⟩ ⟨Nat.zero_le _, Nat.zero_le _⟩ hl.1 (Nat.le_of_ble_eq_true rfl) dX5_findAll_64 (fun H locs hH hS => ?_)
      exact r_vret X hr hH hS hm dX5_findAll_67
    · have hm := m_ite_f hm c1
      refine lv_aload_n hx hb dX5_findAll_14 rfl (lv_at hl 1 rfl) ?_
      refine r_getp X hH (k := 3) (a := o1) (j := 4) (b := (o1 + 3)) (A := 3) (B := 0) hk_o1 (by decide) rfl m_wi3 (by decide) in_1_140 rfl rfl rfl dX5_findAll_15 ?_
      refine lv_iload_n hx hb dX5_findAll_18 rfl (lv_at hl 2 rfl) ?_
      obtain ⟨v4, h_v4, e_v4, hm⟩ := n_ldi hm
      refine n_iald X hH (n := 5) (m_lay_at hT hk_o1 (by decide) (i := 3) rfl) h_v4 e_v4 dX5_findAll_19 ?_
      refine lv_istore_n (lv' := [(3, .int v4), (0, .ref a), (1, .ref o1), (2, .int l2)]) hx hb dX5_findAll_20 rfl hl (by decide) rfl (fun ls hl => ?_)
      exact k_X5_findAll_21 (a := a) (o1 := o1) X hr hT hk_a hk_o1 (b_X5_findAll_6 a o1 n) ih m_fu S l2 v4 _ _ _ hH hS (lv_sub hl [1, 2, 3, 0] rfl) hm
def f_X5_findAll (a o1 : Nat) (S : m_M)  : Option m_M :=
    m_cal0 (f_X5_clear a S) fun S1 =>
    b_X5_findAll_6 a o1 m_fu S1 (0 : Int32)
set_option maxHeartbeats 4000000 in
set_option maxRecDepth 100000 in
theorem c_X5_findAll {l : Launch} {G : m_G} {nx : Nat} {κ : Nat → Nat} {a o1 : Nat} {S : m_M}  {res : m_M} (hT : m_Str κ) (hk_a : κ a = 6) (hk_o1 : κ o1 = 4) (hm : f_X5_findAll a o1 S = some res) : m_Cv l yX5_findAll cX5_findAll 4 rm_X5_findAll G nx κ [.ref a, .ref o1] S res := by
  refine m_Cv.of (by decide) (Nat.le_of_ble_eq_true rfl) ?_
  intro p e s m args below meth c ls X hr hH hl
  have hx := X.1.1
  have hb := X.1.2.1
  have hS : m_S G s s.heap [] := va_S.rf
  have hl : lv_has ls 4 [(0, .ref a), (1, .ref o1)] := hl
  rw [f_X5_findAll] at hm
  refine lv_aload_n hx hb dX5_findAll_0 rfl (lv_at hl 0 rfl) ?_
  obtain ⟨S1, e_S1, hm⟩ := m_cal0_of hm
  refine r_cVv X hH hS (k := 5) (c_X5_clear (a := a) hT hk_a e_S1) mw_X5_clear in_4_8 hk_a (by decide) rfl rfl rfl ⟨rfl, rfl⟩ ⟨Nat.le_of_ble_eq_true rfl, Nat.le_of_ble_eq_true rfl⟩ ⟨Nat.zero_le _, Nat.zero_le _⟩ hl.1 (Nat.le_of_ble_eq_true rfl) dX5_findAll_1 (fun H locs hH hS => ?_)
  refine lv_iconst (v := (0 : Int32)) hx hb dX5_findAll_4 (by decide) ?_
  refine lv_istore_n (lv' := [(2, .int (0 : Int32)), (0, .ref a), (1, .ref o1)]) hx hb dX5_findAll_5 rfl hl (by decide) rfl (fun ls hl => ?_)
  exact k_X5_findAll_6 (a := a) (o1 := o1) X hr hT hk_a hk_o1  m_fu S1 (0 : Int32) _ _ _ hH hS (lv_sub hl [1, 2, 0] rfl) hm
def rm_X6_has : Room := { frames := 0, cells := 0, slots := 0, locals := 0 }
def b_X6_has_17 (a : Nat)  (S : m_M) (t0 : Int32) : Option (Int32 × m_M) :=
    if t0 = 0 ∨ t0 = 1 then some (t0, S) else none
set_option maxHeartbeats 4000000 in
set_option maxRecDepth 100000 in
theorem k_X6_has_17 {p : Program} {l : Launch} {e : Env} {s : State} {m : MethodId} {args : Array Value} {below : List Frame} {meth : Method} {c : Code} {G : m_G} {nx : Nat} {κ : Nat → Nat} {res : (Int32 × m_M)} {a : Nat} (X : m_Cx p s m args meth c cX6_has 2 RX6 G) (hr : meth.sig.returnType = (some .boolean)) (hT : m_Str κ) (hk_a : κ a = 7)  : ∀ (S : m_M) (t0 : Int32) (H : Heap) (locs : List Loc) (ls : Array Slot), m_H G nx κ S H → m_S G s H locs → lv_has ls 2 [] → b_X6_has_17 a S t0 = some res → W p l e rm_X6_has s m args below meth c H locs 0 0 (m_Qi below args s G nx κ res) (F0 m 17 ls [.int t0]) := by
  have hx := X.1.1
  have hb := X.1.2.1
  intro S t0 H locs ls hH hS hl hm
  rw [b_X6_has_17] at hm
  exact r_zret X hr hH hS hm dX6_has_17
def b_X6_has_16 (a : Nat)  (S : m_M)  : Option (Int32 × m_M) :=
    b_X6_has_17 a S (0 : Int32)
set_option maxHeartbeats 4000000 in
set_option maxRecDepth 100000 in
theorem k_X6_has_16 {p : Program} {l : Launch} {e : Env} {s : State} {m : MethodId} {args : Array Value} {below : List Frame} {meth : Method} {c : Code} {G : m_G} {nx : Nat} {κ : Nat → Nat} {res : (Int32 × m_M)} {a : Nat} (X : m_Cx p s m args meth c cX6_has 2 RX6 G) (hr : meth.sig.returnType = (some .boolean)) (hT : m_Str κ) (hk_a : κ a = 7)  : ∀ (S : m_M)  (H : Heap) (locs : List Loc) (ls : Array Slot), m_H G nx κ S H → m_S G s H locs → lv_has ls 2 [] → b_X6_has_16 a S  = some res → W p l e rm_X6_has s m args below meth c H locs 0 0 (m_Qi below args s G nx κ res) (F0 m 16 ls []) := by
  have hx := X.1.1
  have hb := X.1.2.1
  intro S H locs ls hH hS hl hm
  rw [b_X6_has_16] at hm
  refine lv_iconst (v := (0 : Int32)) hx hb dX6_has_16 (by decide) ?_
  exact k_X6_has_17 (a := a) X hr hT hk_a   S (0 : Int32) _ _ _ hH hS hl hm
def f_X6_has (a : Nat) (S : m_M) (i1 : Int32) : Option (Int32 × m_M) :=
    if i1 < 0 then (
    b_X6_has_16 a S) else (
    if (m_ri S a 0) ≤ i1 then (
    b_X6_has_16 a S) else (
    b_X6_has_17 a S (1 : Int32)))
set_option maxHeartbeats 4000000 in
set_option maxRecDepth 100000 in
theorem c_X6_has {l : Launch} {G : m_G} {nx : Nat} {κ : Nat → Nat} {a : Nat} {S : m_M} {i1 : Int32} {res : (Int32 × m_M)} (hT : m_Str κ) (hk_a : κ a = 7) (hm : f_X6_has a S i1 = some res) : m_Ci l yX6_has cX6_has 2 (some .boolean) rm_X6_has G nx κ [.ref a, .int i1] S res := by
  refine m_Ci.of (by decide) (Nat.le_of_ble_eq_true rfl) ?_
  intro p e s m args below meth c ls X hr hH hl
  have hx := X.1.1
  have hb := X.1.2.1
  have hS : m_S G s s.heap [] := va_S.rf
  have hl : lv_has ls 2 [(0, .ref a), (1, .int i1)] := hl
  rw [f_X6_has] at hm
  refine lv_iload_n hx hb dX6_has_0 rfl (lv_at hl 1 rfl) ?_
  refine lv_if_lt (tgt := 16) hx hb dX6_has_1 (by decide) (fun c1 => ?_) (fun c1 => ?_)
  · have hm := m_ite_t hm c1
    exact k_X6_has_16 (a := a) X hr hT hk_a   S _ _ _ hH hS (lv_sub hl [] rfl) hm
  · have hm := m_ite_f hm c1
    refine lv_iload_n hx hb dX6_has_4 rfl (lv_at hl 1 rfl) ?_
    refine lv_aload_n hx hb dX6_has_5 rfl (lv_at hl 0 rfl) ?_
    refine r_geti X hH (k := 6) (a := a) (j := 0) hk_a (by decide) rfl m_wi6 (by decide) in_1_52 rfl rfl dX6_has_6 ?_
    refine lv_icmp_ge (tgt := 16) hx hb dX6_has_9 (by decide) (fun c2 => ?_) (fun c2 => ?_)
    · have hm := m_ite_t hm c2
      exact k_X6_has_16 (a := a) X hr hT hk_a   S _ _ _ hH hS (lv_sub hl [] rfl) hm
    · have hm := m_ite_f hm c2
      refine lv_iconst (v := (1 : Int32)) hx hb dX6_has_12 (by decide) ?_
      refine lv_goto (tgt := 17) hx hb dX6_has_13 (by decide) ?_
      exact k_X6_has_17 (a := a) X hr hT hk_a   S (1 : Int32) _ _ _ hH hS (lv_sub hl [] rfl) hm
def rm_X6_isOwned : Room := { frames := 0, cells := 0, slots := 0, locals := 0 }
def b_X6_isOwned_18 (a : Nat)  (S : m_M) (t0 : Int32) : Option (Int32 × m_M) :=
    if t0 = 0 ∨ t0 = 1 then some (t0, S) else none
set_option maxHeartbeats 4000000 in
set_option maxRecDepth 100000 in
theorem k_X6_isOwned_18 {p : Program} {l : Launch} {e : Env} {s : State} {m : MethodId} {args : Array Value} {below : List Frame} {meth : Method} {c : Code} {G : m_G} {nx : Nat} {κ : Nat → Nat} {res : (Int32 × m_M)} {a : Nat} (X : m_Cx p s m args meth c cX6_isOwned 3 RX6 G) (hr : meth.sig.returnType = (some .boolean)) (hT : m_Str κ) (hk_a : κ a = 7)  : ∀ (S : m_M) (t0 : Int32) (H : Heap) (locs : List Loc) (ls : Array Slot), m_H G nx κ S H → m_S G s H locs → lv_has ls 3 [] → b_X6_isOwned_18 a S t0 = some res → W p l e rm_X6_isOwned s m args below meth c H locs 0 0 (m_Qi below args s G nx κ res) (F0 m 18 ls [.int t0]) := by
  have hx := X.1.1
  have hb := X.1.2.1
  intro S t0 H locs ls hH hS hl hm
  rw [b_X6_isOwned_18] at hm
  exact r_zret X hr hH hS hm dX6_isOwned_18
def f_X6_isOwned (a : Nat) (S : m_M) (i1 : Int32) (i2 : Int32) : Option (Int32 × m_M) :=
    (m_ldi S (a + 9) 5 i1).bind fun v1 =>
    if ((v1 >>> (i2 &&& 31)) &&& (1 : Int32)) = 0 then (
    b_X6_isOwned_18 a S (0 : Int32)) else (
    b_X6_isOwned_18 a S (1 : Int32))
set_option maxHeartbeats 4000000 in
set_option maxRecDepth 100000 in
theorem c_X6_isOwned {l : Launch} {G : m_G} {nx : Nat} {κ : Nat → Nat} {a : Nat} {S : m_M} {i1 : Int32} {i2 : Int32} {res : (Int32 × m_M)} (hT : m_Str κ) (hk_a : κ a = 7) (hm : f_X6_isOwned a S i1 i2 = some res) : m_Ci l yX6_isOwned cX6_isOwned 3 (some .boolean) rm_X6_isOwned G nx κ [.ref a, .int i1, .int i2] S res := by
  refine m_Ci.of (by decide) (Nat.le_of_ble_eq_true rfl) ?_
  intro p e s m args below meth c ls X hr hH hl
  have hx := X.1.1
  have hb := X.1.2.1
  have hS : m_S G s s.heap [] := va_S.rf
  have hl : lv_has ls 3 [(0, .ref a), (1, .int i1), (2, .int i2)] := hl
  rw [f_X6_isOwned] at hm
  refine lv_aload_n hx hb dX6_isOwned_0 rfl (lv_at hl 0 rfl) ?_
  refine r_getp X hH (k := 6) (a := a) (j := 10) (b := (a + 9)) (A := 9) (B := 0) hk_a (by decide) rfl m_wi6 (by decide) in_1_77 rfl rfl rfl dX6_isOwned_1 ?_
  refine lv_iload_n hx hb dX6_isOwned_4 rfl (lv_at hl 1 rfl) ?_
  obtain ⟨v1, h_v1, e_v1, hm⟩ := n_ldi hm
  refine n_iald X hH (n := 5) (m_lay_at hT hk_a (by decide) (i := 9) rfl) h_v1 e_v1 dX6_isOwned_5 ?_
  refine lv_iload_n hx hb dX6_isOwned_6 rfl (lv_at hl 2 rfl) ?_
  refine lv_ishr hx hb dX6_isOwned_7 ?_
  refine lv_iconst (v := (1 : Int32)) hx hb dX6_isOwned_8 (by decide) ?_
  refine lv_iand hx hb dX6_isOwned_9 ?_
  refine lv_if_eq (tgt := 17) hx hb dX6_isOwned_10 (by decide) (fun c2 => ?_) (fun c2 => ?_)
  · have hm := m_ite_t hm c2
    refine lv_iconst (v := (0 : Int32)) hx hb dX6_isOwned_17 (by decide) ?_
    exact k_X6_isOwned_18 (a := a) X hr hT hk_a   S (0 : Int32) _ _ _ hH hS (lv_sub hl [] rfl) hm
  · have hm := m_ite_f hm c2
    refine lv_iconst (v := (1 : Int32)) hx hb dX6_isOwned_13 (by decide) ?_
    refine lv_goto (tgt := 18) hx hb dX6_isOwned_14 (by decide) ?_
    exact k_X6_isOwned_18 (a := a) X hr hT hk_a   S (1 : Int32) _ _ _ hH hS (lv_sub hl [] rfl) hm
def rm_X6_isFinite : Room := { frames := 0, cells := 0, slots := 0, locals := 0 }
def b_X6_isFinite_16 (a : Nat)  (S : m_M) (t0 : Int32) : Option (Int32 × m_M) :=
    if t0 = 0 ∨ t0 = 1 then some (t0, S) else none
set_option maxHeartbeats 4000000 in
set_option maxRecDepth 100000 in
theorem k_X6_isFinite_16 {p : Program} {l : Launch} {e : Env} {s : State} {m : MethodId} {args : Array Value} {below : List Frame} {meth : Method} {c : Code} {G : m_G} {nx : Nat} {κ : Nat → Nat} {res : (Int32 × m_M)} {a : Nat} (X : m_Cx p s m args meth c cX6_isFinite 2 RX6 G) (hr : meth.sig.returnType = (some .boolean)) (hT : m_Str κ) (hk_a : κ a = 7)  : ∀ (S : m_M) (t0 : Int32) (H : Heap) (locs : List Loc) (ls : Array Slot), m_H G nx κ S H → m_S G s H locs → lv_has ls 2 [] → b_X6_isFinite_16 a S t0 = some res → W p l e rm_X6_isFinite s m args below meth c H locs 0 0 (m_Qi below args s G nx κ res) (F0 m 16 ls [.int t0]) := by
  have hx := X.1.1
  have hb := X.1.2.1
  intro S t0 H locs ls hH hS hl hm
  rw [b_X6_isFinite_16] at hm
  exact r_zret X hr hH hS hm dX6_isFinite_16
def f_X6_isFinite (a : Nat) (S : m_M) (i1 : Int32) : Option (Int32 × m_M) :=
    if (((m_ri S a 1) >>> (i1 &&& 31)) &&& (1 : Int32)) = 0 then (
    b_X6_isFinite_16 a S (0 : Int32)) else (
    b_X6_isFinite_16 a S (1 : Int32))
set_option maxHeartbeats 4000000 in
set_option maxRecDepth 100000 in
theorem c_X6_isFinite {l : Launch} {G : m_G} {nx : Nat} {κ : Nat → Nat} {a : Nat} {S : m_M} {i1 : Int32} {res : (Int32 × m_M)} (hT : m_Str κ) (hk_a : κ a = 7) (hm : f_X6_isFinite a S i1 = some res) : m_Ci l yX6_isFinite cX6_isFinite 2 (some .boolean) rm_X6_isFinite G nx κ [.ref a, .int i1] S res := by
  refine m_Ci.of (by decide) (Nat.le_of_ble_eq_true rfl) ?_
  intro p e s m args below meth c ls X hr hH hl
  have hx := X.1.1
  have hb := X.1.2.1
  have hS : m_S G s s.heap [] := va_S.rf
  have hl : lv_has ls 2 [(0, .ref a), (1, .int i1)] := hl
  rw [f_X6_isFinite] at hm
  refine lv_aload_n hx hb dX6_isFinite_0 rfl (lv_at hl 0 rfl) ?_
  refine r_geti X hH (k := 6) (a := a) (j := 1) hk_a (by decide) rfl m_wi6 (by decide) in_1_55 rfl rfl dX6_isFinite_1 ?_
  refine lv_iload_n hx hb dX6_isFinite_4 rfl (lv_at hl 1 rfl) ?_
  refine lv_ishr hx hb dX6_isFinite_5 ?_
  refine lv_iconst (v := (1 : Int32)) hx hb dX6_isFinite_6 (by decide) ?_
  refine lv_iand hx hb dX6_isFinite_7 ?_
  refine lv_if_eq (tgt := 15) hx hb dX6_isFinite_8 (by decide) (fun c1 => ?_) (fun c1 => ?_)
  · have hm := m_ite_t hm c1
    refine lv_iconst (v := (0 : Int32)) hx hb dX6_isFinite_15 (by decide) ?_
    exact k_X6_isFinite_16 (a := a) X hr hT hk_a   S (0 : Int32) _ _ _ hH hS (lv_sub hl [] rfl) hm
  · have hm := m_ite_f hm c1
    refine lv_iconst (v := (1 : Int32)) hx hb dX6_isFinite_11 (by decide) ?_
    refine lv_goto (tgt := 16) hx hb dX6_isFinite_12 (by decide) ?_
    exact k_X6_isFinite_16 (a := a) X hr hT hk_a   S (1 : Int32) _ _ _ hH hS (lv_sub hl [] rfl) hm
def rm_X6_reachOf : Room := { frames := 1, cells := 0, slots := 0, locals := 21 }
def b_X6_reachOf_18 (a : Nat)  (S : m_M) (t0 : Int32) : Option (Int32 × m_M) :=
    some (t0, S)
set_option maxHeartbeats 4000000 in
set_option maxRecDepth 100000 in
theorem k_X6_reachOf_18 {p : Program} {l : Launch} {e : Env} {s : State} {m : MethodId} {args : Array Value} {below : List Frame} {meth : Method} {c : Code} {G : m_G} {nx : Nat} {κ : Nat → Nat} {res : (Int32 × m_M)} {a : Nat} (X : m_Cx p s m args meth c cX6_reachOf 2 RX6 G) (hr : meth.sig.returnType = (some .int)) (hT : m_Str κ) (hk_a : κ a = 7)  : ∀ (S : m_M) (t0 : Int32) (H : Heap) (locs : List Loc) (ls : Array Slot), m_H G nx κ S H → m_S G s H locs → lv_has ls 2 [] → b_X6_reachOf_18 a S t0 = some res → W p l e rm_X6_reachOf s m args below meth c H locs 0 0 (m_Qi below args s G nx κ res) (F0 m 18 ls [.int t0]) := by
  have hx := X.1.1
  have hb := X.1.2.1
  intro S t0 H locs ls hH hS hl hm
  rw [b_X6_reachOf_18] at hm
  exact r_iret X hr hH hS hm dX6_reachOf_18
def f_X6_reachOf (a : Nat) (S : m_M) (i1 : Int32) : Option (Int32 × m_M) :=
    m_call (f_X6_has a S i1) fun v2 S1 =>
    if v2 = 0 then (
    b_X6_reachOf_18 a S1 (0 : Int32)) else (
    (m_ldi S1 (a + 5) 24 i1).bind fun v4 =>
    b_X6_reachOf_18 a S1 v4)
set_option maxHeartbeats 4000000 in
set_option maxRecDepth 100000 in
theorem c_X6_reachOf {l : Launch} {G : m_G} {nx : Nat} {κ : Nat → Nat} {a : Nat} {S : m_M} {i1 : Int32} {res : (Int32 × m_M)} (hT : m_Str κ) (hk_a : κ a = 7) (hm : f_X6_reachOf a S i1 = some res) : m_Ci l yX6_reachOf cX6_reachOf 2 (some .int) rm_X6_reachOf G nx κ [.ref a, .int i1] S res := by
  refine m_Ci.of (by decide) (Nat.le_of_ble_eq_true rfl) ?_
  intro p e s m args below meth c ls X hr hH hl
  have hx := X.1.1
  have hb := X.1.2.1
  have hS : m_S G s s.heap [] := va_S.rf
  have hl : lv_has ls 2 [(0, .ref a), (1, .int i1)] := hl
  rw [f_X6_reachOf] at hm
  refine lv_aload_n hx hb dX6_reachOf_0 rfl (lv_at hl 0 rfl) ?_
  refine lv_iload_n hx hb dX6_reachOf_1 rfl (lv_at hl 1 rfl) ?_
  obtain ⟨v2, S1, e_S1, hm⟩ := m_call_of hm
  refine n_cVi X hH hS (k := 6) (c_X6_has (a := a) hT hk_a e_S1) mw_X6_has in_4_93 hk_a (by decide) rfl rfl rfl ⟨rfl, rfl⟩ ⟨Nat.le_of_ble_eq_true rfl, Nat.le_of_ble_eq_true rfl⟩ ⟨Nat.zero_le _, Nat.zero_le _⟩ hl.1 (Nat.le_of_ble_eq_true rfl) dX6_reachOf_2 (fun H locs hH hS => ?_)
  refine lv_if_eq (tgt := 17) hx hb dX6_reachOf_5 (by decide) (fun c3 => ?_) (fun c3 => ?_)
  · have hm := m_ite_t hm c3
    refine lv_iconst (v := (0 : Int32)) hx hb dX6_reachOf_17 (by decide) ?_
    exact k_X6_reachOf_18 (a := a) X hr hT hk_a   S1 (0 : Int32) _ _ _ hH hS (lv_sub hl [] rfl) hm
  · have hm := m_ite_f hm c3
    refine lv_aload_n hx hb dX6_reachOf_8 rfl (lv_at hl 0 rfl) ?_
    refine r_getp X hH (k := 6) (a := a) (j := 6) (b := (a + 5)) (A := 5) (B := 0) hk_a (by decide) rfl m_wi6 (by decide) in_1_66 rfl rfl rfl dX6_reachOf_9 ?_
    refine lv_iload_n hx hb dX6_reachOf_12 rfl (lv_at hl 1 rfl) ?_
    obtain ⟨v4, h_v4, e_v4, hm⟩ := n_ldi hm
    refine n_iald X hH (n := 24) (m_lay_at hT hk_a (by decide) (i := 5) rfl) h_v4 e_v4 dX6_reachOf_13 ?_
    refine lv_goto (tgt := 18) hx hb dX6_reachOf_14 (by decide) ?_
    exact k_X6_reachOf_18 (a := a) X hr hT hk_a   S1 v4 _ _ _ hH hS (lv_sub hl [] rfl) hm
def rm_X6_closeReach : Room := { frames := 2, cells := 0, slots := 0, locals := 42 }
def b_X6_closeReach_37 (a : Nat) (K_27 : m_M → Int32 → Option m_M) : Nat → m_M → Int32 → Int32 → Option m_M
  | 0, _, _, _ => none
  | n + 1, S, l1, l2 =>
    if (m_ri S a 0) ≤ l2 then (
    m_let (l1 + (1 : Int32)) fun v2 =>
    K_27 S v2) else (
    (m_ldi S (a + 5) 24 l2).bind fun v3 =>
    (m_ldi S (a + 3) 24 l2).bind fun v4 =>
    m_call (f_X6_reachOf a S v4) fun v6 S5 =>
    (m_ldi S5 (a + 4) 24 l2).bind fun v7 =>
    m_call (f_X6_reachOf a S5 v7) fun v9 S8 =>
    (m_sti S8 (a + 5) 24 l2 (v3 ||| (v6 ||| v9))).bind fun S10 =>
    m_let (l2 + (1 : Int32)) fun v11 =>
    b_X6_closeReach_37 a K_27 n S10 l1 v11)
set_option maxHeartbeats 4000000 in
set_option maxRecDepth 100000 in
theorem k_X6_closeReach_37 {p : Program} {l : Launch} {e : Env} {s : State} {m : MethodId} {args : Array Value} {below : List Frame} {meth : Method} {c : Code} {G : m_G} {nx : Nat} {κ : Nat → Nat} {res : m_M} {a : Nat} (X : m_Cx p s m args meth c cX6_closeReach 3 RX6 G) (hr : meth.sig.returnType = none) (hT : m_Str κ) (hk_a : κ a = 7) (K_27 : m_M → Int32 → Option m_M) (hK_27 : ∀ (S : m_M) (l1 : Int32) (H : Heap) (locs : List Loc) (ls : Array Slot), m_H G nx κ S H → m_S G s H locs → lv_has ls 3 [(0, .ref a), (1, .int l1)] → K_27 S l1 = some res → W p l e rm_X6_closeReach s m args below meth c H locs 0 0 (m_Qv below args s G nx κ res) (F0 m 27 ls [])) (n : Nat) : ∀ (S : m_M) (l1 : Int32) (l2 : Int32) (H : Heap) (locs : List Loc) (ls : Array Slot), m_H G nx κ S H → m_S G s H locs → lv_has ls 3 [(0, .ref a), (1, .int l1), (2, .int l2)] → b_X6_closeReach_37 a K_27 n S l1 l2 = some res → W p l e rm_X6_closeReach s m args below meth c H locs 0 0 (m_Qv below args s G nx κ res) (F0 m 37 ls []) := by
  have hx := X.1.1
  have hb := X.1.2.1
  induction n with
  | zero => intro S l1 l2 H locs ls hH hS hl hm; have hm : (none : Option m_M) = some res := hm; cases hm
  | succ n ih =>
    intro S l1 l2 H locs ls hH hS hl hm
    rw [b_X6_closeReach_37] at hm
    refine lv_iload_n hx hb dX6_closeReach_37 rfl (lv_at hl 2 rfl) ?_
    refine lv_aload_n hx hb dX6_closeReach_38 rfl (lv_at hl 0 rfl) ?_
    refine r_geti X hH (k := 6) (a := a) (j := 0) hk_a (by decide) rfl m_wi6 (by decide) in_1_52 rfl rfl dX6_closeReach_39 ?_
    refine lv_icmp_ge (tgt := 81) hx hb dX6_closeReach_42 (by decide) (fun c1 => ?_) (fun c1 => ?_)
    · have hm := m_ite_t hm c1
      obtain ⟨v2, e_v2, hm⟩ := m_let_of hm
      refine lv_iinc (v := v2) (lv' := [(1, .int v2), (0, .ref a), (2, .int l2)]) hx hb dX6_closeReach_81 hl (k := 1) rfl (by rw [← e_v2]; rfl) (by decide) rfl (fun ls hl => ?_)
      refine lv_goto (tgt := 27) hx hb dX6_closeReach_84 (by decide) ?_
      exact hK_27 S v2 _ _ _ hH hS (lv_sub hl [1, 0] rfl) hm
    · have hm := m_ite_f hm c1
      refine lv_aload_n hx hb dX6_closeReach_45 rfl (lv_at hl 0 rfl) ?_
      refine r_getp X hH (k := 6) (a := a) (j := 6) (b := (a + 5)) (A := 5) (B := 0) hk_a (by decide) rfl m_wi6 (by decide) in_1_66 rfl rfl rfl dX6_closeReach_46 ?_
      refine lv_iload_n hx hb dX6_closeReach_49 rfl (lv_at hl 2 rfl) ?_
      refine lv_dup2_11 hx hb dX6_closeReach_50 rfl rfl ?_
      obtain ⟨v3, h_v3, e_v3, hm⟩ := n_ldi hm
      refine n_iald X hH (n := 24) (m_lay_at hT hk_a (by decide) (i := 5) rfl) h_v3 e_v3 dX6_closeReach_51 ?_
      refine lv_aload_n hx hb dX6_closeReach_52 rfl (lv_at hl 0 rfl) ?_
      refine lv_aload_n hx hb dX6_closeReach_53 rfl (lv_at hl 0 rfl) ?_
      refine r_getp X hH (k := 6) (a := a) (j := 4) (b := (a + 3)) (A := 3) (B := 0) hk_a (by decide) rfl m_wi6 (by decide) in_1_60 rfl rfl rfl dX6_closeReach_54 ?_
      refine lv_iload_n hx hb dX6_closeReach_57 rfl (lv_at hl 2 rfl) ?_
      obtain ⟨v4, h_v4, e_v4, hm⟩ := n_ldi hm
      refine n_iald X hH (n := 24) (m_lay_at hT hk_a (by decide) (i := 3) rfl) h_v4 e_v4 dX6_closeReach_58 ?_
      obtain ⟨v6, S5, e_S5, hm⟩ := m_call_of hm
      refine n_cVi X hH hS (k := 6) (c_X6_reachOf (a := a) hT hk_a e_S5) mw_X6_reachOf in_4_89 hk_a (by decide) rfl rfl rfl ⟨rfl, rfl⟩ ⟨Nat.le_of_ble_eq_true rfl, Nat.le_of_ble_eq_true rfl⟩ ⟨Nat.zero_le _, Nat.zero_le _⟩ hl.1 (Nat.le_of_ble_eq_true rfl) dX6_closeReach_59 (fun H locs hH hS => ?_)
      refine lv_aload_n hx hb dX6_closeReach_62 rfl (lv_at hl 0 rfl) ?_
      refine lv_aload_n hx hb dX6_closeReach_63 rfl (lv_at hl 0 rfl) ?_
      refine r_getp X hH (k := 6) (a := a) (j := 5) (b := (a + 4)) (A := 4) (B := 0) hk_a (by decide) rfl m_wi6 (by decide) in_1_63 rfl rfl rfl dX6_closeReach_64 ?_
      refine lv_iload_n hx hb dX6_closeReach_67 rfl (lv_at hl 2 rfl) ?_
      obtain ⟨v7, h_v7, e_v7, hm⟩ := n_ldi hm
      refine n_iald X hH (n := 24) (m_lay_at hT hk_a (by decide) (i := 4) rfl) h_v7 e_v7 dX6_closeReach_68 ?_
      obtain ⟨v9, S8, e_S8, hm⟩ := m_call_of hm
      refine n_cVi X hH hS (k := 6) (c_X6_reachOf (a := a) hT hk_a e_S8) mw_X6_reachOf in_4_89 hk_a (by decide) rfl rfl rfl ⟨rfl, rfl⟩ ⟨Nat.le_of_ble_eq_true rfl, Nat.le_of_ble_eq_true rfl⟩ ⟨Nat.zero_le _, Nat.zero_le _⟩ hl.1 (Nat.le_of_ble_eq_true rfl) dX6_closeReach_69 (fun H locs hH hS => ?_)
      refine lv_ior hx hb dX6_closeReach_72 ?_
      refine lv_ior hx hb dX6_closeReach_73 ?_
      obtain ⟨S10, h_S10, e_S10, hm⟩ := n_sti hm
      refine n_iast X hH hS (n := 24) (m_lay_at hT hk_a (by decide) (i := 5) rfl) h_S10 e_S10 dX6_closeReach_74 (fun H locs hH hS => ?_)
      obtain ⟨v11, e_v11, hm⟩ := m_let_of hm
      refine lv_iinc (v := v11) (lv' := [(2, .int v11), (0, .ref a), (1, .int l1)]) hx hb dX6_closeReach_75 hl (k := 2) rfl (by rw [← e_v11]; rfl) (by decide) rfl (fun ls hl => ?_)
      refine lv_goto (tgt := 37) hx hb dX6_closeReach_78 (by decide) ?_
      exact ih S10 l1 v11 _ _ _ hH hS (lv_sub hl [1, 2, 0] rfl) hm
def b_X6_closeReach_27 (a : Nat)  : Nat → m_M → Int32 → Option m_M
  | 0, _, _ => none
  | n + 1, S, l1 =>
    if (m_ri S a 0) ≤ l1 then (
    some S) else (
    b_X6_closeReach_37 a (b_X6_closeReach_27 a n) m_fu S l1 (0 : Int32))
set_option maxHeartbeats 4000000 in
set_option maxRecDepth 100000 in
theorem k_X6_closeReach_27 {p : Program} {l : Launch} {e : Env} {s : State} {m : MethodId} {args : Array Value} {below : List Frame} {meth : Method} {c : Code} {G : m_G} {nx : Nat} {κ : Nat → Nat} {res : m_M} {a : Nat} (X : m_Cx p s m args meth c cX6_closeReach 3 RX6 G) (hr : meth.sig.returnType = none) (hT : m_Str κ) (hk_a : κ a = 7)  (n : Nat) : ∀ (S : m_M) (l1 : Int32) (H : Heap) (locs : List Loc) (ls : Array Slot), m_H G nx κ S H → m_S G s H locs → lv_has ls 3 [(0, .ref a), (1, .int l1)] → b_X6_closeReach_27 a n S l1 = some res → W p l e rm_X6_closeReach s m args below meth c H locs 0 0 (m_Qv below args s G nx κ res) (F0 m 27 ls []) := by
  have hx := X.1.1
  have hb := X.1.2.1
  induction n with
  | zero => intro S l1 H locs ls hH hS hl hm; have hm : (none : Option m_M) = some res := hm; cases hm
  | succ n ih =>
    intro S l1 H locs ls hH hS hl hm
    rw [b_X6_closeReach_27] at hm
    refine lv_iload_n hx hb dX6_closeReach_27 rfl (lv_at hl 1 rfl) ?_
    refine lv_aload_n hx hb dX6_closeReach_28 rfl (lv_at hl 0 rfl) ?_
    refine r_geti X hH (k := 6) (a := a) (j := 0) hk_a (by decide) rfl m_wi6 (by decide) in_1_52 rfl rfl dX6_closeReach_29 ?_
    refine lv_icmp_ge (tgt := 87) hx hb dX6_closeReach_32 (by decide) (fun c1 => ?_) (fun c1 => ?_)
    · have hm := m_ite_t hm c1
      exact r_vret X hr hH hS hm dX6_closeReach_87
    · have hm := m_ite_f hm c1
      refine lv_iconst (v := (0 : Int32)) hx hb dX6_closeReach_35 (by decide) ?_
      refine lv_istore_n (lv' := [(2, .int (0 : Int32)), (0, .ref a), (1, .int l1)]) hx hb dX6_closeReach_36 rfl hl (by decide) rfl (fun ls hl => ?_)
      exact k_X6_closeReach_37 (a := a) X hr hT hk_a (b_X6_closeReach_27 a n) ih m_fu S l1 (0 : Int32) _ _ _ hH hS (lv_sub hl [1, 2, 0] rfl) hm
def b_X6_closeReach_2 (a : Nat)  : Nat → m_M → Int32 → Option m_M
  | 0, _, _ => none
  | n + 1, S, l1 =>
    if (m_ri S a 0) ≤ l1 then (
    b_X6_closeReach_27 a m_fu S (0 : Int32)) else (
    (m_sti S (a + 5) 24 l1 ((1 : Int32) <<< (l1 &&& 31))).bind fun S2 =>
    m_let (l1 + (1 : Int32)) fun v3 =>
    b_X6_closeReach_2 a n S2 v3)
set_option maxHeartbeats 4000000 in
set_option maxRecDepth 100000 in
theorem k_X6_closeReach_2 {p : Program} {l : Launch} {e : Env} {s : State} {m : MethodId} {args : Array Value} {below : List Frame} {meth : Method} {c : Code} {G : m_G} {nx : Nat} {κ : Nat → Nat} {res : m_M} {a : Nat} (X : m_Cx p s m args meth c cX6_closeReach 3 RX6 G) (hr : meth.sig.returnType = none) (hT : m_Str κ) (hk_a : κ a = 7)  (n : Nat) : ∀ (S : m_M) (l1 : Int32) (H : Heap) (locs : List Loc) (ls : Array Slot), m_H G nx κ S H → m_S G s H locs → lv_has ls 3 [(0, .ref a), (1, .int l1)] → b_X6_closeReach_2 a n S l1 = some res → W p l e rm_X6_closeReach s m args below meth c H locs 0 0 (m_Qv below args s G nx κ res) (F0 m 2 ls []) := by
  have hx := X.1.1
  have hb := X.1.2.1
  induction n with
  | zero => intro S l1 H locs ls hH hS hl hm; have hm : (none : Option m_M) = some res := hm; cases hm
  | succ n ih =>
    intro S l1 H locs ls hH hS hl hm
    rw [b_X6_closeReach_2] at hm
    refine lv_iload_n hx hb dX6_closeReach_2 rfl (lv_at hl 1 rfl) ?_
    refine lv_aload_n hx hb dX6_closeReach_3 rfl (lv_at hl 0 rfl) ?_
    refine r_geti X hH (k := 6) (a := a) (j := 0) hk_a (by decide) rfl m_wi6 (by decide) in_1_52 rfl rfl dX6_closeReach_4 ?_
    refine lv_icmp_ge (tgt := 25) hx hb dX6_closeReach_7 (by decide) (fun c1 => ?_) (fun c1 => ?_)
    · have hm := m_ite_t hm c1
      refine lv_iconst (v := (0 : Int32)) hx hb dX6_closeReach_25 (by decide) ?_
      refine lv_istore_n (lv' := [(1, .int (0 : Int32)), (0, .ref a)]) hx hb dX6_closeReach_26 rfl hl (by decide) rfl (fun ls hl => ?_)
      exact k_X6_closeReach_27 (a := a) X hr hT hk_a  m_fu S (0 : Int32) _ _ _ hH hS (lv_sub hl [1, 0] rfl) hm
    · have hm := m_ite_f hm c1
      refine lv_aload_n hx hb dX6_closeReach_10 rfl (lv_at hl 0 rfl) ?_
      refine r_getp X hH (k := 6) (a := a) (j := 6) (b := (a + 5)) (A := 5) (B := 0) hk_a (by decide) rfl m_wi6 (by decide) in_1_66 rfl rfl rfl dX6_closeReach_11 ?_
      refine lv_iload_n hx hb dX6_closeReach_14 rfl (lv_at hl 1 rfl) ?_
      refine lv_iconst (v := (1 : Int32)) hx hb dX6_closeReach_15 (by decide) ?_
      refine lv_iload_n hx hb dX6_closeReach_16 rfl (lv_at hl 1 rfl) ?_
      refine lv_ishl hx hb dX6_closeReach_17 ?_
      obtain ⟨S2, h_S2, e_S2, hm⟩ := n_sti hm
      refine n_iast X hH hS (n := 24) (m_lay_at hT hk_a (by decide) (i := 5) rfl) h_S2 e_S2 dX6_closeReach_18 (fun H locs hH hS => ?_)
      obtain ⟨v3, e_v3, hm⟩ := m_let_of hm
      refine lv_iinc (v := v3) (lv' := [(1, .int v3), (0, .ref a)]) hx hb dX6_closeReach_19 hl (k := 1) rfl (by rw [← e_v3]; rfl) (by decide) rfl (fun ls hl => ?_)
      refine lv_goto (tgt := 2) hx hb dX6_closeReach_22 (by decide) ?_
      exact ih S2 v3 _ _ _ hH hS (lv_sub hl [1, 0] rfl) hm
def f_X6_closeReach (a : Nat) (S : m_M)  : Option m_M :=
    b_X6_closeReach_2 a m_fu S (0 : Int32)
set_option maxHeartbeats 4000000 in
set_option maxRecDepth 100000 in
theorem c_X6_closeReach {l : Launch} {G : m_G} {nx : Nat} {κ : Nat → Nat} {a : Nat} {S : m_M}  {res : m_M} (hT : m_Str κ) (hk_a : κ a = 7) (hm : f_X6_closeReach a S = some res) : m_Cv l yX6_closeReach cX6_closeReach 3 rm_X6_closeReach G nx κ [.ref a] S res := by
  refine m_Cv.of (by decide) (Nat.le_of_ble_eq_true rfl) ?_
  intro p e s m args below meth c ls X hr hH hl
  have hx := X.1.1
  have hb := X.1.2.1
  have hS : m_S G s s.heap [] := va_S.rf
  have hl : lv_has ls 3 [(0, .ref a)] := hl
  rw [f_X6_closeReach] at hm
  refine lv_iconst (v := (0 : Int32)) hx hb dX6_closeReach_0 (by decide) ?_
  refine lv_istore_n (lv' := [(1, .int (0 : Int32)), (0, .ref a)]) hx hb dX6_closeReach_1 rfl hl (by decide) rfl (fun ls hl => ?_)
  exact k_X6_closeReach_2 (a := a) X hr hT hk_a  m_fu S (0 : Int32) _ _ _ hH hS (lv_sub hl [1, 0] rfl) hm
def rm_X6_tellOwner : Room := { frames := 2, cells := 0, slots := 0, locals := 42 }
def b_X6_tellOwner_78 (a o1 : Nat) (K_8 : m_M → Int32 → Int32 → Int32 → Int32 → Option m_M) (S : m_M) (l2 : Int32) (l3 : Int32) (l4 : Int32) (l5 : Int32) : Option m_M :=
    m_let (l5 + (1 : Int32)) fun v1 =>
    K_8 S l2 l3 l4 v1
set_option maxHeartbeats 4000000 in
set_option maxRecDepth 100000 in
theorem k_X6_tellOwner_78 {p : Program} {l : Launch} {e : Env} {s : State} {m : MethodId} {args : Array Value} {below : List Frame} {meth : Method} {c : Code} {G : m_G} {nx : Nat} {κ : Nat → Nat} {res : m_M} {a o1 : Nat} (X : m_Cx p s m args meth c cX6_tellOwner 7 RX6 G) (hr : meth.sig.returnType = none) (hT : m_Str κ) (hk_a : κ a = 7) (hk_o1 : κ o1 = 4) (K_8 : m_M → Int32 → Int32 → Int32 → Int32 → Option m_M) (hK_8 : ∀ (S : m_M) (l2 : Int32) (l3 : Int32) (l4 : Int32) (l5 : Int32) (H : Heap) (locs : List Loc) (ls : Array Slot), m_H G nx κ S H → m_S G s H locs → lv_has ls 7 [(0, .ref a), (1, .ref o1), (2, .int l2), (3, .int l3), (4, .int l4), (5, .int l5)] → K_8 S l2 l3 l4 l5 = some res → W p l e rm_X6_tellOwner s m args below meth c H locs 0 0 (m_Qv below args s G nx κ res) (F0 m 8 ls [])) : ∀ (S : m_M) (l2 : Int32) (l3 : Int32) (l4 : Int32) (l5 : Int32) (H : Heap) (locs : List Loc) (ls : Array Slot), m_H G nx κ S H → m_S G s H locs → lv_has ls 7 [(0, .ref a), (1, .ref o1), (2, .int l2), (3, .int l3), (4, .int l4), (5, .int l5)] → b_X6_tellOwner_78 a o1 K_8 S l2 l3 l4 l5 = some res → W p l e rm_X6_tellOwner s m args below meth c H locs 0 0 (m_Qv below args s G nx κ res) (F0 m 78 ls []) := by
  have hx := X.1.1
  have hb := X.1.2.1
  intro S l2 l3 l4 l5 H locs ls hH hS hl hm
  rw [b_X6_tellOwner_78] at hm
  obtain ⟨v1, e_v1, hm⟩ := m_let_of hm
  refine lv_iinc (v := v1) (lv' := [(5, .int v1), (0, .ref a), (1, .ref o1), (2, .int l2), (3, .int l3), (4, .int l4)]) hx hb dX6_tellOwner_78 hl (k := 5) rfl (by rw [← e_v1]; rfl) (by decide) rfl (fun ls hl => ?_)
  refine lv_goto (tgt := 8) hx hb dX6_tellOwner_81 (by decide) ?_
  exact hK_8 S l2 l3 l4 v1 _ _ _ hH hS (lv_sub hl [1, 2, 3, 4, 5, 0] rfl) hm
def b_X6_tellOwner_71 (a o1 : Nat) (K_8 : m_M → Int32 → Int32 → Int32 → Int32 → Option m_M) (S : m_M) (l2 : Int32) (l3 : Int32) (l4 : Int32) (l5 : Int32) (l6 : Int32) : Option m_M :=
    m_let (l4 ||| l6) fun v1 =>
    b_X6_tellOwner_78 a o1 K_8 S l2 l3 v1 l5
set_option maxHeartbeats 4000000 in
set_option maxRecDepth 100000 in
theorem k_X6_tellOwner_71 {p : Program} {l : Launch} {e : Env} {s : State} {m : MethodId} {args : Array Value} {below : List Frame} {meth : Method} {c : Code} {G : m_G} {nx : Nat} {κ : Nat → Nat} {res : m_M} {a o1 : Nat} (X : m_Cx p s m args meth c cX6_tellOwner 7 RX6 G) (hr : meth.sig.returnType = none) (hT : m_Str κ) (hk_a : κ a = 7) (hk_o1 : κ o1 = 4) (K_8 : m_M → Int32 → Int32 → Int32 → Int32 → Option m_M) (hK_8 : ∀ (S : m_M) (l2 : Int32) (l3 : Int32) (l4 : Int32) (l5 : Int32) (H : Heap) (locs : List Loc) (ls : Array Slot), m_H G nx κ S H → m_S G s H locs → lv_has ls 7 [(0, .ref a), (1, .ref o1), (2, .int l2), (3, .int l3), (4, .int l4), (5, .int l5)] → K_8 S l2 l3 l4 l5 = some res → W p l e rm_X6_tellOwner s m args below meth c H locs 0 0 (m_Qv below args s G nx κ res) (F0 m 8 ls [])) : ∀ (S : m_M) (l2 : Int32) (l3 : Int32) (l4 : Int32) (l5 : Int32) (l6 : Int32) (H : Heap) (locs : List Loc) (ls : Array Slot), m_H G nx κ S H → m_S G s H locs → lv_has ls 7 [(0, .ref a), (1, .ref o1), (2, .int l2), (3, .int l3), (4, .int l4), (5, .int l5), (6, .int l6)] → b_X6_tellOwner_71 a o1 K_8 S l2 l3 l4 l5 l6 = some res → W p l e rm_X6_tellOwner s m args below meth c H locs 0 0 (m_Qv below args s G nx κ res) (F0 m 71 ls []) := by
  have hx := X.1.1
  have hb := X.1.2.1
  intro S l2 l3 l4 l5 l6 H locs ls hH hS hl hm
  rw [b_X6_tellOwner_71] at hm
  refine lv_iload hx hb dX6_tellOwner_71 (lv_at hl 4 rfl) ?_
  refine lv_iload hx hb dX6_tellOwner_73 (lv_at hl 6 rfl) ?_
  refine lv_ior hx hb dX6_tellOwner_75 ?_
  obtain ⟨v1, e_v1, hm⟩ := m_let_of hm
  refine n_topi e_v1 ?_
  refine lv_istore (lv' := [(4, .int v1), (0, .ref a), (1, .ref o1), (2, .int l2), (3, .int l3), (5, .int l5), (6, .int l6)]) hx hb dX6_tellOwner_76 hl (by decide) rfl (fun ls hl => ?_)
  exact k_X6_tellOwner_78 (a := a) (o1 := o1) X hr hT hk_a hk_o1 K_8 hK_8  S l2 l3 v1 l5 _ _ _ hH hS (lv_sub hl [1, 2, 3, 4, 0, 5] rfl) hm
def b_X6_tellOwner_8 (a o1 : Nat)  : Nat → m_M → Int32 → Int32 → Int32 → Int32 → Option m_M
  | 0, _, _, _, _, _ => none
  | n + 1, S, l2, l3, l4, l5 =>
    m_call (f_X3_varCount o1 S l2) fun v2 S1 =>
    if v2 ≤ l5 then (
    (m_sti S1 (a + 8) 5 l2 l4).bind fun S4 =>
    (m_sti S4 (a + 9) 5 l2 (l3 &&& (l4 ^^^ (-1 : Int32)))).bind fun S5 =>
    some S5) else (
    m_call (f_X6_pointedBy a S1 l2 l5) fun v7 S6 =>
    m_call (f_X6_reachOf a S6 v7) fun v9 S8 =>
    (m_sti S8 (a + 2) 135 ((l2 * (27 : Int32)) + l5) v9).bind fun S10 =>
    m_let (l3 ||| v9) fun v11 =>
    (m_ldi S10 (o1 + 2) 5 l2).bind fun v12 =>
    if l5 < v12 then (
    b_X6_tellOwner_71 a o1 (b_X6_tellOwner_8 a o1 n) S10 l2 v11 l4 l5 v9) else (
    m_call (f_X3_resultOf o1 S10 l2) fun v15 S14 =>
    if l5 = v15 then (
    b_X6_tellOwner_71 a o1 (b_X6_tellOwner_8 a o1 n) S14 l2 v11 l4 l5 v9) else (
    b_X6_tellOwner_78 a o1 (b_X6_tellOwner_8 a o1 n) S14 l2 v11 l4 l5)))
set_option maxHeartbeats 4000000 in
set_option maxRecDepth 100000 in
theorem k_X6_tellOwner_8 {p : Program} {l : Launch} {e : Env} {s : State} {m : MethodId} {args : Array Value} {below : List Frame} {meth : Method} {c : Code} {G : m_G} {nx : Nat} {κ : Nat → Nat} {res : m_M} {a o1 : Nat} (X : m_Cx p s m args meth c cX6_tellOwner 7 RX6 G) (hr : meth.sig.returnType = none) (hT : m_Str κ) (hk_a : κ a = 7) (hk_o1 : κ o1 = 4)  (n : Nat) : ∀ (S : m_M) (l2 : Int32) (l3 : Int32) (l4 : Int32) (l5 : Int32) (H : Heap) (locs : List Loc) (ls : Array Slot), m_H G nx κ S H → m_S G s H locs → lv_has ls 7 [(0, .ref a), (1, .ref o1), (2, .int l2), (3, .int l3), (4, .int l4), (5, .int l5)] → b_X6_tellOwner_8 a o1 n S l2 l3 l4 l5 = some res → W p l e rm_X6_tellOwner s m args below meth c H locs 0 0 (m_Qv below args s G nx κ res) (F0 m 8 ls []) := by
  have hx := X.1.1
  have hb := X.1.2.1
  induction n with
  | zero => intro S l2 l3 l4 l5 H locs ls hH hS hl hm; have hm : (none : Option m_M) = some res := hm; cases hm
  | succ n ih =>
    intro S l2 l3 l4 l5 H locs ls hH hS hl hm
    rw [b_X6_tellOwner_8] at hm
    refine lv_iload hx hb dX6_tellOwner_8 (lv_at hl 5 rfl) ?_
    refine lv_aload_n hx hb dX6_tellOwner_10 rfl (lv_at hl 1 rfl) ?_
    refine lv_iload_n hx hb dX6_tellOwner_11 rfl (lv_at hl 2 rfl) ?_
    obtain ⟨v2, S1, e_S1, hm⟩ := m_call_of hm
    refine n_cVi X hH hS (k := 3) (c_X3_varCount (a := o1) hT hk_o1 e_S1) mw_X3_varCount in_4_102 hk_o1 (by decide) rfl rfl rfl ⟨rfl, rfl⟩ ⟨Nat.le_of_ble_eq_true rfl, Nat.le_of_ble_eq_true rfl⟩ ⟨Nat.zero_le _, Nat.zero_le _⟩ hl.1 (Nat.le_of_ble_eq_true rfl) dX6_tellOwner_12 (fun H locs hH hS => ?_)
    refine lv_icmp_ge (tgt := 84) hx hb dX6_tellOwner_15 (by decide) (fun c3 => ?_) (fun c3 => ?_)
    · have hm := m_ite_t hm c3
      refine lv_aload_n hx hb dX6_tellOwner_84 rfl (lv_at hl 0 rfl) ?_
      refine r_getp X hH (k := 6) (a := a) (j := 9) (b := (a + 8)) (A := 8) (B := 0) hk_a (by decide) rfl m_wi6 (by decide) in_1_73 rfl rfl rfl dX6_tellOwner_85 ?_
      refine lv_iload_n hx hb dX6_tellOwner_88 rfl (lv_at hl 2 rfl) ?_
      refine lv_iload hx hb dX6_tellOwner_89 (lv_at hl 4 rfl) ?_
      obtain ⟨S4, h_S4, e_S4, hm⟩ := n_sti hm
      refine n_iast X hH hS (n := 5) (m_lay_at hT hk_a (by decide) (i := 8) rfl) h_S4 e_S4 dX6_tellOwner_91 (fun H locs hH hS => ?_)
      refine lv_aload_n hx hb dX6_tellOwner_92 rfl (lv_at hl 0 rfl) ?_
      refine r_getp X hH (k := 6) (a := a) (j := 10) (b := (a + 9)) (A := 9) (B := 0) hk_a (by decide) rfl m_wi6 (by decide) in_1_77 rfl rfl rfl dX6_tellOwner_93 ?_
      refine lv_iload_n hx hb dX6_tellOwner_96 rfl (lv_at hl 2 rfl) ?_
      refine lv_iload_n hx hb dX6_tellOwner_97 rfl (lv_at hl 3 rfl) ?_
      refine lv_iload hx hb dX6_tellOwner_98 (lv_at hl 4 rfl) ?_
      refine lv_iconst (v := (-1 : Int32)) hx hb dX6_tellOwner_100 (by decide) ?_
      refine lv_ixor hx hb dX6_tellOwner_101 ?_
      refine lv_iand hx hb dX6_tellOwner_102 ?_
      obtain ⟨S5, h_S5, e_S5, hm⟩ := n_sti hm
      refine n_iast X hH hS (n := 5) (m_lay_at hT hk_a (by decide) (i := 9) rfl) h_S5 e_S5 dX6_tellOwner_103 (fun H locs hH hS => ?_)
      exact r_vret X hr hH hS hm dX6_tellOwner_104
    · have hm := m_ite_f hm c3
      refine lv_aload_n hx hb dX6_tellOwner_18 rfl (lv_at hl 0 rfl) ?_
      refine lv_aload_n hx hb dX6_tellOwner_19 rfl (lv_at hl 0 rfl) ?_
      refine lv_iload_n hx hb dX6_tellOwner_20 rfl (lv_at hl 2 rfl) ?_
      refine lv_iload hx hb dX6_tellOwner_21 (lv_at hl 5 rfl) ?_
      obtain ⟨v7, S6, e_S6, hm⟩ := m_call_of hm
      refine n_cVi X hH hS (k := 6) (c_X6_pointedBy (a := a) hT hk_a e_S6) mw_X6_pointedBy in_4_103 hk_a (by decide) rfl rfl rfl ⟨rfl, rfl⟩ ⟨Nat.le_of_ble_eq_true rfl, Nat.le_of_ble_eq_true rfl⟩ ⟨Nat.zero_le _, Nat.zero_le _⟩ hl.1 (Nat.le_of_ble_eq_true rfl) dX6_tellOwner_23 (fun H locs hH hS => ?_)
      obtain ⟨v9, S8, e_S8, hm⟩ := m_call_of hm
      refine n_cVi X hH hS (k := 6) (c_X6_reachOf (a := a) hT hk_a e_S8) mw_X6_reachOf in_4_89 hk_a (by decide) rfl rfl rfl ⟨rfl, rfl⟩ ⟨Nat.le_of_ble_eq_true rfl, Nat.le_of_ble_eq_true rfl⟩ ⟨Nat.zero_le _, Nat.zero_le _⟩ hl.1 (Nat.le_of_ble_eq_true rfl) dX6_tellOwner_26 (fun H locs hH hS => ?_)
      refine lv_istore (lv' := [(6, .int v9), (0, .ref a), (1, .ref o1), (2, .int l2), (3, .int l3), (4, .int l4), (5, .int l5)]) hx hb dX6_tellOwner_29 hl (by decide) rfl (fun ls hl => ?_)
      refine lv_aload_n hx hb dX6_tellOwner_31 rfl (lv_at hl 1 rfl) ?_
      refine r_getp X hH (k := 6) (a := a) (j := 3) (b := (a + 2)) (A := 2) (B := 0) hk_a (by decide) rfl m_wi6 (by decide) in_1_59 rfl rfl rfl dX6_tellOwner_32 ?_
      refine lv_iload_n hx hb dX6_tellOwner_35 rfl (lv_at hl 3 rfl) ?_
      refine lv_bipush (v := (27 : Int32)) hx hb dX6_tellOwner_36 (by decide) ?_
      refine lv_imul hx hb dX6_tellOwner_38 ?_
      refine lv_iload hx hb dX6_tellOwner_39 (lv_at hl 6 rfl) ?_
      refine lv_iadd hx hb dX6_tellOwner_41 ?_
      refine lv_iload hx hb dX6_tellOwner_42 (lv_at hl 0 rfl) ?_
      obtain ⟨S10, h_S10, e_S10, hm⟩ := n_sti hm
      refine n_iast X hH hS (n := 135) (m_lay_at hT hk_a (by decide) (i := 2) rfl) h_S10 e_S10 dX6_tellOwner_44 (fun H locs hH hS => ?_)
      refine lv_iload_n hx hb dX6_tellOwner_45 rfl (lv_at hl 4 rfl) ?_
      refine lv_iload hx hb dX6_tellOwner_46 (lv_at hl 0 rfl) ?_
      refine lv_ior hx hb dX6_tellOwner_48 ?_
      obtain ⟨v11, e_v11, hm⟩ := m_let_of hm
      refine n_topi e_v11 ?_
      refine lv_istore_n (lv' := [(3, .int v11), (6, .int v9), (0, .ref a), (1, .ref o1), (2, .int l2), (4, .int l4), (5, .int l5)]) hx hb dX6_tellOwner_49 rfl hl (by decide) rfl (fun ls hl => ?_)
      refine lv_iload hx hb dX6_tellOwner_50 (lv_at hl 6 rfl) ?_
      refine lv_aload_n hx hb dX6_tellOwner_52 rfl (lv_at hl 3 rfl) ?_
      refine r_getp X hH (k := 3) (a := o1) (j := 3) (b := (o1 + 2)) (A := 2) (B := 0) hk_o1 (by decide) rfl m_wi3 (by decide) in_1_137 rfl rfl rfl dX6_tellOwner_53 ?_
      refine lv_iload_n hx hb dX6_tellOwner_56 rfl (lv_at hl 4 rfl) ?_
      obtain ⟨v12, h_v12, e_v12, hm⟩ := n_ldi hm
      refine n_iald X hH (n := 5) (m_lay_at hT hk_o1 (by decide) (i := 2) rfl) h_v12 e_v12 dX6_tellOwner_57 ?_
      refine lv_icmp_lt (tgt := 71) hx hb dX6_tellOwner_58 (by decide) (fun c13 => ?_) (fun c13 => ?_)
      · have hm := m_ite_t hm c13
        exact k_X6_tellOwner_71 (a := a) (o1 := o1) X hr hT hk_a hk_o1 (b_X6_tellOwner_8 a o1 n) ih  S10 l2 v11 l4 l5 v9 _ _ _ hH hS (lv_sub hl [2, 3, 4, 0, 5, 6, 1] rfl) hm
      · have hm := m_ite_f hm c13
        refine lv_iload hx hb dX6_tellOwner_61 (lv_at hl 6 rfl) ?_
        refine lv_aload_n hx hb dX6_tellOwner_63 rfl (lv_at hl 3 rfl) ?_
        refine lv_iload_n hx hb dX6_tellOwner_64 rfl (lv_at hl 4 rfl) ?_
        obtain ⟨v15, S14, e_S14, hm⟩ := m_call_of hm
        refine n_cVi X hH hS (k := 3) (c_X3_resultOf (a := o1) hT hk_o1 e_S14) mw_X3_resultOf in_4_107 hk_o1 (by decide) rfl rfl rfl ⟨rfl, rfl⟩ ⟨Nat.le_of_ble_eq_true rfl, Nat.le_of_ble_eq_true rfl⟩ ⟨Nat.zero_le _, Nat.zero_le _⟩ hl.1 (Nat.le_of_ble_eq_true rfl) dX6_tellOwner_65 (fun H locs hH hS => ?_)
        refine lv_icmp_ne (tgt := 78) hx hb dX6_tellOwner_68 (by decide) (fun c16 => ?_) (fun c16 => ?_)
        · have hm := m_ite_f hm c16
          exact k_X6_tellOwner_78 (a := a) (o1 := o1) X hr hT hk_a hk_o1 (b_X6_tellOwner_8 a o1 n) ih  S14 l2 v11 l4 l5 _ _ _ hH hS (lv_sub hl [2, 3, 4, 0, 5, 6] rfl) hm
        · have hm := m_ite_t hm c16
          exact k_X6_tellOwner_71 (a := a) (o1 := o1) X hr hT hk_a hk_o1 (b_X6_tellOwner_8 a o1 n) ih  S14 l2 v11 l4 l5 v9 _ _ _ hH hS (lv_sub hl [2, 3, 4, 0, 5, 6, 1] rfl) hm
def f_X6_tellOwner (a o1 : Nat) (S : m_M) (i2 : Int32) : Option m_M :=
    b_X6_tellOwner_8 a o1 m_fu S i2 (0 : Int32) (0 : Int32) (0 : Int32)
set_option maxHeartbeats 4000000 in
set_option maxRecDepth 100000 in
theorem c_X6_tellOwner {l : Launch} {G : m_G} {nx : Nat} {κ : Nat → Nat} {a o1 : Nat} {S : m_M} {i2 : Int32} {res : m_M} (hT : m_Str κ) (hk_a : κ a = 7) (hk_o1 : κ o1 = 4) (hm : f_X6_tellOwner a o1 S i2 = some res) : m_Cv l yX6_tellOwner cX6_tellOwner 7 rm_X6_tellOwner G nx κ [.ref a, .ref o1, .int i2] S res := by
  refine m_Cv.of (by decide) (Nat.le_of_ble_eq_true rfl) ?_
  intro p e s m args below meth c ls X hr hH hl
  have hx := X.1.1
  have hb := X.1.2.1
  have hS : m_S G s s.heap [] := va_S.rf
  have hl : lv_has ls 7 [(0, .ref a), (1, .ref o1), (2, .int i2)] := hl
  rw [f_X6_tellOwner] at hm
  refine lv_iconst (v := (0 : Int32)) hx hb dX6_tellOwner_0 (by decide) ?_
  refine lv_istore_n (lv' := [(3, .int (0 : Int32)), (0, .ref a), (1, .ref o1), (2, .int i2)]) hx hb dX6_tellOwner_1 rfl hl (by decide) rfl (fun ls hl => ?_)
  refine lv_iconst (v := (0 : Int32)) hx hb dX6_tellOwner_2 (by decide) ?_
  refine lv_istore (lv' := [(4, .int (0 : Int32)), (3, .int (0 : Int32)), (0, .ref a), (1, .ref o1), (2, .int i2)]) hx hb dX6_tellOwner_3 hl (by decide) rfl (fun ls hl => ?_)
  refine lv_iconst (v := (0 : Int32)) hx hb dX6_tellOwner_5 (by decide) ?_
  refine lv_istore (lv' := [(5, .int (0 : Int32)), (4, .int (0 : Int32)), (3, .int (0 : Int32)), (0, .ref a), (1, .ref o1), (2, .int i2)]) hx hb dX6_tellOwner_6 hl (by decide) rfl (fun ls hl => ?_)
  exact k_X6_tellOwner_8 (a := a) (o1 := o1) X hr hT hk_a hk_o1  m_fu S i2 (0 : Int32) (0 : Int32) (0 : Int32) _ _ _ hH hS (lv_sub hl [3, 4, 5, 2, 1, 0] rfl) hm
def rm_X6_tellFilled : Room := { frames := 1, cells := 0, slots := 0, locals := 22 }
def b_X6_tellFilled_69 (a o1 : Nat) (K_7 : m_M → Int32 → Int32 → Option m_M) (S : m_M) (l2 : Int32) (l3 : Int32) : Option m_M :=
    m_let (l3 + (1 : Int32)) fun v1 =>
    K_7 S l2 v1
set_option maxHeartbeats 4000000 in
set_option maxRecDepth 100000 in
theorem k_X6_tellFilled_69 {p : Program} {l : Launch} {e : Env} {s : State} {m : MethodId} {args : Array Value} {below : List Frame} {meth : Method} {c : Code} {G : m_G} {nx : Nat} {κ : Nat → Nat} {res : m_M} {a o1 : Nat} (X : m_Cx p s m args meth c cX6_tellFilled 5 RX6 G) (hr : meth.sig.returnType = none) (hT : m_Str κ) (hk_a : κ a = 7) (hk_o1 : κ o1 = 4) (K_7 : m_M → Int32 → Int32 → Option m_M) (hK_7 : ∀ (S : m_M) (l2 : Int32) (l3 : Int32) (H : Heap) (locs : List Loc) (ls : Array Slot), m_H G nx κ S H → m_S G s H locs → lv_has ls 5 [(0, .ref a), (1, .ref o1), (2, .int l2), (3, .int l3)] → K_7 S l2 l3 = some res → W p l e rm_X6_tellFilled s m args below meth c H locs 0 0 (m_Qv below args s G nx κ res) (F0 m 7 ls [])) : ∀ (S : m_M) (l2 : Int32) (l3 : Int32) (H : Heap) (locs : List Loc) (ls : Array Slot), m_H G nx κ S H → m_S G s H locs → lv_has ls 5 [(0, .ref a), (1, .ref o1), (2, .int l2), (3, .int l3)] → b_X6_tellFilled_69 a o1 K_7 S l2 l3 = some res → W p l e rm_X6_tellFilled s m args below meth c H locs 0 0 (m_Qv below args s G nx κ res) (F0 m 69 ls []) := by
  have hx := X.1.1
  have hb := X.1.2.1
  intro S l2 l3 H locs ls hH hS hl hm
  rw [b_X6_tellFilled_69] at hm
  obtain ⟨v1, e_v1, hm⟩ := m_let_of hm
  refine lv_iinc (v := v1) (lv' := [(3, .int v1), (0, .ref a), (1, .ref o1), (2, .int l2)]) hx hb dX6_tellFilled_69 hl (k := 3) rfl (by rw [← e_v1]; rfl) (by decide) rfl (fun ls hl => ?_)
  refine lv_goto (tgt := 7) hx hb dX6_tellFilled_72 (by decide) ?_
  exact hK_7 S l2 v1 _ _ _ hH hS (lv_sub hl [1, 2, 3, 0] rfl) hm
def b_X6_tellFilled_7 (a o1 : Nat)  : Nat → m_M → Int32 → Int32 → Option m_M
  | 0, _, _, _ => none
  | n + 1, S, l2, l3 =>
    (m_ldi S (o1 + 3) 5 l2).bind fun v1 =>
    (m_ldi S (o1 + 4) 5 l2).bind fun v2 =>
    if (v1 + v2) ≤ l3 then (
    some S) else (
    m_call (f_X3_varOfLine o1 S l2 l3) fun v5 S4 =>
    m_call (f_X6_pointedBy a S4 l2 v5) fun v7 S6 =>
    (m_ldi S6 (o1 + 5) 24 l3).bind fun v8 =>
    if v8 = (2 : Int32) then (
    m_call (f_X6_has a S6 v7) fun v11 S10 =>
    if v11 = 0 then (
    b_X6_tellFilled_69 a o1 (b_X6_tellFilled_7 a o1 n) S10 l2 l3) else (
    (m_ldi S10 (a + 7) 24 v7).bind fun v13 =>
    (m_sti S10 (a + 7) 24 v7 (v13 ||| ((1 : Int32) <<< (l2 &&& 31)))).bind fun S14 =>
    b_X6_tellFilled_69 a o1 (b_X6_tellFilled_7 a o1 n) S14 l2 l3)) else (
    b_X6_tellFilled_69 a o1 (b_X6_tellFilled_7 a o1 n) S6 l2 l3))
set_option maxHeartbeats 4000000 in
set_option maxRecDepth 100000 in
theorem k_X6_tellFilled_7 {p : Program} {l : Launch} {e : Env} {s : State} {m : MethodId} {args : Array Value} {below : List Frame} {meth : Method} {c : Code} {G : m_G} {nx : Nat} {κ : Nat → Nat} {res : m_M} {a o1 : Nat} (X : m_Cx p s m args meth c cX6_tellFilled 5 RX6 G) (hr : meth.sig.returnType = none) (hT : m_Str κ) (hk_a : κ a = 7) (hk_o1 : κ o1 = 4)  (n : Nat) : ∀ (S : m_M) (l2 : Int32) (l3 : Int32) (H : Heap) (locs : List Loc) (ls : Array Slot), m_H G nx κ S H → m_S G s H locs → lv_has ls 5 [(0, .ref a), (1, .ref o1), (2, .int l2), (3, .int l3)] → b_X6_tellFilled_7 a o1 n S l2 l3 = some res → W p l e rm_X6_tellFilled s m args below meth c H locs 0 0 (m_Qv below args s G nx κ res) (F0 m 7 ls []) := by
  have hx := X.1.1
  have hb := X.1.2.1
  induction n with
  | zero => intro S l2 l3 H locs ls hH hS hl hm; have hm : (none : Option m_M) = some res := hm; cases hm
  | succ n ih =>
    intro S l2 l3 H locs ls hH hS hl hm
    rw [b_X6_tellFilled_7] at hm
    refine lv_iload_n hx hb dX6_tellFilled_7 rfl (lv_at hl 3 rfl) ?_
    refine lv_aload_n hx hb dX6_tellFilled_8 rfl (lv_at hl 1 rfl) ?_
    refine r_getp X hH (k := 3) (a := o1) (j := 4) (b := (o1 + 3)) (A := 3) (B := 0) hk_o1 (by decide) rfl m_wi3 (by decide) in_1_141 rfl rfl rfl dX6_tellFilled_9 ?_
    refine lv_iload_n hx hb dX6_tellFilled_12 rfl (lv_at hl 2 rfl) ?_
    obtain ⟨v1, h_v1, e_v1, hm⟩ := n_ldi hm
    refine n_iald X hH (n := 5) (m_lay_at hT hk_o1 (by decide) (i := 3) rfl) h_v1 e_v1 dX6_tellFilled_13 ?_
    refine lv_aload_n hx hb dX6_tellFilled_14 rfl (lv_at hl 1 rfl) ?_
    refine r_getp X hH (k := 3) (a := o1) (j := 5) (b := (o1 + 4)) (A := 4) (B := 0) hk_o1 (by decide) rfl m_wi3 (by decide) in_1_147 rfl rfl rfl dX6_tellFilled_15 ?_
    refine lv_iload_n hx hb dX6_tellFilled_18 rfl (lv_at hl 2 rfl) ?_
    obtain ⟨v2, h_v2, e_v2, hm⟩ := n_ldi hm
    refine n_iald X hH (n := 5) (m_lay_at hT hk_o1 (by decide) (i := 4) rfl) h_v2 e_v2 dX6_tellFilled_19 ?_
    refine lv_iadd hx hb dX6_tellFilled_20 ?_
    refine lv_icmp_ge (tgt := 75) hx hb dX6_tellFilled_21 (by decide) (fun c3 => ?_) (fun c3 => ?_)
    · have hm := m_ite_t hm c3
      exact r_vret X hr hH hS hm dX6_tellFilled_75
    · have hm := m_ite_f hm c3
      refine lv_aload_n hx hb dX6_tellFilled_24 rfl (lv_at hl 0 rfl) ?_
      refine lv_iload_n hx hb dX6_tellFilled_25 rfl (lv_at hl 2 rfl) ?_
      refine lv_aload_n hx hb dX6_tellFilled_26 rfl (lv_at hl 1 rfl) ?_
      refine lv_iload_n hx hb dX6_tellFilled_27 rfl (lv_at hl 2 rfl) ?_
      refine lv_iload_n hx hb dX6_tellFilled_28 rfl (lv_at hl 3 rfl) ?_
      obtain ⟨v5, S4, e_S4, hm⟩ := m_call_of hm
      refine n_cVi X hH hS (k := 3) (c_X3_varOfLine (a := o1) hT hk_o1 e_S4) mw_X3_varOfLine in_4_112 hk_o1 (by decide) rfl rfl rfl ⟨rfl, rfl⟩ ⟨Nat.le_of_ble_eq_true rfl, Nat.le_of_ble_eq_true rfl⟩ ⟨Nat.zero_le _, Nat.zero_le _⟩ hl.1 (Nat.le_of_ble_eq_true rfl) dX6_tellFilled_29 (fun H locs hH hS => ?_)
      obtain ⟨v7, S6, e_S6, hm⟩ := m_call_of hm
      refine n_cVi X hH hS (k := 6) (c_X6_pointedBy (a := a) hT hk_a e_S6) mw_X6_pointedBy in_4_103 hk_a (by decide) rfl rfl rfl ⟨rfl, rfl⟩ ⟨Nat.le_of_ble_eq_true rfl, Nat.le_of_ble_eq_true rfl⟩ ⟨Nat.zero_le _, Nat.zero_le _⟩ hl.1 (Nat.le_of_ble_eq_true rfl) dX6_tellFilled_32 (fun H locs hH hS => ?_)
      refine lv_istore (lv' := [(4, .int v7), (0, .ref a), (1, .ref o1), (2, .int l2), (3, .int l3)]) hx hb dX6_tellFilled_35 hl (by decide) rfl (fun ls hl => ?_)
      refine lv_aload_n hx hb dX6_tellFilled_37 rfl (lv_at hl 2 rfl) ?_
      refine r_getp X hH (k := 3) (a := o1) (j := 6) (b := (o1 + 5)) (A := 5) (B := 0) hk_o1 (by decide) rfl m_wi3 (by decide) in_1_152 rfl rfl rfl dX6_tellFilled_38 ?_
      refine lv_iload_n hx hb dX6_tellFilled_41 rfl (lv_at hl 4 rfl) ?_
      obtain ⟨v8, h_v8, e_v8, hm⟩ := n_ldi hm
      refine n_iald X hH (n := 24) (m_lay_at hT hk_o1 (by decide) (i := 5) rfl) h_v8 e_v8 dX6_tellFilled_42 ?_
      refine lv_iconst (v := (2 : Int32)) hx hb dX6_tellFilled_43 (by decide) ?_
      refine lv_icmp_ne (tgt := 69) hx hb dX6_tellFilled_44 (by decide) (fun c9 => ?_) (fun c9 => ?_)
      · have hm := m_ite_f hm c9
        exact k_X6_tellFilled_69 (a := a) (o1 := o1) X hr hT hk_a hk_o1 (b_X6_tellFilled_7 a o1 n) ih  S6 l2 l3 _ _ _ hH hS (lv_sub hl [1, 2, 3, 4] rfl) hm
      · have hm := m_ite_t hm c9
        refine lv_aload_n hx hb dX6_tellFilled_47 rfl (lv_at hl 1 rfl) ?_
        refine lv_iload hx hb dX6_tellFilled_48 (lv_at hl 0 rfl) ?_
        obtain ⟨v11, S10, e_S10, hm⟩ := m_call_of hm
        refine n_cVi X hH hS (k := 6) (c_X6_has (a := a) hT hk_a e_S10) mw_X6_has in_4_93 hk_a (by decide) rfl rfl rfl ⟨rfl, rfl⟩ ⟨Nat.le_of_ble_eq_true rfl, Nat.le_of_ble_eq_true rfl⟩ ⟨Nat.zero_le _, Nat.zero_le _⟩ hl.1 (Nat.le_of_ble_eq_true rfl) dX6_tellFilled_50 (fun H locs hH hS => ?_)
        refine lv_if_eq (tgt := 69) hx hb dX6_tellFilled_53 (by decide) (fun c12 => ?_) (fun c12 => ?_)
        · have hm := m_ite_t hm c12
          exact k_X6_tellFilled_69 (a := a) (o1 := o1) X hr hT hk_a hk_o1 (b_X6_tellFilled_7 a o1 n) ih  S10 l2 l3 _ _ _ hH hS (lv_sub hl [1, 2, 3, 4] rfl) hm
        · have hm := m_ite_f hm c12
          refine lv_aload_n hx hb dX6_tellFilled_56 rfl (lv_at hl 1 rfl) ?_
          refine r_getp X hH (k := 6) (a := a) (j := 8) (b := (a + 7)) (A := 7) (B := 0) hk_a (by decide) rfl m_wi6 (by decide) in_1_70 rfl rfl rfl dX6_tellFilled_57 ?_
          refine lv_iload hx hb dX6_tellFilled_60 (lv_at hl 0 rfl) ?_
          refine lv_dup2_11 hx hb dX6_tellFilled_62 rfl rfl ?_
          obtain ⟨v13, h_v13, e_v13, hm⟩ := n_ldi hm
          refine n_iald X hH (n := 24) (m_lay_at hT hk_a (by decide) (i := 7) rfl) h_v13 e_v13 dX6_tellFilled_63 ?_
          refine lv_iconst (v := (1 : Int32)) hx hb dX6_tellFilled_64 (by decide) ?_
          refine lv_iload_n hx hb dX6_tellFilled_65 rfl (lv_at hl 3 rfl) ?_
          refine lv_ishl hx hb dX6_tellFilled_66 ?_
          refine lv_ior hx hb dX6_tellFilled_67 ?_
          obtain ⟨S14, h_S14, e_S14, hm⟩ := n_sti hm
          refine n_iast X hH hS (n := 24) (m_lay_at hT hk_a (by decide) (i := 7) rfl) h_S14 e_S14 dX6_tellFilled_68 (fun H locs hH hS => ?_)
          exact k_X6_tellFilled_69 (a := a) (o1 := o1) X hr hT hk_a hk_o1 (b_X6_tellFilled_7 a o1 n) ih  S14 l2 l3 _ _ _ hH hS (lv_sub hl [1, 2, 3, 4] rfl) hm
def f_X6_tellFilled (a o1 : Nat) (S : m_M) (i2 : Int32) : Option m_M :=
    (m_ldi S (o1 + 3) 5 i2).bind fun v1 =>
    b_X6_tellFilled_7 a o1 m_fu S i2 v1
set_option maxHeartbeats 4000000 in
set_option maxRecDepth 100000 in
theorem c_X6_tellFilled {l : Launch} {G : m_G} {nx : Nat} {κ : Nat → Nat} {a o1 : Nat} {S : m_M} {i2 : Int32} {res : m_M} (hT : m_Str κ) (hk_a : κ a = 7) (hk_o1 : κ o1 = 4) (hm : f_X6_tellFilled a o1 S i2 = some res) : m_Cv l yX6_tellFilled cX6_tellFilled 5 rm_X6_tellFilled G nx κ [.ref a, .ref o1, .int i2] S res := by
  refine m_Cv.of (by decide) (Nat.le_of_ble_eq_true rfl) ?_
  intro p e s m args below meth c ls X hr hH hl
  have hx := X.1.1
  have hb := X.1.2.1
  have hS : m_S G s s.heap [] := va_S.rf
  have hl : lv_has ls 5 [(0, .ref a), (1, .ref o1), (2, .int i2)] := hl
  rw [f_X6_tellFilled] at hm
  refine lv_aload_n hx hb dX6_tellFilled_0 rfl (lv_at hl 1 rfl) ?_
  refine r_getp X hH (k := 3) (a := o1) (j := 4) (b := (o1 + 3)) (A := 3) (B := 0) hk_o1 (by decide) rfl m_wi3 (by decide) in_1_141 rfl rfl rfl dX6_tellFilled_1 ?_
  refine lv_iload_n hx hb dX6_tellFilled_4 rfl (lv_at hl 2 rfl) ?_
  obtain ⟨v1, h_v1, e_v1, hm⟩ := n_ldi hm
  refine n_iald X hH (n := 5) (m_lay_at hT hk_o1 (by decide) (i := 3) rfl) h_v1 e_v1 dX6_tellFilled_5 ?_
  refine lv_istore_n (lv' := [(3, .int v1), (0, .ref a), (1, .ref o1), (2, .int i2)]) hx hb dX6_tellFilled_6 rfl hl (by decide) rfl (fun ls hl => ?_)
  exact k_X6_tellFilled_7 (a := a) (o1 := o1) X hr hT hk_a hk_o1  m_fu S i2 v1 _ _ _ hH hS (lv_sub hl [1, 2, 3, 0] rfl) hm
def rm_X6_reachOfLine : Room := { frames := 2, cells := 0, slots := 0, locals := 42 }
def b_X6_reachOfLine_16 (a o1 : Nat)  : Nat → m_M → Int32 → Int32 → Int32 → Int32 → Option (Int32 × m_M)
  | 0, _, _, _, _, _ => none
  | n + 1, S, l2, l3, l4, l5 =>
    m_call (f_X3_operandCount o1 S l3) fun v2 S1 =>
    if v2 ≤ l5 then (
    some (l4, S1)) else (
    m_call (f_X3_operandAt o1 S1 l3 l5) fun v5 S4 =>
    m_call (f_X6_reachOfVar a S4 l2 v5) fun v7 S6 =>
    m_let (l4 ||| v7) fun v8 =>
    m_let (l5 + (1 : Int32)) fun v9 =>
    b_X6_reachOfLine_16 a o1 n S6 l2 l3 v8 v9)
set_option maxHeartbeats 4000000 in
set_option maxRecDepth 100000 in
theorem k_X6_reachOfLine_16 {p : Program} {l : Launch} {e : Env} {s : State} {m : MethodId} {args : Array Value} {below : List Frame} {meth : Method} {c : Code} {G : m_G} {nx : Nat} {κ : Nat → Nat} {res : (Int32 × m_M)} {a o1 : Nat} (X : m_Cx p s m args meth c cX6_reachOfLine 6 RX6 G) (hr : meth.sig.returnType = (some .int)) (hT : m_Str κ) (hk_a : κ a = 7) (hk_o1 : κ o1 = 4)  (n : Nat) : ∀ (S : m_M) (l2 : Int32) (l3 : Int32) (l4 : Int32) (l5 : Int32) (H : Heap) (locs : List Loc) (ls : Array Slot), m_H G nx κ S H → m_S G s H locs → lv_has ls 6 [(0, .ref a), (1, .ref o1), (2, .int l2), (3, .int l3), (4, .int l4), (5, .int l5)] → b_X6_reachOfLine_16 a o1 n S l2 l3 l4 l5 = some res → W p l e rm_X6_reachOfLine s m args below meth c H locs 0 0 (m_Qi below args s G nx κ res) (F0 m 16 ls []) := by
  have hx := X.1.1
  have hb := X.1.2.1
  induction n with
  | zero => intro S l2 l3 l4 l5 H locs ls hH hS hl hm; have hm : (none : Option (Int32 × m_M)) = some res := hm; cases hm
  | succ n ih =>
    intro S l2 l3 l4 l5 H locs ls hH hS hl hm
    rw [b_X6_reachOfLine_16] at hm
    refine lv_iload hx hb dX6_reachOfLine_16 (lv_at hl 5 rfl) ?_
    refine lv_aload_n hx hb dX6_reachOfLine_18 rfl (lv_at hl 1 rfl) ?_
    refine lv_iload_n hx hb dX6_reachOfLine_19 rfl (lv_at hl 3 rfl) ?_
    obtain ⟨v2, S1, e_S1, hm⟩ := m_call_of hm
    refine n_cVi X hH hS (k := 3) (c_X3_operandCount (a := o1) hT hk_o1 e_S1) mw_X3_operandCount in_4_129 hk_o1 (by decide) rfl rfl rfl ⟨rfl, rfl⟩ ⟨Nat.le_of_ble_eq_true rfl, Nat.le_of_ble_eq_true rfl⟩ ⟨Nat.zero_le _, Nat.zero_le _⟩ hl.1 (Nat.le_of_ble_eq_true rfl) dX6_reachOfLine_20 (fun H locs hH hS => ?_)
    refine lv_icmp_ge (tgt := 49) hx hb dX6_reachOfLine_23 (by decide) (fun c3 => ?_) (fun c3 => ?_)
    · have hm := m_ite_t hm c3
      refine lv_iload hx hb dX6_reachOfLine_49 (lv_at hl 4 rfl) ?_
      exact r_iret X hr hH hS hm dX6_reachOfLine_51
    · have hm := m_ite_f hm c3
      refine lv_iload hx hb dX6_reachOfLine_26 (lv_at hl 4 rfl) ?_
      refine lv_aload_n hx hb dX6_reachOfLine_28 rfl (lv_at hl 0 rfl) ?_
      refine lv_iload_n hx hb dX6_reachOfLine_29 rfl (lv_at hl 2 rfl) ?_
      refine lv_aload_n hx hb dX6_reachOfLine_30 rfl (lv_at hl 1 rfl) ?_
      refine lv_iload_n hx hb dX6_reachOfLine_31 rfl (lv_at hl 3 rfl) ?_
      refine lv_iload hx hb dX6_reachOfLine_32 (lv_at hl 5 rfl) ?_
      obtain ⟨v5, S4, e_S4, hm⟩ := m_call_of hm
      refine n_cVi X hH hS (k := 3) (c_X3_operandAt (a := o1) hT hk_o1 e_S4) mw_X3_operandAt in_4_133 hk_o1 (by decide) rfl rfl rfl ⟨rfl, rfl⟩ ⟨Nat.le_of_ble_eq_true rfl, Nat.le_of_ble_eq_true rfl⟩ ⟨Nat.zero_le _, Nat.zero_le _⟩ hl.1 (Nat.le_of_ble_eq_true rfl) dX6_reachOfLine_34 (fun H locs hH hS => ?_)
      obtain ⟨v7, S6, e_S6, hm⟩ := m_call_of hm
      refine n_cVi X hH hS (k := 6) (c_X6_reachOfVar (a := a) hT hk_a e_S6) mw_X6_reachOfVar in_4_125 hk_a (by decide) rfl rfl rfl ⟨rfl, rfl⟩ ⟨Nat.le_of_ble_eq_true rfl, Nat.le_of_ble_eq_true rfl⟩ ⟨Nat.zero_le _, Nat.zero_le _⟩ hl.1 (Nat.le_of_ble_eq_true rfl) dX6_reachOfLine_37 (fun H locs hH hS => ?_)
      refine lv_ior hx hb dX6_reachOfLine_40 ?_
      obtain ⟨v8, e_v8, hm⟩ := m_let_of hm
      refine n_topi e_v8 ?_
      refine lv_istore (lv' := [(4, .int v8), (0, .ref a), (1, .ref o1), (2, .int l2), (3, .int l3), (5, .int l5)]) hx hb dX6_reachOfLine_41 hl (by decide) rfl (fun ls hl => ?_)
      obtain ⟨v9, e_v9, hm⟩ := m_let_of hm
      refine lv_iinc (v := v9) (lv' := [(5, .int v9), (4, .int v8), (0, .ref a), (1, .ref o1), (2, .int l2), (3, .int l3)]) hx hb dX6_reachOfLine_43 hl (k := 5) rfl (by rw [← e_v9]; rfl) (by decide) rfl (fun ls hl => ?_)
      refine lv_goto (tgt := 16) hx hb dX6_reachOfLine_46 (by decide) ?_
      exact ih S6 l2 l3 v8 v9 _ _ _ hH hS (lv_sub hl [2, 3, 4, 5, 1, 0] rfl) hm
def f_X6_reachOfLine (a o1 : Nat) (S : m_M) (i2 : Int32) (i3 : Int32) : Option (Int32 × m_M) :=
    m_call (f_X3_varOfLine o1 S i2 i3) fun v2 S1 =>
    m_call (f_X6_reachOfVar a S1 i2 v2) fun v4 S3 =>
    b_X6_reachOfLine_16 a o1 m_fu S3 i2 i3 v4 (0 : Int32)
set_option maxHeartbeats 4000000 in
set_option maxRecDepth 100000 in
theorem c_X6_reachOfLine {l : Launch} {G : m_G} {nx : Nat} {κ : Nat → Nat} {a o1 : Nat} {S : m_M} {i2 : Int32} {i3 : Int32} {res : (Int32 × m_M)} (hT : m_Str κ) (hk_a : κ a = 7) (hk_o1 : κ o1 = 4) (hm : f_X6_reachOfLine a o1 S i2 i3 = some res) : m_Ci l yX6_reachOfLine cX6_reachOfLine 6 (some .int) rm_X6_reachOfLine G nx κ [.ref a, .ref o1, .int i2, .int i3] S res := by
  refine m_Ci.of (by decide) (Nat.le_of_ble_eq_true rfl) ?_
  intro p e s m args below meth c ls X hr hH hl
  have hx := X.1.1
  have hb := X.1.2.1
  have hS : m_S G s s.heap [] := va_S.rf
  have hl : lv_has ls 6 [(0, .ref a), (1, .ref o1), (2, .int i2), (3, .int i3)] := hl
  rw [f_X6_reachOfLine] at hm
  refine lv_aload_n hx hb dX6_reachOfLine_0 rfl (lv_at hl 0 rfl) ?_
  refine lv_iload_n hx hb dX6_reachOfLine_1 rfl (lv_at hl 2 rfl) ?_
  refine lv_aload_n hx hb dX6_reachOfLine_2 rfl (lv_at hl 1 rfl) ?_
  refine lv_iload_n hx hb dX6_reachOfLine_3 rfl (lv_at hl 2 rfl) ?_
  refine lv_iload_n hx hb dX6_reachOfLine_4 rfl (lv_at hl 3 rfl) ?_
  obtain ⟨v2, S1, e_S1, hm⟩ := m_call_of hm
  refine n_cVi X hH hS (k := 3) (c_X3_varOfLine (a := o1) hT hk_o1 e_S1) mw_X3_varOfLine in_4_112 hk_o1 (by decide) rfl rfl rfl ⟨rfl, rfl⟩ ⟨Nat.le_of_ble_eq_true rfl, Nat.le_of_ble_eq_true rfl⟩ ⟨Nat.zero_le _, Nat.zero_le _⟩ hl.1 (Nat.le_of_ble_eq_true rfl) dX6_reachOfLine_5 (fun H locs hH hS => ?_)
  obtain ⟨v4, S3, e_S3, hm⟩ := m_call_of hm
  refine n_cVi X hH hS (k := 6) (c_X6_reachOfVar (a := a) hT hk_a e_S3) mw_X6_reachOfVar in_4_125 hk_a (by decide) rfl rfl rfl ⟨rfl, rfl⟩ ⟨Nat.le_of_ble_eq_true rfl, Nat.le_of_ble_eq_true rfl⟩ ⟨Nat.zero_le _, Nat.zero_le _⟩ hl.1 (Nat.le_of_ble_eq_true rfl) dX6_reachOfLine_8 (fun H locs hH hS => ?_)
  refine lv_istore (lv' := [(4, .int v4), (0, .ref a), (1, .ref o1), (2, .int i2), (3, .int i3)]) hx hb dX6_reachOfLine_11 hl (by decide) rfl (fun ls hl => ?_)
  refine lv_iconst (v := (0 : Int32)) hx hb dX6_reachOfLine_13 (by decide) ?_
  refine lv_istore (lv' := [(5, .int (0 : Int32)), (4, .int v4), (0, .ref a), (1, .ref o1), (2, .int i2), (3, .int i3)]) hx hb dX6_reachOfLine_14 hl (by decide) rfl (fun ls hl => ?_)
  exact k_X6_reachOfLine_16 (a := a) (o1 := o1) X hr hT hk_a hk_o1  m_fu S3 i2 i3 v4 (0 : Int32) _ _ _ hH hS (lv_sub hl [2, 3, 4, 5, 1, 0] rfl) hm
def rm_X6_tellSpan : Room := { frames := 3, cells := 0, slots := 0, locals := 67 }
def b_X6_tellSpan_66 (a o1 : Nat) (K_14 : m_M → Int32 → Int32 → Int32 → Int32 → Int32 → Option m_M) (S : m_M) (l2 : Int32) (l3 : Int32) (l4 : Int32) (l5 : Int32) (l6 : Int32) : Option m_M :=
    m_let (l6 + (1 : Int32)) fun v1 =>
    K_14 S l2 l3 l4 l5 v1
set_option maxHeartbeats 4000000 in
set_option maxRecDepth 100000 in
theorem k_X6_tellSpan_66 {p : Program} {l : Launch} {e : Env} {s : State} {m : MethodId} {args : Array Value} {below : List Frame} {meth : Method} {c : Code} {G : m_G} {nx : Nat} {κ : Nat → Nat} {res : m_M} {a o1 : Nat} (X : m_Cx p s m args meth c cX6_tellSpan 7 RX6 G) (hr : meth.sig.returnType = none) (hT : m_Str κ) (hk_a : κ a = 7) (hk_o1 : κ o1 = 4) (K_14 : m_M → Int32 → Int32 → Int32 → Int32 → Int32 → Option m_M) (hK_14 : ∀ (S : m_M) (l2 : Int32) (l3 : Int32) (l4 : Int32) (l5 : Int32) (l6 : Int32) (H : Heap) (locs : List Loc) (ls : Array Slot), m_H G nx κ S H → m_S G s H locs → lv_has ls 7 [(0, .ref a), (1, .ref o1), (2, .int l2), (3, .int l3), (4, .int l4), (5, .int l5), (6, .int l6)] → K_14 S l2 l3 l4 l5 l6 = some res → W p l e rm_X6_tellSpan s m args below meth c H locs 0 0 (m_Qv below args s G nx κ res) (F0 m 14 ls [])) : ∀ (S : m_M) (l2 : Int32) (l3 : Int32) (l4 : Int32) (l5 : Int32) (l6 : Int32) (H : Heap) (locs : List Loc) (ls : Array Slot), m_H G nx κ S H → m_S G s H locs → lv_has ls 7 [(0, .ref a), (1, .ref o1), (2, .int l2), (3, .int l3), (4, .int l4), (5, .int l5), (6, .int l6)] → b_X6_tellSpan_66 a o1 K_14 S l2 l3 l4 l5 l6 = some res → W p l e rm_X6_tellSpan s m args below meth c H locs 0 0 (m_Qv below args s G nx κ res) (F0 m 66 ls []) := by
  have hx := X.1.1
  have hb := X.1.2.1
  intro S l2 l3 l4 l5 l6 H locs ls hH hS hl hm
  rw [b_X6_tellSpan_66] at hm
  obtain ⟨v1, e_v1, hm⟩ := m_let_of hm
  refine lv_iinc (v := v1) (lv' := [(6, .int v1), (0, .ref a), (1, .ref o1), (2, .int l2), (3, .int l3), (4, .int l4), (5, .int l5)]) hx hb dX6_tellSpan_66 hl (k := 6) rfl (by rw [← e_v1]; rfl) (by decide) rfl (fun ls hl => ?_)
  refine lv_goto (tgt := 14) hx hb dX6_tellSpan_69 (by decide) ?_
  exact hK_14 S l2 l3 l4 l5 v1 _ _ _ hH hS (lv_sub hl [1, 2, 3, 4, 5, 6, 0] rfl) hm
def b_X6_tellSpan_60 (a o1 : Nat) (K_14 : m_M → Int32 → Int32 → Int32 → Int32 → Int32 → Option m_M) (S : m_M) (l2 : Int32) (l3 : Int32) (l6 : Int32) (t0 : Int32) : Option m_M :=
    b_X6_tellSpan_66 a o1 K_14 S l2 l3 t0 l6 l6
set_option maxHeartbeats 4000000 in
set_option maxRecDepth 100000 in
theorem k_X6_tellSpan_60 {p : Program} {l : Launch} {e : Env} {s : State} {m : MethodId} {args : Array Value} {below : List Frame} {meth : Method} {c : Code} {G : m_G} {nx : Nat} {κ : Nat → Nat} {res : m_M} {a o1 : Nat} (X : m_Cx p s m args meth c cX6_tellSpan 7 RX6 G) (hr : meth.sig.returnType = none) (hT : m_Str κ) (hk_a : κ a = 7) (hk_o1 : κ o1 = 4) (K_14 : m_M → Int32 → Int32 → Int32 → Int32 → Int32 → Option m_M) (hK_14 : ∀ (S : m_M) (l2 : Int32) (l3 : Int32) (l4 : Int32) (l5 : Int32) (l6 : Int32) (H : Heap) (locs : List Loc) (ls : Array Slot), m_H G nx κ S H → m_S G s H locs → lv_has ls 7 [(0, .ref a), (1, .ref o1), (2, .int l2), (3, .int l3), (4, .int l4), (5, .int l5), (6, .int l6)] → K_14 S l2 l3 l4 l5 l6 = some res → W p l e rm_X6_tellSpan s m args below meth c H locs 0 0 (m_Qv below args s G nx κ res) (F0 m 14 ls [])) : ∀ (S : m_M) (l2 : Int32) (l3 : Int32) (l6 : Int32) (t0 : Int32) (H : Heap) (locs : List Loc) (ls : Array Slot), m_H G nx κ S H → m_S G s H locs → lv_has ls 7 [(0, .ref a), (1, .ref o1), (2, .int l2), (3, .int l3), (6, .int l6)] → b_X6_tellSpan_60 a o1 K_14 S l2 l3 l6 t0 = some res → W p l e rm_X6_tellSpan s m args below meth c H locs 0 0 (m_Qv below args s G nx κ res) (F0 m 60 ls [.int t0]) := by
  have hx := X.1.1
  have hb := X.1.2.1
  intro S l2 l3 l6 t0 H locs ls hH hS hl hm
  rw [b_X6_tellSpan_60] at hm
  refine lv_istore (lv' := [(4, .int t0), (0, .ref a), (1, .ref o1), (2, .int l2), (3, .int l3), (6, .int l6)]) hx hb dX6_tellSpan_60 hl (by decide) rfl (fun ls hl => ?_)
  refine lv_iload hx hb dX6_tellSpan_62 (lv_at hl 5 rfl) ?_
  refine lv_istore (lv' := [(5, .int l6), (4, .int t0), (0, .ref a), (1, .ref o1), (2, .int l2), (3, .int l3), (6, .int l6)]) hx hb dX6_tellSpan_64 hl (by decide) rfl (fun ls hl => ?_)
  exact k_X6_tellSpan_66 (a := a) (o1 := o1) X hr hT hk_a hk_o1 K_14 hK_14  S l2 l3 t0 l6 l6 _ _ _ hH hS (lv_sub hl [2, 3, 4, 5, 1, 0, 6] rfl) hm
def b_X6_tellSpan_14 (a o1 : Nat)  : Nat → m_M → Int32 → Int32 → Int32 → Int32 → Int32 → Option m_M
  | 0, _, _, _, _, _, _ => none
  | n + 1, S, l2, l3, l4, l5, l6 =>
    (m_ldi S (o1 + 3) 5 l2).bind fun v1 =>
    (m_ldi S (o1 + 4) 5 l2).bind fun v2 =>
    if (v1 + v2) ≤ l6 then (
    if l4 = (-1 : Int32) then (
    some S) else (
    (m_ldi S (a + 12) 24 l4).bind fun v5 =>
    (m_sti S (a + 12) 24 l4 (v5 ||| ((1 : Int32) <<< (l3 &&& 31)))).bind fun S6 =>
    (m_ldi S6 (a + 13) 24 l5).bind fun v7 =>
    (m_sti S6 (a + 13) 24 l5 (v7 ||| ((1 : Int32) <<< (l3 &&& 31)))).bind fun S8 =>
    (m_ldi S8 (o1 + 3) 5 l2).bind fun v9 =>
    (m_sti S8 (a + 10) 120 ((l2 * (24 : Int32)) + l3) (l4 - v9)).bind fun S10 =>
    (m_ldi S10 (o1 + 3) 5 l2).bind fun v11 =>
    (m_sti S10 (a + 11) 120 ((l2 * (24 : Int32)) + l3) (l5 - v11)).bind fun S12 =>
    some S12)) else (
    m_call (f_X6_reachOfLine a o1 S l2 l6) fun v14 S13 =>
    if ((v14 >>> (l3 &&& 31)) &&& (1 : Int32)) = 0 then (
    b_X6_tellSpan_66 a o1 (b_X6_tellSpan_14 a o1 n) S13 l2 l3 l4 l5 l6) else (
    if l4 = (-1 : Int32) then (
    b_X6_tellSpan_60 a o1 (b_X6_tellSpan_14 a o1 n) S13 l2 l3 l6 l6) else (
    b_X6_tellSpan_60 a o1 (b_X6_tellSpan_14 a o1 n) S13 l2 l3 l6 l4)))
set_option maxHeartbeats 4000000 in
set_option maxRecDepth 100000 in
theorem k_X6_tellSpan_14 {p : Program} {l : Launch} {e : Env} {s : State} {m : MethodId} {args : Array Value} {below : List Frame} {meth : Method} {c : Code} {G : m_G} {nx : Nat} {κ : Nat → Nat} {res : m_M} {a o1 : Nat} (X : m_Cx p s m args meth c cX6_tellSpan 7 RX6 G) (hr : meth.sig.returnType = none) (hT : m_Str κ) (hk_a : κ a = 7) (hk_o1 : κ o1 = 4)  (n : Nat) : ∀ (S : m_M) (l2 : Int32) (l3 : Int32) (l4 : Int32) (l5 : Int32) (l6 : Int32) (H : Heap) (locs : List Loc) (ls : Array Slot), m_H G nx κ S H → m_S G s H locs → lv_has ls 7 [(0, .ref a), (1, .ref o1), (2, .int l2), (3, .int l3), (4, .int l4), (5, .int l5), (6, .int l6)] → b_X6_tellSpan_14 a o1 n S l2 l3 l4 l5 l6 = some res → W p l e rm_X6_tellSpan s m args below meth c H locs 0 0 (m_Qv below args s G nx κ res) (F0 m 14 ls []) := by
  have hx := X.1.1
  have hb := X.1.2.1
  induction n with
  | zero => intro S l2 l3 l4 l5 l6 H locs ls hH hS hl hm; have hm : (none : Option m_M) = some res := hm; cases hm
  | succ n ih =>
    intro S l2 l3 l4 l5 l6 H locs ls hH hS hl hm
    rw [b_X6_tellSpan_14] at hm
    refine lv_iload hx hb dX6_tellSpan_14 (lv_at hl 6 rfl) ?_
    refine lv_aload_n hx hb dX6_tellSpan_16 rfl (lv_at hl 1 rfl) ?_
    refine r_getp X hH (k := 3) (a := o1) (j := 4) (b := (o1 + 3)) (A := 3) (B := 0) hk_o1 (by decide) rfl m_wi3 (by decide) in_1_141 rfl rfl rfl dX6_tellSpan_17 ?_
    refine lv_iload_n hx hb dX6_tellSpan_20 rfl (lv_at hl 2 rfl) ?_
    obtain ⟨v1, h_v1, e_v1, hm⟩ := n_ldi hm
    refine n_iald X hH (n := 5) (m_lay_at hT hk_o1 (by decide) (i := 3) rfl) h_v1 e_v1 dX6_tellSpan_21 ?_
    refine lv_aload_n hx hb dX6_tellSpan_22 rfl (lv_at hl 1 rfl) ?_
    refine r_getp X hH (k := 3) (a := o1) (j := 5) (b := (o1 + 4)) (A := 4) (B := 0) hk_o1 (by decide) rfl m_wi3 (by decide) in_1_147 rfl rfl rfl dX6_tellSpan_23 ?_
    refine lv_iload_n hx hb dX6_tellSpan_26 rfl (lv_at hl 2 rfl) ?_
    obtain ⟨v2, h_v2, e_v2, hm⟩ := n_ldi hm
    refine n_iald X hH (n := 5) (m_lay_at hT hk_o1 (by decide) (i := 4) rfl) h_v2 e_v2 dX6_tellSpan_27 ?_
    refine lv_iadd hx hb dX6_tellSpan_28 ?_
    refine lv_icmp_ge (tgt := 72) hx hb dX6_tellSpan_29 (by decide) (fun c3 => ?_) (fun c3 => ?_)
    · have hm := m_ite_t hm c3
      refine lv_iload hx hb dX6_tellSpan_72 (lv_at hl 4 rfl) ?_
      refine lv_iconst (v := (-1 : Int32)) hx hb dX6_tellSpan_74 (by decide) ?_
      refine lv_icmp_ne (tgt := 79) hx hb dX6_tellSpan_75 (by decide) (fun c4 => ?_) (fun c4 => ?_)
      · have hm := m_ite_f hm c4
        refine lv_aload_n hx hb dX6_tellSpan_79 rfl (lv_at hl 0 rfl) ?_
        refine r_getp X hH (k := 6) (a := a) (j := 13) (b := (a + 12)) (A := 12) (B := 0) hk_a (by decide) rfl m_wi6 (by decide) in_1_83 rfl rfl rfl dX6_tellSpan_80 ?_
        refine lv_iload hx hb dX6_tellSpan_83 (lv_at hl 4 rfl) ?_
        refine lv_dup2_11 hx hb dX6_tellSpan_85 rfl rfl ?_
        obtain ⟨v5, h_v5, e_v5, hm⟩ := n_ldi hm
        refine n_iald X hH (n := 24) (m_lay_at hT hk_a (by decide) (i := 12) rfl) h_v5 e_v5 dX6_tellSpan_86 ?_
        refine lv_iconst (v := (1 : Int32)) hx hb dX6_tellSpan_87 (by decide) ?_
        refine lv_iload_n hx hb dX6_tellSpan_88 rfl (lv_at hl 3 rfl) ?_
        refine lv_ishl hx hb dX6_tellSpan_89 ?_
        refine lv_ior hx hb dX6_tellSpan_90 ?_
        obtain ⟨S6, h_S6, e_S6, hm⟩ := n_sti hm
        refine n_iast X hH hS (n := 24) (m_lay_at hT hk_a (by decide) (i := 12) rfl) h_S6 e_S6 dX6_tellSpan_91 (fun H locs hH hS => ?_)
        refine lv_aload_n hx hb dX6_tellSpan_92 rfl (lv_at hl 0 rfl) ?_
        refine r_getp X hH (k := 6) (a := a) (j := 14) (b := (a + 13)) (A := 13) (B := 0) hk_a (by decide) rfl m_wi6 (by decide) in_1_85 rfl rfl rfl dX6_tellSpan_93 ?_
        refine lv_iload hx hb dX6_tellSpan_96 (lv_at hl 5 rfl) ?_
        refine lv_dup2_11 hx hb dX6_tellSpan_98 rfl rfl ?_
        obtain ⟨v7, h_v7, e_v7, hm⟩ := n_ldi hm
        refine n_iald X hH (n := 24) (m_lay_at hT hk_a (by decide) (i := 13) rfl) h_v7 e_v7 dX6_tellSpan_99 ?_
        refine lv_iconst (v := (1 : Int32)) hx hb dX6_tellSpan_100 (by decide) ?_
        refine lv_iload_n hx hb dX6_tellSpan_101 rfl (lv_at hl 3 rfl) ?_
        refine lv_ishl hx hb dX6_tellSpan_102 ?_
        refine lv_ior hx hb dX6_tellSpan_103 ?_
        obtain ⟨S8, h_S8, e_S8, hm⟩ := n_sti hm
        refine n_iast X hH hS (n := 24) (m_lay_at hT hk_a (by decide) (i := 13) rfl) h_S8 e_S8 dX6_tellSpan_104 (fun H locs hH hS => ?_)
        refine lv_aload_n hx hb dX6_tellSpan_105 rfl (lv_at hl 0 rfl) ?_
        refine r_getp X hH (k := 6) (a := a) (j := 11) (b := (a + 10)) (A := 10) (B := 0) hk_a (by decide) rfl m_wi6 (by decide) in_1_79 rfl rfl rfl dX6_tellSpan_106 ?_
        refine lv_iload_n hx hb dX6_tellSpan_109 rfl (lv_at hl 2 rfl) ?_
        refine lv_bipush (v := (24 : Int32)) hx hb dX6_tellSpan_110 (by decide) ?_
        refine lv_imul hx hb dX6_tellSpan_112 ?_
        refine lv_iload_n hx hb dX6_tellSpan_113 rfl (lv_at hl 3 rfl) ?_
        refine lv_iadd hx hb dX6_tellSpan_114 ?_
        refine lv_iload hx hb dX6_tellSpan_115 (lv_at hl 4 rfl) ?_
        refine lv_aload_n hx hb dX6_tellSpan_117 rfl (lv_at hl 1 rfl) ?_
        refine r_getp X hH (k := 3) (a := o1) (j := 4) (b := (o1 + 3)) (A := 3) (B := 0) hk_o1 (by decide) rfl m_wi3 (by decide) in_1_141 rfl rfl rfl dX6_tellSpan_118 ?_
        refine lv_iload_n hx hb dX6_tellSpan_121 rfl (lv_at hl 2 rfl) ?_
        obtain ⟨v9, h_v9, e_v9, hm⟩ := n_ldi hm
        refine n_iald X hH (n := 5) (m_lay_at hT hk_o1 (by decide) (i := 3) rfl) h_v9 e_v9 dX6_tellSpan_122 ?_
        refine lv_isub hx hb dX6_tellSpan_123 ?_
        obtain ⟨S10, h_S10, e_S10, hm⟩ := n_sti hm
        refine n_iast X hH hS (n := 120) (m_lay_at hT hk_a (by decide) (i := 10) rfl) h_S10 e_S10 dX6_tellSpan_124 (fun H locs hH hS => ?_)
        refine lv_aload_n hx hb dX6_tellSpan_125 rfl (lv_at hl 0 rfl) ?_
        refine r_getp X hH (k := 6) (a := a) (j := 12) (b := (a + 11)) (A := 11) (B := 0) hk_a (by decide) rfl m_wi6 (by decide) in_1_81 rfl rfl rfl dX6_tellSpan_126 ?_
        refine lv_iload_n hx hb dX6_tellSpan_129 rfl (lv_at hl 2 rfl) ?_
        refine lv_bipush (v := (24 : Int32)) hx hb dX6_tellSpan_130 (by decide) ?_
        refine lv_imul hx hb dX6_tellSpan_132 ?_
        refine lv_iload_n hx hb dX6_tellSpan_133 rfl (lv_at hl 3 rfl) ?_
        refine lv_iadd hx hb dX6_tellSpan_134 ?_
        refine lv_iload hx hb dX6_tellSpan_135 (lv_at hl 5 rfl) ?_
        refine lv_aload_n hx hb dX6_tellSpan_137 rfl (lv_at hl 1 rfl) ?_
        refine r_getp X hH (k := 3) (a := o1) (j := 4) (b := (o1 + 3)) (A := 3) (B := 0) hk_o1 (by decide) rfl m_wi3 (by decide) in_1_141 rfl rfl rfl dX6_tellSpan_138 ?_
        refine lv_iload_n hx hb dX6_tellSpan_141 rfl (lv_at hl 2 rfl) ?_
        obtain ⟨v11, h_v11, e_v11, hm⟩ := n_ldi hm
        refine n_iald X hH (n := 5) (m_lay_at hT hk_o1 (by decide) (i := 3) rfl) h_v11 e_v11 dX6_tellSpan_142 ?_
        refine lv_isub hx hb dX6_tellSpan_143 ?_
        obtain ⟨S12, h_S12, e_S12, hm⟩ := n_sti hm
        refine n_iast X hH hS (n := 120) (m_lay_at hT hk_a (by decide) (i := 11) rfl) h_S12 e_S12 dX6_tellSpan_144 (fun H locs hH hS => ?_)
        exact r_vret X hr hH hS hm dX6_tellSpan_145
      · have hm := m_ite_t hm c4
        exact r_vret X hr hH hS hm dX6_tellSpan_78
    · have hm := m_ite_f hm c3
      refine lv_aload_n hx hb dX6_tellSpan_32 rfl (lv_at hl 0 rfl) ?_
      refine lv_aload_n hx hb dX6_tellSpan_33 rfl (lv_at hl 1 rfl) ?_
      refine lv_iload_n hx hb dX6_tellSpan_34 rfl (lv_at hl 2 rfl) ?_
      refine lv_iload hx hb dX6_tellSpan_35 (lv_at hl 6 rfl) ?_
      obtain ⟨v14, S13, e_S13, hm⟩ := m_call_of hm
      refine n_cVi X hH hS (k := 6) (c_X6_reachOfLine (a := a) (o1 := o1) hT hk_a hk_o1 e_S13) mw_X6_reachOfLine in_4_121 hk_a (by decide) rfl rfl rfl ⟨rfl, rfl⟩ ⟨Nat.le_of_ble_eq_true rfl, Nat.le_of_ble_eq_true rfl⟩ ⟨Nat.zero_le _, Nat.zero_le _⟩ hl.1 (Nat.le_of_ble_eq_true rfl) dX6_tellSpan_37 (fun H locs hH hS => ?_)
      refine lv_iload_n hx hb dX6_tellSpan_40 rfl (lv_at hl 3 rfl) ?_
      refine lv_ishr hx hb dX6_tellSpan_41 ?_
      refine lv_iconst (v := (1 : Int32)) hx hb dX6_tellSpan_42 (by decide) ?_
      refine lv_iand hx hb dX6_tellSpan_43 ?_
      refine lv_if_eq (tgt := 66) hx hb dX6_tellSpan_44 (by decide) (fun c15 => ?_) (fun c15 => ?_)
      · have hm := m_ite_t hm c15
        exact k_X6_tellSpan_66 (a := a) (o1 := o1) X hr hT hk_a hk_o1 (b_X6_tellSpan_14 a o1 n) ih  S13 l2 l3 l4 l5 l6 _ _ _ hH hS hl hm
      · have hm := m_ite_f hm c15
        refine lv_iload hx hb dX6_tellSpan_47 (lv_at hl 4 rfl) ?_
        refine lv_iconst (v := (-1 : Int32)) hx hb dX6_tellSpan_49 (by decide) ?_
        refine lv_icmp_ne (tgt := 58) hx hb dX6_tellSpan_50 (by decide) (fun c16 => ?_) (fun c16 => ?_)
        · have hm := m_ite_f hm c16
          refine lv_iload hx hb dX6_tellSpan_58 (lv_at hl 4 rfl) ?_
          exact k_X6_tellSpan_60 (a := a) (o1 := o1) X hr hT hk_a hk_o1 (b_X6_tellSpan_14 a o1 n) ih  S13 l2 l3 l6 l4 _ _ _ hH hS (lv_sub hl [0, 1, 2, 3, 6] rfl) hm
        · have hm := m_ite_t hm c16
          refine lv_iload hx hb dX6_tellSpan_53 (lv_at hl 6 rfl) ?_
          refine lv_goto (tgt := 60) hx hb dX6_tellSpan_55 (by decide) ?_
          exact k_X6_tellSpan_60 (a := a) (o1 := o1) X hr hT hk_a hk_o1 (b_X6_tellSpan_14 a o1 n) ih  S13 l2 l3 l6 l6 _ _ _ hH hS (lv_sub hl [0, 1, 2, 3, 6] rfl) hm
def f_X6_tellSpan (a o1 : Nat) (S : m_M) (i2 : Int32) (i3 : Int32) : Option m_M :=
    (m_ldi S (o1 + 3) 5 i2).bind fun v1 =>
    b_X6_tellSpan_14 a o1 m_fu S i2 i3 (-1 : Int32) (-1 : Int32) v1
set_option maxHeartbeats 4000000 in
set_option maxRecDepth 100000 in
theorem c_X6_tellSpan {l : Launch} {G : m_G} {nx : Nat} {κ : Nat → Nat} {a o1 : Nat} {S : m_M} {i2 : Int32} {i3 : Int32} {res : m_M} (hT : m_Str κ) (hk_a : κ a = 7) (hk_o1 : κ o1 = 4) (hm : f_X6_tellSpan a o1 S i2 i3 = some res) : m_Cv l yX6_tellSpan cX6_tellSpan 7 rm_X6_tellSpan G nx κ [.ref a, .ref o1, .int i2, .int i3] S res := by
  refine m_Cv.of (by decide) (Nat.le_of_ble_eq_true rfl) ?_
  intro p e s m args below meth c ls X hr hH hl
  have hx := X.1.1
  have hb := X.1.2.1
  have hS : m_S G s s.heap [] := va_S.rf
  have hl : lv_has ls 7 [(0, .ref a), (1, .ref o1), (2, .int i2), (3, .int i3)] := hl
  rw [f_X6_tellSpan] at hm
  refine lv_iconst (v := (-1 : Int32)) hx hb dX6_tellSpan_0 (by decide) ?_
  refine lv_istore (lv' := [(4, .int (-1 : Int32)), (0, .ref a), (1, .ref o1), (2, .int i2), (3, .int i3)]) hx hb dX6_tellSpan_1 hl (by decide) rfl (fun ls hl => ?_)
  refine lv_iconst (v := (-1 : Int32)) hx hb dX6_tellSpan_3 (by decide) ?_
  refine lv_istore (lv' := [(5, .int (-1 : Int32)), (4, .int (-1 : Int32)), (0, .ref a), (1, .ref o1), (2, .int i2), (3, .int i3)]) hx hb dX6_tellSpan_4 hl (by decide) rfl (fun ls hl => ?_)
  refine lv_aload_n hx hb dX6_tellSpan_6 rfl (lv_at hl 3 rfl) ?_
  refine r_getp X hH (k := 3) (a := o1) (j := 4) (b := (o1 + 3)) (A := 3) (B := 0) hk_o1 (by decide) rfl m_wi3 (by decide) in_1_141 rfl rfl rfl dX6_tellSpan_7 ?_
  refine lv_iload_n hx hb dX6_tellSpan_10 rfl (lv_at hl 4 rfl) ?_
  obtain ⟨v1, h_v1, e_v1, hm⟩ := n_ldi hm
  refine n_iald X hH (n := 5) (m_lay_at hT hk_o1 (by decide) (i := 3) rfl) h_v1 e_v1 dX6_tellSpan_11 ?_
  refine lv_istore (lv' := [(6, .int v1), (5, .int (-1 : Int32)), (4, .int (-1 : Int32)), (0, .ref a), (1, .ref o1), (2, .int i2), (3, .int i3)]) hx hb dX6_tellSpan_12 hl (by decide) rfl (fun ls hl => ?_)
  exact k_X6_tellSpan_14 (a := a) (o1 := o1) X hr hT hk_a hk_o1  m_fu S i2 i3 (-1 : Int32) (-1 : Int32) v1 _ _ _ hH hS (lv_sub hl [3, 4, 5, 6, 2, 1, 0] rfl) hm
def rm_J6_bitCount_0f7a4 : Room := { frames := 0, cells := 0, slots := 0, locals := 0 }
def f_J6_bitCount_0f7a4 (S : m_M) (i0 : Int32) : Option (Int32 × m_M) :=
    m_let (i0 - ((i0.toUInt32 >>> ((1 : Int32).toUInt32 &&& Int32.toUInt32 31)).toInt32 &&& (1431655765 : Int32))) fun v1 =>
    m_let ((v1 &&& (858993459 : Int32)) + ((v1.toUInt32 >>> ((2 : Int32).toUInt32 &&& Int32.toUInt32 31)).toInt32 &&& (858993459 : Int32))) fun v2 =>
    m_let ((v2 + (v2.toUInt32 >>> ((4 : Int32).toUInt32 &&& Int32.toUInt32 31)).toInt32) &&& (252645135 : Int32)) fun v3 =>
    m_let (v3 + (v3.toUInt32 >>> ((8 : Int32).toUInt32 &&& Int32.toUInt32 31)).toInt32) fun v4 =>
    m_let (v4 + (v4.toUInt32 >>> ((16 : Int32).toUInt32 &&& Int32.toUInt32 31)).toInt32) fun v5 =>
    some ((v5 &&& (63 : Int32)), S)
set_option maxHeartbeats 4000000 in
set_option maxRecDepth 100000 in
theorem c_J6_bitCount_0f7a4 {l : Launch} {G : m_G} {nx : Nat} {κ : Nat → Nat} {S : m_M} {i0 : Int32} {res : (Int32 × m_M)} (hT : m_Str κ)  (hm : f_J6_bitCount_0f7a4 S i0 = some res) : m_Ci l yJ6_bitCount_0f7a4 cJ6_bitCount_0f7a4 1 (some .int) rm_J6_bitCount_0f7a4 G nx κ [.int i0] S res := by
  refine m_Ci.of (by decide) (Nat.le_of_ble_eq_true rfl) ?_
  intro p e s m args below meth c ls X hr hH hl
  have hx := X.1.1
  have hb := X.1.2.1
  have hS : m_S G s s.heap [] := va_S.rf
  have hl : lv_has ls 1 [(0, .int i0)] := hl
  rw [f_J6_bitCount_0f7a4] at hm
  refine lv_iload_n hx hb dJ6_bitCount_0f7a4_0 rfl (lv_at hl 0 rfl) ?_
  refine lv_iload_n hx hb dJ6_bitCount_0f7a4_1 rfl (lv_at hl 0 rfl) ?_
  refine lv_iconst (v := (1 : Int32)) hx hb dJ6_bitCount_0f7a4_2 (by decide) ?_
  refine lv_iushr hx hb dJ6_bitCount_0f7a4_3 rfl ?_
  refine lv_ldcw hx hb X.1.2.2.2.1 (m_w X in_4_141) dJ6_bitCount_0f7a4_4 ?_
  refine lv_iand hx hb dJ6_bitCount_0f7a4_7 ?_
  refine lv_isub hx hb dJ6_bitCount_0f7a4_8 ?_
  obtain ⟨v1, e_v1, hm⟩ := m_let_of hm
  refine n_topi e_v1 ?_
  refine lv_istore_n (lv' := [(0, .int v1)]) hx hb dJ6_bitCount_0f7a4_9 rfl hl (by decide) rfl (fun ls hl => ?_)
  refine lv_iload_n hx hb dJ6_bitCount_0f7a4_10 rfl (lv_at hl 0 rfl) ?_
  refine lv_ldcw hx hb X.1.2.2.2.1 (m_w X in_4_142) dJ6_bitCount_0f7a4_11 ?_
  refine lv_iand hx hb dJ6_bitCount_0f7a4_14 ?_
  refine lv_iload_n hx hb dJ6_bitCount_0f7a4_15 rfl (lv_at hl 0 rfl) ?_
  refine lv_iconst (v := (2 : Int32)) hx hb dJ6_bitCount_0f7a4_16 (by decide) ?_
  refine lv_iushr hx hb dJ6_bitCount_0f7a4_17 rfl ?_
  refine lv_ldcw hx hb X.1.2.2.2.1 (m_w X in_4_142) dJ6_bitCount_0f7a4_18 ?_
  refine lv_iand hx hb dJ6_bitCount_0f7a4_21 ?_
  refine lv_iadd hx hb dJ6_bitCount_0f7a4_22 ?_
  obtain ⟨v2, e_v2, hm⟩ := m_let_of hm
  refine n_topi e_v2 ?_
  refine lv_istore_n (lv' := [(0, .int v2)]) hx hb dJ6_bitCount_0f7a4_23 rfl hl (by decide) rfl (fun ls hl => ?_)
  refine lv_iload_n hx hb dJ6_bitCount_0f7a4_24 rfl (lv_at hl 0 rfl) ?_
  refine lv_iload_n hx hb dJ6_bitCount_0f7a4_25 rfl (lv_at hl 0 rfl) ?_
  refine lv_iconst (v := (4 : Int32)) hx hb dJ6_bitCount_0f7a4_26 (by decide) ?_
  refine lv_iushr hx hb dJ6_bitCount_0f7a4_27 rfl ?_
  refine lv_iadd hx hb dJ6_bitCount_0f7a4_28 ?_
  refine lv_ldcw hx hb X.1.2.2.2.1 (m_w X in_4_143) dJ6_bitCount_0f7a4_29 ?_
  refine lv_iand hx hb dJ6_bitCount_0f7a4_32 ?_
  obtain ⟨v3, e_v3, hm⟩ := m_let_of hm
  refine n_topi e_v3 ?_
  refine lv_istore_n (lv' := [(0, .int v3)]) hx hb dJ6_bitCount_0f7a4_33 rfl hl (by decide) rfl (fun ls hl => ?_)
  refine lv_iload_n hx hb dJ6_bitCount_0f7a4_34 rfl (lv_at hl 0 rfl) ?_
  refine lv_iload_n hx hb dJ6_bitCount_0f7a4_35 rfl (lv_at hl 0 rfl) ?_
  refine lv_bipush (v := (8 : Int32)) hx hb dJ6_bitCount_0f7a4_36 (by decide) ?_
  refine lv_iushr hx hb dJ6_bitCount_0f7a4_38 rfl ?_
  refine lv_iadd hx hb dJ6_bitCount_0f7a4_39 ?_
  obtain ⟨v4, e_v4, hm⟩ := m_let_of hm
  refine n_topi e_v4 ?_
  refine lv_istore_n (lv' := [(0, .int v4)]) hx hb dJ6_bitCount_0f7a4_40 rfl hl (by decide) rfl (fun ls hl => ?_)
  refine lv_iload_n hx hb dJ6_bitCount_0f7a4_41 rfl (lv_at hl 0 rfl) ?_
  refine lv_iload_n hx hb dJ6_bitCount_0f7a4_42 rfl (lv_at hl 0 rfl) ?_
  refine lv_bipush (v := (16 : Int32)) hx hb dJ6_bitCount_0f7a4_43 (by decide) ?_
  refine lv_iushr hx hb dJ6_bitCount_0f7a4_45 rfl ?_
  refine lv_iadd hx hb dJ6_bitCount_0f7a4_46 ?_
  obtain ⟨v5, e_v5, hm⟩ := m_let_of hm
  refine n_topi e_v5 ?_
  refine lv_istore_n (lv' := [(0, .int v5)]) hx hb dJ6_bitCount_0f7a4_47 rfl hl (by decide) rfl (fun ls hl => ?_)
  refine lv_iload_n hx hb dJ6_bitCount_0f7a4_48 rfl (lv_at hl 0 rfl) ?_
  refine lv_bipush (v := (63 : Int32)) hx hb dJ6_bitCount_0f7a4_49 (by decide) ?_
  refine lv_iand hx hb dJ6_bitCount_0f7a4_51 ?_
  exact r_iret X hr hH hS hm dJ6_bitCount_0f7a4_52
def rm_X6_tellFinite : Room := { frames := 1, cells := 0, slots := 0, locals := 20 }
def b_X6_tellFinite_103 (a o1 : Nat) (K_7 : m_M → Int32 → Option m_M) (S : m_M) (l2 : Int32) : Option m_M :=
    m_let (l2 + (1 : Int32)) fun v1 =>
    K_7 S v1
set_option maxHeartbeats 4000000 in
set_option maxRecDepth 100000 in
theorem k_X6_tellFinite_103 {p : Program} {l : Launch} {e : Env} {s : State} {m : MethodId} {args : Array Value} {below : List Frame} {meth : Method} {c : Code} {G : m_G} {nx : Nat} {κ : Nat → Nat} {res : m_M} {a o1 : Nat} (X : m_Cx p s m args meth c cX6_tellFinite 5 RX6 G) (hr : meth.sig.returnType = none) (hT : m_Str κ) (hk_a : κ a = 7) (hk_o1 : κ o1 = 4) (K_7 : m_M → Int32 → Option m_M) (hK_7 : ∀ (S : m_M) (l2 : Int32) (H : Heap) (locs : List Loc) (ls : Array Slot), m_H G nx κ S H → m_S G s H locs → lv_has ls 5 [(0, .ref a), (1, .ref o1), (2, .int l2)] → K_7 S l2 = some res → W p l e rm_X6_tellFinite s m args below meth c H locs 0 0 (m_Qv below args s G nx κ res) (F0 m 7 ls [])) : ∀ (S : m_M) (l2 : Int32) (H : Heap) (locs : List Loc) (ls : Array Slot), m_H G nx κ S H → m_S G s H locs → lv_has ls 5 [(0, .ref a), (1, .ref o1), (2, .int l2)] → b_X6_tellFinite_103 a o1 K_7 S l2 = some res → W p l e rm_X6_tellFinite s m args below meth c H locs 0 0 (m_Qv below args s G nx κ res) (F0 m 103 ls []) := by
  have hx := X.1.1
  have hb := X.1.2.1
  intro S l2 H locs ls hH hS hl hm
  rw [b_X6_tellFinite_103] at hm
  obtain ⟨v1, e_v1, hm⟩ := m_let_of hm
  refine lv_iinc (v := v1) (lv' := [(2, .int v1), (0, .ref a), (1, .ref o1)]) hx hb dX6_tellFinite_103 hl (k := 2) rfl (by rw [← e_v1]; rfl) (by decide) rfl (fun ls hl => ?_)
  refine lv_goto (tgt := 7) hx hb dX6_tellFinite_106 (by decide) ?_
  exact hK_7 S v1 _ _ _ hH hS (lv_sub hl [1, 2, 0] rfl) hm
def b_X6_tellFinite_64 (a o1 : Nat) (K_7 : m_M → Int32 → Option m_M) (S : m_M) (l2 : Int32) (l3 : Int32) (t0 : Int32) : Option m_M :=
    if l3 = 0 then (
    if t0 = 0 then (
    b_X6_tellFinite_103 a o1 K_7 S l2) else (
    (m_ldi S (a + 7) 24 l2).bind fun v3 =>
    (m_ldi S (a + 6) 24 l2).bind fun v4 =>
    if (v3 &&& v4) = 0 then (
    b_X6_tellFinite_103 a o1 K_7 S l2) else (
    m_let (m_si S a 1 ((m_ri S a 1) ||| ((1 : Int32) <<< (l2 &&& 31)))) fun S6 =>
    b_X6_tellFinite_103 a o1 K_7 S6 l2))) else (
    b_X6_tellFinite_103 a o1 K_7 S l2)
set_option maxHeartbeats 4000000 in
set_option maxRecDepth 100000 in
theorem k_X6_tellFinite_64 {p : Program} {l : Launch} {e : Env} {s : State} {m : MethodId} {args : Array Value} {below : List Frame} {meth : Method} {c : Code} {G : m_G} {nx : Nat} {κ : Nat → Nat} {res : m_M} {a o1 : Nat} (X : m_Cx p s m args meth c cX6_tellFinite 5 RX6 G) (hr : meth.sig.returnType = none) (hT : m_Str κ) (hk_a : κ a = 7) (hk_o1 : κ o1 = 4) (K_7 : m_M → Int32 → Option m_M) (hK_7 : ∀ (S : m_M) (l2 : Int32) (H : Heap) (locs : List Loc) (ls : Array Slot), m_H G nx κ S H → m_S G s H locs → lv_has ls 5 [(0, .ref a), (1, .ref o1), (2, .int l2)] → K_7 S l2 = some res → W p l e rm_X6_tellFinite s m args below meth c H locs 0 0 (m_Qv below args s G nx κ res) (F0 m 7 ls [])) : ∀ (S : m_M) (l2 : Int32) (l3 : Int32) (t0 : Int32) (H : Heap) (locs : List Loc) (ls : Array Slot), m_H G nx κ S H → m_S G s H locs → lv_has ls 5 [(0, .ref a), (1, .ref o1), (2, .int l2), (3, .int l3)] → b_X6_tellFinite_64 a o1 K_7 S l2 l3 t0 = some res → W p l e rm_X6_tellFinite s m args below meth c H locs 0 0 (m_Qv below args s G nx κ res) (F0 m 64 ls [.int t0]) := by
  have hx := X.1.1
  have hb := X.1.2.1
  intro S l2 l3 t0 H locs ls hH hS hl hm
  rw [b_X6_tellFinite_64] at hm
  refine lv_istore (lv' := [(4, .int t0), (0, .ref a), (1, .ref o1), (2, .int l2), (3, .int l3)]) hx hb dX6_tellFinite_64 hl (by decide) rfl (fun ls hl => ?_)
  refine lv_iload_n hx hb dX6_tellFinite_66 rfl (lv_at hl 4 rfl) ?_
  refine lv_if_ne (tgt := 103) hx hb dX6_tellFinite_67 (by decide) (fun c1 => ?_) (fun c1 => ?_)
  · have hm := m_ite_f hm c1
    exact k_X6_tellFinite_103 (a := a) (o1 := o1) X hr hT hk_a hk_o1 K_7 hK_7  S l2 _ _ _ hH hS (lv_sub hl [1, 2, 3] rfl) hm
  · have hm := m_ite_t hm c1
    refine lv_iload hx hb dX6_tellFinite_70 (lv_at hl 0 rfl) ?_
    refine lv_if_eq (tgt := 103) hx hb dX6_tellFinite_72 (by decide) (fun c2 => ?_) (fun c2 => ?_)
    · have hm := m_ite_t hm c2
      exact k_X6_tellFinite_103 (a := a) (o1 := o1) X hr hT hk_a hk_o1 K_7 hK_7  S l2 _ _ _ hH hS (lv_sub hl [1, 2, 3] rfl) hm
    · have hm := m_ite_f hm c2
      refine lv_aload_n hx hb dX6_tellFinite_75 rfl (lv_at hl 1 rfl) ?_
      refine r_getp X hH (k := 6) (a := a) (j := 8) (b := (a + 7)) (A := 7) (B := 0) hk_a (by decide) rfl m_wi6 (by decide) in_1_70 rfl rfl rfl dX6_tellFinite_76 ?_
      refine lv_iload_n hx hb dX6_tellFinite_79 rfl (lv_at hl 3 rfl) ?_
      obtain ⟨v3, h_v3, e_v3, hm⟩ := n_ldi hm
      refine n_iald X hH (n := 24) (m_lay_at hT hk_a (by decide) (i := 7) rfl) h_v3 e_v3 dX6_tellFinite_80 ?_
      refine lv_aload_n hx hb dX6_tellFinite_81 rfl (lv_at hl 1 rfl) ?_
      refine r_getp X hH (k := 6) (a := a) (j := 7) (b := (a + 6)) (A := 6) (B := 0) hk_a (by decide) rfl m_wi6 (by decide) in_1_67 rfl rfl rfl dX6_tellFinite_82 ?_
      refine lv_iload_n hx hb dX6_tellFinite_85 rfl (lv_at hl 3 rfl) ?_
      obtain ⟨v4, h_v4, e_v4, hm⟩ := n_ldi hm
      refine n_iald X hH (n := 24) (m_lay_at hT hk_a (by decide) (i := 6) rfl) h_v4 e_v4 dX6_tellFinite_86 ?_
      refine lv_iand hx hb dX6_tellFinite_87 ?_
      refine lv_if_eq (tgt := 103) hx hb dX6_tellFinite_88 (by decide) (fun c5 => ?_) (fun c5 => ?_)
      · have hm := m_ite_t hm c5
        exact k_X6_tellFinite_103 (a := a) (o1 := o1) X hr hT hk_a hk_o1 K_7 hK_7  S l2 _ _ _ hH hS (lv_sub hl [1, 2, 3] rfl) hm
      · have hm := m_ite_f hm c5
        refine lv_aload_n hx hb dX6_tellFinite_91 rfl (lv_at hl 1 rfl) ?_
        refine lv_dup hx hb dX6_tellFinite_92 rfl ?_
        refine r_geti X hH (k := 6) (a := a) (j := 1) hk_a (by decide) rfl m_wi6 (by decide) in_1_55 rfl rfl dX6_tellFinite_93 ?_
        refine lv_iconst (v := (1 : Int32)) hx hb dX6_tellFinite_96 (by decide) ?_
        refine lv_iload_n hx hb dX6_tellFinite_97 rfl (lv_at hl 3 rfl) ?_
        refine lv_ishl hx hb dX6_tellFinite_98 ?_
        refine lv_ior hx hb dX6_tellFinite_99 ?_
        obtain ⟨S6, e_S6, hm⟩ := m_let_of hm
        refine n_puti X hH hS tyX6 (k := 6) (a := a) (j := 1) hk_a (by decide) rfl m_wi6 tyX6_ok nmX6 (by decide) in_1_55 rfl rfl rfl ⟨rfl, rfl⟩ e_S6 dX6_tellFinite_100 (fun H locs hH hS => ?_)
        exact k_X6_tellFinite_103 (a := a) (o1 := o1) X hr hT hk_a hk_o1 K_7 hK_7  S6 l2 _ _ _ hH hS (lv_sub hl [1, 2, 3] rfl) hm
def b_X6_tellFinite_45 (a o1 : Nat) (K_7 : m_M → Int32 → Option m_M) (S : m_M) (l2 : Int32) (t0 : Int32) : Option m_M :=
    (m_ldi S (a + 7) 24 l2).bind fun v1 =>
    m_call (f_J6_bitCount_0f7a4 S v1) fun v3 S2 =>
    if v3 = (1 : Int32) then (
    b_X6_tellFinite_64 a o1 K_7 S2 l2 t0 (1 : Int32)) else (
    b_X6_tellFinite_64 a o1 K_7 S2 l2 t0 (0 : Int32))
set_option maxHeartbeats 4000000 in
set_option maxRecDepth 100000 in
theorem k_X6_tellFinite_45 {p : Program} {l : Launch} {e : Env} {s : State} {m : MethodId} {args : Array Value} {below : List Frame} {meth : Method} {c : Code} {G : m_G} {nx : Nat} {κ : Nat → Nat} {res : m_M} {a o1 : Nat} (X : m_Cx p s m args meth c cX6_tellFinite 5 RX6 G) (hr : meth.sig.returnType = none) (hT : m_Str κ) (hk_a : κ a = 7) (hk_o1 : κ o1 = 4) (K_7 : m_M → Int32 → Option m_M) (hK_7 : ∀ (S : m_M) (l2 : Int32) (H : Heap) (locs : List Loc) (ls : Array Slot), m_H G nx κ S H → m_S G s H locs → lv_has ls 5 [(0, .ref a), (1, .ref o1), (2, .int l2)] → K_7 S l2 = some res → W p l e rm_X6_tellFinite s m args below meth c H locs 0 0 (m_Qv below args s G nx κ res) (F0 m 7 ls [])) : ∀ (S : m_M) (l2 : Int32) (t0 : Int32) (H : Heap) (locs : List Loc) (ls : Array Slot), m_H G nx κ S H → m_S G s H locs → lv_has ls 5 [(0, .ref a), (1, .ref o1), (2, .int l2)] → b_X6_tellFinite_45 a o1 K_7 S l2 t0 = some res → W p l e rm_X6_tellFinite s m args below meth c H locs 0 0 (m_Qv below args s G nx κ res) (F0 m 45 ls [.int t0]) := by
  have hx := X.1.1
  have hb := X.1.2.1
  intro S l2 t0 H locs ls hH hS hl hm
  rw [b_X6_tellFinite_45] at hm
  refine lv_istore_n (lv' := [(3, .int t0), (0, .ref a), (1, .ref o1), (2, .int l2)]) hx hb dX6_tellFinite_45 rfl hl (by decide) rfl (fun ls hl => ?_)
  refine lv_aload_n hx hb dX6_tellFinite_46 rfl (lv_at hl 1 rfl) ?_
  refine r_getp X hH (k := 6) (a := a) (j := 8) (b := (a + 7)) (A := 7) (B := 0) hk_a (by decide) rfl m_wi6 (by decide) in_1_70 rfl rfl rfl dX6_tellFinite_47 ?_
  refine lv_iload_n hx hb dX6_tellFinite_50 rfl (lv_at hl 3 rfl) ?_
  obtain ⟨v1, h_v1, e_v1, hm⟩ := n_ldi hm
  refine n_iald X hH (n := 24) (m_lay_at hT hk_a (by decide) (i := 7) rfl) h_v1 e_v1 dX6_tellFinite_51 ?_
  obtain ⟨v3, S2, e_S2, hm⟩ := m_call_of hm
  refine n_cSi X hH hS (c_J6_bitCount_0f7a4  hT  e_S2) mw_J6_bitCount_0f7a4 in_4_138 rfl ⟨rfl, rfl⟩ ⟨Nat.le_of_ble_eq_true rfl, Nat.le_of_ble_eq_true rfl⟩ ⟨Nat.zero_le _, Nat.zero_le _⟩ hl.1 (Nat.le_of_ble_eq_true rfl) dX6_tellFinite_52 (fun H locs hH hS => ?_)
  refine lv_iconst (v := (1 : Int32)) hx hb dX6_tellFinite_55 (by decide) ?_
  refine lv_icmp_ne (tgt := 63) hx hb dX6_tellFinite_56 (by decide) (fun c4 => ?_) (fun c4 => ?_)
  · have hm := m_ite_f hm c4
    refine lv_iconst (v := (0 : Int32)) hx hb dX6_tellFinite_63 (by decide) ?_
    exact k_X6_tellFinite_64 (a := a) (o1 := o1) X hr hT hk_a hk_o1 K_7 hK_7  S2 l2 t0 (0 : Int32) _ _ _ hH hS (lv_sub hl [1, 2, 3, 0] rfl) hm
  · have hm := m_ite_t hm c4
    refine lv_iconst (v := (1 : Int32)) hx hb dX6_tellFinite_59 (by decide) ?_
    refine lv_goto (tgt := 64) hx hb dX6_tellFinite_60 (by decide) ?_
    exact k_X6_tellFinite_64 (a := a) (o1 := o1) X hr hT hk_a hk_o1 K_7 hK_7  S2 l2 t0 (1 : Int32) _ _ _ hH hS (lv_sub hl [1, 2, 3, 0] rfl) hm
def b_X6_tellFinite_44 (a o1 : Nat) (K_7 : m_M → Int32 → Option m_M) (S : m_M) (l2 : Int32) : Option m_M :=
    b_X6_tellFinite_45 a o1 K_7 S l2 (0 : Int32)
set_option maxHeartbeats 4000000 in
set_option maxRecDepth 100000 in
theorem k_X6_tellFinite_44 {p : Program} {l : Launch} {e : Env} {s : State} {m : MethodId} {args : Array Value} {below : List Frame} {meth : Method} {c : Code} {G : m_G} {nx : Nat} {κ : Nat → Nat} {res : m_M} {a o1 : Nat} (X : m_Cx p s m args meth c cX6_tellFinite 5 RX6 G) (hr : meth.sig.returnType = none) (hT : m_Str κ) (hk_a : κ a = 7) (hk_o1 : κ o1 = 4) (K_7 : m_M → Int32 → Option m_M) (hK_7 : ∀ (S : m_M) (l2 : Int32) (H : Heap) (locs : List Loc) (ls : Array Slot), m_H G nx κ S H → m_S G s H locs → lv_has ls 5 [(0, .ref a), (1, .ref o1), (2, .int l2)] → K_7 S l2 = some res → W p l e rm_X6_tellFinite s m args below meth c H locs 0 0 (m_Qv below args s G nx κ res) (F0 m 7 ls [])) : ∀ (S : m_M) (l2 : Int32) (H : Heap) (locs : List Loc) (ls : Array Slot), m_H G nx κ S H → m_S G s H locs → lv_has ls 5 [(0, .ref a), (1, .ref o1), (2, .int l2)] → b_X6_tellFinite_44 a o1 K_7 S l2 = some res → W p l e rm_X6_tellFinite s m args below meth c H locs 0 0 (m_Qv below args s G nx κ res) (F0 m 44 ls []) := by
  have hx := X.1.1
  have hb := X.1.2.1
  intro S l2 H locs ls hH hS hl hm
  rw [b_X6_tellFinite_44] at hm
  refine lv_iconst (v := (0 : Int32)) hx hb dX6_tellFinite_44 (by decide) ?_
  exact k_X6_tellFinite_45 (a := a) (o1 := o1) X hr hT hk_a hk_o1 K_7 hK_7  S l2 (0 : Int32) _ _ _ hH hS hl hm
def b_X6_tellFinite_7 (a o1 : Nat)  : Nat → m_M → Int32 → Option m_M
  | 0, _, _ => none
  | n + 1, S, l2 =>
    if (m_ri S a 0) ≤ l2 then (
    some S) else (
    if (m_ri S o1 0) ≤ 0 then (
    b_X6_tellFinite_44 a o1 (b_X6_tellFinite_7 a o1 n) S l2) else (
    (m_ldi S (a + 8) 5 ((m_ri S o1 0) - (1 : Int32))).bind fun v3 =>
    if ((v3 >>> (l2 &&& 31)) &&& (1 : Int32)) = 0 then (
    b_X6_tellFinite_44 a o1 (b_X6_tellFinite_7 a o1 n) S l2) else (
    b_X6_tellFinite_45 a o1 (b_X6_tellFinite_7 a o1 n) S l2 (1 : Int32))))
set_option maxHeartbeats 4000000 in
set_option maxRecDepth 100000 in
theorem k_X6_tellFinite_7 {p : Program} {l : Launch} {e : Env} {s : State} {m : MethodId} {args : Array Value} {below : List Frame} {meth : Method} {c : Code} {G : m_G} {nx : Nat} {κ : Nat → Nat} {res : m_M} {a o1 : Nat} (X : m_Cx p s m args meth c cX6_tellFinite 5 RX6 G) (hr : meth.sig.returnType = none) (hT : m_Str κ) (hk_a : κ a = 7) (hk_o1 : κ o1 = 4)  (n : Nat) : ∀ (S : m_M) (l2 : Int32) (H : Heap) (locs : List Loc) (ls : Array Slot), m_H G nx κ S H → m_S G s H locs → lv_has ls 5 [(0, .ref a), (1, .ref o1), (2, .int l2)] → b_X6_tellFinite_7 a o1 n S l2 = some res → W p l e rm_X6_tellFinite s m args below meth c H locs 0 0 (m_Qv below args s G nx κ res) (F0 m 7 ls []) := by
  have hx := X.1.1
  have hb := X.1.2.1
  induction n with
  | zero => intro S l2 H locs ls hH hS hl hm; have hm : (none : Option m_M) = some res := hm; cases hm
  | succ n ih =>
    intro S l2 H locs ls hH hS hl hm
    rw [b_X6_tellFinite_7] at hm
    refine lv_iload_n hx hb dX6_tellFinite_7 rfl (lv_at hl 2 rfl) ?_
    refine lv_aload_n hx hb dX6_tellFinite_8 rfl (lv_at hl 0 rfl) ?_
    refine r_geti X hH (k := 6) (a := a) (j := 0) hk_a (by decide) rfl m_wi6 (by decide) in_1_52 rfl rfl dX6_tellFinite_9 ?_
    refine lv_icmp_ge (tgt := 109) hx hb dX6_tellFinite_12 (by decide) (fun c1 => ?_) (fun c1 => ?_)
    · have hm := m_ite_t hm c1
      exact r_vret X hr hH hS hm dX6_tellFinite_109
    · have hm := m_ite_f hm c1
      refine lv_aload_n hx hb dX6_tellFinite_15 rfl (lv_at hl 1 rfl) ?_
      refine r_geti X hH (k := 3) (a := o1) (j := 0) hk_o1 (by decide) rfl m_wi3 (by decide) in_1_128 rfl rfl dX6_tellFinite_16 ?_
      refine lv_if_le (tgt := 44) hx hb dX6_tellFinite_19 (by decide) (fun c2 => ?_) (fun c2 => ?_)
      · have hm := m_ite_t hm c2
        exact k_X6_tellFinite_44 (a := a) (o1 := o1) X hr hT hk_a hk_o1 (b_X6_tellFinite_7 a o1 n) ih  S l2 _ _ _ hH hS hl hm
      · have hm := m_ite_f hm c2
        refine lv_aload_n hx hb dX6_tellFinite_22 rfl (lv_at hl 0 rfl) ?_
        refine r_getp X hH (k := 6) (a := a) (j := 9) (b := (a + 8)) (A := 8) (B := 0) hk_a (by decide) rfl m_wi6 (by decide) in_1_73 rfl rfl rfl dX6_tellFinite_23 ?_
        refine lv_aload_n hx hb dX6_tellFinite_26 rfl (lv_at hl 1 rfl) ?_
        refine r_geti X hH (k := 3) (a := o1) (j := 0) hk_o1 (by decide) rfl m_wi3 (by decide) in_1_128 rfl rfl dX6_tellFinite_27 ?_
        refine lv_iconst (v := (1 : Int32)) hx hb dX6_tellFinite_30 (by decide) ?_
        refine lv_isub hx hb dX6_tellFinite_31 ?_
        obtain ⟨v3, h_v3, e_v3, hm⟩ := n_ldi hm
        refine n_iald X hH (n := 5) (m_lay_at hT hk_a (by decide) (i := 8) rfl) h_v3 e_v3 dX6_tellFinite_32 ?_
        refine lv_iload_n hx hb dX6_tellFinite_33 rfl (lv_at hl 2 rfl) ?_
        refine lv_ishr hx hb dX6_tellFinite_34 ?_
        refine lv_iconst (v := (1 : Int32)) hx hb dX6_tellFinite_35 (by decide) ?_
        refine lv_iand hx hb dX6_tellFinite_36 ?_
        refine lv_if_eq (tgt := 44) hx hb dX6_tellFinite_37 (by decide) (fun c4 => ?_) (fun c4 => ?_)
        · have hm := m_ite_t hm c4
          exact k_X6_tellFinite_44 (a := a) (o1 := o1) X hr hT hk_a hk_o1 (b_X6_tellFinite_7 a o1 n) ih  S l2 _ _ _ hH hS hl hm
        · have hm := m_ite_f hm c4
          refine lv_iconst (v := (1 : Int32)) hx hb dX6_tellFinite_40 (by decide) ?_
          refine lv_goto (tgt := 45) hx hb dX6_tellFinite_41 (by decide) ?_
          exact k_X6_tellFinite_45 (a := a) (o1 := o1) X hr hT hk_a hk_o1 (b_X6_tellFinite_7 a o1 n) ih  S l2 (1 : Int32) _ _ _ hH hS hl hm
def f_X6_tellFinite (a o1 : Nat) (S : m_M)  : Option m_M :=
    m_let (m_si S a 1 (0 : Int32)) fun S1 =>
    b_X6_tellFinite_7 a o1 m_fu S1 (0 : Int32)
set_option maxHeartbeats 4000000 in
set_option maxRecDepth 100000 in
theorem c_X6_tellFinite {l : Launch} {G : m_G} {nx : Nat} {κ : Nat → Nat} {a o1 : Nat} {S : m_M}  {res : m_M} (hT : m_Str κ) (hk_a : κ a = 7) (hk_o1 : κ o1 = 4) (hm : f_X6_tellFinite a o1 S = some res) : m_Cv l yX6_tellFinite cX6_tellFinite 5 rm_X6_tellFinite G nx κ [.ref a, .ref o1] S res := by
  refine m_Cv.of (by decide) (Nat.le_of_ble_eq_true rfl) ?_
  intro p e s m args below meth c ls X hr hH hl
  have hx := X.1.1
  have hb := X.1.2.1
  have hS : m_S G s s.heap [] := va_S.rf
  have hl : lv_has ls 5 [(0, .ref a), (1, .ref o1)] := hl
  rw [f_X6_tellFinite] at hm
  refine lv_aload_n hx hb dX6_tellFinite_0 rfl (lv_at hl 0 rfl) ?_
  refine lv_iconst (v := (0 : Int32)) hx hb dX6_tellFinite_1 (by decide) ?_
  obtain ⟨S1, e_S1, hm⟩ := m_let_of hm
  refine n_puti X hH hS tyX6 (k := 6) (a := a) (j := 1) hk_a (by decide) rfl m_wi6 tyX6_ok nmX6 (by decide) in_1_55 rfl rfl rfl ⟨rfl, rfl⟩ e_S1 dX6_tellFinite_2 (fun H locs hH hS => ?_)
  refine lv_iconst (v := (0 : Int32)) hx hb dX6_tellFinite_5 (by decide) ?_
  refine lv_istore_n (lv' := [(2, .int (0 : Int32)), (0, .ref a), (1, .ref o1)]) hx hb dX6_tellFinite_6 rfl hl (by decide) rfl (fun ls hl => ?_)
  exact k_X6_tellFinite_7 (a := a) (o1 := o1) X hr hT hk_a hk_o1  m_fu S1 (0 : Int32) _ _ _ hH hS (lv_sub hl [1, 2, 0] rfl) hm
def rm_X6_derive : Room := { frames := 4, cells := 0, slots := 0, locals := 93 }
def b_X6_derive_96 (a o1 : Nat) (K_38 : m_M → Int32 → Option m_M) (K_60 : m_M → Int32 → Int32 → Option m_M) (S : m_M) (l2 : Int32) (l3 : Int32) : Option m_M :=
    m_let (l3 + (1 : Int32)) fun v1 =>
    K_60 S l2 v1
set_option maxHeartbeats 4000000 in
set_option maxRecDepth 100000 in
theorem k_X6_derive_96 {p : Program} {l : Launch} {e : Env} {s : State} {m : MethodId} {args : Array Value} {below : List Frame} {meth : Method} {c : Code} {G : m_G} {nx : Nat} {κ : Nat → Nat} {res : m_M} {a o1 : Nat} (X : m_Cx p s m args meth c cX6_derive 4 RX6 G) (hr : meth.sig.returnType = none) (hT : m_Str κ) (hk_a : κ a = 7) (hk_o1 : κ o1 = 4) (K_38 : m_M → Int32 → Option m_M) (hK_38 : ∀ (S : m_M) (l2 : Int32) (H : Heap) (locs : List Loc) (ls : Array Slot), m_H G nx κ S H → m_S G s H locs → lv_has ls 4 [(0, .ref a), (1, .ref o1), (2, .int l2)] → K_38 S l2 = some res → W p l e rm_X6_derive s m args below meth c H locs 0 0 (m_Qv below args s G nx κ res) (F0 m 38 ls [])) (K_60 : m_M → Int32 → Int32 → Option m_M) (hK_60 : ∀ (S : m_M) (l2 : Int32) (l3 : Int32) (H : Heap) (locs : List Loc) (ls : Array Slot), m_H G nx κ S H → m_S G s H locs → lv_has ls 4 [(0, .ref a), (1, .ref o1), (2, .int l2), (3, .int l3)] → K_60 S l2 l3 = some res → W p l e rm_X6_derive s m args below meth c H locs 0 0 (m_Qv below args s G nx κ res) (F0 m 60 ls [])) : ∀ (S : m_M) (l2 : Int32) (l3 : Int32) (H : Heap) (locs : List Loc) (ls : Array Slot), m_H G nx κ S H → m_S G s H locs → lv_has ls 4 [(0, .ref a), (1, .ref o1), (2, .int l2), (3, .int l3)] → b_X6_derive_96 a o1 K_38 K_60 S l2 l3 = some res → W p l e rm_X6_derive s m args below meth c H locs 0 0 (m_Qv below args s G nx κ res) (F0 m 96 ls []) := by
  have hx := X.1.1
  have hb := X.1.2.1
  intro S l2 l3 H locs ls hH hS hl hm
  rw [b_X6_derive_96] at hm
  obtain ⟨v1, e_v1, hm⟩ := m_let_of hm
  refine lv_iinc (v := v1) (lv' := [(3, .int v1), (0, .ref a), (1, .ref o1), (2, .int l2)]) hx hb dX6_derive_96 hl (k := 3) rfl (by rw [← e_v1]; rfl) (by decide) rfl (fun ls hl => ?_)
  refine lv_goto (tgt := 60) hx hb dX6_derive_99 (by decide) ?_
  exact hK_60 S l2 v1 _ _ _ hH hS (lv_sub hl [1, 2, 3, 0] rfl) hm
def b_X6_derive_60 (a o1 : Nat) (K_38 : m_M → Int32 → Option m_M) : Nat → m_M → Int32 → Int32 → Option m_M
  | 0, _, _, _ => none
  | n + 1, S, l2, l3 =>
    if (m_ri S a 0) ≤ l3 then (
    m_let (l2 + (1 : Int32)) fun v2 =>
    K_38 S v2) else (
    m_call (f_X6_isOwned a S l2 l3) fun v4 S3 =>
    if v4 = 0 then (
    b_X6_derive_96 a o1 K_38 (b_X6_derive_60 a o1 K_38 n) S3 l2 l3) else (
    (m_ldi S3 (a + 6) 24 l3).bind fun v6 =>
    (m_sti S3 (a + 6) 24 l3 (v6 ||| ((1 : Int32) <<< (l2 &&& 31)))).bind fun S7 =>
    m_cal0 (f_X6_tellSpan a o1 S7 l2 l3) fun S8 =>
    b_X6_derive_96 a o1 K_38 (b_X6_derive_60 a o1 K_38 n) S8 l2 l3))
set_option maxHeartbeats 4000000 in
set_option maxRecDepth 100000 in
theorem k_X6_derive_60 {p : Program} {l : Launch} {e : Env} {s : State} {m : MethodId} {args : Array Value} {below : List Frame} {meth : Method} {c : Code} {G : m_G} {nx : Nat} {κ : Nat → Nat} {res : m_M} {a o1 : Nat} (X : m_Cx p s m args meth c cX6_derive 4 RX6 G) (hr : meth.sig.returnType = none) (hT : m_Str κ) (hk_a : κ a = 7) (hk_o1 : κ o1 = 4) (K_38 : m_M → Int32 → Option m_M) (hK_38 : ∀ (S : m_M) (l2 : Int32) (H : Heap) (locs : List Loc) (ls : Array Slot), m_H G nx κ S H → m_S G s H locs → lv_has ls 4 [(0, .ref a), (1, .ref o1), (2, .int l2)] → K_38 S l2 = some res → W p l e rm_X6_derive s m args below meth c H locs 0 0 (m_Qv below args s G nx κ res) (F0 m 38 ls [])) (n : Nat) : ∀ (S : m_M) (l2 : Int32) (l3 : Int32) (H : Heap) (locs : List Loc) (ls : Array Slot), m_H G nx κ S H → m_S G s H locs → lv_has ls 4 [(0, .ref a), (1, .ref o1), (2, .int l2), (3, .int l3)] → b_X6_derive_60 a o1 K_38 n S l2 l3 = some res → W p l e rm_X6_derive s m args below meth c H locs 0 0 (m_Qv below args s G nx κ res) (F0 m 60 ls []) := by
  have hx := X.1.1
  have hb := X.1.2.1
  induction n with
  | zero => intro S l2 l3 H locs ls hH hS hl hm; have hm : (none : Option m_M) = some res := hm; cases hm
  | succ n ih =>
    intro S l2 l3 H locs ls hH hS hl hm
    rw [b_X6_derive_60] at hm
    refine lv_iload_n hx hb dX6_derive_60 rfl (lv_at hl 3 rfl) ?_
    refine lv_aload_n hx hb dX6_derive_61 rfl (lv_at hl 0 rfl) ?_
    refine r_geti X hH (k := 6) (a := a) (j := 0) hk_a (by decide) rfl m_wi6 (by decide) in_1_52 rfl rfl dX6_derive_62 ?_
    refine lv_icmp_ge (tgt := 102) hx hb dX6_derive_65 (by decide) (fun c1 => ?_) (fun c1 => ?_)
    · have hm := m_ite_t hm c1
      obtain ⟨v2, e_v2, hm⟩ := m_let_of hm
      refine lv_iinc (v := v2) (lv' := [(2, .int v2), (0, .ref a), (1, .ref o1), (3, .int l3)]) hx hb dX6_derive_102 hl (k := 2) rfl (by rw [← e_v2]; rfl) (by decide) rfl (fun ls hl => ?_)
      refine lv_goto (tgt := 38) hx hb dX6_derive_105 (by decide) ?_
      exact hK_38 S v2 _ _ _ hH hS (lv_sub hl [1, 2, 0] rfl) hm
    · have hm := m_ite_f hm c1
      refine lv_aload_n hx hb dX6_derive_68 rfl (lv_at hl 0 rfl) ?_
      refine lv_iload_n hx hb dX6_derive_69 rfl (lv_at hl 2 rfl) ?_
      refine lv_iload_n hx hb dX6_derive_70 rfl (lv_at hl 3 rfl) ?_
      obtain ⟨v4, S3, e_S3, hm⟩ := m_call_of hm
      refine n_cVi X hH hS (k := 6) (c_X6_isOwned (a := a) hT hk_a e_S3) mw_X6_isOwned in_4_113 hk_a (by decide) rfl rfl rfl ⟨rfl, rfl⟩ ⟨Nat.le_of_ble_eq_true rfl, Nat.le_of_ble_eq_true rfl⟩ ⟨Nat.zero_le _, Nat.zero_le _⟩ hl.1 (Nat.le_of_ble_eq_true rfl) dX6_derive_71 (fun H locs hH hS => ?_)
      refine lv_if_eq (tgt := 96) hx hb dX6_derive_74 (by decide) (fun c5 => ?_) (fun c5 => ?_)
      · have hm := m_ite_t hm c5
        exact k_X6_derive_96 (a := a) (o1 := o1) X hr hT hk_a hk_o1 K_38 hK_38 (b_X6_derive_60 a o1 K_38 n) ih  S3 l2 l3 _ _ _ hH hS hl hm
      · have hm := m_ite_f hm c5
        refine lv_aload_n hx hb dX6_derive_77 rfl (lv_at hl 0 rfl) ?_
        refine r_getp X hH (k := 6) (a := a) (j := 7) (b := (a + 6)) (A := 6) (B := 0) hk_a (by decide) rfl m_wi6 (by decide) in_1_67 rfl rfl rfl dX6_derive_78 ?_
        refine lv_iload_n hx hb dX6_derive_81 rfl (lv_at hl 3 rfl) ?_
        refine lv_dup2_11 hx hb dX6_derive_82 rfl rfl ?_
        obtain ⟨v6, h_v6, e_v6, hm⟩ := n_ldi hm
        refine n_iald X hH (n := 24) (m_lay_at hT hk_a (by decide) (i := 6) rfl) h_v6 e_v6 dX6_derive_83 ?_
        refine lv_iconst (v := (1 : Int32)) hx hb dX6_derive_84 (by decide) ?_
        refine lv_iload_n hx hb dX6_derive_85 rfl (lv_at hl 2 rfl) ?_
        refine lv_ishl hx hb dX6_derive_86 ?_
        refine lv_ior hx hb dX6_derive_87 ?_
        obtain ⟨S7, h_S7, e_S7, hm⟩ := n_sti hm
        refine n_iast X hH hS (n := 24) (m_lay_at hT hk_a (by decide) (i := 6) rfl) h_S7 e_S7 dX6_derive_88 (fun H locs hH hS => ?_)
        refine lv_aload_n hx hb dX6_derive_89 rfl (lv_at hl 0 rfl) ?_
        refine lv_aload_n hx hb dX6_derive_90 rfl (lv_at hl 1 rfl) ?_
        refine lv_iload_n hx hb dX6_derive_91 rfl (lv_at hl 2 rfl) ?_
        refine lv_iload_n hx hb dX6_derive_92 rfl (lv_at hl 3 rfl) ?_
        obtain ⟨S8, e_S8, hm⟩ := m_cal0_of hm
        refine r_cVv X hH hS (k := 6) (c_X6_tellSpan (a := a) (o1 := o1) hT hk_a hk_o1 e_S8) mw_X6_tellSpan in_4_117 hk_a (by decide) rfl rfl rfl ⟨rfl, rfl⟩ ⟨Nat.le_of_ble_eq_true rfl, Nat.le_of_ble_eq_true rfl⟩ ⟨Nat.zero_le _, Nat.zero_le _⟩ hl.1 (Nat.le_of_ble_eq_true rfl) dX6_derive_93 (fun H locs hH hS => ?_)
        exact k_X6_derive_96 (a := a) (o1 := o1) X hr hT hk_a hk_o1 K_38 hK_38 (b_X6_derive_60 a o1 K_38 n) ih  S8 l2 l3 _ _ _ hH hS hl hm
def b_X6_derive_38 (a o1 : Nat)  : Nat → m_M → Int32 → Option m_M
  | 0, _, _ => none
  | n + 1, S, l2 =>
    if (m_ri S o1 0) ≤ l2 then (
    m_cal0 (f_X6_tellFinite a o1 S) fun S2 =>
    some S2) else (
    m_cal0 (f_X6_tellOwner a o1 S l2) fun S3 =>
    m_cal0 (f_X6_tellFilled a o1 S3 l2) fun S4 =>
    b_X6_derive_60 a o1 (b_X6_derive_38 a o1 n) m_fu S4 l2 (0 : Int32))
set_option maxHeartbeats 4000000 in
set_option maxRecDepth 100000 in
theorem k_X6_derive_38 {p : Program} {l : Launch} {e : Env} {s : State} {m : MethodId} {args : Array Value} {below : List Frame} {meth : Method} {c : Code} {G : m_G} {nx : Nat} {κ : Nat → Nat} {res : m_M} {a o1 : Nat} (X : m_Cx p s m args meth c cX6_derive 4 RX6 G) (hr : meth.sig.returnType = none) (hT : m_Str κ) (hk_a : κ a = 7) (hk_o1 : κ o1 = 4)  (n : Nat) : ∀ (S : m_M) (l2 : Int32) (H : Heap) (locs : List Loc) (ls : Array Slot), m_H G nx κ S H → m_S G s H locs → lv_has ls 4 [(0, .ref a), (1, .ref o1), (2, .int l2)] → b_X6_derive_38 a o1 n S l2 = some res → W p l e rm_X6_derive s m args below meth c H locs 0 0 (m_Qv below args s G nx κ res) (F0 m 38 ls []) := by
  have hx := X.1.1
  have hb := X.1.2.1
  induction n with
  | zero => intro S l2 H locs ls hH hS hl hm; have hm : (none : Option m_M) = some res := hm; cases hm
  | succ n ih =>
    intro S l2 H locs ls hH hS hl hm
    rw [b_X6_derive_38] at hm
    refine lv_iload_n hx hb dX6_derive_38 rfl (lv_at hl 2 rfl) ?_
    refine lv_aload_n hx hb dX6_derive_39 rfl (lv_at hl 1 rfl) ?_
    refine r_geti X hH (k := 3) (a := o1) (j := 0) hk_o1 (by decide) rfl m_wi3 (by decide) in_1_128 rfl rfl dX6_derive_40 ?_
    refine lv_icmp_ge (tgt := 108) hx hb dX6_derive_43 (by decide) (fun c1 => ?_) (fun c1 => ?_)
    · have hm := m_ite_t hm c1
      refine lv_aload_n hx hb dX6_derive_108 rfl (lv_at hl 0 rfl) ?_
      refine lv_aload_n hx hb dX6_derive_109 rfl (lv_at hl 1 rfl) ?_
      obtain ⟨S2, e_S2, hm⟩ := m_cal0_of hm
      refine r_cVv X hH hS (k := 6) (c_X6_tellFinite (a := a) (o1 := o1) hT hk_a hk_o1 e_S2) mw_X6_tellFinite in_4_134 hk_a (by decide) rfl rfl rfl ⟨rfl, rfl⟩ ⟨Nat.le_of_ble_eq_true rfl, Nat.le_of_ble_eq_true rfl⟩ ⟨Nat.zero_le _, Nat.zero_le _⟩ hl.1 (Nat.le_of_ble_eq_true rfl) dX6_derive_110 (fun H locs hH hS => ?_)
      exact r_vret X hr hH hS hm dX6_derive_113
    · have hm := m_ite_f hm c1
      refine lv_aload_n hx hb dX6_derive_46 rfl (lv_at hl 0 rfl) ?_
      refine lv_aload_n hx hb dX6_derive_47 rfl (lv_at hl 1 rfl) ?_
      refine lv_iload_n hx hb dX6_derive_48 rfl (lv_at hl 2 rfl) ?_
      obtain ⟨S3, e_S3, hm⟩ := m_cal0_of hm
      refine r_cVv X hH hS (k := 6) (c_X6_tellOwner (a := a) (o1 := o1) hT hk_a hk_o1 e_S3) mw_X6_tellOwner in_4_98 hk_a (by decide) rfl rfl rfl ⟨rfl, rfl⟩ ⟨Nat.le_of_ble_eq_true rfl, Nat.le_of_ble_eq_true rfl⟩ ⟨Nat.zero_le _, Nat.zero_le _⟩ hl.1 (Nat.le_of_ble_eq_true rfl) dX6_derive_49 (fun H locs hH hS => ?_)
      refine lv_aload_n hx hb dX6_derive_52 rfl (lv_at hl 0 rfl) ?_
      refine lv_aload_n hx hb dX6_derive_53 rfl (lv_at hl 1 rfl) ?_
      refine lv_iload_n hx hb dX6_derive_54 rfl (lv_at hl 2 rfl) ?_
      obtain ⟨S4, e_S4, hm⟩ := m_cal0_of hm
      refine r_cVv X hH hS (k := 6) (c_X6_tellFilled (a := a) (o1 := o1) hT hk_a hk_o1 e_S4) mw_X6_tellFilled in_4_108 hk_a (by decide) rfl rfl rfl ⟨rfl, rfl⟩ ⟨Nat.le_of_ble_eq_true rfl, Nat.le_of_ble_eq_true rfl⟩ ⟨Nat.zero_le _, Nat.zero_le _⟩ hl.1 (Nat.le_of_ble_eq_true rfl) dX6_derive_55 (fun H locs hH hS => ?_)
      refine lv_iconst (v := (0 : Int32)) hx hb dX6_derive_58 (by decide) ?_
      refine lv_istore_n (lv' := [(3, .int (0 : Int32)), (0, .ref a), (1, .ref o1), (2, .int l2)]) hx hb dX6_derive_59 rfl hl (by decide) rfl (fun ls hl => ?_)
      exact k_X6_derive_60 (a := a) (o1 := o1) X hr hT hk_a hk_o1 (b_X6_derive_38 a o1 n) ih m_fu S4 l2 (0 : Int32) _ _ _ hH hS (lv_sub hl [1, 2, 3, 0] rfl) hm
def f_X6_derive (a o1 : Nat) (S : m_M)  : Option m_M :=
    m_cal0 (f_X6_closeReach a S) fun S1 =>
    m_cal0 (f_J7_fill_53178 (a + 6) 24 S1 (0 : Int32)) fun S2 =>
    m_cal0 (f_J7_fill_53178 (a + 7) 24 S2 (0 : Int32)) fun S3 =>
    m_cal0 (f_J7_fill_53178 (a + 12) 24 S3 (0 : Int32)) fun S4 =>
    m_cal0 (f_J7_fill_53178 (a + 13) 24 S4 (0 : Int32)) fun S5 =>
    b_X6_derive_38 a o1 m_fu S5 (0 : Int32)
set_option maxHeartbeats 4000000 in
set_option maxRecDepth 100000 in
theorem c_X6_derive {l : Launch} {G : m_G} {nx : Nat} {κ : Nat → Nat} {a o1 : Nat} {S : m_M}  {res : m_M} (hT : m_Str κ) (hk_a : κ a = 7) (hk_o1 : κ o1 = 4) (hm : f_X6_derive a o1 S = some res) : m_Cv l yX6_derive cX6_derive 4 rm_X6_derive G nx κ [.ref a, .ref o1] S res := by
  refine m_Cv.of (by decide) (Nat.le_of_ble_eq_true rfl) ?_
  intro p e s m args below meth c ls X hr hH hl
  have hx := X.1.1
  have hb := X.1.2.1
  have hS : m_S G s s.heap [] := va_S.rf
  have hl : lv_has ls 4 [(0, .ref a), (1, .ref o1)] := hl
  rw [f_X6_derive] at hm
  refine lv_aload_n hx hb dX6_derive_0 rfl (lv_at hl 0 rfl) ?_
  obtain ⟨S1, e_S1, hm⟩ := m_cal0_of hm
  refine r_cVv X hH hS (k := 6) (c_X6_closeReach (a := a) hT hk_a e_S1) mw_X6_closeReach in_4_85 hk_a (by decide) rfl rfl rfl ⟨rfl, rfl⟩ ⟨Nat.le_of_ble_eq_true rfl, Nat.le_of_ble_eq_true rfl⟩ ⟨Nat.zero_le _, Nat.zero_le _⟩ hl.1 (Nat.le_of_ble_eq_true rfl) dX6_derive_1 (fun H locs hH hS => ?_)
  refine lv_aload_n hx hb dX6_derive_4 rfl (lv_at hl 0 rfl) ?_
  refine r_getp X hH (k := 6) (a := a) (j := 7) (b := (a + 6)) (A := 6) (B := 0) hk_a (by decide) rfl m_wi6 (by decide) in_1_67 rfl rfl rfl dX6_derive_5 ?_
  refine lv_iconst (v := (0 : Int32)) hx hb dX6_derive_8 (by decide) ?_
  obtain ⟨S2, e_S2, hm⟩ := m_cal0_of hm
  refine r_cSv X hH hS (c_J7_fill_53178 (o0 := (a + 6)) (n0 := 24) hT (m_lay_at hT hk_a (by decide) (i := 6) rfl) e_S2) mw_J7_fill_53178 in_4_97 rfl ⟨rfl, rfl⟩ ⟨Nat.le_of_ble_eq_true rfl, Nat.le_of_ble_eq_true rfl⟩ ⟨Nat.zero_le _, Nat.zero_le _⟩ hl.1 (Nat.le_of_ble_eq_true rfl) dX6_derive_9 (fun H locs hH hS => ?_)
  refine lv_aload_n hx hb dX6_derive_12 rfl (lv_at hl 0 rfl) ?_
  refine r_getp X hH (k := 6) (a := a) (j := 8) (b := (a + 7)) (A := 7) (B := 0) hk_a (by decide) rfl m_wi6 (by decide) in_1_70 rfl rfl rfl dX6_derive_13 ?_
  refine lv_iconst (v := (0 : Int32)) hx hb dX6_derive_16 (by decide) ?_
  obtain ⟨S3, e_S3, hm⟩ := m_cal0_of hm
  refine r_cSv X hH hS (c_J7_fill_53178 (o0 := (a + 7)) (n0 := 24) hT (m_lay_at hT hk_a (by decide) (i := 7) rfl) e_S3) mw_J7_fill_53178 in_4_97 rfl ⟨rfl, rfl⟩ ⟨Nat.le_of_ble_eq_true rfl, Nat.le_of_ble_eq_true rfl⟩ ⟨Nat.zero_le _, Nat.zero_le _⟩ hl.1 (Nat.le_of_ble_eq_true rfl) dX6_derive_17 (fun H locs hH hS => ?_)
  refine lv_aload_n hx hb dX6_derive_20 rfl (lv_at hl 0 rfl) ?_
  refine r_getp X hH (k := 6) (a := a) (j := 13) (b := (a + 12)) (A := 12) (B := 0) hk_a (by decide) rfl m_wi6 (by decide) in_1_83 rfl rfl rfl dX6_derive_21 ?_
  refine lv_iconst (v := (0 : Int32)) hx hb dX6_derive_24 (by decide) ?_
  obtain ⟨S4, e_S4, hm⟩ := m_cal0_of hm
  refine r_cSv X hH hS (c_J7_fill_53178 (o0 := (a + 12)) (n0 := 24) hT (m_lay_at hT hk_a (by decide) (i := 12) rfl) e_S4) mw_J7_fill_53178 in_4_97 rfl ⟨rfl, rfl⟩ ⟨Nat.le_of_ble_eq_true rfl, Nat.le_of_ble_eq_true rfl⟩ ⟨Nat.zero_le _, Nat.zero_le _⟩ hl.1 (Nat.le_of_ble_eq_true rfl) dX6_derive_25 (fun H locs hH hS => ?_)
  refine lv_aload_n hx hb dX6_derive_28 rfl (lv_at hl 0 rfl) ?_
  refine r_getp X hH (k := 6) (a := a) (j := 14) (b := (a + 13)) (A := 13) (B := 0) hk_a (by decide) rfl m_wi6 (by decide) in_1_85 rfl rfl rfl dX6_derive_29 ?_
  refine lv_iconst (v := (0 : Int32)) hx hb dX6_derive_32 (by decide) ?_
  obtain ⟨S5, e_S5, hm⟩ := m_cal0_of hm
  refine r_cSv X hH hS (c_J7_fill_53178 (o0 := (a + 13)) (n0 := 24) hT (m_lay_at hT hk_a (by decide) (i := 13) rfl) e_S5) mw_J7_fill_53178 in_4_97 rfl ⟨rfl, rfl⟩ ⟨Nat.le_of_ble_eq_true rfl, Nat.le_of_ble_eq_true rfl⟩ ⟨Nat.zero_le _, Nat.zero_le _⟩ hl.1 (Nat.le_of_ble_eq_true rfl) dX6_derive_33 (fun H locs hH hS => ?_)
  refine lv_iconst (v := (0 : Int32)) hx hb dX6_derive_36 (by decide) ?_
  refine lv_istore_n (lv' := [(2, .int (0 : Int32)), (0, .ref a), (1, .ref o1)]) hx hb dX6_derive_37 rfl hl (by decide) rfl (fun ls hl => ?_)
  exact k_X6_derive_38 (a := a) (o1 := o1) X hr hT hk_a hk_o1  m_fu S5 (0 : Int32) _ _ _ hH hS (lv_sub hl [1, 2, 0] rfl) hm
def rm_X7_clear : Room := { frames := 0, cells := 0, slots := 0, locals := 0 }
def f_X7_clear (a : Nat) (S : m_M)  : Option m_M :=
    m_let (m_si S a 0 (0 : Int32)) fun S1 =>
    m_let (m_si S1 a 1 (0 : Int32)) fun S2 =>
    m_let (m_si S2 a 2 (0 : Int32)) fun S3 =>
    some S3
set_option maxHeartbeats 4000000 in
set_option maxRecDepth 100000 in
theorem c_X7_clear {l : Launch} {G : m_G} {nx : Nat} {κ : Nat → Nat} {a : Nat} {S : m_M}  {res : m_M} (hT : m_Str κ) (hk_a : κ a = 8) (hm : f_X7_clear a S = some res) : m_Cv l yX7_clear cX7_clear 1 rm_X7_clear G nx κ [.ref a] S res := by
  refine m_Cv.of (by decide) (Nat.le_of_ble_eq_true rfl) ?_
  intro p e s m args below meth c ls X hr hH hl
  have hx := X.1.1
  have hb := X.1.2.1
  have hS : m_S G s s.heap [] := va_S.rf
  have hl : lv_has ls 1 [(0, .ref a)] := hl
  rw [f_X7_clear] at hm
  refine lv_aload_n hx hb dX7_clear_0 rfl (lv_at hl 0 rfl) ?_
  refine lv_iconst (v := (0 : Int32)) hx hb dX7_clear_1 (by decide) ?_
  obtain ⟨S1, e_S1, hm⟩ := m_let_of hm
  refine n_puti X hH hS tyX7 (k := 7) (a := a) (j := 0) hk_a (by decide) rfl m_wi7 tyX7_ok nmX7 (by decide) in_2_99 rfl rfl rfl (m_nz (by decide)) e_S1 dX7_clear_2 (fun H locs hH hS => ?_)
  refine lv_aload_n hx hb dX7_clear_5 rfl (lv_at hl 0 rfl) ?_
  refine lv_iconst (v := (0 : Int32)) hx hb dX7_clear_6 (by decide) ?_
  obtain ⟨S2, e_S2, hm⟩ := m_let_of hm
  refine n_puti X hH hS tyX7 (k := 7) (a := a) (j := 1) hk_a (by decide) rfl m_wi7 tyX7_ok nmX7 (by decide) in_2_102 rfl rfl rfl ⟨rfl, rfl⟩ e_S2 dX7_clear_7 (fun H locs hH hS => ?_)
  refine lv_aload_n hx hb dX7_clear_10 rfl (lv_at hl 0 rfl) ?_
  refine lv_iconst (v := (0 : Int32)) hx hb dX7_clear_11 (by decide) ?_
  obtain ⟨S3, e_S3, hm⟩ := m_let_of hm
  refine n_puti X hH hS tyX7 (k := 7) (a := a) (j := 2) hk_a (by decide) rfl m_wi7 tyX7_ok nmX7 (by decide) in_2_105 rfl rfl rfl ⟨rfl, rfl⟩ e_S3 dX7_clear_12 (fun H locs hH hS => ?_)
  exact r_vret X hr hH hS hm dX7_clear_15
def rm_X7_copyFrom : Room := { frames := 1, cells := 0, slots := 0, locals := 60 }
def f_X7_copyFrom (a o1 : Nat) (S : m_M)  : Option m_M :=
    if (m_ri S o1 0) = 0 ∨ (m_ri S o1 0) = 1 then
    (m_let (m_si S a 0 (m_ri S o1 0)) fun S1 =>
    m_let (m_si S1 a 1 (m_ri S1 o1 1)) fun S3 =>
    m_let (m_si S3 a 2 (m_ri S3 o1 2)) fun S4 =>
    (m_cpi S4 (o1 + 1) 40 (a + 1) 40 (0 : Int32) (0 : Int32) (40 : Int32)).bind fun S5 =>
    (m_cpi S5 (o1 + 2) 40 (a + 2) 40 (0 : Int32) (0 : Int32) (40 : Int32)).bind fun S6 =>
    (m_cpi S6 (o1 + 3) 40 (a + 3) 40 (0 : Int32) (0 : Int32) (40 : Int32)).bind fun S7 =>
    some S7) else none
set_option maxHeartbeats 4000000 in
set_option maxRecDepth 100000 in
theorem c_X7_copyFrom {l : Launch} {G : m_G} {nx : Nat} {κ : Nat → Nat} {a o1 : Nat} {S : m_M}  {res : m_M} (hT : m_Str κ) (hk_a : κ a = 8) (hk_o1 : κ o1 = 8) (hm : f_X7_copyFrom a o1 S = some res) : m_Cv l yX7_copyFrom cX7_copyFrom 2 rm_X7_copyFrom G nx κ [.ref a, .ref o1] S res := by
  refine m_Cv.of (by decide) (Nat.le_of_ble_eq_true rfl) ?_
  intro p e s m args below meth c ls X hr hH hl
  have hx := X.1.1
  have hb := X.1.2.1
  have hS : m_S G s s.heap [] := va_S.rf
  have hl : lv_has ls 2 [(0, .ref a), (1, .ref o1)] := hl
  rw [f_X7_copyFrom] at hm
  refine lv_aload_n hx hb dX7_copyFrom_0 rfl (lv_at hl 0 rfl) ?_
  refine lv_aload_n hx hb dX7_copyFrom_1 rfl (lv_at hl 1 rfl) ?_
  refine r_geti X hH (k := 7) (a := o1) (j := 0) hk_o1 (by decide) rfl m_wi7 (by decide) in_2_99 rfl rfl dX7_copyFrom_2 ?_
  obtain ⟨z2, hm⟩ := m_if_of hm
  obtain ⟨S1, e_S1, hm⟩ := m_let_of hm
  refine n_puti X hH hS tyX7 (k := 7) (a := a) (j := 0) hk_a (by decide) rfl m_wi7 tyX7_ok nmX7 (by decide) in_2_99 rfl rfl rfl (m_nz z2) e_S1 dX7_copyFrom_5 (fun H locs hH hS => ?_)
  refine lv_aload_n hx hb dX7_copyFrom_8 rfl (lv_at hl 0 rfl) ?_
  refine lv_aload_n hx hb dX7_copyFrom_9 rfl (lv_at hl 1 rfl) ?_
  refine r_geti X hH (k := 7) (a := o1) (j := 1) hk_o1 (by decide) rfl m_wi7 (by decide) in_2_102 rfl rfl dX7_copyFrom_10 ?_
  obtain ⟨S3, e_S3, hm⟩ := m_let_of hm
  refine n_puti X hH hS tyX7 (k := 7) (a := a) (j := 1) hk_a (by decide) rfl m_wi7 tyX7_ok nmX7 (by decide) in_2_102 rfl rfl rfl ⟨rfl, rfl⟩ e_S3 dX7_copyFrom_13 (fun H locs hH hS => ?_)
  refine lv_aload_n hx hb dX7_copyFrom_16 rfl (lv_at hl 0 rfl) ?_
  refine lv_aload_n hx hb dX7_copyFrom_17 rfl (lv_at hl 1 rfl) ?_
  refine r_geti X hH (k := 7) (a := o1) (j := 2) hk_o1 (by decide) rfl m_wi7 (by decide) in_2_105 rfl rfl dX7_copyFrom_18 ?_
  obtain ⟨S4, e_S4, hm⟩ := m_let_of hm
  refine n_puti X hH hS tyX7 (k := 7) (a := a) (j := 2) hk_a (by decide) rfl m_wi7 tyX7_ok nmX7 (by decide) in_2_105 rfl rfl rfl ⟨rfl, rfl⟩ e_S4 dX7_copyFrom_21 (fun H locs hH hS => ?_)
  refine lv_aload_n hx hb dX7_copyFrom_24 rfl (lv_at hl 1 rfl) ?_
  refine r_getp X hH (k := 7) (a := o1) (j := 3) (b := (o1 + 1)) (A := 1) (B := 0) hk_o1 (by decide) rfl m_wi7 (by decide) in_2_106 rfl rfl rfl dX7_copyFrom_25 ?_
  refine lv_iconst (v := (0 : Int32)) hx hb dX7_copyFrom_28 (by decide) ?_
  refine lv_aload_n hx hb dX7_copyFrom_29 rfl (lv_at hl 0 rfl) ?_
  refine r_getp X hH (k := 7) (a := a) (j := 3) (b := (a + 1)) (A := 1) (B := 0) hk_a (by decide) rfl m_wi7 (by decide) in_2_106 rfl rfl rfl dX7_copyFrom_30 ?_
  refine lv_iconst (v := (0 : Int32)) hx hb dX7_copyFrom_33 (by decide) ?_
  refine lv_aload_n hx hb dX7_copyFrom_34 rfl (lv_at hl 0 rfl) ?_
  refine r_getp X hH (k := 7) (a := a) (j := 3) (b := (a + 1)) (A := 1) (B := 0) hk_a (by decide) rfl m_wi7 (by decide) in_2_106 rfl rfl rfl dX7_copyFrom_35 ?_
  refine r_alen X hH (t := 1) (n := 40) (v := (40 : Int32)) (m_lay_at hT hk_a (by decide) (i := 1) rfl) (by decide) rfl dX7_copyFrom_38 ?_
  obtain ⟨S5, e_S5, hm⟩ := m_bind_of hm
  refine n_cpi X hH hS hl.1 (n0 := 40) (n1 := 40) (m_lay_at hT hk_o1 (by decide) (i := 1) rfl) (m_lay_at hT hk_a (by decide) (i := 1) rfl) e_S5 in_6_19 in_4_150 in_4_149 in_1_21 (Nat.le_of_ble_eq_true rfl) (Nat.le_of_ble_eq_true rfl) dX7_copyFrom_39 (fun H locs hH hS => ?_)
  refine lv_aload_n hx hb dX7_copyFrom_42 rfl (lv_at hl 1 rfl) ?_
  refine r_getp X hH (k := 7) (a := o1) (j := 4) (b := (o1 + 2)) (A := 2) (B := 0) hk_o1 (by decide) rfl m_wi7 (by decide) in_2_107 rfl rfl rfl dX7_copyFrom_43 ?_
  refine lv_iconst (v := (0 : Int32)) hx hb dX7_copyFrom_46 (by decide) ?_
  refine lv_aload_n hx hb dX7_copyFrom_47 rfl (lv_at hl 0 rfl) ?_
  refine r_getp X hH (k := 7) (a := a) (j := 4) (b := (a + 2)) (A := 2) (B := 0) hk_a (by decide) rfl m_wi7 (by decide) in_2_107 rfl rfl rfl dX7_copyFrom_48 ?_
  refine lv_iconst (v := (0 : Int32)) hx hb dX7_copyFrom_51 (by decide) ?_
  refine lv_aload_n hx hb dX7_copyFrom_52 rfl (lv_at hl 0 rfl) ?_
  refine r_getp X hH (k := 7) (a := a) (j := 4) (b := (a + 2)) (A := 2) (B := 0) hk_a (by decide) rfl m_wi7 (by decide) in_2_107 rfl rfl rfl dX7_copyFrom_53 ?_
  refine r_alen X hH (t := 1) (n := 40) (v := (40 : Int32)) (m_lay_at hT hk_a (by decide) (i := 2) rfl) (by decide) rfl dX7_copyFrom_56 ?_
  obtain ⟨S6, e_S6, hm⟩ := m_bind_of hm
  refine n_cpi X hH hS hl.1 (n0 := 40) (n1 := 40) (m_lay_at hT hk_o1 (by decide) (i := 2) rfl) (m_lay_at hT hk_a (by decide) (i := 2) rfl) e_S6 in_6_19 in_4_150 in_4_149 in_1_21 (Nat.le_of_ble_eq_true rfl) (Nat.le_of_ble_eq_true rfl) dX7_copyFrom_57 (fun H locs hH hS => ?_)
  refine lv_aload_n hx hb dX7_copyFrom_60 rfl (lv_at hl 1 rfl) ?_
  refine r_getp X hH (k := 7) (a := o1) (j := 5) (b := (o1 + 3)) (A := 3) (B := 0) hk_o1 (by decide) rfl m_wi7 (by decide) in_2_108 rfl rfl rfl dX7_copyFrom_61 ?_
  refine lv_iconst (v := (0 : Int32)) hx hb dX7_copyFrom_64 (by decide) ?_
  refine lv_aload_n hx hb dX7_copyFrom_65 rfl (lv_at hl 0 rfl) ?_
  refine r_getp X hH (k := 7) (a := a) (j := 5) (b := (a + 3)) (A := 3) (B := 0) hk_a (by decide) rfl m_wi7 (by decide) in_2_108 rfl rfl rfl dX7_copyFrom_66 ?_
  refine lv_iconst (v := (0 : Int32)) hx hb dX7_copyFrom_69 (by decide) ?_
  refine lv_aload_n hx hb dX7_copyFrom_70 rfl (lv_at hl 0 rfl) ?_
  refine r_getp X hH (k := 7) (a := a) (j := 5) (b := (a + 3)) (A := 3) (B := 0) hk_a (by decide) rfl m_wi7 (by decide) in_2_108 rfl rfl rfl dX7_copyFrom_71 ?_
  refine r_alen X hH (t := 1) (n := 40) (v := (40 : Int32)) (m_lay_at hT hk_a (by decide) (i := 3) rfl) (by decide) rfl dX7_copyFrom_74 ?_
  obtain ⟨S7, e_S7, hm⟩ := m_bind_of hm
  refine n_cpi X hH hS hl.1 (n0 := 40) (n1 := 40) (m_lay_at hT hk_o1 (by decide) (i := 3) rfl) (m_lay_at hT hk_a (by decide) (i := 3) rfl) e_S7 in_6_19 in_4_150 in_4_149 in_1_21 (Nat.le_of_ble_eq_true rfl) (Nat.le_of_ble_eq_true rfl) dX7_copyFrom_75 (fun H locs hH hS => ?_)
  exact r_vret X hr hH hS hm dX7_copyFrom_78
def rm_X7_put : Room := { frames := 0, cells := 0, slots := 0, locals := 0 }
def b_X7_put_49 (a : Nat)  (S : m_M)  : Option (Int32 × m_M) :=
    if (1 : Int32) = 0 ∨ (1 : Int32) = 1 then some ((1 : Int32), S) else none
set_option maxHeartbeats 4000000 in
set_option maxRecDepth 100000 in
theorem k_X7_put_49 {p : Program} {l : Launch} {e : Env} {s : State} {m : MethodId} {args : Array Value} {below : List Frame} {meth : Method} {c : Code} {G : m_G} {nx : Nat} {κ : Nat → Nat} {res : (Int32 × m_M)} {a : Nat} (X : m_Cx p s m args meth c cX7_put 4 RX7 G) (hr : meth.sig.returnType = (some .boolean)) (hT : m_Str κ) (hk_a : κ a = 8)  : ∀ (S : m_M)  (H : Heap) (locs : List Loc) (ls : Array Slot), m_H G nx κ S H → m_S G s H locs → lv_has ls 4 [] → b_X7_put_49 a S  = some res → W p l e rm_X7_put s m args below meth c H locs 0 0 (m_Qi below args s G nx κ res) (F0 m 49 ls []) := by
  have hx := X.1.1
  have hb := X.1.2.1
  intro S H locs ls hH hS hl hm
  rw [b_X7_put_49] at hm
  refine lv_iconst (v := (1 : Int32)) hx hb dX7_put_49 (by decide) ?_
  exact r_zret X hr hH hS hm dX7_put_50
def f_X7_put (a : Nat) (S : m_M) (i1 : Int32) (i2 : Int32) (i3 : Int32) : Option (Int32 × m_M) :=
    if (40 : Int32) ≤ (m_ri S a 2) then (
    b_X7_put_49 a S) else (
    (m_sti S (a + 1) 40 (m_ri S a 2) i1).bind fun S2 =>
    (m_sti S2 (a + 2) 40 (m_ri S2 a 2) i2).bind fun S3 =>
    (m_sti S3 (a + 3) 40 (m_ri S3 a 2) i3).bind fun S4 =>
    m_let (m_si S4 a 2 ((m_ri S4 a 2) + (1 : Int32))) fun S5 =>
    b_X7_put_49 a S5)
set_option maxHeartbeats 4000000 in
set_option maxRecDepth 100000 in
theorem c_X7_put {l : Launch} {G : m_G} {nx : Nat} {κ : Nat → Nat} {a : Nat} {S : m_M} {i1 : Int32} {i2 : Int32} {i3 : Int32} {res : (Int32 × m_M)} (hT : m_Str κ) (hk_a : κ a = 8) (hm : f_X7_put a S i1 i2 i3 = some res) : m_Ci l yX7_put cX7_put 4 (some .boolean) rm_X7_put G nx κ [.ref a, .int i1, .int i2, .int i3] S res := by
  refine m_Ci.of (by decide) (Nat.le_of_ble_eq_true rfl) ?_
  intro p e s m args below meth c ls X hr hH hl
  have hx := X.1.1
  have hb := X.1.2.1
  have hS : m_S G s s.heap [] := va_S.rf
  have hl : lv_has ls 4 [(0, .ref a), (1, .int i1), (2, .int i2), (3, .int i3)] := hl
  rw [f_X7_put] at hm
  refine lv_aload_n hx hb dX7_put_0 rfl (lv_at hl 0 rfl) ?_
  refine r_geti X hH (k := 7) (a := a) (j := 2) hk_a (by decide) rfl m_wi7 (by decide) in_2_105 rfl rfl dX7_put_1 ?_
  refine lv_bipush (v := (40 : Int32)) hx hb dX7_put_4 (by decide) ?_
  refine lv_icmp_ge (tgt := 49) hx hb dX7_put_6 (by decide) (fun c1 => ?_) (fun c1 => ?_)
  · have hm := m_ite_t hm c1
    exact k_X7_put_49 (a := a) X hr hT hk_a   S _ _ _ hH hS (lv_sub hl [] rfl) hm
  · have hm := m_ite_f hm c1
    refine lv_aload_n hx hb dX7_put_9 rfl (lv_at hl 0 rfl) ?_
    refine r_getp X hH (k := 7) (a := a) (j := 3) (b := (a + 1)) (A := 1) (B := 0) hk_a (by decide) rfl m_wi7 (by decide) in_2_106 rfl rfl rfl dX7_put_10 ?_
    refine lv_aload_n hx hb dX7_put_13 rfl (lv_at hl 0 rfl) ?_
    refine r_geti X hH (k := 7) (a := a) (j := 2) hk_a (by decide) rfl m_wi7 (by decide) in_2_105 rfl rfl dX7_put_14 ?_
    refine lv_iload_n hx hb dX7_put_17 rfl (lv_at hl 1 rfl) ?_
    obtain ⟨S2, h_S2, e_S2, hm⟩ := n_sti hm
    refine n_iast X hH hS (n := 40) (m_lay_at hT hk_a (by decide) (i := 1) rfl) h_S2 e_S2 dX7_put_18 (fun H locs hH hS => ?_)
    refine lv_aload_n hx hb dX7_put_19 rfl (lv_at hl 0 rfl) ?_
    refine r_getp X hH (k := 7) (a := a) (j := 4) (b := (a + 2)) (A := 2) (B := 0) hk_a (by decide) rfl m_wi7 (by decide) in_2_107 rfl rfl rfl dX7_put_20 ?_
    refine lv_aload_n hx hb dX7_put_23 rfl (lv_at hl 0 rfl) ?_
    refine r_geti X hH (k := 7) (a := a) (j := 2) hk_a (by decide) rfl m_wi7 (by decide) in_2_105 rfl rfl dX7_put_24 ?_
    refine lv_iload_n hx hb dX7_put_27 rfl (lv_at hl 2 rfl) ?_
    obtain ⟨S3, h_S3, e_S3, hm⟩ := n_sti hm
    refine n_iast X hH hS (n := 40) (m_lay_at hT hk_a (by decide) (i := 2) rfl) h_S3 e_S3 dX7_put_28 (fun H locs hH hS => ?_)
    refine lv_aload_n hx hb dX7_put_29 rfl (lv_at hl 0 rfl) ?_
    refine r_getp X hH (k := 7) (a := a) (j := 5) (b := (a + 3)) (A := 3) (B := 0) hk_a (by decide) rfl m_wi7 (by decide) in_2_108 rfl rfl rfl dX7_put_30 ?_
    refine lv_aload_n hx hb dX7_put_33 rfl (lv_at hl 0 rfl) ?_
    refine r_geti X hH (k := 7) (a := a) (j := 2) hk_a (by decide) rfl m_wi7 (by decide) in_2_105 rfl rfl dX7_put_34 ?_
    refine lv_iload_n hx hb dX7_put_37 rfl (lv_at hl 3 rfl) ?_
    obtain ⟨S4, h_S4, e_S4, hm⟩ := n_sti hm
    refine n_iast X hH hS (n := 40) (m_lay_at hT hk_a (by decide) (i := 3) rfl) h_S4 e_S4 dX7_put_38 (fun H locs hH hS => ?_)
    refine lv_aload_n hx hb dX7_put_39 rfl (lv_at hl 0 rfl) ?_
    refine lv_dup hx hb dX7_put_40 rfl ?_
    refine r_geti X hH (k := 7) (a := a) (j := 2) hk_a (by decide) rfl m_wi7 (by decide) in_2_105 rfl rfl dX7_put_41 ?_
    refine lv_iconst (v := (1 : Int32)) hx hb dX7_put_44 (by decide) ?_
    refine lv_iadd hx hb dX7_put_45 ?_
    obtain ⟨S5, e_S5, hm⟩ := m_let_of hm
    refine n_puti X hH hS tyX7 (k := 7) (a := a) (j := 2) hk_a (by decide) rfl m_wi7 tyX7_ok nmX7 (by decide) in_2_105 rfl rfl rfl ⟨rfl, rfl⟩ e_S5 dX7_put_46 (fun H locs hH hS => ?_)
    exact k_X7_put_49 (a := a) X hr hT hk_a   S5 _ _ _ hH hS (lv_sub hl [] rfl) hm
def rm_X7_fits : Room := { frames := 0, cells := 0, slots := 0, locals := 0 }
def b_X7_fits_47 (a : Nat)  (S : m_M) (t0 : Int32) : Option (Int32 × m_M) :=
    if t0 = 0 ∨ t0 = 1 then some (t0, S) else none
set_option maxHeartbeats 4000000 in
set_option maxRecDepth 100000 in
theorem k_X7_fits_47 {p : Program} {l : Launch} {e : Env} {s : State} {m : MethodId} {args : Array Value} {below : List Frame} {meth : Method} {c : Code} {G : m_G} {nx : Nat} {κ : Nat → Nat} {res : (Int32 × m_M)} {a : Nat} (X : m_Cx p s m args meth c cX7_fits 3 RX7 G) (hr : meth.sig.returnType = (some .boolean)) (hT : m_Str κ) (hk_a : κ a = 8)  : ∀ (S : m_M) (t0 : Int32) (H : Heap) (locs : List Loc) (ls : Array Slot), m_H G nx κ S H → m_S G s H locs → lv_has ls 3 [] → b_X7_fits_47 a S t0 = some res → W p l e rm_X7_fits s m args below meth c H locs 0 0 (m_Qi below args s G nx κ res) (F0 m 47 ls [.int t0]) := by
  have hx := X.1.1
  have hb := X.1.2.1
  intro S t0 H locs ls hH hS hl hm
  rw [b_X7_fits_47] at hm
  exact r_zret X hr hH hS hm dX7_fits_47
def b_X7_fits_63 (a : Nat)  (S : m_M) (t0 : Int32) : Option (Int32 × m_M) :=
    if t0 = 0 ∨ t0 = 1 then some (t0, S) else none
set_option maxHeartbeats 4000000 in
set_option maxRecDepth 100000 in
theorem k_X7_fits_63 {p : Program} {l : Launch} {e : Env} {s : State} {m : MethodId} {args : Array Value} {below : List Frame} {meth : Method} {c : Code} {G : m_G} {nx : Nat} {κ : Nat → Nat} {res : (Int32 × m_M)} {a : Nat} (X : m_Cx p s m args meth c cX7_fits 3 RX7 G) (hr : meth.sig.returnType = (some .boolean)) (hT : m_Str κ) (hk_a : κ a = 8)  : ∀ (S : m_M) (t0 : Int32) (H : Heap) (locs : List Loc) (ls : Array Slot), m_H G nx κ S H → m_S G s H locs → lv_has ls 3 [] → b_X7_fits_63 a S t0 = some res → W p l e rm_X7_fits s m args below meth c H locs 0 0 (m_Qi below args s G nx κ res) (F0 m 63 ls [.int t0]) := by
  have hx := X.1.1
  have hb := X.1.2.1
  intro S t0 H locs ls hH hS hl hm
  rw [b_X7_fits_63] at hm
  exact r_zret X hr hH hS hm dX7_fits_63
def b_X7_fits_79 (a : Nat)  (S : m_M) (t0 : Int32) : Option (Int32 × m_M) :=
    if t0 = 0 ∨ t0 = 1 then some (t0, S) else none
set_option maxHeartbeats 4000000 in
set_option maxRecDepth 100000 in
theorem k_X7_fits_79 {p : Program} {l : Launch} {e : Env} {s : State} {m : MethodId} {args : Array Value} {below : List Frame} {meth : Method} {c : Code} {G : m_G} {nx : Nat} {κ : Nat → Nat} {res : (Int32 × m_M)} {a : Nat} (X : m_Cx p s m args meth c cX7_fits 3 RX7 G) (hr : meth.sig.returnType = (some .boolean)) (hT : m_Str κ) (hk_a : κ a = 8)  : ∀ (S : m_M) (t0 : Int32) (H : Heap) (locs : List Loc) (ls : Array Slot), m_H G nx κ S H → m_S G s H locs → lv_has ls 3 [] → b_X7_fits_79 a S t0 = some res → W p l e rm_X7_fits s m args below meth c H locs 0 0 (m_Qi below args s G nx κ res) (F0 m 79 ls [.int t0]) := by
  have hx := X.1.1
  have hb := X.1.2.1
  intro S t0 H locs ls hH hS hl hm
  rw [b_X7_fits_79] at hm
  exact r_zret X hr hH hS hm dX7_fits_79
def f_X7_fits (a : Nat) (S : m_M) (i1 : Int32) (i2 : Int32) : Option (Int32 × m_M) :=
    (m_ldi S (a + 2) 40 i2).bind fun v1 =>
    if v1 = (60 : Int32) then (
    (m_ldi S (a + 3) 40 i2).bind fun v3 =>
    if v3 ≤ i1 then (
    b_X7_fits_47 a S (0 : Int32)) else (
    b_X7_fits_47 a S (1 : Int32))) else (
    if v1 = (62 : Int32) then (
    (m_ldi S (a + 3) 40 i2).bind fun v6 =>
    if i1 ≤ v6 then (
    b_X7_fits_63 a S (0 : Int32)) else (
    b_X7_fits_63 a S (1 : Int32))) else (
    (m_ldi S (a + 3) 40 i2).bind fun v8 =>
    if i1 = v8 then (
    b_X7_fits_79 a S (1 : Int32)) else (
    b_X7_fits_79 a S (0 : Int32))))
set_option maxHeartbeats 4000000 in
set_option maxRecDepth 100000 in
theorem c_X7_fits {l : Launch} {G : m_G} {nx : Nat} {κ : Nat → Nat} {a : Nat} {S : m_M} {i1 : Int32} {i2 : Int32} {res : (Int32 × m_M)} (hT : m_Str κ) (hk_a : κ a = 8) (hm : f_X7_fits a S i1 i2 = some res) : m_Ci l yX7_fits cX7_fits 3 (some .boolean) rm_X7_fits G nx κ [.ref a, .int i1, .int i2] S res := by
  refine m_Ci.of (by decide) (Nat.le_of_ble_eq_true rfl) ?_
  intro p e s m args below meth c ls X hr hH hl
  have hx := X.1.1
  have hb := X.1.2.1
  have hS : m_S G s s.heap [] := va_S.rf
  have hl : lv_has ls 3 [(0, .ref a), (1, .int i1), (2, .int i2)] := hl
  rw [f_X7_fits] at hm
  refine lv_aload_n hx hb dX7_fits_0 rfl (lv_at hl 0 rfl) ?_
  refine r_getp X hH (k := 7) (a := a) (j := 4) (b := (a + 2)) (A := 2) (B := 0) hk_a (by decide) rfl m_wi7 (by decide) in_2_107 rfl rfl rfl dX7_fits_1 ?_
  refine lv_iload_n hx hb dX7_fits_4 rfl (lv_at hl 2 rfl) ?_
  obtain ⟨v1, h_v1, e_v1, hm⟩ := n_ldi hm
  refine n_iald X hH (n := 40) (m_lay_at hT hk_a (by decide) (i := 2) rfl) h_v1 e_v1 dX7_fits_5 ?_
  by_cases c2 : v1 = (60 : Int32)
  · have hm := m_ite_t hm c2
    refine lv_lookup (off := 26) (tgt := 32) hx hb dX7_fits_6 (by decide) (by rw [c2]; decide) (by decide) ?_
    refine lv_iload_n hx hb dX7_fits_32 rfl (lv_at hl 1 rfl) ?_
    refine lv_aload_n hx hb dX7_fits_33 rfl (lv_at hl 0 rfl) ?_
    refine r_getp X hH (k := 7) (a := a) (j := 5) (b := (a + 3)) (A := 3) (B := 0) hk_a (by decide) rfl m_wi7 (by decide) in_2_108 rfl rfl rfl dX7_fits_34 ?_
    refine lv_iload_n hx hb dX7_fits_37 rfl (lv_at hl 2 rfl) ?_
    obtain ⟨v3, h_v3, e_v3, hm⟩ := n_ldi hm
    refine n_iald X hH (n := 40) (m_lay_at hT hk_a (by decide) (i := 3) rfl) h_v3 e_v3 dX7_fits_38 ?_
    refine lv_icmp_ge (tgt := 46) hx hb dX7_fits_39 (by decide) (fun c4 => ?_) (fun c4 => ?_)
    · have hm := m_ite_t hm c4
      refine lv_iconst (v := (0 : Int32)) hx hb dX7_fits_46 (by decide) ?_
      exact k_X7_fits_47 (a := a) X hr hT hk_a   S (0 : Int32) _ _ _ hH hS (lv_sub hl [] rfl) hm
    · have hm := m_ite_f hm c4
      refine lv_iconst (v := (1 : Int32)) hx hb dX7_fits_42 (by decide) ?_
      refine lv_goto (tgt := 47) hx hb dX7_fits_43 (by decide) ?_
      exact k_X7_fits_47 (a := a) X hr hT hk_a   S (1 : Int32) _ _ _ hH hS (lv_sub hl [] rfl) hm
  · have hm := m_ite_f hm c2
    by_cases c5 : v1 = (62 : Int32)
    · have hm := m_ite_t hm c5
      refine lv_lookup (off := 42) (tgt := 48) hx hb dX7_fits_6 (by decide) (by rw [c5]; decide) (by decide) ?_
      refine lv_iload_n hx hb dX7_fits_48 rfl (lv_at hl 1 rfl) ?_
      refine lv_aload_n hx hb dX7_fits_49 rfl (lv_at hl 0 rfl) ?_
      refine r_getp X hH (k := 7) (a := a) (j := 5) (b := (a + 3)) (A := 3) (B := 0) hk_a (by decide) rfl m_wi7 (by decide) in_2_108 rfl rfl rfl dX7_fits_50 ?_
      refine lv_iload_n hx hb dX7_fits_53 rfl (lv_at hl 2 rfl) ?_
      obtain ⟨v6, h_v6, e_v6, hm⟩ := n_ldi hm
      refine n_iald X hH (n := 40) (m_lay_at hT hk_a (by decide) (i := 3) rfl) h_v6 e_v6 dX7_fits_54 ?_
      refine lv_icmp_le (tgt := 62) hx hb dX7_fits_55 (by decide) (fun c7 => ?_) (fun c7 => ?_)
      · have hm := m_ite_t hm c7
        refine lv_iconst (v := (0 : Int32)) hx hb dX7_fits_62 (by decide) ?_
        exact k_X7_fits_63 (a := a) X hr hT hk_a   S (0 : Int32) _ _ _ hH hS (lv_sub hl [] rfl) hm
      · have hm := m_ite_f hm c7
        refine lv_iconst (v := (1 : Int32)) hx hb dX7_fits_58 (by decide) ?_
        refine lv_goto (tgt := 63) hx hb dX7_fits_59 (by decide) ?_
        exact k_X7_fits_63 (a := a) X hr hT hk_a   S (1 : Int32) _ _ _ hH hS (lv_sub hl [] rfl) hm
    · have hm := m_ite_f hm c5
      refine lv_lookup (off := 58) (tgt := 64) hx hb dX7_fits_6 (by decide) (by exact (lv_osw (a := 60) c2 (by decide)).trans ((lv_osw (a := 62) c5 (by decide)).trans (rfl))) (by decide) ?_
      refine lv_iload_n hx hb dX7_fits_64 rfl (lv_at hl 1 rfl) ?_
      refine lv_aload_n hx hb dX7_fits_65 rfl (lv_at hl 0 rfl) ?_
      refine r_getp X hH (k := 7) (a := a) (j := 5) (b := (a + 3)) (A := 3) (B := 0) hk_a (by decide) rfl m_wi7 (by decide) in_2_108 rfl rfl rfl dX7_fits_66 ?_
      refine lv_iload_n hx hb dX7_fits_69 rfl (lv_at hl 2 rfl) ?_
      obtain ⟨v8, h_v8, e_v8, hm⟩ := n_ldi hm
      refine n_iald X hH (n := 40) (m_lay_at hT hk_a (by decide) (i := 3) rfl) h_v8 e_v8 dX7_fits_70 ?_
      refine lv_icmp_ne (tgt := 78) hx hb dX7_fits_71 (by decide) (fun c9 => ?_) (fun c9 => ?_)
      · have hm := m_ite_f hm c9
        refine lv_iconst (v := (0 : Int32)) hx hb dX7_fits_78 (by decide) ?_
        exact k_X7_fits_79 (a := a) X hr hT hk_a   S (0 : Int32) _ _ _ hH hS (lv_sub hl [] rfl) hm
      · have hm := m_ite_t hm c9
        refine lv_iconst (v := (1 : Int32)) hx hb dX7_fits_74 (by decide) ?_
        refine lv_goto (tgt := 79) hx hb dX7_fits_75 (by decide) ?_
        exact k_X7_fits_79 (a := a) X hr hT hk_a   S (1 : Int32) _ _ _ hH hS (lv_sub hl [] rfl) hm
def rm_X7_isTrue : Room := { frames := 3, cells := 0, slots := 0, locals := 65 }
def b_X7_isTrue_90 (a o3 o4 : Nat)  (S : m_M) (t0 : Int32) : Option (Int32 × m_M) :=
    if t0 = 0 ∨ t0 = 1 then some (t0, S) else none
set_option maxHeartbeats 4000000 in
set_option maxRecDepth 100000 in
theorem k_X7_isTrue_90 {p : Program} {l : Launch} {e : Env} {s : State} {m : MethodId} {args : Array Value} {below : List Frame} {meth : Method} {c : Code} {G : m_G} {nx : Nat} {κ : Nat → Nat} {res : (Int32 × m_M)} {a o3 o4 : Nat} (X : m_Cx p s m args meth c cX7_isTrue 5 RX7 G) (hr : meth.sig.returnType = (some .boolean)) (hT : m_Str κ) (hk_a : κ a = 8) (hk_o3 : κ o3 = 4) (hk_o4 : κ o4 = 3)  : ∀ (S : m_M) (t0 : Int32) (H : Heap) (locs : List Loc) (ls : Array Slot), m_H G nx κ S H → m_S G s H locs → lv_has ls 5 [] → b_X7_isTrue_90 a o3 o4 S t0 = some res → W p l e rm_X7_isTrue s m args below meth c H locs 0 0 (m_Qi below args s G nx κ res) (F0 m 90 ls [.int t0]) := by
  have hx := X.1.1
  have hb := X.1.2.1
  intro S t0 H locs ls hH hS hl hm
  rw [b_X7_isTrue_90] at hm
  exact r_zret X hr hH hS hm dX7_isTrue_90
def b_X7_isTrue_89 (a o3 o4 : Nat)  (S : m_M)  : Option (Int32 × m_M) :=
    b_X7_isTrue_90 a o3 o4 S (0 : Int32)
set_option maxHeartbeats 4000000 in
set_option maxRecDepth 100000 in
theorem k_X7_isTrue_89 {p : Program} {l : Launch} {e : Env} {s : State} {m : MethodId} {args : Array Value} {below : List Frame} {meth : Method} {c : Code} {G : m_G} {nx : Nat} {κ : Nat → Nat} {res : (Int32 × m_M)} {a o3 o4 : Nat} (X : m_Cx p s m args meth c cX7_isTrue 5 RX7 G) (hr : meth.sig.returnType = (some .boolean)) (hT : m_Str κ) (hk_a : κ a = 8) (hk_o3 : κ o3 = 4) (hk_o4 : κ o4 = 3)  : ∀ (S : m_M)  (H : Heap) (locs : List Loc) (ls : Array Slot), m_H G nx κ S H → m_S G s H locs → lv_has ls 5 [] → b_X7_isTrue_89 a o3 o4 S  = some res → W p l e rm_X7_isTrue s m args below meth c H locs 0 0 (m_Qi below args s G nx κ res) (F0 m 89 ls []) := by
  have hx := X.1.1
  have hb := X.1.2.1
  intro S H locs ls hH hS hl hm
  rw [b_X7_isTrue_89] at hm
  refine lv_iconst (v := (0 : Int32)) hx hb dX7_isTrue_89 (by decide) ?_
  exact k_X7_isTrue_90 (a := a) (o3 := o3) (o4 := o4) X hr hT hk_a hk_o3 hk_o4   S (0 : Int32) _ _ _ hH hS hl hm
def b_X7_isTrue_105 (a o3 o4 : Nat)  (S : m_M) (t0 : Int32) : Option (Int32 × m_M) :=
    if t0 = 0 ∨ t0 = 1 then some (t0, S) else none
set_option maxHeartbeats 4000000 in
set_option maxRecDepth 100000 in
theorem k_X7_isTrue_105 {p : Program} {l : Launch} {e : Env} {s : State} {m : MethodId} {args : Array Value} {below : List Frame} {meth : Method} {c : Code} {G : m_G} {nx : Nat} {κ : Nat → Nat} {res : (Int32 × m_M)} {a o3 o4 : Nat} (X : m_Cx p s m args meth c cX7_isTrue 5 RX7 G) (hr : meth.sig.returnType = (some .boolean)) (hT : m_Str κ) (hk_a : κ a = 8) (hk_o3 : κ o3 = 4) (hk_o4 : κ o4 = 3)  : ∀ (S : m_M) (t0 : Int32) (H : Heap) (locs : List Loc) (ls : Array Slot), m_H G nx κ S H → m_S G s H locs → lv_has ls 5 [] → b_X7_isTrue_105 a o3 o4 S t0 = some res → W p l e rm_X7_isTrue s m args below meth c H locs 0 0 (m_Qi below args s G nx κ res) (F0 m 105 ls [.int t0]) := by
  have hx := X.1.1
  have hb := X.1.2.1
  intro S t0 H locs ls hH hS hl hm
  rw [b_X7_isTrue_105] at hm
  exact r_zret X hr hH hS hm dX7_isTrue_105
def b_X7_isTrue_132 (a o3 o4 : Nat)  (S : m_M) (t0 : Int32) : Option (Int32 × m_M) :=
    if t0 = 0 ∨ t0 = 1 then some (t0, S) else none
set_option maxHeartbeats 4000000 in
set_option maxRecDepth 100000 in
theorem k_X7_isTrue_132 {p : Program} {l : Launch} {e : Env} {s : State} {m : MethodId} {args : Array Value} {below : List Frame} {meth : Method} {c : Code} {G : m_G} {nx : Nat} {κ : Nat → Nat} {res : (Int32 × m_M)} {a o3 o4 : Nat} (X : m_Cx p s m args meth c cX7_isTrue 5 RX7 G) (hr : meth.sig.returnType = (some .boolean)) (hT : m_Str κ) (hk_a : κ a = 8) (hk_o3 : κ o3 = 4) (hk_o4 : κ o4 = 3)  : ∀ (S : m_M) (t0 : Int32) (H : Heap) (locs : List Loc) (ls : Array Slot), m_H G nx κ S H → m_S G s H locs → lv_has ls 5 [] → b_X7_isTrue_132 a o3 o4 S t0 = some res → W p l e rm_X7_isTrue s m args below meth c H locs 0 0 (m_Qi below args s G nx κ res) (F0 m 132 ls [.int t0]) := by
  have hx := X.1.1
  have hb := X.1.2.1
  intro S t0 H locs ls hH hS hl hm
  rw [b_X7_isTrue_132] at hm
  exact r_zret X hr hH hS hm dX7_isTrue_132
def b_X7_isTrue_159 (a o3 o4 : Nat)  (S : m_M) (t0 : Int32) : Option (Int32 × m_M) :=
    if t0 = 0 ∨ t0 = 1 then some (t0, S) else none
set_option maxHeartbeats 4000000 in
set_option maxRecDepth 100000 in
theorem k_X7_isTrue_159 {p : Program} {l : Launch} {e : Env} {s : State} {m : MethodId} {args : Array Value} {below : List Frame} {meth : Method} {c : Code} {G : m_G} {nx : Nat} {κ : Nat → Nat} {res : (Int32 × m_M)} {a o3 o4 : Nat} (X : m_Cx p s m args meth c cX7_isTrue 5 RX7 G) (hr : meth.sig.returnType = (some .boolean)) (hT : m_Str κ) (hk_a : κ a = 8) (hk_o3 : κ o3 = 4) (hk_o4 : κ o4 = 3)  : ∀ (S : m_M) (t0 : Int32) (H : Heap) (locs : List Loc) (ls : Array Slot), m_H G nx κ S H → m_S G s H locs → lv_has ls 5 [] → b_X7_isTrue_159 a o3 o4 S t0 = some res → W p l e rm_X7_isTrue s m args below meth c H locs 0 0 (m_Qi below args s G nx κ res) (F0 m 159 ls [.int t0]) := by
  have hx := X.1.1
  have hb := X.1.2.1
  intro S t0 H locs ls hH hS hl hm
  rw [b_X7_isTrue_159] at hm
  exact r_zret X hr hH hS hm dX7_isTrue_159
def f_X7_isTrue (a o3 o4 : Nat) (S : m_M) (i1 : Int32) (i2 : Int32) : Option (Int32 × m_M) :=
    (m_ldi S (a + 1) 40 i1).bind fun v1 =>
    if v1 = (14 : Int32) then (
    m_call (f_X6_isFinite (o3 + 8) S i2) fun v4 S3 =>
    if v4 = 0 ∨ v4 = 1 then some (v4, S3) else none) else (
    if v1 = (15 : Int32) then (
    if (m_ri S o3 0) ≤ 0 then (
    b_X7_isTrue_89 a o3 o4 S) else (
    (m_ldi S (o3 + 16) 5 ((m_ri S o3 0) - (1 : Int32))).bind fun v7 =>
    if ((v7 >>> (i2 &&& 31)) &&& (1 : Int32)) = 0 then (
    b_X7_isTrue_89 a o3 o4 S) else (
    b_X7_isTrue_90 a o3 o4 S (1 : Int32)))) else (
    if v1 = (16 : Int32) then (
    m_call (f_X2_roomsOf o4 S i2) fun v11 S10 =>
    if v11 ≤ 0 then (
    b_X7_isTrue_105 a o3 o4 S10 (0 : Int32)) else (
    b_X7_isTrue_105 a o3 o4 S10 (1 : Int32))) else (
    if v1 = (17 : Int32) then (
    (m_ldi S (o3 + 14) 24 i2).bind fun v14 =>
    (m_ldi S (a + 3) 40 i1).bind fun v15 =>
    if ((v14 >>> (v15 &&& 31)) &&& (1 : Int32)) = 0 then (
    b_X7_isTrue_132 a o3 o4 S (0 : Int32)) else (
    b_X7_isTrue_132 a o3 o4 S (1 : Int32))) else (
    if v1 = (18 : Int32) then (
    (m_ldi S (o3 + 15) 24 i2).bind fun v18 =>
    (m_ldi S (a + 3) 40 i1).bind fun v19 =>
    if ((v18 >>> (v19 &&& 31)) &&& (1 : Int32)) = 0 then (
    b_X7_isTrue_159 a o3 o4 S (0 : Int32)) else (
    b_X7_isTrue_159 a o3 o4 S (1 : Int32))) else (
    if v1 = (19 : Int32) then (
    m_call (f_X2_cellsOf o4 S i2) fun v23 S22 =>
    m_call (f_X7_fits a S22 v23 i1) fun v25 S24 =>
    if v25 = 0 ∨ v25 = 1 then some (v25, S24) else none) else (
    if v1 = (20 : Int32) then (
    m_call (f_X2_roomsOf o4 S i2) fun v28 S27 =>
    m_call (f_X7_fits a S27 v28 i1) fun v30 S29 =>
    if v30 = 0 ∨ v30 = 1 then some (v30, S29) else none) else (
    m_call (f_X7_fits a S i2 i1) fun v32 S31 =>
    if v32 = 0 ∨ v32 = 1 then some (v32, S31) else none)))))))
set_option maxHeartbeats 4000000 in
set_option maxRecDepth 100000 in
theorem c_X7_isTrue {l : Launch} {G : m_G} {nx : Nat} {κ : Nat → Nat} {a o3 o4 : Nat} {S : m_M} {i1 : Int32} {i2 : Int32} {res : (Int32 × m_M)} (hT : m_Str κ) (hk_a : κ a = 8) (hk_o3 : κ o3 = 4) (hk_o4 : κ o4 = 3) (hm : f_X7_isTrue a o3 o4 S i1 i2 = some res) : m_Ci l yX7_isTrue cX7_isTrue 5 (some .boolean) rm_X7_isTrue G nx κ [.ref a, .int i1, .int i2, .ref o3, .ref o4] S res := by
  refine m_Ci.of (by decide) (Nat.le_of_ble_eq_true rfl) ?_
  intro p e s m args below meth c ls X hr hH hl
  have hx := X.1.1
  have hb := X.1.2.1
  have hS : m_S G s s.heap [] := va_S.rf
  have hl : lv_has ls 5 [(0, .ref a), (1, .int i1), (2, .int i2), (3, .ref o3), (4, .ref o4)] := hl
  rw [f_X7_isTrue] at hm
  refine lv_aload_n hx hb dX7_isTrue_0 rfl (lv_at hl 0 rfl) ?_
  refine r_getp X hH (k := 7) (a := a) (j := 3) (b := (a + 1)) (A := 1) (B := 0) hk_a (by decide) rfl m_wi7 (by decide) in_2_106 rfl rfl rfl dX7_isTrue_1 ?_
  refine lv_iload_n hx hb dX7_isTrue_4 rfl (lv_at hl 1 rfl) ?_
  obtain ⟨v1, h_v1, e_v1, hm⟩ := n_ldi hm
  refine n_iald X hH (n := 40) (m_lay_at hT hk_a (by decide) (i := 1) rfl) h_v1 e_v1 dX7_isTrue_5 ?_
  by_cases c2 : v1 = (14 : Int32)
  · have hm := m_ite_t hm c2
    refine lv_tableIn (off := 42) (tgt := 48) hx hb dX7_isTrue_6 (by rw [c2]; decide) (by rw [c2]; decide) (by rw [c2]; rfl) (by decide) ?_
    refine lv_aload_n hx hb dX7_isTrue_48 rfl (lv_at hl 3 rfl) ?_
    refine r_getp X hH (k := 3) (a := o3) (j := 9) (b := (o3 + 8)) (A := 8) (B := 0) hk_o3 (by decide) rfl m_wi3 (by decide) in_1_163 rfl rfl rfl dX7_isTrue_49 ?_
    refine lv_iload_n hx hb dX7_isTrue_52 rfl (lv_at hl 2 rfl) ?_
    obtain ⟨v4, S3, e_S3, hm⟩ := m_call_of hm
    refine n_cVi X hH hS (k := 6) (c_X6_isFinite (a := (o3 + 8)) hT (m_lay_at hT hk_o3 (by decide) (i := 8) rfl) e_S3) mw_X6_isFinite in_6_32 (m_lay_at hT hk_o3 (by decide) (i := 8) rfl) (by decide) rfl rfl rfl ⟨rfl, rfl⟩ ⟨Nat.le_of_ble_eq_true rfl, Nat.le_of_ble_eq_true rfl⟩ ⟨Nat.zero_le _, Nat.zero_le _⟩ hl.1 (Nat.le_of_ble_eq_true rfl) dX7_isTrue_53 (fun H locs hH hS => ?_)
    exact r_zret X hr hH hS hm dX7_isTrue_56
  · have hm := m_ite_f hm c2
    by_cases c5 : v1 = (15 : Int32)
    · have hm := m_ite_t hm c5
      refine lv_tableIn (off := 51) (tgt := 57) hx hb dX7_isTrue_6 (by rw [c5]; decide) (by rw [c5]; decide) (by rw [c5]; rfl) (by decide) ?_
      refine lv_aload_n hx hb dX7_isTrue_57 rfl (lv_at hl 3 rfl) ?_
      refine r_geti X hH (k := 3) (a := o3) (j := 0) hk_o3 (by decide) rfl m_wi3 (by decide) in_1_127 rfl rfl dX7_isTrue_58 ?_
      refine lv_if_le (tgt := 89) hx hb dX7_isTrue_61 (by decide) (fun c6 => ?_) (fun c6 => ?_)
      · have hm := m_ite_t hm c6
        exact k_X7_isTrue_89 (a := a) (o3 := o3) (o4 := o4) X hr hT hk_a hk_o3 hk_o4   S _ _ _ hH hS (lv_sub hl [] rfl) hm
      · have hm := m_ite_f hm c6
        refine lv_aload_n hx hb dX7_isTrue_64 rfl (lv_at hl 3 rfl) ?_
        refine r_getp X hH (k := 3) (a := o3) (j := 9) (b := (o3 + 8)) (A := 8) (B := 0) hk_o3 (by decide) rfl m_wi3 (by decide) in_1_163 rfl rfl rfl dX7_isTrue_65 ?_
        refine r_getp X hH (k := 6) (a := (o3 + 8)) (j := 9) (b := (o3 + 16)) (A := 8) (B := 0) (m_lay_at hT hk_o3 (by decide) (i := 8) rfl) (by decide) rfl m_wi6 (by decide) in_1_75 rfl rfl rfl dX7_isTrue_68 ?_
        refine lv_aload_n hx hb dX7_isTrue_71 rfl (lv_at hl 3 rfl) ?_
        refine r_geti X hH (k := 3) (a := o3) (j := 0) hk_o3 (by decide) rfl m_wi3 (by decide) in_1_127 rfl rfl dX7_isTrue_72 ?_
        refine lv_iconst (v := (1 : Int32)) hx hb dX7_isTrue_75 (by decide) ?_
        refine lv_isub hx hb dX7_isTrue_76 ?_
        obtain ⟨v7, h_v7, e_v7, hm⟩ := n_ldi hm
        refine n_iald X hH (n := 5) (m_lay_at hT hk_o3 (by decide) (i := 16) rfl) h_v7 e_v7 dX7_isTrue_77 ?_
        refine lv_iload_n hx hb dX7_isTrue_78 rfl (lv_at hl 2 rfl) ?_
        refine lv_ishr hx hb dX7_isTrue_79 ?_
        refine lv_iconst (v := (1 : Int32)) hx hb dX7_isTrue_80 (by decide) ?_
        refine lv_iand hx hb dX7_isTrue_81 ?_
        refine lv_if_eq (tgt := 89) hx hb dX7_isTrue_82 (by decide) (fun c8 => ?_) (fun c8 => ?_)
        · have hm := m_ite_t hm c8
          exact k_X7_isTrue_89 (a := a) (o3 := o3) (o4 := o4) X hr hT hk_a hk_o3 hk_o4   S _ _ _ hH hS (lv_sub hl [] rfl) hm
        · have hm := m_ite_f hm c8
          refine lv_iconst (v := (1 : Int32)) hx hb dX7_isTrue_85 (by decide) ?_
          refine lv_goto (tgt := 90) hx hb dX7_isTrue_86 (by decide) ?_
          exact k_X7_isTrue_90 (a := a) (o3 := o3) (o4 := o4) X hr hT hk_a hk_o3 hk_o4   S (1 : Int32) _ _ _ hH hS (lv_sub hl [] rfl) hm
    · have hm := m_ite_f hm c5
      by_cases c9 : v1 = (16 : Int32)
      · have hm := m_ite_t hm c9
        refine lv_tableIn (off := 85) (tgt := 91) hx hb dX7_isTrue_6 (by rw [c9]; decide) (by rw [c9]; decide) (by rw [c9]; rfl) (by decide) ?_
        refine lv_aload hx hb dX7_isTrue_91 (lv_at hl 4 rfl) ?_
        refine lv_iload_n hx hb dX7_isTrue_93 rfl (lv_at hl 2 rfl) ?_
        obtain ⟨v11, S10, e_S10, hm⟩ := m_call_of hm
        refine n_cVi X hH hS (k := 2) (c_X2_roomsOf (a := o4) hT hk_o4 e_S10) mw_X2_roomsOf in_6_33 hk_o4 (by decide) rfl rfl rfl ⟨rfl, rfl⟩ ⟨Nat.le_of_ble_eq_true rfl, Nat.le_of_ble_eq_true rfl⟩ ⟨Nat.zero_le _, Nat.zero_le _⟩ hl.1 (Nat.le_of_ble_eq_true rfl) dX7_isTrue_94 (fun H locs hH hS => ?_)
        refine lv_if_le (tgt := 104) hx hb dX7_isTrue_97 (by decide) (fun c12 => ?_) (fun c12 => ?_)
        · have hm := m_ite_t hm c12
          refine lv_iconst (v := (0 : Int32)) hx hb dX7_isTrue_104 (by decide) ?_
          exact k_X7_isTrue_105 (a := a) (o3 := o3) (o4 := o4) X hr hT hk_a hk_o3 hk_o4   S10 (0 : Int32) _ _ _ hH hS (lv_sub hl [] rfl) hm
        · have hm := m_ite_f hm c12
          refine lv_iconst (v := (1 : Int32)) hx hb dX7_isTrue_100 (by decide) ?_
          refine lv_goto (tgt := 105) hx hb dX7_isTrue_101 (by decide) ?_
          exact k_X7_isTrue_105 (a := a) (o3 := o3) (o4 := o4) X hr hT hk_a hk_o3 hk_o4   S10 (1 : Int32) _ _ _ hH hS (lv_sub hl [] rfl) hm
      · have hm := m_ite_f hm c9
        by_cases c13 : v1 = (17 : Int32)
        · have hm := m_ite_t hm c13
          refine lv_tableIn (off := 100) (tgt := 106) hx hb dX7_isTrue_6 (by rw [c13]; decide) (by rw [c13]; decide) (by rw [c13]; rfl) (by decide) ?_
          refine lv_aload_n hx hb dX7_isTrue_106 rfl (lv_at hl 3 rfl) ?_
          refine r_getp X hH (k := 3) (a := o3) (j := 9) (b := (o3 + 8)) (A := 8) (B := 0) hk_o3 (by decide) rfl m_wi3 (by decide) in_1_163 rfl rfl rfl dX7_isTrue_107 ?_
          refine r_getp X hH (k := 6) (a := (o3 + 8)) (j := 7) (b := (o3 + 14)) (A := 6) (B := 0) (m_lay_at hT hk_o3 (by decide) (i := 8) rfl) (by decide) rfl m_wi6 (by decide) in_1_68 rfl rfl rfl dX7_isTrue_110 ?_
          refine lv_iload_n hx hb dX7_isTrue_113 rfl (lv_at hl 2 rfl) ?_
          obtain ⟨v14, h_v14, e_v14, hm⟩ := n_ldi hm
          refine n_iald X hH (n := 24) (m_lay_at hT hk_o3 (by decide) (i := 14) rfl) h_v14 e_v14 dX7_isTrue_114 ?_
          refine lv_aload_n hx hb dX7_isTrue_115 rfl (lv_at hl 0 rfl) ?_
          refine r_getp X hH (k := 7) (a := a) (j := 5) (b := (a + 3)) (A := 3) (B := 0) hk_a (by decide) rfl m_wi7 (by decide) in_2_108 rfl rfl rfl dX7_isTrue_116 ?_
          refine lv_iload_n hx hb dX7_isTrue_119 rfl (lv_at hl 1 rfl) ?_
          obtain ⟨v15, h_v15, e_v15, hm⟩ := n_ldi hm
          refine n_iald X hH (n := 40) (m_lay_at hT hk_a (by decide) (i := 3) rfl) h_v15 e_v15 dX7_isTrue_120 ?_
          refine lv_ishr hx hb dX7_isTrue_121 ?_
          refine lv_iconst (v := (1 : Int32)) hx hb dX7_isTrue_122 (by decide) ?_
          refine lv_iand hx hb dX7_isTrue_123 ?_
          refine lv_if_eq (tgt := 131) hx hb dX7_isTrue_124 (by decide) (fun c16 => ?_) (fun c16 => ?_)
          · have hm := m_ite_t hm c16
            refine lv_iconst (v := (0 : Int32)) hx hb dX7_isTrue_131 (by decide) ?_
            exact k_X7_isTrue_132 (a := a) (o3 := o3) (o4 := o4) X hr hT hk_a hk_o3 hk_o4   S (0 : Int32) _ _ _ hH hS (lv_sub hl [] rfl) hm
          · have hm := m_ite_f hm c16
            refine lv_iconst (v := (1 : Int32)) hx hb dX7_isTrue_127 (by decide) ?_
            refine lv_goto (tgt := 132) hx hb dX7_isTrue_128 (by decide) ?_
            exact k_X7_isTrue_132 (a := a) (o3 := o3) (o4 := o4) X hr hT hk_a hk_o3 hk_o4   S (1 : Int32) _ _ _ hH hS (lv_sub hl [] rfl) hm
        · have hm := m_ite_f hm c13
          by_cases c17 : v1 = (18 : Int32)
          · have hm := m_ite_t hm c17
            refine lv_tableIn (off := 127) (tgt := 133) hx hb dX7_isTrue_6 (by rw [c17]; decide) (by rw [c17]; decide) (by rw [c17]; rfl) (by decide) ?_
            refine lv_aload_n hx hb dX7_isTrue_133 rfl (lv_at hl 3 rfl) ?_
            refine r_getp X hH (k := 3) (a := o3) (j := 9) (b := (o3 + 8)) (A := 8) (B := 0) hk_o3 (by decide) rfl m_wi3 (by decide) in_1_163 rfl rfl rfl dX7_isTrue_134 ?_
            refine r_getp X hH (k := 6) (a := (o3 + 8)) (j := 8) (b := (o3 + 15)) (A := 7) (B := 0) (m_lay_at hT hk_o3 (by decide) (i := 8) rfl) (by decide) rfl m_wi6 (by decide) in_1_71 rfl rfl rfl dX7_isTrue_137 ?_
            refine lv_iload_n hx hb dX7_isTrue_140 rfl (lv_at hl 2 rfl) ?_
            obtain ⟨v18, h_v18, e_v18, hm⟩ := n_ldi hm
            refine n_iald X hH (n := 24) (m_lay_at hT hk_o3 (by decide) (i := 15) rfl) h_v18 e_v18 dX7_isTrue_141 ?_
            refine lv_aload_n hx hb dX7_isTrue_142 rfl (lv_at hl 0 rfl) ?_
            refine r_getp X hH (k := 7) (a := a) (j := 5) (b := (a + 3)) (A := 3) (B := 0) hk_a (by decide) rfl m_wi7 (by decide) in_2_108 rfl rfl rfl dX7_isTrue_143 ?_
            refine lv_iload_n hx hb dX7_isTrue_146 rfl (lv_at hl 1 rfl) ?_
            obtain ⟨v19, h_v19, e_v19, hm⟩ := n_ldi hm
            refine n_iald X hH (n := 40) (m_lay_at hT hk_a (by decide) (i := 3) rfl) h_v19 e_v19 dX7_isTrue_147 ?_
            refine lv_ishr hx hb dX7_isTrue_148 ?_
            refine lv_iconst (v := (1 : Int32)) hx hb dX7_isTrue_149 (by decide) ?_
            refine lv_iand hx hb dX7_isTrue_150 ?_
            refine lv_if_eq (tgt := 158) hx hb dX7_isTrue_151 (by decide) (fun c20 => ?_) (fun c20 => ?_)
            · have hm := m_ite_t hm c20
              refine lv_iconst (v := (0 : Int32)) hx hb dX7_isTrue_158 (by decide) ?_
              exact k_X7_isTrue_159 (a := a) (o3 := o3) (o4 := o4) X hr hT hk_a hk_o3 hk_o4   S (0 : Int32) _ _ _ hH hS (lv_sub hl [] rfl) hm
            · have hm := m_ite_f hm c20
              refine lv_iconst (v := (1 : Int32)) hx hb dX7_isTrue_154 (by decide) ?_
              refine lv_goto (tgt := 159) hx hb dX7_isTrue_155 (by decide) ?_
              exact k_X7_isTrue_159 (a := a) (o3 := o3) (o4 := o4) X hr hT hk_a hk_o3 hk_o4   S (1 : Int32) _ _ _ hH hS (lv_sub hl [] rfl) hm
          · have hm := m_ite_f hm c17
            by_cases c21 : v1 = (19 : Int32)
            · have hm := m_ite_t hm c21
              refine lv_tableIn (off := 154) (tgt := 160) hx hb dX7_isTrue_6 (by rw [c21]; decide) (by rw [c21]; decide) (by rw [c21]; rfl) (by decide) ?_
              refine lv_aload_n hx hb dX7_isTrue_160 rfl (lv_at hl 0 rfl) ?_
              refine lv_aload hx hb dX7_isTrue_161 (lv_at hl 4 rfl) ?_
              refine lv_iload_n hx hb dX7_isTrue_163 rfl (lv_at hl 2 rfl) ?_
              obtain ⟨v23, S22, e_S22, hm⟩ := m_call_of hm
              refine n_cVi X hH hS (k := 2) (c_X2_cellsOf (a := o4) hT hk_o4 e_S22) mw_X2_cellsOf in_6_34 hk_o4 (by decide) rfl rfl rfl ⟨rfl, rfl⟩ ⟨Nat.le_of_ble_eq_true rfl, Nat.le_of_ble_eq_true rfl⟩ ⟨Nat.zero_le _, Nat.zero_le _⟩ hl.1 (Nat.le_of_ble_eq_true rfl) dX7_isTrue_164 (fun H locs hH hS => ?_)
              refine lv_iload_n hx hb dX7_isTrue_167 rfl (lv_at hl 1 rfl) ?_
              obtain ⟨v25, S24, e_S24, hm⟩ := m_call_of hm
              refine n_cVi X hH hS (k := 7) (c_X7_fits (a := a) hT hk_a e_S24) mw_X7_fits in_6_35 hk_a (by decide) rfl rfl rfl ⟨rfl, rfl⟩ ⟨Nat.le_of_ble_eq_true rfl, Nat.le_of_ble_eq_true rfl⟩ ⟨Nat.zero_le _, Nat.zero_le _⟩ hl.1 (Nat.le_of_ble_eq_true rfl) dX7_isTrue_168 (fun H locs hH hS => ?_)
              exact r_zret X hr hH hS hm dX7_isTrue_171
            · have hm := m_ite_f hm c21
              by_cases c26 : v1 = (20 : Int32)
              · have hm := m_ite_t hm c26
                refine lv_tableIn (off := 166) (tgt := 172) hx hb dX7_isTrue_6 (by rw [c26]; decide) (by rw [c26]; decide) (by rw [c26]; rfl) (by decide) ?_
                refine lv_aload_n hx hb dX7_isTrue_172 rfl (lv_at hl 0 rfl) ?_
                refine lv_aload hx hb dX7_isTrue_173 (lv_at hl 4 rfl) ?_
                refine lv_iload_n hx hb dX7_isTrue_175 rfl (lv_at hl 2 rfl) ?_
                obtain ⟨v28, S27, e_S27, hm⟩ := m_call_of hm
                refine n_cVi X hH hS (k := 2) (c_X2_roomsOf (a := o4) hT hk_o4 e_S27) mw_X2_roomsOf in_6_33 hk_o4 (by decide) rfl rfl rfl ⟨rfl, rfl⟩ ⟨Nat.le_of_ble_eq_true rfl, Nat.le_of_ble_eq_true rfl⟩ ⟨Nat.zero_le _, Nat.zero_le _⟩ hl.1 (Nat.le_of_ble_eq_true rfl) dX7_isTrue_176 (fun H locs hH hS => ?_)
                refine lv_iload_n hx hb dX7_isTrue_179 rfl (lv_at hl 1 rfl) ?_
                obtain ⟨v30, S29, e_S29, hm⟩ := m_call_of hm
                refine n_cVi X hH hS (k := 7) (c_X7_fits (a := a) hT hk_a e_S29) mw_X7_fits in_6_35 hk_a (by decide) rfl rfl rfl ⟨rfl, rfl⟩ ⟨Nat.le_of_ble_eq_true rfl, Nat.le_of_ble_eq_true rfl⟩ ⟨Nat.zero_le _, Nat.zero_le _⟩ hl.1 (Nat.le_of_ble_eq_true rfl) dX7_isTrue_180 (fun H locs hH hS => ?_)
                exact r_zret X hr hH hS hm dX7_isTrue_183
              · have hm := m_ite_f hm c26
                refine lv_tableOut (tgt := 184) hx hb dX7_isTrue_6 (by have h_c2 := lv_neT (a := 14) c2 rfl; have h_c5 := lv_neT (a := 15) c5 rfl; have h_c9 := lv_neT (a := 16) c9 rfl; have h_c13 := lv_neT (a := 17) c13 rfl; have h_c17 := lv_neT (a := 18) c17 rfl; have h_c21 := lv_neT (a := 19) c21 rfl; have h_c26 := lv_neT (a := 20) c26 rfl; omega) (by decide) ?_
                refine lv_aload_n hx hb dX7_isTrue_184 rfl (lv_at hl 0 rfl) ?_
                refine lv_iload_n hx hb dX7_isTrue_185 rfl (lv_at hl 2 rfl) ?_
                refine lv_iload_n hx hb dX7_isTrue_186 rfl (lv_at hl 1 rfl) ?_
                obtain ⟨v32, S31, e_S31, hm⟩ := m_call_of hm
                refine n_cVi X hH hS (k := 7) (c_X7_fits (a := a) hT hk_a e_S31) mw_X7_fits in_6_35 hk_a (by decide) rfl rfl rfl ⟨rfl, rfl⟩ ⟨Nat.le_of_ble_eq_true rfl, Nat.le_of_ble_eq_true rfl⟩ ⟨Nat.zero_le _, Nat.zero_le _⟩ hl.1 (Nat.le_of_ble_eq_true rfl) dX7_isTrue_187 (fun H locs hH hS => ?_)
                exact r_zret X hr hH hS hm dX7_isTrue_190
def rm_X7_holds : Room := { frames := 4, cells := 0, slots := 0, locals := 89 }
def b_X7_holds_215 (a o2 o3 : Nat) (K_6 : m_M → Int32 → Int32 → Int32 → Option (Int32 × m_M)) (S : m_M) (l1 : Int32) (l4 : Int32) (l5 : Int32) : Option (Int32 × m_M) :=
    m_let (l5 + (1 : Int32)) fun v1 =>
    K_6 S l1 l4 v1
set_option maxHeartbeats 4000000 in
set_option maxRecDepth 100000 in
theorem k_X7_holds_215 {p : Program} {l : Launch} {e : Env} {s : State} {m : MethodId} {args : Array Value} {below : List Frame} {meth : Method} {c : Code} {G : m_G} {nx : Nat} {κ : Nat → Nat} {res : (Int32 × m_M)} {a o2 o3 : Nat} (X : m_Cx p s m args meth c cX7_holds 9 RX7 G) (hr : meth.sig.returnType = (some .boolean)) (hT : m_Str κ) (hk_a : κ a = 8) (hk_o2 : κ o2 = 4) (hk_o3 : κ o3 = 3) (K_6 : m_M → Int32 → Int32 → Int32 → Option (Int32 × m_M)) (hK_6 : ∀ (S : m_M) (l1 : Int32) (l4 : Int32) (l5 : Int32) (H : Heap) (locs : List Loc) (ls : Array Slot), m_H G nx κ S H → m_S G s H locs → lv_has ls 9 [(0, .ref a), (1, .int l1), (2, .ref o2), (3, .ref o3), (4, .int l4), (5, .int l5)] → K_6 S l1 l4 l5 = some res → W p l e rm_X7_holds s m args below meth c H locs 0 0 (m_Qi below args s G nx κ res) (F0 m 6 ls [])) : ∀ (S : m_M) (l1 : Int32) (l4 : Int32) (l5 : Int32) (H : Heap) (locs : List Loc) (ls : Array Slot), m_H G nx κ S H → m_S G s H locs → lv_has ls 9 [(0, .ref a), (1, .int l1), (2, .ref o2), (3, .ref o3), (4, .int l4), (5, .int l5)] → b_X7_holds_215 a o2 o3 K_6 S l1 l4 l5 = some res → W p l e rm_X7_holds s m args below meth c H locs 0 0 (m_Qi below args s G nx κ res) (F0 m 215 ls []) := by
  have hx := X.1.1
  have hb := X.1.2.1
  intro S l1 l4 l5 H locs ls hH hS hl hm
  rw [b_X7_holds_215] at hm
  obtain ⟨v1, e_v1, hm⟩ := m_let_of hm
  refine lv_iinc (v := v1) (lv' := [(5, .int v1), (0, .ref a), (1, .int l1), (2, .ref o2), (3, .ref o3), (4, .int l4)]) hx hb dX7_holds_215 hl (k := 5) rfl (by rw [← e_v1]; rfl) (by decide) rfl (fun ls hl => ?_)
  refine lv_goto (tgt := 6) hx hb dX7_holds_218 (by decide) ?_
  exact hK_6 S l1 l4 v1 _ _ _ hH hS (lv_sub hl [1, 2, 3, 4, 5, 0] rfl) hm
def b_X7_holds_145 (a o2 o3 : Nat) (K_6 : m_M → Int32 → Int32 → Int32 → Option (Int32 × m_M)) (S : m_M) (l1 : Int32) (l4 : Int32) (l5 : Int32) (t1 : Int32) (t2 : Int32) : Option (Int32 × m_M) :=
    (m_sti S (a + 4) 40 t1 (vp_nar .boolean t2)).bind fun S1 =>
    b_X7_holds_215 a o2 o3 K_6 S1 l1 l4 l5
set_option maxHeartbeats 4000000 in
set_option maxRecDepth 100000 in
theorem k_X7_holds_145 {p : Program} {l : Launch} {e : Env} {s : State} {m : MethodId} {args : Array Value} {below : List Frame} {meth : Method} {c : Code} {G : m_G} {nx : Nat} {κ : Nat → Nat} {res : (Int32 × m_M)} {a o2 o3 : Nat} (X : m_Cx p s m args meth c cX7_holds 9 RX7 G) (hr : meth.sig.returnType = (some .boolean)) (hT : m_Str κ) (hk_a : κ a = 8) (hk_o2 : κ o2 = 4) (hk_o3 : κ o3 = 3) (K_6 : m_M → Int32 → Int32 → Int32 → Option (Int32 × m_M)) (hK_6 : ∀ (S : m_M) (l1 : Int32) (l4 : Int32) (l5 : Int32) (H : Heap) (locs : List Loc) (ls : Array Slot), m_H G nx κ S H → m_S G s H locs → lv_has ls 9 [(0, .ref a), (1, .int l1), (2, .ref o2), (3, .ref o3), (4, .int l4), (5, .int l5)] → K_6 S l1 l4 l5 = some res → W p l e rm_X7_holds s m args below meth c H locs 0 0 (m_Qi below args s G nx κ res) (F0 m 6 ls [])) : ∀ (S : m_M) (l1 : Int32) (l4 : Int32) (l5 : Int32) (t1 : Int32) (t2 : Int32) (H : Heap) (locs : List Loc) (ls : Array Slot), m_H G nx κ S H → m_S G s H locs → lv_has ls 9 [(0, .ref a), (1, .int l1), (2, .ref o2), (3, .ref o3), (4, .int l4), (5, .int l5)] → b_X7_holds_145 a o2 o3 K_6 S l1 l4 l5 t1 t2 = some res → W p l e rm_X7_holds s m args below meth c H locs 0 0 (m_Qi below args s G nx κ res) (F0 m 145 ls [.int t2, .int t1, .ref (a + 4)]) := by
  have hx := X.1.1
  have hb := X.1.2.1
  intro S l1 l4 l5 t1 t2 H locs ls hH hS hl hm
  rw [b_X7_holds_145] at hm
  obtain ⟨S1, h_S1, e_S1, hm⟩ := n_sti hm
  refine n_zast X hH hS (n := 40) (m_lay_at hT hk_a (by decide) (i := 4) rfl) h_S1 e_S1 dX7_holds_145 (fun H locs hH hS => ?_)
  refine lv_goto (tgt := 215) hx hb dX7_holds_146 (by decide) ?_
  exact k_X7_holds_215 (a := a) (o2 := o2) (o3 := o3) X hr hT hk_a hk_o2 hk_o3 K_6 hK_6  S1 l1 l4 l5 _ _ _ hH hS hl hm
def b_X7_holds_116 (a o2 o3 : Nat) (K_6 : m_M → Int32 → Int32 → Int32 → Option (Int32 × m_M)) (S : m_M) (l1 : Int32) (l4 : Int32) (l5 : Int32) (l7 : Int32) (t0 : Int32) : Option (Int32 × m_M) :=
    (m_ldi S (a + 1) 40 l5).bind fun v1 =>
    if v1 = (12 : Int32) then (
    b_X7_holds_145 a o2 o3 K_6 S l1 l4 l5 (l4 - (1 : Int32)) l7) else (
    b_X7_holds_145 a o2 o3 K_6 S l1 l4 l5 (l4 - (1 : Int32)) t0)
set_option maxHeartbeats 4000000 in
set_option maxRecDepth 100000 in
theorem k_X7_holds_116 {p : Program} {l : Launch} {e : Env} {s : State} {m : MethodId} {args : Array Value} {below : List Frame} {meth : Method} {c : Code} {G : m_G} {nx : Nat} {κ : Nat → Nat} {res : (Int32 × m_M)} {a o2 o3 : Nat} (X : m_Cx p s m args meth c cX7_holds 9 RX7 G) (hr : meth.sig.returnType = (some .boolean)) (hT : m_Str κ) (hk_a : κ a = 8) (hk_o2 : κ o2 = 4) (hk_o3 : κ o3 = 3) (K_6 : m_M → Int32 → Int32 → Int32 → Option (Int32 × m_M)) (hK_6 : ∀ (S : m_M) (l1 : Int32) (l4 : Int32) (l5 : Int32) (H : Heap) (locs : List Loc) (ls : Array Slot), m_H G nx κ S H → m_S G s H locs → lv_has ls 9 [(0, .ref a), (1, .int l1), (2, .ref o2), (3, .ref o3), (4, .int l4), (5, .int l5)] → K_6 S l1 l4 l5 = some res → W p l e rm_X7_holds s m args below meth c H locs 0 0 (m_Qi below args s G nx κ res) (F0 m 6 ls [])) : ∀ (S : m_M) (l1 : Int32) (l4 : Int32) (l5 : Int32) (l7 : Int32) (t0 : Int32) (H : Heap) (locs : List Loc) (ls : Array Slot), m_H G nx κ S H → m_S G s H locs → lv_has ls 9 [(0, .ref a), (1, .int l1), (2, .ref o2), (3, .ref o3), (4, .int l4), (5, .int l5), (7, .int l7)] → b_X7_holds_116 a o2 o3 K_6 S l1 l4 l5 l7 t0 = some res → W p l e rm_X7_holds s m args below meth c H locs 0 0 (m_Qi below args s G nx κ res) (F0 m 116 ls [.int t0]) := by
  have hx := X.1.1
  have hb := X.1.2.1
  intro S l1 l4 l5 l7 t0 H locs ls hH hS hl hm
  rw [b_X7_holds_116] at hm
  refine lv_istore (lv' := [(8, .int t0), (0, .ref a), (1, .int l1), (2, .ref o2), (3, .ref o3), (4, .int l4), (5, .int l5), (7, .int l7)]) hx hb dX7_holds_116 hl (by decide) rfl (fun ls hl => ?_)
  refine lv_aload_n hx hb dX7_holds_118 rfl (lv_at hl 1 rfl) ?_
  refine r_getp X hH (k := 7) (a := a) (j := 6) (b := (a + 4)) (A := 4) (B := 0) hk_a (by decide) rfl m_wi7 (by decide) in_2_109 rfl rfl rfl dX7_holds_119 ?_
  refine lv_iload hx hb dX7_holds_122 (lv_at hl 5 rfl) ?_
  refine lv_iconst (v := (1 : Int32)) hx hb dX7_holds_124 (by decide) ?_
  refine lv_isub hx hb dX7_holds_125 ?_
  refine lv_aload_n hx hb dX7_holds_126 rfl (lv_at hl 1 rfl) ?_
  refine r_getp X hH (k := 7) (a := a) (j := 3) (b := (a + 1)) (A := 1) (B := 0) hk_a (by decide) rfl m_wi7 (by decide) in_2_106 rfl rfl rfl dX7_holds_127 ?_
  refine lv_iload hx hb dX7_holds_130 (lv_at hl 6 rfl) ?_
  obtain ⟨v1, h_v1, e_v1, hm⟩ := n_ldi hm
  refine n_iald X hH (n := 40) (m_lay_at hT hk_a (by decide) (i := 1) rfl) h_v1 e_v1 dX7_holds_132 ?_
  refine lv_bipush (v := (12 : Int32)) hx hb dX7_holds_133 (by decide) ?_
  refine lv_icmp_ne (tgt := 143) hx hb dX7_holds_135 (by decide) (fun c2 => ?_) (fun c2 => ?_)
  · have hm := m_ite_f hm c2
    refine lv_iload hx hb dX7_holds_143 (lv_at hl 0 rfl) ?_
    exact k_X7_holds_145 (a := a) (o2 := o2) (o3 := o3) X hr hT hk_a hk_o2 hk_o3 K_6 hK_6  S l1 l4 l5 (l4 - (1 : Int32)) t0 _ _ _ hH hS (lv_sub hl [1, 2, 3, 4, 5, 6] rfl) hm
  · have hm := m_ite_t hm c2
    refine lv_iload hx hb dX7_holds_138 (lv_at hl 7 rfl) ?_
    refine lv_goto (tgt := 145) hx hb dX7_holds_140 (by decide) ?_
    exact k_X7_holds_145 (a := a) (o2 := o2) (o3 := o3) X hr hT hk_a hk_o2 hk_o3 K_6 hK_6  S l1 l4 l5 (l4 - (1 : Int32)) l7 _ _ _ hH hS (lv_sub hl [1, 2, 3, 4, 5, 6] rfl) hm
def b_X7_holds_111 (a o2 o3 : Nat) (K_6 : m_M → Int32 → Int32 → Int32 → Option (Int32 × m_M)) (S : m_M) (l1 : Int32) (l4 : Int32) (l5 : Int32) (l7 : Int32) : Option (Int32 × m_M) :=
    b_X7_holds_116 a o2 o3 K_6 S l1 l4 l5 l7 (1 : Int32)
set_option maxHeartbeats 4000000 in
set_option maxRecDepth 100000 in
theorem k_X7_holds_111 {p : Program} {l : Launch} {e : Env} {s : State} {m : MethodId} {args : Array Value} {below : List Frame} {meth : Method} {c : Code} {G : m_G} {nx : Nat} {κ : Nat → Nat} {res : (Int32 × m_M)} {a o2 o3 : Nat} (X : m_Cx p s m args meth c cX7_holds 9 RX7 G) (hr : meth.sig.returnType = (some .boolean)) (hT : m_Str κ) (hk_a : κ a = 8) (hk_o2 : κ o2 = 4) (hk_o3 : κ o3 = 3) (K_6 : m_M → Int32 → Int32 → Int32 → Option (Int32 × m_M)) (hK_6 : ∀ (S : m_M) (l1 : Int32) (l4 : Int32) (l5 : Int32) (H : Heap) (locs : List Loc) (ls : Array Slot), m_H G nx κ S H → m_S G s H locs → lv_has ls 9 [(0, .ref a), (1, .int l1), (2, .ref o2), (3, .ref o3), (4, .int l4), (5, .int l5)] → K_6 S l1 l4 l5 = some res → W p l e rm_X7_holds s m args below meth c H locs 0 0 (m_Qi below args s G nx κ res) (F0 m 6 ls [])) : ∀ (S : m_M) (l1 : Int32) (l4 : Int32) (l5 : Int32) (l7 : Int32) (H : Heap) (locs : List Loc) (ls : Array Slot), m_H G nx κ S H → m_S G s H locs → lv_has ls 9 [(0, .ref a), (1, .int l1), (2, .ref o2), (3, .ref o3), (4, .int l4), (5, .int l5), (7, .int l7)] → b_X7_holds_111 a o2 o3 K_6 S l1 l4 l5 l7 = some res → W p l e rm_X7_holds s m args below meth c H locs 0 0 (m_Qi below args s G nx κ res) (F0 m 111 ls []) := by
  have hx := X.1.1
  have hb := X.1.2.1
  intro S l1 l4 l5 l7 H locs ls hH hS hl hm
  rw [b_X7_holds_111] at hm
  refine lv_iconst (v := (1 : Int32)) hx hb dX7_holds_111 (by decide) ?_
  refine lv_goto (tgt := 116) hx hb dX7_holds_112 (by decide) ?_
  exact k_X7_holds_116 (a := a) (o2 := o2) (o3 := o3) X hr hT hk_a hk_o2 hk_o3 K_6 hK_6  S l1 l4 l5 l7 (1 : Int32) _ _ _ hH hS hl hm
def b_X7_holds_87 (a o2 o3 : Nat) (K_6 : m_M → Int32 → Int32 → Int32 → Option (Int32 × m_M)) (S : m_M) (l1 : Int32) (l4 : Int32) (l5 : Int32) (t0 : Int32) : Option (Int32 × m_M) :=
    (m_ldi S (a + 4) 40 (l4 - (1 : Int32))).bind fun v1 =>
    if v1 = 0 then (
    (m_ldi S (a + 4) 40 l4).bind fun v3 =>
    if v3 = 0 then (
    b_X7_holds_116 a o2 o3 K_6 S l1 l4 l5 t0 (0 : Int32)) else (
    b_X7_holds_111 a o2 o3 K_6 S l1 l4 l5 t0)) else (
    b_X7_holds_111 a o2 o3 K_6 S l1 l4 l5 t0)
set_option maxHeartbeats 4000000 in
set_option maxRecDepth 100000 in
theorem k_X7_holds_87 {p : Program} {l : Launch} {e : Env} {s : State} {m : MethodId} {args : Array Value} {below : List Frame} {meth : Method} {c : Code} {G : m_G} {nx : Nat} {κ : Nat → Nat} {res : (Int32 × m_M)} {a o2 o3 : Nat} (X : m_Cx p s m args meth c cX7_holds 9 RX7 G) (hr : meth.sig.returnType = (some .boolean)) (hT : m_Str κ) (hk_a : κ a = 8) (hk_o2 : κ o2 = 4) (hk_o3 : κ o3 = 3) (K_6 : m_M → Int32 → Int32 → Int32 → Option (Int32 × m_M)) (hK_6 : ∀ (S : m_M) (l1 : Int32) (l4 : Int32) (l5 : Int32) (H : Heap) (locs : List Loc) (ls : Array Slot), m_H G nx κ S H → m_S G s H locs → lv_has ls 9 [(0, .ref a), (1, .int l1), (2, .ref o2), (3, .ref o3), (4, .int l4), (5, .int l5)] → K_6 S l1 l4 l5 = some res → W p l e rm_X7_holds s m args below meth c H locs 0 0 (m_Qi below args s G nx κ res) (F0 m 6 ls [])) : ∀ (S : m_M) (l1 : Int32) (l4 : Int32) (l5 : Int32) (t0 : Int32) (H : Heap) (locs : List Loc) (ls : Array Slot), m_H G nx κ S H → m_S G s H locs → lv_has ls 9 [(0, .ref a), (1, .int l1), (2, .ref o2), (3, .ref o3), (4, .int l4), (5, .int l5)] → b_X7_holds_87 a o2 o3 K_6 S l1 l4 l5 t0 = some res → W p l e rm_X7_holds s m args below meth c H locs 0 0 (m_Qi below args s G nx κ res) (F0 m 87 ls [.int t0]) := by
  have hx := X.1.1
  have hb := X.1.2.1
  intro S l1 l4 l5 t0 H locs ls hH hS hl hm
  rw [b_X7_holds_87] at hm
  refine lv_istore (lv' := [(7, .int t0), (0, .ref a), (1, .int l1), (2, .ref o2), (3, .ref o3), (4, .int l4), (5, .int l5)]) hx hb dX7_holds_87 hl (by decide) rfl (fun ls hl => ?_)
  refine lv_aload_n hx hb dX7_holds_89 rfl (lv_at hl 1 rfl) ?_
  refine r_getp X hH (k := 7) (a := a) (j := 6) (b := (a + 4)) (A := 4) (B := 0) hk_a (by decide) rfl m_wi7 (by decide) in_2_109 rfl rfl rfl dX7_holds_90 ?_
  refine lv_iload hx hb dX7_holds_93 (lv_at hl 5 rfl) ?_
  refine lv_iconst (v := (1 : Int32)) hx hb dX7_holds_95 (by decide) ?_
  refine lv_isub hx hb dX7_holds_96 ?_
  obtain ⟨v1, h_v1, e_v1, hm⟩ := n_ldi hm
  refine n_zald X hH (n := 40) (m_lay_at hT hk_a (by decide) (i := 4) rfl) h_v1 e_v1 dX7_holds_97 ?_
  refine lv_if_ne (tgt := 111) hx hb dX7_holds_98 (by decide) (fun c2 => ?_) (fun c2 => ?_)
  · have hm := m_ite_f hm c2
    exact k_X7_holds_111 (a := a) (o2 := o2) (o3 := o3) X hr hT hk_a hk_o2 hk_o3 K_6 hK_6  S l1 l4 l5 t0 _ _ _ hH hS (lv_sub hl [1, 2, 3, 4, 5, 6, 0] rfl) hm
  · have hm := m_ite_t hm c2
    refine lv_aload_n hx hb dX7_holds_101 rfl (lv_at hl 1 rfl) ?_
    refine r_getp X hH (k := 7) (a := a) (j := 6) (b := (a + 4)) (A := 4) (B := 0) hk_a (by decide) rfl m_wi7 (by decide) in_2_109 rfl rfl rfl dX7_holds_102 ?_
    refine lv_iload hx hb dX7_holds_105 (lv_at hl 5 rfl) ?_
    obtain ⟨v3, h_v3, e_v3, hm⟩ := n_ldi hm
    refine n_zald X hH (n := 40) (m_lay_at hT hk_a (by decide) (i := 4) rfl) h_v3 e_v3 dX7_holds_107 ?_
    refine lv_if_eq (tgt := 115) hx hb dX7_holds_108 (by decide) (fun c4 => ?_) (fun c4 => ?_)
    · have hm := m_ite_t hm c4
      refine lv_iconst (v := (0 : Int32)) hx hb dX7_holds_115 (by decide) ?_
      exact k_X7_holds_116 (a := a) (o2 := o2) (o3 := o3) X hr hT hk_a hk_o2 hk_o3 K_6 hK_6  S l1 l4 l5 t0 (0 : Int32) _ _ _ hH hS (lv_sub hl [1, 2, 3, 4, 5, 6, 0] rfl) hm
    · have hm := m_ite_f hm c4
      exact k_X7_holds_111 (a := a) (o2 := o2) (o3 := o3) X hr hT hk_a hk_o2 hk_o3 K_6 hK_6  S l1 l4 l5 t0 _ _ _ hH hS (lv_sub hl [1, 2, 3, 4, 5, 6, 0] rfl) hm
def b_X7_holds_86 (a o2 o3 : Nat) (K_6 : m_M → Int32 → Int32 → Int32 → Option (Int32 × m_M)) (S : m_M) (l1 : Int32) (l4 : Int32) (l5 : Int32) : Option (Int32 × m_M) :=
    b_X7_holds_87 a o2 o3 K_6 S l1 l4 l5 (0 : Int32)
set_option maxHeartbeats 4000000 in
set_option maxRecDepth 100000 in
theorem k_X7_holds_86 {p : Program} {l : Launch} {e : Env} {s : State} {m : MethodId} {args : Array Value} {below : List Frame} {meth : Method} {c : Code} {G : m_G} {nx : Nat} {κ : Nat → Nat} {res : (Int32 × m_M)} {a o2 o3 : Nat} (X : m_Cx p s m args meth c cX7_holds 9 RX7 G) (hr : meth.sig.returnType = (some .boolean)) (hT : m_Str κ) (hk_a : κ a = 8) (hk_o2 : κ o2 = 4) (hk_o3 : κ o3 = 3) (K_6 : m_M → Int32 → Int32 → Int32 → Option (Int32 × m_M)) (hK_6 : ∀ (S : m_M) (l1 : Int32) (l4 : Int32) (l5 : Int32) (H : Heap) (locs : List Loc) (ls : Array Slot), m_H G nx κ S H → m_S G s H locs → lv_has ls 9 [(0, .ref a), (1, .int l1), (2, .ref o2), (3, .ref o3), (4, .int l4), (5, .int l5)] → K_6 S l1 l4 l5 = some res → W p l e rm_X7_holds s m args below meth c H locs 0 0 (m_Qi below args s G nx κ res) (F0 m 6 ls [])) : ∀ (S : m_M) (l1 : Int32) (l4 : Int32) (l5 : Int32) (H : Heap) (locs : List Loc) (ls : Array Slot), m_H G nx κ S H → m_S G s H locs → lv_has ls 9 [(0, .ref a), (1, .int l1), (2, .ref o2), (3, .ref o3), (4, .int l4), (5, .int l5)] → b_X7_holds_86 a o2 o3 K_6 S l1 l4 l5 = some res → W p l e rm_X7_holds s m args below meth c H locs 0 0 (m_Qi below args s G nx κ res) (F0 m 86 ls []) := by
  have hx := X.1.1
  have hb := X.1.2.1
  intro S l1 l4 l5 H locs ls hH hS hl hm
  rw [b_X7_holds_86] at hm
  refine lv_iconst (v := (0 : Int32)) hx hb dX7_holds_86 (by decide) ?_
  exact k_X7_holds_87 (a := a) (o2 := o2) (o3 := o3) X hr hT hk_a hk_o2 hk_o3 K_6 hK_6  S l1 l4 l5 (0 : Int32) _ _ _ hH hS hl hm
def b_X7_holds_192 (a o2 o3 : Nat) (K_6 : m_M → Int32 → Int32 → Int32 → Option (Int32 × m_M)) (S : m_M) (l1 : Int32) (l4 : Int32) (l5 : Int32) (t1 : Int32) (t2 : Int32) : Option (Int32 × m_M) :=
    (m_sti S (a + 4) 40 t1 (vp_nar .boolean t2)).bind fun S1 =>
    b_X7_holds_215 a o2 o3 K_6 S1 l1 l4 l5
set_option maxHeartbeats 4000000 in
set_option maxRecDepth 100000 in
theorem k_X7_holds_192 {p : Program} {l : Launch} {e : Env} {s : State} {m : MethodId} {args : Array Value} {below : List Frame} {meth : Method} {c : Code} {G : m_G} {nx : Nat} {κ : Nat → Nat} {res : (Int32 × m_M)} {a o2 o3 : Nat} (X : m_Cx p s m args meth c cX7_holds 9 RX7 G) (hr : meth.sig.returnType = (some .boolean)) (hT : m_Str κ) (hk_a : κ a = 8) (hk_o2 : κ o2 = 4) (hk_o3 : κ o3 = 3) (K_6 : m_M → Int32 → Int32 → Int32 → Option (Int32 × m_M)) (hK_6 : ∀ (S : m_M) (l1 : Int32) (l4 : Int32) (l5 : Int32) (H : Heap) (locs : List Loc) (ls : Array Slot), m_H G nx κ S H → m_S G s H locs → lv_has ls 9 [(0, .ref a), (1, .int l1), (2, .ref o2), (3, .ref o3), (4, .int l4), (5, .int l5)] → K_6 S l1 l4 l5 = some res → W p l e rm_X7_holds s m args below meth c H locs 0 0 (m_Qi below args s G nx κ res) (F0 m 6 ls [])) : ∀ (S : m_M) (l1 : Int32) (l4 : Int32) (l5 : Int32) (t1 : Int32) (t2 : Int32) (H : Heap) (locs : List Loc) (ls : Array Slot), m_H G nx κ S H → m_S G s H locs → lv_has ls 9 [(0, .ref a), (1, .int l1), (2, .ref o2), (3, .ref o3), (4, .int l4), (5, .int l5)] → b_X7_holds_192 a o2 o3 K_6 S l1 l4 l5 t1 t2 = some res → W p l e rm_X7_holds s m args below meth c H locs 0 0 (m_Qi below args s G nx κ res) (F0 m 192 ls [.int t2, .int t1, .ref (a + 4)]) := by
  have hx := X.1.1
  have hb := X.1.2.1
  intro S l1 l4 l5 t1 t2 H locs ls hH hS hl hm
  rw [b_X7_holds_192] at hm
  obtain ⟨S1, h_S1, e_S1, hm⟩ := n_sti hm
  refine n_zast X hH hS (n := 40) (m_lay_at hT hk_a (by decide) (i := 4) rfl) h_S1 e_S1 dX7_holds_192 (fun H locs hH hS => ?_)
  refine lv_goto (tgt := 215) hx hb dX7_holds_193 (by decide) ?_
  exact k_X7_holds_215 (a := a) (o2 := o2) (o3 := o3) X hr hT hk_a hk_o2 hk_o3 K_6 hK_6  S1 l1 l4 l5 _ _ _ hH hS hl hm
def b_X7_holds_196 (a o2 o3 : Nat) (K_6 : m_M → Int32 → Int32 → Int32 → Option (Int32 × m_M)) (S : m_M) (l1 : Int32) (l4 : Int32) (l5 : Int32) : Option (Int32 × m_M) :=
    m_call (f_X7_isTrue a o2 o3 S l5 l1) fun v2 S1 =>
    (m_sti S1 (a + 4) 40 l4 (vp_nar .boolean v2)).bind fun S3 =>
    m_let (l4 + (1 : Int32)) fun v4 =>
    b_X7_holds_215 a o2 o3 K_6 S3 l1 v4 l5
set_option maxHeartbeats 4000000 in
set_option maxRecDepth 100000 in
theorem k_X7_holds_196 {p : Program} {l : Launch} {e : Env} {s : State} {m : MethodId} {args : Array Value} {below : List Frame} {meth : Method} {c : Code} {G : m_G} {nx : Nat} {κ : Nat → Nat} {res : (Int32 × m_M)} {a o2 o3 : Nat} (X : m_Cx p s m args meth c cX7_holds 9 RX7 G) (hr : meth.sig.returnType = (some .boolean)) (hT : m_Str κ) (hk_a : κ a = 8) (hk_o2 : κ o2 = 4) (hk_o3 : κ o3 = 3) (K_6 : m_M → Int32 → Int32 → Int32 → Option (Int32 × m_M)) (hK_6 : ∀ (S : m_M) (l1 : Int32) (l4 : Int32) (l5 : Int32) (H : Heap) (locs : List Loc) (ls : Array Slot), m_H G nx κ S H → m_S G s H locs → lv_has ls 9 [(0, .ref a), (1, .int l1), (2, .ref o2), (3, .ref o3), (4, .int l4), (5, .int l5)] → K_6 S l1 l4 l5 = some res → W p l e rm_X7_holds s m args below meth c H locs 0 0 (m_Qi below args s G nx κ res) (F0 m 6 ls [])) : ∀ (S : m_M) (l1 : Int32) (l4 : Int32) (l5 : Int32) (H : Heap) (locs : List Loc) (ls : Array Slot), m_H G nx κ S H → m_S G s H locs → lv_has ls 9 [(0, .ref a), (1, .int l1), (2, .ref o2), (3, .ref o3), (4, .int l4), (5, .int l5)] → b_X7_holds_196 a o2 o3 K_6 S l1 l4 l5 = some res → W p l e rm_X7_holds s m args below meth c H locs 0 0 (m_Qi below args s G nx κ res) (F0 m 196 ls []) := by
  have hx := X.1.1
  have hb := X.1.2.1
  intro S l1 l4 l5 H locs ls hH hS hl hm
  rw [b_X7_holds_196] at hm
  refine lv_aload_n hx hb dX7_holds_196 rfl (lv_at hl 0 rfl) ?_
  refine r_getp X hH (k := 7) (a := a) (j := 6) (b := (a + 4)) (A := 4) (B := 0) hk_a (by decide) rfl m_wi7 (by decide) in_2_109 rfl rfl rfl dX7_holds_197 ?_
  refine lv_iload hx hb dX7_holds_200 (lv_at hl 4 rfl) ?_
  refine lv_aload_n hx hb dX7_holds_202 rfl (lv_at hl 0 rfl) ?_
  refine lv_iload hx hb dX7_holds_203 (lv_at hl 5 rfl) ?_
  refine lv_iload_n hx hb dX7_holds_205 rfl (lv_at hl 1 rfl) ?_
  refine lv_aload_n hx hb dX7_holds_206 rfl (lv_at hl 2 rfl) ?_
  refine lv_aload_n hx hb dX7_holds_207 rfl (lv_at hl 3 rfl) ?_
  obtain ⟨v2, S1, e_S1, hm⟩ := m_call_of hm
  refine n_cVi X hH hS (k := 7) (c_X7_isTrue (a := a) (o3 := o2) (o4 := o3) hT hk_a hk_o2 hk_o3 e_S1) mw_X7_isTrue in_6_28 hk_a (by decide) rfl rfl rfl ⟨rfl, rfl⟩ ⟨Nat.le_of_ble_eq_true rfl, Nat.le_of_ble_eq_true rfl⟩ ⟨Nat.zero_le _, Nat.zero_le _⟩ hl.1 (Nat.le_of_ble_eq_true rfl) dX7_holds_208 (fun H locs hH hS => ?_)
  obtain ⟨S3, h_S3, e_S3, hm⟩ := n_sti hm
  refine n_zast X hH hS (n := 40) (m_lay_at hT hk_a (by decide) (i := 4) rfl) h_S3 e_S3 dX7_holds_211 (fun H locs hH hS => ?_)
  obtain ⟨v4, e_v4, hm⟩ := m_let_of hm
  refine lv_iinc (v := v4) (lv' := [(4, .int v4), (0, .ref a), (1, .int l1), (2, .ref o2), (3, .ref o3), (5, .int l5)]) hx hb dX7_holds_212 hl (k := 4) rfl (by rw [← e_v4]; rfl) (by decide) rfl (fun ls hl => ?_)
  exact k_X7_holds_215 (a := a) (o2 := o2) (o3 := o3) X hr hT hk_a hk_o2 hk_o3 K_6 hK_6  S3 l1 v4 l5 _ _ _ hH hS (lv_sub hl [1, 2, 3, 4, 0, 5] rfl) hm
def b_X7_holds_149 (a o2 o3 : Nat) (K_6 : m_M → Int32 → Int32 → Int32 → Option (Int32 × m_M)) (S : m_M) (l1 : Int32) (l4 : Int32) (l5 : Int32) : Option (Int32 × m_M) :=
    (m_ldi S (a + 1) 40 l5).bind fun v1 =>
    if v1 = (13 : Int32) then (
    if l4 < (1 : Int32) then (
    b_X7_holds_196 a o2 o3 K_6 S l1 l4 l5) else (
    (m_ldi S (a + 4) 40 (l4 - (1 : Int32))).bind fun v4 =>
    if v4 = 0 then (
    b_X7_holds_192 a o2 o3 K_6 S l1 l4 l5 (l4 - (1 : Int32)) (1 : Int32)) else (
    b_X7_holds_192 a o2 o3 K_6 S l1 l4 l5 (l4 - (1 : Int32)) (0 : Int32)))) else (
    b_X7_holds_196 a o2 o3 K_6 S l1 l4 l5)
set_option maxHeartbeats 4000000 in
set_option maxRecDepth 100000 in
theorem k_X7_holds_149 {p : Program} {l : Launch} {e : Env} {s : State} {m : MethodId} {args : Array Value} {below : List Frame} {meth : Method} {c : Code} {G : m_G} {nx : Nat} {κ : Nat → Nat} {res : (Int32 × m_M)} {a o2 o3 : Nat} (X : m_Cx p s m args meth c cX7_holds 9 RX7 G) (hr : meth.sig.returnType = (some .boolean)) (hT : m_Str κ) (hk_a : κ a = 8) (hk_o2 : κ o2 = 4) (hk_o3 : κ o3 = 3) (K_6 : m_M → Int32 → Int32 → Int32 → Option (Int32 × m_M)) (hK_6 : ∀ (S : m_M) (l1 : Int32) (l4 : Int32) (l5 : Int32) (H : Heap) (locs : List Loc) (ls : Array Slot), m_H G nx κ S H → m_S G s H locs → lv_has ls 9 [(0, .ref a), (1, .int l1), (2, .ref o2), (3, .ref o3), (4, .int l4), (5, .int l5)] → K_6 S l1 l4 l5 = some res → W p l e rm_X7_holds s m args below meth c H locs 0 0 (m_Qi below args s G nx κ res) (F0 m 6 ls [])) : ∀ (S : m_M) (l1 : Int32) (l4 : Int32) (l5 : Int32) (H : Heap) (locs : List Loc) (ls : Array Slot), m_H G nx κ S H → m_S G s H locs → lv_has ls 9 [(0, .ref a), (1, .int l1), (2, .ref o2), (3, .ref o3), (4, .int l4), (5, .int l5)] → b_X7_holds_149 a o2 o3 K_6 S l1 l4 l5 = some res → W p l e rm_X7_holds s m args below meth c H locs 0 0 (m_Qi below args s G nx κ res) (F0 m 149 ls []) := by
  have hx := X.1.1
  have hb := X.1.2.1
  intro S l1 l4 l5 H locs ls hH hS hl hm
  rw [b_X7_holds_149] at hm
  refine lv_aload_n hx hb dX7_holds_149 rfl (lv_at hl 0 rfl) ?_
  refine r_getp X hH (k := 7) (a := a) (j := 3) (b := (a + 1)) (A := 1) (B := 0) hk_a (by decide) rfl m_wi7 (by decide) in_2_106 rfl rfl rfl dX7_holds_150 ?_
  refine lv_iload hx hb dX7_holds_153 (lv_at hl 5 rfl) ?_
  obtain ⟨v1, h_v1, e_v1, hm⟩ := n_ldi hm
  refine n_iald X hH (n := 40) (m_lay_at hT hk_a (by decide) (i := 1) rfl) h_v1 e_v1 dX7_holds_155 ?_
  refine lv_bipush (v := (13 : Int32)) hx hb dX7_holds_156 (by decide) ?_
  refine lv_icmp_ne (tgt := 196) hx hb dX7_holds_158 (by decide) (fun c2 => ?_) (fun c2 => ?_)
  · have hm := m_ite_f hm c2
    exact k_X7_holds_196 (a := a) (o2 := o2) (o3 := o3) X hr hT hk_a hk_o2 hk_o3 K_6 hK_6  S l1 l4 l5 _ _ _ hH hS hl hm
  · have hm := m_ite_t hm c2
    refine lv_iload hx hb dX7_holds_161 (lv_at hl 4 rfl) ?_
    refine lv_iconst (v := (1 : Int32)) hx hb dX7_holds_163 (by decide) ?_
    refine lv_icmp_lt (tgt := 196) hx hb dX7_holds_164 (by decide) (fun c3 => ?_) (fun c3 => ?_)
    · have hm := m_ite_t hm c3
      exact k_X7_holds_196 (a := a) (o2 := o2) (o3 := o3) X hr hT hk_a hk_o2 hk_o3 K_6 hK_6  S l1 l4 l5 _ _ _ hH hS hl hm
    · have hm := m_ite_f hm c3
      refine lv_aload_n hx hb dX7_holds_167 rfl (lv_at hl 0 rfl) ?_
      refine r_getp X hH (k := 7) (a := a) (j := 6) (b := (a + 4)) (A := 4) (B := 0) hk_a (by decide) rfl m_wi7 (by decide) in_2_109 rfl rfl rfl dX7_holds_168 ?_
      refine lv_iload hx hb dX7_holds_171 (lv_at hl 4 rfl) ?_
      refine lv_iconst (v := (1 : Int32)) hx hb dX7_holds_173 (by decide) ?_
      refine lv_isub hx hb dX7_holds_174 ?_
      refine lv_aload_n hx hb dX7_holds_175 rfl (lv_at hl 0 rfl) ?_
      refine r_getp X hH (k := 7) (a := a) (j := 6) (b := (a + 4)) (A := 4) (B := 0) hk_a (by decide) rfl m_wi7 (by decide) in_2_109 rfl rfl rfl dX7_holds_176 ?_
      refine lv_iload hx hb dX7_holds_179 (lv_at hl 4 rfl) ?_
      refine lv_iconst (v := (1 : Int32)) hx hb dX7_holds_181 (by decide) ?_
      refine lv_isub hx hb dX7_holds_182 ?_
      obtain ⟨v4, h_v4, e_v4, hm⟩ := n_ldi hm
      refine n_zald X hH (n := 40) (m_lay_at hT hk_a (by decide) (i := 4) rfl) h_v4 e_v4 dX7_holds_183 ?_
      refine lv_if_ne (tgt := 191) hx hb dX7_holds_184 (by decide) (fun c5 => ?_) (fun c5 => ?_)
      · have hm := m_ite_f hm c5
        refine lv_iconst (v := (0 : Int32)) hx hb dX7_holds_191 (by decide) ?_
        exact k_X7_holds_192 (a := a) (o2 := o2) (o3 := o3) X hr hT hk_a hk_o2 hk_o3 K_6 hK_6  S l1 l4 l5 (l4 - (1 : Int32)) (0 : Int32) _ _ _ hH hS hl hm
      · have hm := m_ite_t hm c5
        refine lv_iconst (v := (1 : Int32)) hx hb dX7_holds_187 (by decide) ?_
        refine lv_goto (tgt := 192) hx hb dX7_holds_188 (by decide) ?_
        exact k_X7_holds_192 (a := a) (o2 := o2) (o3 := o3) X hr hT hk_a hk_o2 hk_o3 K_6 hK_6  S l1 l4 l5 (l4 - (1 : Int32)) (1 : Int32) _ _ _ hH hS hl hm
def b_X7_holds_44 (a o2 o3 : Nat) (K_6 : m_M → Int32 → Int32 → Int32 → Option (Int32 × m_M)) (S : m_M) (l1 : Int32) (l4 : Int32) (l5 : Int32) (t0 : Int32) : Option (Int32 × m_M) :=
    if t0 = 0 then (
    b_X7_holds_149 a o2 o3 K_6 S l1 l4 l5) else (
    if l4 < (2 : Int32) then (
    b_X7_holds_149 a o2 o3 K_6 S l1 l4 l5) else (
    m_let (l4 + (-1 : Int32)) fun v3 =>
    (m_ldi S (a + 4) 40 (v3 - (1 : Int32))).bind fun v4 =>
    if v4 = 0 then (
    b_X7_holds_86 a o2 o3 K_6 S l1 v3 l5) else (
    (m_ldi S (a + 4) 40 v3).bind fun v6 =>
    if v6 = 0 then (
    b_X7_holds_86 a o2 o3 K_6 S l1 v3 l5) else (
    b_X7_holds_87 a o2 o3 K_6 S l1 v3 l5 (1 : Int32)))))
set_option maxHeartbeats 4000000 in
set_option maxRecDepth 100000 in
theorem k_X7_holds_44 {p : Program} {l : Launch} {e : Env} {s : State} {m : MethodId} {args : Array Value} {below : List Frame} {meth : Method} {c : Code} {G : m_G} {nx : Nat} {κ : Nat → Nat} {res : (Int32 × m_M)} {a o2 o3 : Nat} (X : m_Cx p s m args meth c cX7_holds 9 RX7 G) (hr : meth.sig.returnType = (some .boolean)) (hT : m_Str κ) (hk_a : κ a = 8) (hk_o2 : κ o2 = 4) (hk_o3 : κ o3 = 3) (K_6 : m_M → Int32 → Int32 → Int32 → Option (Int32 × m_M)) (hK_6 : ∀ (S : m_M) (l1 : Int32) (l4 : Int32) (l5 : Int32) (H : Heap) (locs : List Loc) (ls : Array Slot), m_H G nx κ S H → m_S G s H locs → lv_has ls 9 [(0, .ref a), (1, .int l1), (2, .ref o2), (3, .ref o3), (4, .int l4), (5, .int l5)] → K_6 S l1 l4 l5 = some res → W p l e rm_X7_holds s m args below meth c H locs 0 0 (m_Qi below args s G nx κ res) (F0 m 6 ls [])) : ∀ (S : m_M) (l1 : Int32) (l4 : Int32) (l5 : Int32) (t0 : Int32) (H : Heap) (locs : List Loc) (ls : Array Slot), m_H G nx κ S H → m_S G s H locs → lv_has ls 9 [(0, .ref a), (1, .int l1), (2, .ref o2), (3, .ref o3), (4, .int l4), (5, .int l5)] → b_X7_holds_44 a o2 o3 K_6 S l1 l4 l5 t0 = some res → W p l e rm_X7_holds s m args below meth c H locs 0 0 (m_Qi below args s G nx κ res) (F0 m 44 ls [.int t0]) := by
  have hx := X.1.1
  have hb := X.1.2.1
  intro S l1 l4 l5 t0 H locs ls hH hS hl hm
  rw [b_X7_holds_44] at hm
  refine lv_istore (lv' := [(6, .int t0), (0, .ref a), (1, .int l1), (2, .ref o2), (3, .ref o3), (4, .int l4), (5, .int l5)]) hx hb dX7_holds_44 hl (by decide) rfl (fun ls hl => ?_)
  refine lv_iload hx hb dX7_holds_46 (lv_at hl 0 rfl) ?_
  refine lv_if_eq (tgt := 149) hx hb dX7_holds_48 (by decide) (fun c1 => ?_) (fun c1 => ?_)
  · have hm := m_ite_t hm c1
    exact k_X7_holds_149 (a := a) (o2 := o2) (o3 := o3) X hr hT hk_a hk_o2 hk_o3 K_6 hK_6  S l1 l4 l5 _ _ _ hH hS (lv_sub hl [1, 2, 3, 4, 5, 6] rfl) hm
  · have hm := m_ite_f hm c1
    refine lv_iload hx hb dX7_holds_51 (lv_at hl 5 rfl) ?_
    refine lv_iconst (v := (2 : Int32)) hx hb dX7_holds_53 (by decide) ?_
    refine lv_icmp_lt (tgt := 149) hx hb dX7_holds_54 (by decide) (fun c2 => ?_) (fun c2 => ?_)
    · have hm := m_ite_t hm c2
      exact k_X7_holds_149 (a := a) (o2 := o2) (o3 := o3) X hr hT hk_a hk_o2 hk_o3 K_6 hK_6  S l1 l4 l5 _ _ _ hH hS (lv_sub hl [1, 2, 3, 4, 5, 6] rfl) hm
    · have hm := m_ite_f hm c2
      obtain ⟨v3, e_v3, hm⟩ := m_let_of hm
      refine lv_iinc (v := v3) (lv' := [(4, .int v3), (6, .int t0), (0, .ref a), (1, .int l1), (2, .ref o2), (3, .ref o3), (5, .int l5)]) hx hb dX7_holds_57 hl (k := 5) rfl (by rw [← e_v3]; rfl) (by decide) rfl (fun ls hl => ?_)
      refine lv_aload_n hx hb dX7_holds_60 rfl (lv_at hl 2 rfl) ?_
      refine r_getp X hH (k := 7) (a := a) (j := 6) (b := (a + 4)) (A := 4) (B := 0) hk_a (by decide) rfl m_wi7 (by decide) in_2_109 rfl rfl rfl dX7_holds_61 ?_
      refine lv_iload hx hb dX7_holds_64 (lv_at hl 0 rfl) ?_
      refine lv_iconst (v := (1 : Int32)) hx hb dX7_holds_66 (by decide) ?_
      refine lv_isub hx hb dX7_holds_67 ?_
      obtain ⟨v4, h_v4, e_v4, hm⟩ := n_ldi hm
      refine n_zald X hH (n := 40) (m_lay_at hT hk_a (by decide) (i := 4) rfl) h_v4 e_v4 dX7_holds_68 ?_
      refine lv_if_eq (tgt := 86) hx hb dX7_holds_69 (by decide) (fun c5 => ?_) (fun c5 => ?_)
      · have hm := m_ite_t hm c5
        exact k_X7_holds_86 (a := a) (o2 := o2) (o3 := o3) X hr hT hk_a hk_o2 hk_o3 K_6 hK_6  S l1 v3 l5 _ _ _ hH hS (lv_sub hl [2, 3, 4, 5, 0, 6] rfl) hm
      · have hm := m_ite_f hm c5
        refine lv_aload_n hx hb dX7_holds_72 rfl (lv_at hl 2 rfl) ?_
        refine r_getp X hH (k := 7) (a := a) (j := 6) (b := (a + 4)) (A := 4) (B := 0) hk_a (by decide) rfl m_wi7 (by decide) in_2_109 rfl rfl rfl dX7_holds_73 ?_
        refine lv_iload hx hb dX7_holds_76 (lv_at hl 0 rfl) ?_
        obtain ⟨v6, h_v6, e_v6, hm⟩ := n_ldi hm
        refine n_zald X hH (n := 40) (m_lay_at hT hk_a (by decide) (i := 4) rfl) h_v6 e_v6 dX7_holds_78 ?_
        refine lv_if_eq (tgt := 86) hx hb dX7_holds_79 (by decide) (fun c7 => ?_) (fun c7 => ?_)
        · have hm := m_ite_t hm c7
          exact k_X7_holds_86 (a := a) (o2 := o2) (o3 := o3) X hr hT hk_a hk_o2 hk_o3 K_6 hK_6  S l1 v3 l5 _ _ _ hH hS (lv_sub hl [2, 3, 4, 5, 0, 6] rfl) hm
        · have hm := m_ite_f hm c7
          refine lv_iconst (v := (1 : Int32)) hx hb dX7_holds_82 (by decide) ?_
          refine lv_goto (tgt := 87) hx hb dX7_holds_83 (by decide) ?_
          exact k_X7_holds_87 (a := a) (o2 := o2) (o3 := o3) X hr hT hk_a hk_o2 hk_o3 K_6 hK_6  S l1 v3 l5 (1 : Int32) _ _ _ hH hS (lv_sub hl [2, 3, 4, 5, 0, 6] rfl) hm
def b_X7_holds_39 (a o2 o3 : Nat) (K_6 : m_M → Int32 → Int32 → Int32 → Option (Int32 × m_M)) (S : m_M) (l1 : Int32) (l4 : Int32) (l5 : Int32) : Option (Int32 × m_M) :=
    b_X7_holds_44 a o2 o3 K_6 S l1 l4 l5 (1 : Int32)
set_option maxHeartbeats 4000000 in
set_option maxRecDepth 100000 in
theorem k_X7_holds_39 {p : Program} {l : Launch} {e : Env} {s : State} {m : MethodId} {args : Array Value} {below : List Frame} {meth : Method} {c : Code} {G : m_G} {nx : Nat} {κ : Nat → Nat} {res : (Int32 × m_M)} {a o2 o3 : Nat} (X : m_Cx p s m args meth c cX7_holds 9 RX7 G) (hr : meth.sig.returnType = (some .boolean)) (hT : m_Str κ) (hk_a : κ a = 8) (hk_o2 : κ o2 = 4) (hk_o3 : κ o3 = 3) (K_6 : m_M → Int32 → Int32 → Int32 → Option (Int32 × m_M)) (hK_6 : ∀ (S : m_M) (l1 : Int32) (l4 : Int32) (l5 : Int32) (H : Heap) (locs : List Loc) (ls : Array Slot), m_H G nx κ S H → m_S G s H locs → lv_has ls 9 [(0, .ref a), (1, .int l1), (2, .ref o2), (3, .ref o3), (4, .int l4), (5, .int l5)] → K_6 S l1 l4 l5 = some res → W p l e rm_X7_holds s m args below meth c H locs 0 0 (m_Qi below args s G nx κ res) (F0 m 6 ls [])) : ∀ (S : m_M) (l1 : Int32) (l4 : Int32) (l5 : Int32) (H : Heap) (locs : List Loc) (ls : Array Slot), m_H G nx κ S H → m_S G s H locs → lv_has ls 9 [(0, .ref a), (1, .int l1), (2, .ref o2), (3, .ref o3), (4, .int l4), (5, .int l5)] → b_X7_holds_39 a o2 o3 K_6 S l1 l4 l5 = some res → W p l e rm_X7_holds s m args below meth c H locs 0 0 (m_Qi below args s G nx κ res) (F0 m 39 ls []) := by
  have hx := X.1.1
  have hb := X.1.2.1
  intro S l1 l4 l5 H locs ls hH hS hl hm
  rw [b_X7_holds_39] at hm
  refine lv_iconst (v := (1 : Int32)) hx hb dX7_holds_39 (by decide) ?_
  refine lv_goto (tgt := 44) hx hb dX7_holds_40 (by decide) ?_
  exact k_X7_holds_44 (a := a) (o2 := o2) (o3 := o3) X hr hT hk_a hk_o2 hk_o3 K_6 hK_6  S l1 l4 l5 (1 : Int32) _ _ _ hH hS hl hm
def b_X7_holds_240 (a o2 o3 : Nat)  (S : m_M) (t0 : Int32) : Option (Int32 × m_M) :=
    if t0 = 0 ∨ t0 = 1 then some (t0, S) else none
set_option maxHeartbeats 4000000 in
set_option maxRecDepth 100000 in
theorem k_X7_holds_240 {p : Program} {l : Launch} {e : Env} {s : State} {m : MethodId} {args : Array Value} {below : List Frame} {meth : Method} {c : Code} {G : m_G} {nx : Nat} {κ : Nat → Nat} {res : (Int32 × m_M)} {a o2 o3 : Nat} (X : m_Cx p s m args meth c cX7_holds 9 RX7 G) (hr : meth.sig.returnType = (some .boolean)) (hT : m_Str κ) (hk_a : κ a = 8) (hk_o2 : κ o2 = 4) (hk_o3 : κ o3 = 3)  : ∀ (S : m_M) (t0 : Int32) (H : Heap) (locs : List Loc) (ls : Array Slot), m_H G nx κ S H → m_S G s H locs → lv_has ls 9 [] → b_X7_holds_240 a o2 o3 S t0 = some res → W p l e rm_X7_holds s m args below meth c H locs 0 0 (m_Qi below args s G nx κ res) (F0 m 240 ls [.int t0]) := by
  have hx := X.1.1
  have hb := X.1.2.1
  intro S t0 H locs ls hH hS hl hm
  rw [b_X7_holds_240] at hm
  exact r_zret X hr hH hS hm dX7_holds_240
def b_X7_holds_239 (a o2 o3 : Nat)  (S : m_M)  : Option (Int32 × m_M) :=
    b_X7_holds_240 a o2 o3 S (0 : Int32)
set_option maxHeartbeats 4000000 in
set_option maxRecDepth 100000 in
theorem k_X7_holds_239 {p : Program} {l : Launch} {e : Env} {s : State} {m : MethodId} {args : Array Value} {below : List Frame} {meth : Method} {c : Code} {G : m_G} {nx : Nat} {κ : Nat → Nat} {res : (Int32 × m_M)} {a o2 o3 : Nat} (X : m_Cx p s m args meth c cX7_holds 9 RX7 G) (hr : meth.sig.returnType = (some .boolean)) (hT : m_Str κ) (hk_a : κ a = 8) (hk_o2 : κ o2 = 4) (hk_o3 : κ o3 = 3)  : ∀ (S : m_M)  (H : Heap) (locs : List Loc) (ls : Array Slot), m_H G nx κ S H → m_S G s H locs → lv_has ls 9 [] → b_X7_holds_239 a o2 o3 S  = some res → W p l e rm_X7_holds s m args below meth c H locs 0 0 (m_Qi below args s G nx κ res) (F0 m 239 ls []) := by
  have hx := X.1.1
  have hb := X.1.2.1
  intro S H locs ls hH hS hl hm
  rw [b_X7_holds_239] at hm
  refine lv_iconst (v := (0 : Int32)) hx hb dX7_holds_239 (by decide) ?_
  exact k_X7_holds_240 (a := a) (o2 := o2) (o3 := o3) X hr hT hk_a hk_o2 hk_o3   S (0 : Int32) _ _ _ hH hS hl hm
def b_X7_holds_6 (a o2 o3 : Nat)  : Nat → m_M → Int32 → Int32 → Int32 → Option (Int32 × m_M)
  | 0, _, _, _, _ => none
  | n + 1, S, l1, l4, l5 =>
    if (m_ri S a 2) ≤ l5 then (
    if l4 ≤ 0 then (
    b_X7_holds_239 a o2 o3 S) else (
    (m_ldi S (a + 4) 40 (0 : Int32)).bind fun v3 =>
    if v3 = 0 then (
    b_X7_holds_239 a o2 o3 S) else (
    b_X7_holds_240 a o2 o3 S (1 : Int32)))) else (
    (m_ldi S (a + 1) 40 l5).bind fun v5 =>
    if v5 = (12 : Int32) then (
    b_X7_holds_39 a o2 o3 (b_X7_holds_6 a o2 o3 n) S l1 l4 l5) else (
    (m_ldi S (a + 1) 40 l5).bind fun v7 =>
    if v7 = (11 : Int32) then (
    b_X7_holds_39 a o2 o3 (b_X7_holds_6 a o2 o3 n) S l1 l4 l5) else (
    b_X7_holds_44 a o2 o3 (b_X7_holds_6 a o2 o3 n) S l1 l4 l5 (0 : Int32))))
set_option maxHeartbeats 4000000 in
set_option maxRecDepth 100000 in
theorem k_X7_holds_6 {p : Program} {l : Launch} {e : Env} {s : State} {m : MethodId} {args : Array Value} {below : List Frame} {meth : Method} {c : Code} {G : m_G} {nx : Nat} {κ : Nat → Nat} {res : (Int32 × m_M)} {a o2 o3 : Nat} (X : m_Cx p s m args meth c cX7_holds 9 RX7 G) (hr : meth.sig.returnType = (some .boolean)) (hT : m_Str κ) (hk_a : κ a = 8) (hk_o2 : κ o2 = 4) (hk_o3 : κ o3 = 3)  (n : Nat) : ∀ (S : m_M) (l1 : Int32) (l4 : Int32) (l5 : Int32) (H : Heap) (locs : List Loc) (ls : Array Slot), m_H G nx κ S H → m_S G s H locs → lv_has ls 9 [(0, .ref a), (1, .int l1), (2, .ref o2), (3, .ref o3), (4, .int l4), (5, .int l5)] → b_X7_holds_6 a o2 o3 n S l1 l4 l5 = some res → W p l e rm_X7_holds s m args below meth c H locs 0 0 (m_Qi below args s G nx κ res) (F0 m 6 ls []) := by
  have hx := X.1.1
  have hb := X.1.2.1
  induction n with
  | zero => intro S l1 l4 l5 H locs ls hH hS hl hm; have hm : (none : Option (Int32 × m_M)) = some res := hm; cases hm
  | succ n ih =>
    intro S l1 l4 l5 H locs ls hH hS hl hm
    rw [b_X7_holds_6] at hm
    refine lv_iload hx hb dX7_holds_6 (lv_at hl 5 rfl) ?_
    refine lv_aload_n hx hb dX7_holds_8 rfl (lv_at hl 0 rfl) ?_
    refine r_geti X hH (k := 7) (a := a) (j := 2) hk_a (by decide) rfl m_wi7 (by decide) in_2_105 rfl rfl dX7_holds_9 ?_
    refine lv_icmp_ge (tgt := 221) hx hb dX7_holds_12 (by decide) (fun c1 => ?_) (fun c1 => ?_)
    · have hm := m_ite_t hm c1
      refine lv_iload hx hb dX7_holds_221 (lv_at hl 4 rfl) ?_
      refine lv_if_le (tgt := 239) hx hb dX7_holds_223 (by decide) (fun c2 => ?_) (fun c2 => ?_)
      · have hm := m_ite_t hm c2
        exact k_X7_holds_239 (a := a) (o2 := o2) (o3 := o3) X hr hT hk_a hk_o2 hk_o3   S _ _ _ hH hS (lv_sub hl [] rfl) hm
      · have hm := m_ite_f hm c2
        refine lv_aload_n hx hb dX7_holds_226 rfl (lv_at hl 0 rfl) ?_
        refine r_getp X hH (k := 7) (a := a) (j := 6) (b := (a + 4)) (A := 4) (B := 0) hk_a (by decide) rfl m_wi7 (by decide) in_2_109 rfl rfl rfl dX7_holds_227 ?_
        refine lv_iconst (v := (0 : Int32)) hx hb dX7_holds_230 (by decide) ?_
        obtain ⟨v3, h_v3, e_v3, hm⟩ := n_ldi hm
        refine n_zald X hH (n := 40) (m_lay_at hT hk_a (by decide) (i := 4) rfl) h_v3 e_v3 dX7_holds_231 ?_
        refine lv_if_eq (tgt := 239) hx hb dX7_holds_232 (by decide) (fun c4 => ?_) (fun c4 => ?_)
        · have hm := m_ite_t hm c4
          exact k_X7_holds_239 (a := a) (o2 := o2) (o3 := o3) X hr hT hk_a hk_o2 hk_o3   S _ _ _ hH hS (lv_sub hl [] rfl) hm
        · have hm := m_ite_f hm c4
          refine lv_iconst (v := (1 : Int32)) hx hb dX7_holds_235 (by decide) ?_
          refine lv_goto (tgt := 240) hx hb dX7_holds_236 (by decide) ?_
          exact k_X7_holds_240 (a := a) (o2 := o2) (o3 := o3) X hr hT hk_a hk_o2 hk_o3   S (1 : Int32) _ _ _ hH hS (lv_sub hl [] rfl) hm
    · have hm := m_ite_f hm c1
      refine lv_aload_n hx hb dX7_holds_15 rfl (lv_at hl 0 rfl) ?_
      refine r_getp X hH (k := 7) (a := a) (j := 3) (b := (a + 1)) (A := 1) (B := 0) hk_a (by decide) rfl m_wi7 (by decide) in_2_106 rfl rfl rfl dX7_holds_16 ?_
      refine lv_iload hx hb dX7_holds_19 (lv_at hl 5 rfl) ?_
      obtain ⟨v5, h_v5, e_v5, hm⟩ := n_ldi hm
      refine n_iald X hH (n := 40) (m_lay_at hT hk_a (by decide) (i := 1) rfl) h_v5 e_v5 dX7_holds_21 ?_
      refine lv_bipush (v := (12 : Int32)) hx hb dX7_holds_22 (by decide) ?_
      refine lv_icmp_eq (tgt := 39) hx hb dX7_holds_24 (by decide) (fun c6 => ?_) (fun c6 => ?_)
      · have hm := m_ite_t hm c6
        exact k_X7_holds_39 (a := a) (o2 := o2) (o3 := o3) X hr hT hk_a hk_o2 hk_o3 (b_X7_holds_6 a o2 o3 n) ih  S l1 l4 l5 _ _ _ hH hS hl hm
      · have hm := m_ite_f hm c6
        refine lv_aload_n hx hb dX7_holds_27 rfl (lv_at hl 0 rfl) ?_
        refine r_getp X hH (k := 7) (a := a) (j := 3) (b := (a + 1)) (A := 1) (B := 0) hk_a (by decide) rfl m_wi7 (by decide) in_2_106 rfl rfl rfl dX7_holds_28 ?_
        refine lv_iload hx hb dX7_holds_31 (lv_at hl 5 rfl) ?_
        obtain ⟨v7, h_v7, e_v7, hm⟩ := n_ldi hm
        refine n_iald X hH (n := 40) (m_lay_at hT hk_a (by decide) (i := 1) rfl) h_v7 e_v7 dX7_holds_33 ?_
        refine lv_bipush (v := (11 : Int32)) hx hb dX7_holds_34 (by decide) ?_
        refine lv_icmp_ne (tgt := 43) hx hb dX7_holds_36 (by decide) (fun c8 => ?_) (fun c8 => ?_)
        · have hm := m_ite_f hm c8
          refine lv_iconst (v := (0 : Int32)) hx hb dX7_holds_43 (by decide) ?_
          exact k_X7_holds_44 (a := a) (o2 := o2) (o3 := o3) X hr hT hk_a hk_o2 hk_o3 (b_X7_holds_6 a o2 o3 n) ih  S l1 l4 l5 (0 : Int32) _ _ _ hH hS hl hm
        · have hm := m_ite_t hm c8
          exact k_X7_holds_39 (a := a) (o2 := o2) (o3 := o3) X hr hT hk_a hk_o2 hk_o3 (b_X7_holds_6 a o2 o3 n) ih  S l1 l4 l5 _ _ _ hH hS hl hm
def f_X7_holds (a o2 o3 : Nat) (S : m_M) (i1 : Int32) : Option (Int32 × m_M) :=
    b_X7_holds_6 a o2 o3 m_fu S i1 (0 : Int32) (0 : Int32)
set_option maxHeartbeats 4000000 in
set_option maxRecDepth 100000 in
theorem c_X7_holds {l : Launch} {G : m_G} {nx : Nat} {κ : Nat → Nat} {a o2 o3 : Nat} {S : m_M} {i1 : Int32} {res : (Int32 × m_M)} (hT : m_Str κ) (hk_a : κ a = 8) (hk_o2 : κ o2 = 4) (hk_o3 : κ o3 = 3) (hm : f_X7_holds a o2 o3 S i1 = some res) : m_Ci l yX7_holds cX7_holds 9 (some .boolean) rm_X7_holds G nx κ [.ref a, .int i1, .ref o2, .ref o3] S res := by
  refine m_Ci.of (by decide) (Nat.le_of_ble_eq_true rfl) ?_
  intro p e s m args below meth c ls X hr hH hl
  have hx := X.1.1
  have hb := X.1.2.1
  have hS : m_S G s s.heap [] := va_S.rf
  have hl : lv_has ls 9 [(0, .ref a), (1, .int i1), (2, .ref o2), (3, .ref o3)] := hl
  rw [f_X7_holds] at hm
  refine lv_iconst (v := (0 : Int32)) hx hb dX7_holds_0 (by decide) ?_
  refine lv_istore (lv' := [(4, .int (0 : Int32)), (0, .ref a), (1, .int i1), (2, .ref o2), (3, .ref o3)]) hx hb dX7_holds_1 hl (by decide) rfl (fun ls hl => ?_)
  refine lv_iconst (v := (0 : Int32)) hx hb dX7_holds_3 (by decide) ?_
  refine lv_istore (lv' := [(5, .int (0 : Int32)), (4, .int (0 : Int32)), (0, .ref a), (1, .int i1), (2, .ref o2), (3, .ref o3)]) hx hb dX7_holds_4 hl (by decide) rfl (fun ls hl => ?_)
  exact k_X7_holds_6 (a := a) (o2 := o2) (o3 := o3) X hr hT hk_a hk_o2 hk_o3  m_fu S i1 (0 : Int32) (0 : Int32) _ _ _ hH hS (lv_sub hl [2, 3, 4, 5, 1, 0] rfl) hm
