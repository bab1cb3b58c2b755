def rm_X11_fun : Room := { frames := 6, cells := 1, slots := 6, locals := 90 }
def b_X11_fun_117 (a : Nat)  (S : m_M) (t0 : Int32) : Option (Option Int32 × m_M) :=
    some (some (t0), S)
set_option maxHeartbeats 4000000 in
set_option maxRecDepth 100000 in
theorem k_X11_fun_117 {p : Program} {l : Launch} {e : Env} {s : State} {m : MethodId} {args : Array Value} {below : List Frame} {meth : Method} {c : Code} {G : m_G} {nx : Nat} {κ : Nat → Nat} {res : (Option Int32 × m_M)} {a : Nat} (X : m_Cx p s m args meth c cX11_fun 4 RX11 G) (hr : x_hr G l s meth c) (hT : m_Str κ) (hk_a : κ a = 12)  : ∀ (S : m_M) (t0 : Int32) (H : Heap) (locs : List Loc) (ls : Array Slot), m_H G nx κ S H → m_S G s H locs → lv_has ls 4 [] → b_X11_fun_117 a S t0 = some res → W p l e rm_X11_fun s m args below meth c H locs 0 0 (x_Q below args s G nx κ res) (F0 m 117 ls [.int t0]) := by
  have hx := X.1.1
  have hb := X.1.2.1
  intro S t0 H locs ls hH hS hl hm
  rw [b_X11_fun_117] at hm
  exact r_xret X hr hH hS hm dX11_fun_117
def f_X11_fun (a : Nat) (S : m_M) (i1 : Int32) (i2 : Int32) : Option (Option Int32 × m_M) :=
    m_call (f_X3_hasFun (a + 48) S i1) fun v2 S1 =>
    if v2 = 0 then (
    some (none, S1)) else (
    if i2 = (0 : Int32) then (
    (m_ldi S1 (a + 50) 5 i1).bind fun v5 =>
    some (some (v5), S1)) else (
    if i2 = (1 : Int32) then (
    (m_ldi S1 (a + 52) 5 i1).bind fun v7 =>
    some (some (v7), S1)) else (
    if i2 = (2 : Int32) then (
    m_call (f_X3_calledBy (a + 48) S1 i1) fun v10 S9 =>
    some (some (v10), S9)) else (
    if i2 = (3 : Int32) then (
    (m_ldi S1 (a + 64) 5 i1).bind fun v12 =>
    some (some (v12), S1)) else (
    if i2 = (4 : Int32) then (
    (m_ldi S1 (a + 65) 5 i1).bind fun v14 =>
    some (some (v14), S1)) else (
    if i2 = (5 : Int32) then (
    m_call (f_X3_endsWithLeavingCall (a + 48) S1 i1) fun v17 S16 =>
    if v17 = 0 then (
    b_X11_fun_117 a S16 (0 : Int32)) else (
    b_X11_fun_117 a S16 (1 : Int32))) else (
    some (none, S1))))))))
set_option maxHeartbeats 4000000 in
set_option maxRecDepth 100000 in
theorem c_X11_fun {l : Launch} {G : m_G} {nx : Nat} {κ : Nat → Nat} {a : Nat} {S : m_M} {i1 : Int32} {i2 : Int32} {res : (Option Int32 × m_M)} (hlt : l.stackTraces = false) (hT : m_Str κ) (hk_a : κ a = 12) (hm : f_X11_fun a S i1 i2 = some res) : x_C l yX11_fun cX11_fun 4 (some .int) rm_X11_fun G nx κ [.ref a, .int i1, .int i2] S res := by
  refine x_C.of hlt (by decide) (Nat.le_of_ble_eq_true rfl) ?_
  intro p e s m args below meth c ls X hr hH hl
  have hx := X.1.1
  have hb := X.1.2.1
  have hS : m_S G s s.heap [] := va_S.rf
  have hl : lv_has ls 4 [(0, .ref a), (1, .int i1), (2, .int i2)] := hl
  rw [f_X11_fun] at hm
  refine lv_aload_n hx hb dX11_fun_0 rfl (lv_at hl 0 rfl) ?_
  refine r_getp X hH (k := 11) (a := a) (j := 6) (b := (a + 47)) (A := 47) (B := 0) hk_a (by decide) rfl m_wi11 (by decide) in_3_79 rfl rfl rfl dX11_fun_1 ?_
  refine r_getp X hH (k := 10) (a := (a + 47)) (j := 0) (b := (a + 48)) (A := 1) (B := 0) (m_lay_at hT hk_a (by decide) (i := 47) rfl) (by decide) rfl m_wi10 (by decide) in_3_23 rfl rfl rfl dX11_fun_4 ?_
  refine lv_astore_n (lv' := [(3, .ref (a + 48)), (0, .ref a), (1, .int i1), (2, .int i2)]) hx hb dX11_fun_7 rfl hl (by decide) rfl (fun ls hl => ?_)
  refine lv_aload_n hx hb dX11_fun_8 rfl (lv_at hl 0 rfl) ?_
  refine lv_iload_n hx hb dX11_fun_9 rfl (lv_at hl 2 rfl) ?_
  obtain ⟨v2, S1, e_S1, hm⟩ := m_call_of hm
  refine n_cVi X hH hS (k := 3) (c_X3_hasFun (a := (a + 48)) hT (m_lay_at hT hk_a (by decide) (i := 48) rfl) e_S1) mw_X3_hasFun in_4_218 (m_lay_at hT hk_a (by decide) (i := 48) rfl) (by decide) rfl rfl rfl ⟨rfl, rfl⟩ ⟨Nat.le_of_ble_eq_true rfl, Nat.le_of_ble_eq_true rfl⟩ ⟨Nat.zero_le _, Nat.zero_le _⟩ hl.1 (Nat.le_of_ble_eq_true rfl) dX11_fun_10 (fun H locs hH hS => ?_)
  refine lv_if_ne (tgt := 24) hx hb dX11_fun_13 (by decide) (fun c3 => ?_) (fun c3 => ?_)
  · have hm := m_ite_f hm c3
    refine lv_iload_n hx hb dX11_fun_24 rfl (lv_at hl 3 rfl) ?_
    by_cases c4 : i2 = (0 : Int32)
    · have hm := m_ite_t hm c4
      refine lv_tableIn (off := 39) (tgt := 64) hx hb dX11_fun_25 (by rw [c4]; decide) (by rw [c4]; decide) (by rw [c4]; rfl) (by decide) ?_
      refine lv_aload_n hx hb dX11_fun_64 rfl (lv_at hl 0 rfl) ?_
      refine r_getp X hH (k := 3) (a := (a + 48)) (j := 3) (b := (a + 50)) (A := 2) (B := 0) (m_lay_at hT hk_a (by decide) (i := 48) rfl) (by decide) rfl m_wi3 (by decide) in_1_135 rfl rfl rfl dX11_fun_65 ?_
      refine lv_iload_n hx hb dX11_fun_68 rfl (lv_at hl 2 rfl) ?_
      obtain ⟨v5, h_v5, e_v5, hm⟩ := n_ldi hm
      refine n_iald X hH (n := 5) (m_lay_at hT hk_a (by decide) (i := 50) rfl) h_v5 e_v5 dX11_fun_69 ?_
      exact r_xret X hr hH hS hm dX11_fun_70
    · have hm := m_ite_f hm c4
      by_cases c6 : i2 = (1 : Int32)
      · have hm := m_ite_t hm c6
        refine lv_tableIn (off := 46) (tgt := 71) hx hb dX11_fun_25 (by rw [c6]; decide) (by rw [c6]; decide) (by rw [c6]; rfl) (by decide) ?_
        refine lv_aload_n hx hb dX11_fun_71 rfl (lv_at hl 0 rfl) ?_
        refine r_getp X hH (k := 3) (a := (a + 48)) (j := 5) (b := (a + 52)) (A := 4) (B := 0) (m_lay_at hT hk_a (by decide) (i := 48) rfl) (by decide) rfl m_wi3 (by decide) in_1_146 rfl rfl rfl dX11_fun_72 ?_
        refine lv_iload_n hx hb dX11_fun_75 rfl (lv_at hl 2 rfl) ?_
        obtain ⟨v7, h_v7, e_v7, hm⟩ := n_ldi hm
        refine n_iald X hH (n := 5) (m_lay_at hT hk_a (by decide) (i := 52) rfl) h_v7 e_v7 dX11_fun_76 ?_
        exact r_xret X hr hH hS hm dX11_fun_77
      · have hm := m_ite_f hm c6
        by_cases c8 : i2 = (2 : Int32)
        · have hm := m_ite_t hm c8
          refine lv_tableIn (off := 53) (tgt := 78) hx hb dX11_fun_25 (by rw [c8]; decide) (by rw [c8]; decide) (by rw [c8]; rfl) (by decide) ?_
          refine lv_aload_n hx hb dX11_fun_78 rfl (lv_at hl 0 rfl) ?_
          refine lv_iload_n hx hb dX11_fun_79 rfl (lv_at hl 2 rfl) ?_
          obtain ⟨v10, S9, e_S9, hm⟩ := m_call_of hm
          refine n_cVi X hH hS (k := 3) (c_X3_calledBy (a := (a + 48)) hT (m_lay_at hT hk_a (by decide) (i := 48) rfl) e_S9) mw_X3_calledBy in_6_128 (m_lay_at hT hk_a (by decide) (i := 48) rfl) (by decide) rfl rfl rfl ⟨rfl, rfl⟩ ⟨Nat.le_of_ble_eq_true rfl, Nat.le_of_ble_eq_true rfl⟩ ⟨Nat.zero_le _, Nat.zero_le _⟩ hl.1 (Nat.le_of_ble_eq_true rfl) dX11_fun_80 (fun H locs hH hS => ?_)
          exact r_xret X hr hH hS hm dX11_fun_83
        · have hm := m_ite_f hm c8
          by_cases c11 : i2 = (3 : Int32)
          · have hm := m_ite_t hm c11
            refine lv_tableIn (off := 59) (tgt := 84) hx hb dX11_fun_25 (by rw [c11]; decide) (by rw [c11]; decide) (by rw [c11]; rfl) (by decide) ?_
            refine lv_aload_n hx hb dX11_fun_84 rfl (lv_at hl 0 rfl) ?_
            refine r_getp X hH (k := 3) (a := (a + 48)) (j := 9) (b := (a + 56)) (A := 8) (B := 0) (m_lay_at hT hk_a (by decide) (i := 48) rfl) (by decide) rfl m_wi3 (by decide) in_1_162 rfl rfl rfl dX11_fun_85 ?_
            refine r_getp X hH (k := 6) (a := (a + 56)) (j := 9) (b := (a + 64)) (A := 8) (B := 0) (m_lay_at hT hk_a (by decide) (i := 56) rfl) (by decide) rfl m_wi6 (by decide) in_1_76 rfl rfl rfl dX11_fun_88 ?_
            refine lv_iload_n hx hb dX11_fun_91 rfl (lv_at hl 2 rfl) ?_
            obtain ⟨v12, h_v12, e_v12, hm⟩ := n_ldi hm
            refine n_iald X hH (n := 5) (m_lay_at hT hk_a (by decide) (i := 64) rfl) h_v12 e_v12 dX11_fun_92 ?_
            exact r_xret X hr hH hS hm dX11_fun_93
          · have hm := m_ite_f hm c11
            by_cases c13 : i2 = (4 : Int32)
            · have hm := m_ite_t hm c13
              refine lv_tableIn (off := 69) (tgt := 94) hx hb dX11_fun_25 (by rw [c13]; decide) (by rw [c13]; decide) (by rw [c13]; rfl) (by decide) ?_
              refine lv_aload_n hx hb dX11_fun_94 rfl (lv_at hl 0 rfl) ?_
              refine r_getp X hH (k := 3) (a := (a + 48)) (j := 9) (b := (a + 56)) (A := 8) (B := 0) (m_lay_at hT hk_a (by decide) (i := 48) rfl) (by decide) rfl m_wi3 (by decide) in_1_162 rfl rfl rfl dX11_fun_95 ?_
              refine r_getp X hH (k := 6) (a := (a + 56)) (j := 10) (b := (a + 65)) (A := 9) (B := 0) (m_lay_at hT hk_a (by decide) (i := 56) rfl) (by decide) rfl m_wi6 (by decide) in_1_78 rfl rfl rfl dX11_fun_98 ?_
              refine lv_iload_n hx hb dX11_fun_101 rfl (lv_at hl 2 rfl) ?_
              obtain ⟨v14, h_v14, e_v14, hm⟩ := n_ldi hm
              refine n_iald X hH (n := 5) (m_lay_at hT hk_a (by decide) (i := 65) rfl) h_v14 e_v14 dX11_fun_102 ?_
              exact r_xret X hr hH hS hm dX11_fun_103
            · have hm := m_ite_f hm c13
              by_cases c15 : i2 = (5 : Int32)
              · have hm := m_ite_t hm c15
                refine lv_tableIn (off := 79) (tgt := 104) hx hb dX11_fun_25 (by rw [c15]; decide) (by rw [c15]; decide) (by rw [c15]; rfl) (by decide) ?_
                refine lv_aload_n hx hb dX11_fun_104 rfl (lv_at hl 0 rfl) ?_
                refine lv_iload_n hx hb dX11_fun_105 rfl (lv_at hl 2 rfl) ?_
                obtain ⟨v17, S16, e_S16, hm⟩ := m_call_of hm
                refine n_cVi X hH hS (k := 3) (c_X3_endsWithLeavingCall (a := (a + 48)) hT (m_lay_at hT hk_a (by decide) (i := 48) rfl) e_S16) mw_X3_endsWithLeavingCall in_6_136 (m_lay_at hT hk_a (by decide) (i := 48) rfl) (by decide) rfl rfl rfl ⟨rfl, rfl⟩ ⟨Nat.le_of_ble_eq_true rfl, Nat.le_of_ble_eq_true rfl⟩ ⟨Nat.zero_le _, Nat.zero_le _⟩ hl.1 (Nat.le_of_ble_eq_true rfl) dX11_fun_106 (fun H locs hH hS => ?_)
                refine lv_if_eq (tgt := 116) hx hb dX11_fun_109 (by decide) (fun c18 => ?_) (fun c18 => ?_)
                · have hm := m_ite_t hm c18
                  refine lv_iconst (v := (0 : Int32)) hx hb dX11_fun_116 (by decide) ?_
                  exact k_X11_fun_117 (a := a) X hr hT hk_a   S16 (0 : Int32) _ _ _ hH hS (lv_sub hl [] rfl) hm
                · have hm := m_ite_f hm c18
                  refine lv_iconst (v := (1 : Int32)) hx hb dX11_fun_112 (by decide) ?_
                  refine lv_goto (tgt := 117) hx hb dX11_fun_113 (by decide) ?_
                  exact k_X11_fun_117 (a := a) X hr hT hk_a   S16 (1 : Int32) _ _ _ hH hS (lv_sub hl [] rfl) hm
              · have hm := m_ite_f hm c15
                refine lv_tableOut (tgt := 118) hx hb dX11_fun_25 (by have h_c4 := lv_neT (a := 0) c4 rfl; have h_c6 := lv_neT (a := 1) c6 rfl; have h_c8 := lv_neT (a := 2) c8 rfl; have h_c11 := lv_neT (a := 3) c11 rfl; have h_c13 := lv_neT (a := 4) c13 rfl; have h_c15 := lv_neT (a := 5) c15 rfl; omega) (by decide) ?_
                exact r_xthrow X hr hH hS hm hl.1 ⟨Nat.le_of_ble_eq_true rfl, Nat.le_of_ble_eq_true rfl, Nat.le_of_ble_eq_true rfl, Nat.le_of_ble_eq_true rfl⟩ dX11_fun_118 dX11_fun_121 dX11_fun_122 dX11_fun_125
  · have hm := m_ite_t hm c3
    exact r_xthrow X hr hH hS hm hl.1 ⟨Nat.le_of_ble_eq_true rfl, Nat.le_of_ble_eq_true rfl, Nat.le_of_ble_eq_true rfl, Nat.le_of_ble_eq_true rfl⟩ dX11_fun_16 dX11_fun_19 dX11_fun_20 dX11_fun_23
def rm_X11_value : Room := { frames := 6, cells := 1, slots := 6, locals := 90 }
def b_X11_value_42 (a : Nat)  (S : m_M)  : Option (Option Int32 × m_M) :=
    some (none, S)
set_option maxHeartbeats 4000000 in
set_option maxRecDepth 100000 in
theorem k_X11_value_42 {p : Program} {l : Launch} {e : Env} {s : State} {m : MethodId} {args : Array Value} {below : List Frame} {meth : Method} {c : Code} {G : m_G} {nx : Nat} {κ : Nat → Nat} {res : (Option Int32 × m_M)} {a : Nat} (X : m_Cx p s m args meth c cX11_value 3 RX11 G) (hr : x_hr G l s meth c) (hT : m_Str κ) (hk_a : κ a = 12)  : ∀ (S : m_M)  (H : Heap) (locs : List Loc) (ls : Array Slot), m_H G nx κ S H → m_S G s H locs → lv_has ls 3 [] → b_X11_value_42 a S  = some res → W p l e rm_X11_value s m args below meth c H locs 0 0 (x_Q below args s G nx κ res) (F0 m 42 ls []) := by
  have hx := X.1.1
  have hb := X.1.2.1
  intro S H locs ls hH hS hl hm
  rw [b_X11_value_42] at hm
  exact r_xthrow X hr hH hS hm hl.1 ⟨Nat.le_of_ble_eq_true rfl, Nat.le_of_ble_eq_true rfl, Nat.le_of_ble_eq_true rfl, Nat.le_of_ble_eq_true rfl⟩ dX11_value_42 dX11_value_45 dX11_value_46 dX11_value_49
def f_X11_value (a : Nat) (S : m_M) (i1 : Int32) (i2 : Int32) : Option (Option Int32 × m_M) :=
    m_call (f_X2_hasVar (a + 70) (a + 48) S i1 i2) fun v2 S1 =>
    if v2 = 0 then (
    b_X11_value_42 a S1) else (
    (m_ldi S1 (a + 73) 351 ((i1 * (27 : Int32)) + i2)).bind fun v4 =>
    if v4 = 0 then (
    b_X11_value_42 a S1) else (
    (m_ldi S1 (a + 74) 351 ((i1 * (27 : Int32)) + i2)).bind fun v6 =>
    some (some (v6), S1)))
set_option maxHeartbeats 4000000 in
set_option maxRecDepth 100000 in
theorem c_X11_value {l : Launch} {G : m_G} {nx : Nat} {κ : Nat → Nat} {a : Nat} {S : m_M} {i1 : Int32} {i2 : Int32} {res : (Option Int32 × m_M)} (hlt : l.stackTraces = false) (hT : m_Str κ) (hk_a : κ a = 12) (hm : f_X11_value a S i1 i2 = some res) : x_C l yX11_value cX11_value 3 (some .int) rm_X11_value G nx κ [.ref a, .int i1, .int i2] S res := by
  refine x_C.of hlt (by decide) (Nat.le_of_ble_eq_true rfl) ?_
  intro p e s m args below meth c ls X hr hH hl
  have hx := X.1.1
  have hb := X.1.2.1
  have hS : m_S G s s.heap [] := va_S.rf
  have hl : lv_has ls 3 [(0, .ref a), (1, .int i1), (2, .int i2)] := hl
  rw [f_X11_value] at hm
  refine lv_aload_n hx hb dX11_value_0 rfl (lv_at hl 0 rfl) ?_
  refine r_getp X hH (k := 11) (a := a) (j := 6) (b := (a + 47)) (A := 47) (B := 0) hk_a (by decide) rfl m_wi11 (by decide) in_3_79 rfl rfl rfl dX11_value_1 ?_
  refine r_getp X hH (k := 10) (a := (a + 47)) (j := 1) (b := (a + 70)) (A := 23) (B := 0) (m_lay_at hT hk_a (by decide) (i := 47) rfl) (by decide) rfl m_wi10 (by decide) in_3_25 rfl rfl rfl dX11_value_4 ?_
  refine lv_aload_n hx hb dX11_value_7 rfl (lv_at hl 0 rfl) ?_
  refine r_getp X hH (k := 11) (a := a) (j := 6) (b := (a + 47)) (A := 47) (B := 0) hk_a (by decide) rfl m_wi11 (by decide) in_3_79 rfl rfl rfl dX11_value_8 ?_
  refine r_getp X hH (k := 10) (a := (a + 47)) (j := 0) (b := (a + 48)) (A := 1) (B := 0) (m_lay_at hT hk_a (by decide) (i := 47) rfl) (by decide) rfl m_wi10 (by decide) in_3_23 rfl rfl rfl dX11_value_11 ?_
  refine lv_iload_n hx hb dX11_value_14 rfl (lv_at hl 1 rfl) ?_
  refine lv_iload_n hx hb dX11_value_15 rfl (lv_at hl 2 rfl) ?_
  obtain ⟨v2, S1, e_S1, hm⟩ := m_call_of hm
  refine n_cVi X hH hS (k := 2) (c_X2_hasVar (a := (a + 70)) (o1 := (a + 48)) hT (m_lay_at hT hk_a (by decide) (i := 70) rfl) (m_lay_at hT hk_a (by decide) (i := 48) rfl) e_S1) mw_X2_hasVar in_5_132 (m_lay_at hT hk_a (by decide) (i := 70) rfl) (by decide) rfl rfl rfl ⟨rfl, rfl⟩ ⟨Nat.le_of_ble_eq_true rfl, Nat.le_of_ble_eq_true rfl⟩ ⟨Nat.zero_le _, Nat.zero_le _⟩ hl.1 (Nat.le_of_ble_eq_true rfl) dX11_value_16 (fun H locs hH hS => ?_)
  refine lv_if_eq (tgt := 42) hx hb dX11_value_19 (by decide) (fun c3 => ?_) (fun c3 => ?_)
  · have hm := m_ite_t hm c3
    exact k_X11_value_42 (a := a) X hr hT hk_a   S1 _ _ _ hH hS (lv_sub hl [] rfl) hm
  · have hm := m_ite_f hm c3
    refine lv_aload_n hx hb dX11_value_22 rfl (lv_at hl 0 rfl) ?_
    refine r_getp X hH (k := 11) (a := a) (j := 6) (b := (a + 47)) (A := 47) (B := 0) hk_a (by decide) rfl m_wi11 (by decide) in_3_79 rfl rfl rfl dX11_value_23 ?_
    refine r_getp X hH (k := 10) (a := (a + 47)) (j := 1) (b := (a + 70)) (A := 23) (B := 0) (m_lay_at hT hk_a (by decide) (i := 47) rfl) (by decide) rfl m_wi10 (by decide) in_3_25 rfl rfl rfl dX11_value_26 ?_
    refine r_getp X hH (k := 2) (a := (a + 70)) (j := 14) (b := (a + 73)) (A := 3) (B := 0) (m_lay_at hT hk_a (by decide) (i := 70) rfl) (by decide) rfl m_wi2 (by decide) in_2_206 rfl rfl rfl dX11_value_29 ?_
    refine lv_iload_n hx hb dX11_value_32 rfl (lv_at hl 1 rfl) ?_
    refine lv_bipush (v := (27 : Int32)) hx hb dX11_value_33 (by decide) ?_
    refine lv_imul hx hb dX11_value_35 ?_
    refine lv_iload_n hx hb dX11_value_36 rfl (lv_at hl 2 rfl) ?_
    refine lv_iadd hx hb dX11_value_37 ?_
    obtain ⟨v4, h_v4, e_v4, hm⟩ := n_ldi hm
    refine n_iald X hH (n := 351) (m_lay_at hT hk_a (by decide) (i := 73) rfl) h_v4 e_v4 dX11_value_38 ?_
    refine lv_if_ne (tgt := 50) hx hb dX11_value_39 (by decide) (fun c5 => ?_) (fun c5 => ?_)
    · have hm := m_ite_f hm c5
      refine lv_aload_n hx hb dX11_value_50 rfl (lv_at hl 0 rfl) ?_
      refine r_getp X hH (k := 11) (a := a) (j := 6) (b := (a + 47)) (A := 47) (B := 0) hk_a (by decide) rfl m_wi11 (by decide) in_3_79 rfl rfl rfl dX11_value_51 ?_
      refine r_getp X hH (k := 10) (a := (a + 47)) (j := 1) (b := (a + 70)) (A := 23) (B := 0) (m_lay_at hT hk_a (by decide) (i := 47) rfl) (by decide) rfl m_wi10 (by decide) in_3_25 rfl rfl rfl dX11_value_54 ?_
      refine r_getp X hH (k := 2) (a := (a + 70)) (j := 15) (b := (a + 74)) (A := 4) (B := 0) (m_lay_at hT hk_a (by decide) (i := 70) rfl) (by decide) rfl m_wi2 (by decide) in_2_209 rfl rfl rfl dX11_value_57 ?_
      refine lv_iload_n hx hb dX11_value_60 rfl (lv_at hl 1 rfl) ?_
      refine lv_bipush (v := (27 : Int32)) hx hb dX11_value_61 (by decide) ?_
      refine lv_imul hx hb dX11_value_63 ?_
      refine lv_iload_n hx hb dX11_value_64 rfl (lv_at hl 2 rfl) ?_
      refine lv_iadd hx hb dX11_value_65 ?_
      obtain ⟨v6, h_v6, e_v6, hm⟩ := n_ldi hm
      refine n_iald X hH (n := 351) (m_lay_at hT hk_a (by decide) (i := 74) rfl) h_v6 e_v6 dX11_value_66 ?_
      exact r_xret X hr hH hS hm dX11_value_67
    · have hm := m_ite_t hm c5
      exact k_X11_value_42 (a := a) X hr hT hk_a   S1 _ _ _ hH hS (lv_sub hl [] rfl) hm
def rm_X11_in : Room := { frames := 6, cells := 1, slots := 6, locals := 90 }
def b_X11_in_23 (a : Nat)  (S : m_M)  : Option (Option Int32 × m_M) :=
    some (none, S)
set_option maxHeartbeats 4000000 in
set_option maxRecDepth 100000 in
theorem k_X11_in_23 {p : Program} {l : Launch} {e : Env} {s : State} {m : MethodId} {args : Array Value} {below : List Frame} {meth : Method} {c : Code} {G : m_G} {nx : Nat} {κ : Nat → Nat} {res : (Option Int32 × m_M)} {a : Nat} (X : m_Cx p s m args meth c cX11_in 3 RX11 G) (hr : x_hr G l s meth c) (hT : m_Str κ) (hk_a : κ a = 12)  : ∀ (S : m_M)  (H : Heap) (locs : List Loc) (ls : Array Slot), m_H G nx κ S H → m_S G s H locs → lv_has ls 3 [] → b_X11_in_23 a S  = some res → W p l e rm_X11_in s m args below meth c H locs 0 0 (x_Q below args s G nx κ res) (F0 m 23 ls []) := by
  have hx := X.1.1
  have hb := X.1.2.1
  intro S H locs ls hH hS hl hm
  rw [b_X11_in_23] at hm
  exact r_xthrow X hr hH hS hm hl.1 ⟨Nat.le_of_ble_eq_true rfl, Nat.le_of_ble_eq_true rfl, Nat.le_of_ble_eq_true rfl, Nat.le_of_ble_eq_true rfl⟩ dX11_in_23 dX11_in_26 dX11_in_27 dX11_in_30
def f_X11_in (a : Nat) (S : m_M) (i1 : Int32) (i2 : Int32) : Option (Option Int32 × m_M) :=
    m_call (f_X2_hasCell (a + 70) S i1) fun v2 S1 =>
    if v2 = 0 then (
    b_X11_in_23 a S1) else (
    if i2 < 0 then (
    b_X11_in_23 a S1) else (
    if i2 ≤ (1 : Int32) then (
    (m_ldi S1 (a + 78) 400 (((2 : Int32) * i1) + i2)).bind fun v6 =>
    some (some (v6), S1)) else (
    b_X11_in_23 a S1)))
set_option maxHeartbeats 4000000 in
set_option maxRecDepth 100000 in
theorem c_X11_in {l : Launch} {G : m_G} {nx : Nat} {κ : Nat → Nat} {a : Nat} {S : m_M} {i1 : Int32} {i2 : Int32} {res : (Option Int32 × m_M)} (hlt : l.stackTraces = false) (hT : m_Str κ) (hk_a : κ a = 12) (hm : f_X11_in a S i1 i2 = some res) : x_C l yX11_in cX11_in 3 (some .int) rm_X11_in G nx κ [.ref a, .int i1, .int i2] S res := by
  refine x_C.of hlt (by decide) (Nat.le_of_ble_eq_true rfl) ?_
  intro p e s m args below meth c ls X hr hH hl
  have hx := X.1.1
  have hb := X.1.2.1
  have hS : m_S G s s.heap [] := va_S.rf
  have hl : lv_has ls 3 [(0, .ref a), (1, .int i1), (2, .int i2)] := hl
  rw [f_X11_in] at hm
  refine lv_aload_n hx hb dX11_in_0 rfl (lv_at hl 0 rfl) ?_
  refine r_getp X hH (k := 11) (a := a) (j := 6) (b := (a + 47)) (A := 47) (B := 0) hk_a (by decide) rfl m_wi11 (by decide) in_3_79 rfl rfl rfl dX11_in_1 ?_
  refine r_getp X hH (k := 10) (a := (a + 47)) (j := 1) (b := (a + 70)) (A := 23) (B := 0) (m_lay_at hT hk_a (by decide) (i := 47) rfl) (by decide) rfl m_wi10 (by decide) in_3_25 rfl rfl rfl dX11_in_4 ?_
  refine lv_iload_n hx hb dX11_in_7 rfl (lv_at hl 1 rfl) ?_
  obtain ⟨v2, S1, e_S1, hm⟩ := m_call_of hm
  refine n_cVi X hH hS (k := 2) (c_X2_hasCell (a := (a + 70)) hT (m_lay_at hT hk_a (by decide) (i := 70) rfl) e_S1) mw_X2_hasCell in_5_141 (m_lay_at hT hk_a (by decide) (i := 70) rfl) (by decide) rfl rfl rfl ⟨rfl, rfl⟩ ⟨Nat.le_of_ble_eq_true rfl, Nat.le_of_ble_eq_true rfl⟩ ⟨Nat.zero_le _, Nat.zero_le _⟩ hl.1 (Nat.le_of_ble_eq_true rfl) dX11_in_8 (fun H locs hH hS => ?_)
  refine lv_if_eq (tgt := 23) hx hb dX11_in_11 (by decide) (fun c3 => ?_) (fun c3 => ?_)
  · have hm := m_ite_t hm c3
    exact k_X11_in_23 (a := a) X hr hT hk_a   S1 _ _ _ hH hS (lv_sub hl [] rfl) hm
  · have hm := m_ite_f hm c3
    refine lv_iload_n hx hb dX11_in_14 rfl (lv_at hl 2 rfl) ?_
    refine lv_if_lt (tgt := 23) hx hb dX11_in_15 (by decide) (fun c4 => ?_) (fun c4 => ?_)
    · have hm := m_ite_t hm c4
      exact k_X11_in_23 (a := a) X hr hT hk_a   S1 _ _ _ hH hS (lv_sub hl [] rfl) hm
    · have hm := m_ite_f hm c4
      refine lv_iload_n hx hb dX11_in_18 rfl (lv_at hl 2 rfl) ?_
      refine lv_iconst (v := (1 : Int32)) hx hb dX11_in_19 (by decide) ?_
      refine lv_icmp_le (tgt := 31) hx hb dX11_in_20 (by decide) (fun c5 => ?_) (fun c5 => ?_)
      · have hm := m_ite_t hm c5
        refine lv_aload_n hx hb dX11_in_31 rfl (lv_at hl 0 rfl) ?_
        refine r_getp X hH (k := 11) (a := a) (j := 6) (b := (a + 47)) (A := 47) (B := 0) hk_a (by decide) rfl m_wi11 (by decide) in_3_79 rfl rfl rfl dX11_in_32 ?_
        refine r_getp X hH (k := 10) (a := (a + 47)) (j := 1) (b := (a + 70)) (A := 23) (B := 0) (m_lay_at hT hk_a (by decide) (i := 47) rfl) (by decide) rfl m_wi10 (by decide) in_3_25 rfl rfl rfl dX11_in_35 ?_
        refine r_getp X hH (k := 2) (a := (a + 70)) (j := 19) (b := (a + 78)) (A := 8) (B := 0) (m_lay_at hT hk_a (by decide) (i := 70) rfl) (by decide) rfl m_wi2 (by decide) in_2_218 rfl rfl rfl dX11_in_38 ?_
        refine lv_iconst (v := (2 : Int32)) hx hb dX11_in_41 (by decide) ?_
        refine lv_iload_n hx hb dX11_in_42 rfl (lv_at hl 1 rfl) ?_
        refine lv_imul hx hb dX11_in_43 ?_
        refine lv_iload_n hx hb dX11_in_44 rfl (lv_at hl 2 rfl) ?_
        refine lv_iadd hx hb dX11_in_45 ?_
        obtain ⟨v6, h_v6, e_v6, hm⟩ := n_ldi hm
        refine n_iald X hH (n := 400) (m_lay_at hT hk_a (by decide) (i := 78) rfl) h_v6 e_v6 dX11_in_46 ?_
        exact r_xret X hr hH hS hm dX11_in_47
      · have hm := m_ite_f hm c5
        exact k_X11_in_23 (a := a) X hr hT hk_a   S1 _ _ _ hH hS (lv_sub hl [] rfl) hm
def rm_X11_result : Room := { frames := 6, cells := 1, slots := 6, locals := 90 }
def f_X11_result (a : Nat) (S : m_M)  : Option (Option Int32 × m_M) :=
    if (m_ri S (a + 70) 0) = (2 : Int32) then (
    some (some ((m_ri S (a + 70) 10)), S)) else (
    some (none, S))
set_option maxHeartbeats 4000000 in
set_option maxRecDepth 100000 in
theorem c_X11_result {l : Launch} {G : m_G} {nx : Nat} {κ : Nat → Nat} {a : Nat} {S : m_M}  {res : (Option Int32 × m_M)} (hlt : l.stackTraces = false) (hT : m_Str κ) (hk_a : κ a = 12) (hm : f_X11_result a S = some res) : x_C l yX11_result cX11_result 1 (some .int) rm_X11_result G nx κ [.ref a] S res := by
  refine x_C.of hlt (by decide) (Nat.le_of_ble_eq_true rfl) ?_
  intro p e s m args below meth c ls X hr hH hl
  have hx := X.1.1
  have hb := X.1.2.1
  have hS : m_S G s s.heap [] := va_S.rf
  have hl : lv_has ls 1 [(0, .ref a)] := hl
  rw [f_X11_result] at hm
  refine lv_aload_n hx hb dX11_result_0 rfl (lv_at hl 0 rfl) ?_
  refine r_getp X hH (k := 11) (a := a) (j := 6) (b := (a + 47)) (A := 47) (B := 0) hk_a (by decide) rfl m_wi11 (by decide) in_3_79 rfl rfl rfl dX11_result_1 ?_
  refine r_getp X hH (k := 10) (a := (a + 47)) (j := 1) (b := (a + 70)) (A := 23) (B := 0) (m_lay_at hT hk_a (by decide) (i := 47) rfl) (by decide) rfl m_wi10 (by decide) in_3_25 rfl rfl rfl dX11_result_4 ?_
  refine r_geti X hH (k := 2) (a := (a + 70)) (j := 0) (m_lay_at hT hk_a (by decide) (i := 70) rfl) (by decide) rfl m_wi2 (by decide) in_2_177 rfl rfl dX11_result_7 ?_
  refine lv_iconst (v := (2 : Int32)) hx hb dX11_result_10 (by decide) ?_
  refine lv_icmp_eq (tgt := 22) hx hb dX11_result_11 (by decide) (fun c1 => ?_) (fun c1 => ?_)
  · have hm := m_ite_t hm c1
    refine lv_aload_n hx hb dX11_result_22 rfl (lv_at hl 0 rfl) ?_
    refine r_getp X hH (k := 11) (a := a) (j := 6) (b := (a + 47)) (A := 47) (B := 0) hk_a (by decide) rfl m_wi11 (by decide) in_3_79 rfl rfl rfl dX11_result_23 ?_
    refine r_getp X hH (k := 10) (a := (a + 47)) (j := 1) (b := (a + 70)) (A := 23) (B := 0) (m_lay_at hT hk_a (by decide) (i := 47) rfl) (by decide) rfl m_wi10 (by decide) in_3_25 rfl rfl rfl dX11_result_26 ?_
    refine r_geti X hH (k := 2) (a := (a + 70)) (j := 10) (m_lay_at hT hk_a (by decide) (i := 70) rfl) (by decide) rfl m_wi2 (by decide) in_2_198 rfl rfl dX11_result_29 ?_
    exact r_xret X hr hH hS hm dX11_result_32
  · have hm := m_ite_f hm c1
    exact r_xthrow X hr hH hS hm hl.1 ⟨Nat.le_of_ble_eq_true rfl, Nat.le_of_ble_eq_true rfl, Nat.le_of_ble_eq_true rfl, Nat.le_of_ble_eq_true rfl⟩ dX11_result_14 dX11_result_17 dX11_result_18 dX11_result_21
