def rm_X2_settle : Room := { frames := 3, cells := 0, slots := 0, locals := 107 }
def b_X2_settle_133 (a o1 : Nat)  (S : m_M)  : Option m_M :=
    m_let (m_si S a 0 (2 : Int32)) fun S1 =>
    some S1
set_option maxHeartbeats 4000000 in
set_option maxRecDepth 100000 in
theorem k_X2_settle_133 {p : Program} {l : Launch} {e : Env} {s : State} {m : MethodId} {args : Array Value} {below : List Frame} {meth : Method} {c : Code} {G : m_G} {nx : Nat} {κ : Nat → Nat} {res : m_M} {a o1 : Nat} (X : m_Cx p s m args meth c cX2_settle 5 RX2 G) (hr : meth.sig.returnType = none) (hT : m_Str κ) (hk_a : κ a = 3) (hk_o1 : κ o1 = 4)  : ∀ (S : m_M)  (H : Heap) (locs : List Loc) (ls : Array Slot), m_H G nx κ S H → m_S G s H locs → lv_has ls 5 [(0, .ref a)] → b_X2_settle_133 a o1 S  = some res → W p l e rm_X2_settle s m args below meth c H locs 0 0 (m_Qv below args s G nx κ res) (F0 m 133 ls []) := by
  have hx := X.1.1
  have hb := X.1.2.1
  intro S H locs ls hH hS hl hm
  rw [b_X2_settle_133] at hm
  refine lv_aload_n hx hb dX2_settle_133 rfl (lv_at hl 0 rfl) ?_
  refine lv_iconst (v := (2 : Int32)) hx hb dX2_settle_134 (by decide) ?_
  obtain ⟨S1, e_S1, hm⟩ := m_let_of hm
  refine n_puti X hH hS tyX2 (k := 2) (a := a) (j := 0) hk_a (by decide) rfl m_wi2 tyX2_ok nmX2 (by decide) in_2_176 rfl rfl rfl ⟨rfl, rfl⟩ e_S1 dX2_settle_135 (fun H locs hH hS => ?_)
  exact r_vret X hr hH hS hm dX2_settle_138
def b_X2_settle_2 (a o1 : Nat)  : Nat → m_M → Int32 → Option m_M
  | 0, _, _ => none
  | n + 1, S, l2 =>
    if (12 : Int32) ≤ l2 then (
    b_X2_settle_133 a o1 S) else (
    if (m_ri S a 2) ≤ 0 then (
    b_X2_settle_133 a o1 S) else (
    m_let ((m_ri S a 2) - (1 : Int32)) fun v3 =>
    (m_ldi S (a + 1) 13 v3).bind fun v4 =>
    (m_ldi S (o1 + 2) 5 v4).bind fun v5 =>
    (m_ldi S (a + 2) 13 v3).bind fun v6 =>
    m_cal0 (f_X2_setVar a S v3 (v5 + v6) (m_ri S a 9) (m_ri S a 10)) fun S7 =>
    (m_ldi S7 (o1 + 3) 5 v4).bind fun v8 =>
    (m_ldi S7 (a + 2) 13 v3).bind fun v9 =>
    (m_ldi S7 (o1 + 21) 24 (v8 + v9)).bind fun v10 =>
    m_cal0 (f_X2_freeRooms a o1 S7 v3 v10) fun S11 =>
    (m_ldi S11 (a + 2) 13 v3).bind fun v12 =>
    (m_sti S11 (a + 2) 13 v3 (v12 + (1 : Int32))).bind fun S13 =>
    (m_ldi S13 (a + 2) 13 v3).bind fun v14 =>
    (m_ldi S13 (o1 + 4) 5 v4).bind fun v15 =>
    if v15 ≤ v14 then (
    m_let (m_si S13 a 2 ((m_ri S13 a 2) - (1 : Int32))) fun S17 =>
    m_let (m_si S17 a 11 (1 : Int32)) fun S18 =>
    m_let (l2 + (1 : Int32)) fun v19 =>
    b_X2_settle_2 a o1 n S18 v19) else (
    some S13)))
set_option maxHeartbeats 4000000 in
set_option maxRecDepth 100000 in
theorem k_X2_settle_2 {p : Program} {l : Launch} {e : Env} {s : State} {m : MethodId} {args : Array Value} {below : List Frame} {meth : Method} {c : Code} {G : m_G} {nx : Nat} {κ : Nat → Nat} {res : m_M} {a o1 : Nat} (X : m_Cx p s m args meth c cX2_settle 5 RX2 G) (hr : meth.sig.returnType = none) (hT : m_Str κ) (hk_a : κ a = 3) (hk_o1 : κ o1 = 4)  (n : Nat) : ∀ (S : m_M) (l2 : Int32) (H : Heap) (locs : List Loc) (ls : Array Slot), m_H G nx κ S H → m_S G s H locs → lv_has ls 5 [(0, .ref a), (1, .ref o1), (2, .int l2)] → b_X2_settle_2 a o1 n S l2 = some res → W p l e rm_X2_settle s m args below meth c H locs 0 0 (m_Qv below args s G nx κ res) (F0 m 2 ls []) := by
  have hx := X.1.1
  have hb := X.1.2.1
  induction n with
  | zero => intro S l2 H locs ls hH hS hl hm; have hm : (none : Option m_M) = some res := hm; cases hm
  | succ n ih =>
    intro S l2 H locs ls hH hS hl hm
    rw [b_X2_settle_2] at hm
    refine lv_iload_n hx hb dX2_settle_2 rfl (lv_at hl 2 rfl) ?_
    refine lv_bipush (v := (12 : Int32)) hx hb dX2_settle_3 (by decide) ?_
    refine lv_icmp_ge (tgt := 133) hx hb dX2_settle_5 (by decide) (fun c1 => ?_) (fun c1 => ?_)
    · have hm := m_ite_t hm c1
      exact k_X2_settle_133 (a := a) (o1 := o1) X hr hT hk_a hk_o1   S _ _ _ hH hS (lv_sub hl [0] rfl) hm
    · have hm := m_ite_f hm c1
      refine lv_aload_n hx hb dX2_settle_8 rfl (lv_at hl 0 rfl) ?_
      refine r_geti X hH (k := 2) (a := a) (j := 2) hk_a (by decide) rfl m_wi2 (by decide) in_2_180 rfl rfl dX2_settle_9 ?_
      refine lv_if_le (tgt := 133) hx hb dX2_settle_12 (by decide) (fun c2 => ?_) (fun c2 => ?_)
      · have hm := m_ite_t hm c2
        exact k_X2_settle_133 (a := a) (o1 := o1) X hr hT hk_a hk_o1   S _ _ _ hH hS (lv_sub hl [0] rfl) hm
      · have hm := m_ite_f hm c2
        refine lv_aload_n hx hb dX2_settle_15 rfl (lv_at hl 0 rfl) ?_
        refine r_geti X hH (k := 2) (a := a) (j := 2) hk_a (by decide) rfl m_wi2 (by decide) in_2_180 rfl rfl dX2_settle_16 ?_
        refine lv_iconst (v := (1 : Int32)) hx hb dX2_settle_19 (by decide) ?_
        refine lv_isub hx hb dX2_settle_20 ?_
        obtain ⟨v3, e_v3, hm⟩ := m_let_of hm
        refine n_topi e_v3 ?_
        refine lv_istore_n (lv' := [(3, .int v3), (0, .ref a), (1, .ref o1), (2, .int l2)]) hx hb dX2_settle_21 rfl hl (by decide) rfl (fun ls hl => ?_)
        refine lv_aload_n hx hb dX2_settle_22 rfl (lv_at hl 1 rfl) ?_
        refine r_getp X hH (k := 2) (a := a) (j := 12) (b := (a + 1)) (A := 1) (B := 0) hk_a (by decide) rfl m_wi2 (by decide) in_2_201 rfl rfl rfl dX2_settle_23 ?_
        refine lv_iload_n hx hb dX2_settle_26 rfl (lv_at hl 0 rfl) ?_
        obtain ⟨v4, h_v4, e_v4, hm⟩ := n_ldi hm
        refine n_iald X hH (n := 13) (m_lay_at hT hk_a (by decide) (i := 1) rfl) h_v4 e_v4 dX2_settle_27 ?_
        refine lv_istore (lv' := [(4, .int v4), (3, .int v3), (0, .ref a), (1, .ref o1), (2, .int l2)]) hx hb dX2_settle_28 hl (by decide) rfl (fun ls hl => ?_)
        refine lv_aload_n hx hb dX2_settle_30 rfl (lv_at hl 2 rfl) ?_
        refine lv_iload_n hx hb dX2_settle_31 rfl (lv_at hl 1 rfl) ?_
        refine lv_aload_n hx hb dX2_settle_32 rfl (lv_at hl 3 rfl) ?_
        refine r_getp X hH (k := 3) (a := o1) (j := 3) (b := (o1 + 2)) (A := 2) (B := 0) hk_o1 (by decide) rfl m_wi3 (by decide) in_1_138 rfl rfl rfl dX2_settle_33 ?_
        refine lv_iload hx hb dX2_settle_36 (lv_at hl 0 rfl) ?_
        obtain ⟨v5, h_v5, e_v5, hm⟩ := n_ldi hm
        refine n_iald X hH (n := 5) (m_lay_at hT hk_o1 (by decide) (i := 2) rfl) h_v5 e_v5 dX2_settle_38 ?_
        refine lv_aload_n hx hb dX2_settle_39 rfl (lv_at hl 2 rfl) ?_
        refine r_getp X hH (k := 2) (a := a) (j := 13) (b := (a + 2)) (A := 2) (B := 0) hk_a (by decide) rfl m_wi2 (by decide) in_2_203 rfl rfl rfl dX2_settle_40 ?_
        refine lv_iload_n hx hb dX2_settle_43 rfl (lv_at hl 1 rfl) ?_
        obtain ⟨v6, h_v6, e_v6, hm⟩ := n_ldi hm
        refine n_iald X hH (n := 13) (m_lay_at hT hk_a (by decide) (i := 2) rfl) h_v6 e_v6 dX2_settle_44 ?_
        refine lv_iadd hx hb dX2_settle_45 ?_
        refine lv_aload_n hx hb dX2_settle_46 rfl (lv_at hl 2 rfl) ?_
        refine r_geti X hH (k := 2) (a := a) (j := 9) hk_a (by decide) rfl m_wi2 (by decide) in_2_195 rfl rfl dX2_settle_47 ?_
        refine lv_aload_n hx hb dX2_settle_50 rfl (lv_at hl 2 rfl) ?_
        refine r_geti X hH (k := 2) (a := a) (j := 10) hk_a (by decide) rfl m_wi2 (by decide) in_2_196 rfl rfl dX2_settle_51 ?_
        obtain ⟨S7, e_S7, hm⟩ := m_cal0_of hm
        refine r_cVv X hH hS (k := 2) (c_X2_setVar (a := a) hT hk_a e_S7) mw_X2_setVar in_5_15 hk_a (by decide) rfl rfl rfl ⟨rfl, rfl⟩ ⟨Nat.le_of_ble_eq_true rfl, Nat.le_of_ble_eq_true rfl⟩ ⟨Nat.zero_le _, Nat.zero_le _⟩ hl.1 (Nat.le_of_ble_eq_true rfl) dX2_settle_54 (fun H locs hH hS => ?_)
        refine lv_aload_n hx hb dX2_settle_57 rfl (lv_at hl 2 rfl) ?_
        refine lv_aload_n hx hb dX2_settle_58 rfl (lv_at hl 3 rfl) ?_
        refine lv_iload_n hx hb dX2_settle_59 rfl (lv_at hl 1 rfl) ?_
        refine lv_aload_n hx hb dX2_settle_60 rfl (lv_at hl 3 rfl) ?_
        refine r_getp X hH (k := 3) (a := o1) (j := 9) (b := (o1 + 8)) (A := 8) (B := 0) hk_o1 (by decide) rfl m_wi3 (by decide) in_1_161 rfl rfl rfl dX2_settle_61 ?_
        refine r_getp X hH (k := 6) (a := (o1 + 8)) (j := 14) (b := (o1 + 21)) (A := 13) (B := 0) (m_lay_at hT hk_o1 (by decide) (i := 8) rfl) (by decide) rfl m_wi6 (by decide) in_1_87 rfl rfl rfl dX2_settle_64 ?_
        refine lv_aload_n hx hb dX2_settle_67 rfl (lv_at hl 3 rfl) ?_
        refine r_getp X hH (k := 3) (a := o1) (j := 4) (b := (o1 + 3)) (A := 3) (B := 0) hk_o1 (by decide) rfl m_wi3 (by decide) in_1_142 rfl rfl rfl dX2_settle_68 ?_
        refine lv_iload hx hb dX2_settle_71 (lv_at hl 0 rfl) ?_
        obtain ⟨v8, h_v8, e_v8, hm⟩ := n_ldi hm
        refine n_iald X hH (n := 5) (m_lay_at hT hk_o1 (by decide) (i := 3) rfl) h_v8 e_v8 dX2_settle_73 ?_
        refine lv_aload_n hx hb dX2_settle_74 rfl (lv_at hl 2 rfl) ?_
        refine r_getp X hH (k := 2) (a := a) (j := 13) (b := (a + 2)) (A := 2) (B := 0) hk_a (by decide) rfl m_wi2 (by decide) in_2_203 rfl rfl rfl dX2_settle_75 ?_
        refine lv_iload_n hx hb dX2_settle_78 rfl (lv_at hl 1 rfl) ?_
        obtain ⟨v9, h_v9, e_v9, hm⟩ := n_ldi hm
        refine n_iald X hH (n := 13) (m_lay_at hT hk_a (by decide) (i := 2) rfl) h_v9 e_v9 dX2_settle_79 ?_
        refine lv_iadd hx hb dX2_settle_80 ?_
        obtain ⟨v10, h_v10, e_v10, hm⟩ := n_ldi hm
        refine n_iald X hH (n := 24) (m_lay_at hT hk_o1 (by decide) (i := 21) rfl) h_v10 e_v10 dX2_settle_81 ?_
        obtain ⟨S11, e_S11, hm⟩ := m_cal0_of hm
        refine r_cVv X hH hS (k := 2) (c_X2_freeRooms (a := a) (o1 := o1) hT hk_a hk_o1 e_S11) mw_X2_freeRooms in_5_106 hk_a (by decide) rfl rfl rfl ⟨rfl, rfl⟩ ⟨Nat.le_of_ble_eq_true rfl, Nat.le_of_ble_eq_true rfl⟩ ⟨Nat.zero_le _, Nat.zero_le _⟩ hl.1 (Nat.le_of_ble_eq_true rfl) dX2_settle_82 (fun H locs hH hS => ?_)
        refine lv_aload_n hx hb dX2_settle_85 rfl (lv_at hl 2 rfl) ?_
        refine r_getp X hH (k := 2) (a := a) (j := 13) (b := (a + 2)) (A := 2) (B := 0) hk_a (by decide) rfl m_wi2 (by decide) in_2_203 rfl rfl rfl dX2_settle_86 ?_
        refine lv_iload_n hx hb dX2_settle_89 rfl (lv_at hl 1 rfl) ?_
        refine lv_dup2_11 hx hb dX2_settle_90 rfl rfl ?_
        obtain ⟨v12, h_v12, e_v12, hm⟩ := n_ldi hm
        refine n_iald X hH (n := 13) (m_lay_at hT hk_a (by decide) (i := 2) rfl) h_v12 e_v12 dX2_settle_91 ?_
        refine lv_iconst (v := (1 : Int32)) hx hb dX2_settle_92 (by decide) ?_
        refine lv_iadd hx hb dX2_settle_93 ?_
        obtain ⟨S13, h_S13, e_S13, hm⟩ := n_sti hm
        refine n_iast X hH hS (n := 13) (m_lay_at hT hk_a (by decide) (i := 2) rfl) h_S13 e_S13 dX2_settle_94 (fun H locs hH hS => ?_)
        refine lv_aload_n hx hb dX2_settle_95 rfl (lv_at hl 2 rfl) ?_
        refine r_getp X hH (k := 2) (a := a) (j := 13) (b := (a + 2)) (A := 2) (B := 0) hk_a (by decide) rfl m_wi2 (by decide) in_2_203 rfl rfl rfl dX2_settle_96 ?_
        refine lv_iload_n hx hb dX2_settle_99 rfl (lv_at hl 1 rfl) ?_
        obtain ⟨v14, h_v14, e_v14, hm⟩ := n_ldi hm
        refine n_iald X hH (n := 13) (m_lay_at hT hk_a (by decide) (i := 2) rfl) h_v14 e_v14 dX2_settle_100 ?_
        refine lv_aload_n hx hb dX2_settle_101 rfl (lv_at hl 3 rfl) ?_
        refine r_getp X hH (k := 3) (a := o1) (j := 5) (b := (o1 + 4)) (A := 4) (B := 0) hk_o1 (by decide) rfl m_wi3 (by decide) in_1_148 rfl rfl rfl dX2_settle_102 ?_
        refine lv_iload hx hb dX2_settle_105 (lv_at hl 0 rfl) ?_
        obtain ⟨v15, h_v15, e_v15, hm⟩ := n_ldi hm
        refine n_iald X hH (n := 5) (m_lay_at hT hk_o1 (by decide) (i := 4) rfl) h_v15 e_v15 dX2_settle_107 ?_
        refine lv_icmp_ge (tgt := 112) hx hb dX2_settle_108 (by decide) (fun c16 => ?_) (fun c16 => ?_)
        · have hm := m_ite_t hm c16
          refine lv_aload_n hx hb dX2_settle_112 rfl (lv_at hl 2 rfl) ?_
          refine lv_dup hx hb dX2_settle_113 rfl ?_
          refine r_geti X hH (k := 2) (a := a) (j := 2) hk_a (by decide) rfl m_wi2 (by decide) in_2_180 rfl rfl dX2_settle_114 ?_
          refine lv_iconst (v := (1 : Int32)) hx hb dX2_settle_117 (by decide) ?_
          refine lv_isub hx hb dX2_settle_118 ?_
          obtain ⟨S17, e_S17, hm⟩ := m_let_of hm
          refine n_puti X hH hS tyX2 (k := 2) (a := a) (j := 2) hk_a (by decide) rfl m_wi2 tyX2_ok nmX2 (by decide) in_2_180 rfl rfl rfl ⟨rfl, rfl⟩ e_S17 dX2_settle_119 (fun H locs hH hS => ?_)
          refine lv_aload_n hx hb dX2_settle_122 rfl (lv_at hl 2 rfl) ?_
          refine lv_iconst (v := (1 : Int32)) hx hb dX2_settle_123 (by decide) ?_
          obtain ⟨S18, e_S18, hm⟩ := m_let_of hm
          refine n_puti X hH hS tyX2 (k := 2) (a := a) (j := 11) hk_a (by decide) rfl m_wi2 tyX2_ok nmX2 (by decide) in_2_199 rfl rfl rfl (m_nz (by decide)) e_S18 dX2_settle_124 (fun H locs hH hS => ?_)
          obtain ⟨v19, e_v19, hm⟩ := m_let_of hm
          refine lv_iinc (v := v19) (lv' := [(2, .int v19), (4, .int v4), (3, .int v3), (0, .ref a), (1, .ref o1)]) hx hb dX2_settle_127 hl (k := 4) rfl (by rw [← e_v19]; rfl) (by decide) rfl (fun ls hl => ?_)
          refine lv_goto (tgt := 2) hx hb dX2_settle_130 (by decide) ?_
          exact ih S18 v19 _ _ _ hH hS (lv_sub hl [3, 4, 0] rfl) hm
        · have hm := m_ite_f hm c16
          exact r_vret X hr hH hS hm dX2_settle_111
def f_X2_settle (a o1 : Nat) (S : m_M)  : Option m_M :=
    b_X2_settle_2 a o1 m_fu S (0 : Int32)
set_option maxHeartbeats 4000000 in
set_option maxRecDepth 100000 in
theorem c_X2_settle {l : Launch} {G : m_G} {nx : Nat} {κ : Nat → Nat} {a o1 : Nat} {S : m_M}  {res : m_M} (hT : m_Str κ) (hk_a : κ a = 3) (hk_o1 : κ o1 = 4) (hm : f_X2_settle a o1 S = some res) : m_Cv l yX2_settle cX2_settle 5 rm_X2_settle G nx κ [.ref a, .ref o1] S res := by
  refine m_Cv.of (by decide) (Nat.le_of_ble_eq_true rfl) ?_
  intro p e s m args below meth c ls X hr hH hl
  have hx := X.1.1
  have hb := X.1.2.1
  have hS : m_S G s s.heap [] := va_S.rf
  have hl : lv_has ls 5 [(0, .ref a), (1, .ref o1)] := hl
  rw [f_X2_settle] at hm
  refine lv_iconst (v := (0 : Int32)) hx hb dX2_settle_0 (by decide) ?_
  refine lv_istore_n (lv' := [(2, .int (0 : Int32)), (0, .ref a), (1, .ref o1)]) hx hb dX2_settle_1 rfl hl (by decide) rfl (fun ls hl => ?_)
  exact k_X2_settle_2 (a := a) (o1 := o1) X hr hT hk_a hk_o1  m_fu S (0 : Int32) _ _ _ hH hS (lv_sub hl [1, 2, 0] rfl) hm
def rm_X2_makeStep : Room := { frames := 4, cells := 0, slots := 0, locals := 131 }
def b_X2_makeStep_15 (a o1 : Nat)  (S : m_M)  : Option m_M :=
    some S
set_option maxHeartbeats 4000000 in
set_option maxRecDepth 100000 in
theorem k_X2_makeStep_15 {p : Program} {l : Launch} {e : Env} {s : State} {m : MethodId} {args : Array Value} {below : List Frame} {meth : Method} {c : Code} {G : m_G} {nx : Nat} {κ : Nat → Nat} {res : m_M} {a o1 : Nat} (X : m_Cx p s m args meth c cX2_makeStep 5 RX2 G) (hr : meth.sig.returnType = none) (hT : m_Str κ) (hk_a : κ a = 3) (hk_o1 : κ o1 = 4)  : ∀ (S : m_M)  (H : Heap) (locs : List Loc) (ls : Array Slot), m_H G nx κ S H → m_S G s H locs → lv_has ls 5 [] → b_X2_makeStep_15 a o1 S  = some res → W p l e rm_X2_makeStep s m args below meth c H locs 0 0 (m_Qv below args s G nx κ res) (F0 m 15 ls []) := by
  have hx := X.1.1
  have hb := X.1.2.1
  intro S H locs ls hH hS hl hm
  rw [b_X2_makeStep_15] at hm
  exact r_vret X hr hH hS hm dX2_makeStep_15
def b_X2_makeStep_134 (a o1 : Nat)  (S : m_M)  : Option m_M :=
    some S
set_option maxHeartbeats 4000000 in
set_option maxRecDepth 100000 in
theorem k_X2_makeStep_134 {p : Program} {l : Launch} {e : Env} {s : State} {m : MethodId} {args : Array Value} {below : List Frame} {meth : Method} {c : Code} {G : m_G} {nx : Nat} {κ : Nat → Nat} {res : m_M} {a o1 : Nat} (X : m_Cx p s m args meth c cX2_makeStep 5 RX2 G) (hr : meth.sig.returnType = none) (hT : m_Str κ) (hk_a : κ a = 3) (hk_o1 : κ o1 = 4)  : ∀ (S : m_M)  (H : Heap) (locs : List Loc) (ls : Array Slot), m_H G nx κ S H → m_S G s H locs → lv_has ls 5 [] → b_X2_makeStep_134 a o1 S  = some res → W p l e rm_X2_makeStep s m args below meth c H locs 0 0 (m_Qv below args s G nx κ res) (F0 m 134 ls []) := by
  have hx := X.1.1
  have hb := X.1.2.1
  intro S H locs ls hH hS hl hm
  rw [b_X2_makeStep_134] at hm
  exact r_vret X hr hH hS hm dX2_makeStep_134
def f_X2_makeStep (a o1 : Nat) (S : m_M)  : Option m_M :=
    if (m_ri S a 0) = (1 : Int32) then (
    if (m_ri S a 2) = 0 then (
    b_X2_makeStep_15 a o1 S) else (
    m_let (m_si S a 11 (0 : Int32)) fun S3 =>
    (m_ldi S3 (a + 1) 13 ((m_ri S3 a 2) - (1 : Int32))).bind fun v4 =>
    (m_ldi S3 (o1 + 3) 5 v4).bind fun v5 =>
    (m_ldi S3 (a + 2) 13 ((m_ri S3 a 2) - (1 : Int32))).bind fun v6 =>
    m_let (v5 + v6) fun v7 =>
    (m_ldi S3 (o1 + 20) 24 v7).bind fun v8 =>
    m_cal0 (f_X2_makeRooms a S3 v8) fun S9 =>
    m_call (f_X2_stopReason a o1 S9 v4 v7) fun v11 S10 =>
    m_let (m_si S10 a 6 ((m_ri S10 a 6) + (1 : Int32))) fun S12 =>
    if v11 = 0 then (
    m_call (f_X2_callsNow a o1 S12 v7) fun v15 S14 =>
    if v15 = 0 then (
    m_cal0 (f_X2_work a o1 S14 v4 v7) fun S17 =>
    m_cal0 (f_X2_settle a o1 S17) fun S18 =>
    b_X2_makeStep_134 a o1 S18) else (
    m_cal0 (f_X2_callBy a o1 S14 v4 v7) fun S19 =>
    b_X2_makeStep_134 a o1 S19)) else (
    m_let (m_si S12 a 0 (3 : Int32)) fun S20 =>
    m_let (m_si S20 a 1 v11) fun S21 =>
    b_X2_makeStep_134 a o1 S21))) else (
    b_X2_makeStep_15 a o1 S)
set_option maxHeartbeats 4000000 in
set_option maxRecDepth 100000 in
theorem c_X2_makeStep {l : Launch} {G : m_G} {nx : Nat} {κ : Nat → Nat} {a o1 : Nat} {S : m_M}  {res : m_M} (hT : m_Str κ) (hk_a : κ a = 3) (hk_o1 : κ o1 = 4) (hm : f_X2_makeStep a o1 S = some res) : m_Cv l yX2_makeStep cX2_makeStep 5 rm_X2_makeStep G nx κ [.ref a, .ref o1] S res := by
  refine m_Cv.of (by decide) (Nat.le_of_ble_eq_true rfl) ?_
  intro p e s m args below meth c ls X hr hH hl
  have hx := X.1.1
  have hb := X.1.2.1
  have hS : m_S G s s.heap [] := va_S.rf
  have hl : lv_has ls 5 [(0, .ref a), (1, .ref o1)] := hl
  rw [f_X2_makeStep] at hm
  refine lv_aload_n hx hb dX2_makeStep_0 rfl (lv_at hl 0 rfl) ?_
  refine r_geti X hH (k := 2) (a := a) (j := 0) hk_a (by decide) rfl m_wi2 (by decide) in_2_176 rfl rfl dX2_makeStep_1 ?_
  refine lv_iconst (v := (1 : Int32)) hx hb dX2_makeStep_4 (by decide) ?_
  refine lv_icmp_ne (tgt := 15) hx hb dX2_makeStep_5 (by decide) (fun c1 => ?_) (fun c1 => ?_)
  · have hm := m_ite_f hm c1
    exact k_X2_makeStep_15 (a := a) (o1 := o1) X hr hT hk_a hk_o1   S _ _ _ hH hS (lv_sub hl [] rfl) hm
  · have hm := m_ite_t hm c1
    refine lv_aload_n hx hb dX2_makeStep_8 rfl (lv_at hl 0 rfl) ?_
    refine r_geti X hH (k := 2) (a := a) (j := 2) hk_a (by decide) rfl m_wi2 (by decide) in_2_180 rfl rfl dX2_makeStep_9 ?_
    refine lv_if_ne (tgt := 16) hx hb dX2_makeStep_12 (by decide) (fun c2 => ?_) (fun c2 => ?_)
    · have hm := m_ite_f hm c2
      refine lv_aload_n hx hb dX2_makeStep_16 rfl (lv_at hl 0 rfl) ?_
      refine lv_iconst (v := (0 : Int32)) hx hb dX2_makeStep_17 (by decide) ?_
      obtain ⟨S3, e_S3, hm⟩ := m_let_of hm
      refine n_puti X hH hS tyX2 (k := 2) (a := a) (j := 11) hk_a (by decide) rfl m_wi2 tyX2_ok nmX2 (by decide) in_2_199 rfl rfl rfl (m_nz (by decide)) e_S3 dX2_makeStep_18 (fun H locs hH hS => ?_)
      refine lv_aload_n hx hb dX2_makeStep_21 rfl (lv_at hl 0 rfl) ?_
      refine r_getp X hH (k := 2) (a := a) (j := 12) (b := (a + 1)) (A := 1) (B := 0) hk_a (by decide) rfl m_wi2 (by decide) in_2_201 rfl rfl rfl dX2_makeStep_22 ?_
      refine lv_aload_n hx hb dX2_makeStep_25 rfl (lv_at hl 0 rfl) ?_
      refine r_geti X hH (k := 2) (a := a) (j := 2) hk_a (by decide) rfl m_wi2 (by decide) in_2_180 rfl rfl dX2_makeStep_26 ?_
      refine lv_iconst (v := (1 : Int32)) hx hb dX2_makeStep_29 (by decide) ?_
      refine lv_isub hx hb dX2_makeStep_30 ?_
      obtain ⟨v4, h_v4, e_v4, hm⟩ := n_ldi hm
      refine n_iald X hH (n := 13) (m_lay_at hT hk_a (by decide) (i := 1) rfl) h_v4 e_v4 dX2_makeStep_31 ?_
      refine lv_istore_n (lv' := [(2, .int v4), (0, .ref a), (1, .ref o1)]) hx hb dX2_makeStep_32 rfl hl (by decide) rfl (fun ls hl => ?_)
      refine lv_aload_n hx hb dX2_makeStep_33 rfl (lv_at hl 2 rfl) ?_
      refine r_getp X hH (k := 3) (a := o1) (j := 4) (b := (o1 + 3)) (A := 3) (B := 0) hk_o1 (by decide) rfl m_wi3 (by decide) in_1_142 rfl rfl rfl dX2_makeStep_34 ?_
      refine lv_iload_n hx hb dX2_makeStep_37 rfl (lv_at hl 0 rfl) ?_
      obtain ⟨v5, h_v5, e_v5, hm⟩ := n_ldi hm
      refine n_iald X hH (n := 5) (m_lay_at hT hk_o1 (by decide) (i := 3) rfl) h_v5 e_v5 dX2_makeStep_38 ?_
      refine lv_aload_n hx hb dX2_makeStep_39 rfl (lv_at hl 1 rfl) ?_
      refine r_getp X hH (k := 2) (a := a) (j := 13) (b := (a + 2)) (A := 2) (B := 0) hk_a (by decide) rfl m_wi2 (by decide) in_2_203 rfl rfl rfl dX2_makeStep_40 ?_
      refine lv_aload_n hx hb dX2_makeStep_43 rfl (lv_at hl 1 rfl) ?_
      refine r_geti X hH (k := 2) (a := a) (j := 2) hk_a (by decide) rfl m_wi2 (by decide) in_2_180 rfl rfl dX2_makeStep_44 ?_
      refine lv_iconst (v := (1 : Int32)) hx hb dX2_makeStep_47 (by decide) ?_
      refine lv_isub hx hb dX2_makeStep_48 ?_
      obtain ⟨v6, h_v6, e_v6, hm⟩ := n_ldi hm
      refine n_iald X hH (n := 13) (m_lay_at hT hk_a (by decide) (i := 2) rfl) h_v6 e_v6 dX2_makeStep_49 ?_
      refine lv_iadd hx hb dX2_makeStep_50 ?_
      obtain ⟨v7, e_v7, hm⟩ := m_let_of hm
      refine n_topi e_v7 ?_
      refine lv_istore_n (lv' := [(3, .int v7), (2, .int v4), (0, .ref a), (1, .ref o1)]) hx hb dX2_makeStep_51 rfl hl (by decide) rfl (fun ls hl => ?_)
      refine lv_aload_n hx hb dX2_makeStep_52 rfl (lv_at hl 2 rfl) ?_
      refine lv_aload_n hx hb dX2_makeStep_53 rfl (lv_at hl 3 rfl) ?_
      refine r_getp X hH (k := 3) (a := o1) (j := 9) (b := (o1 + 8)) (A := 8) (B := 0) hk_o1 (by decide) rfl m_wi3 (by decide) in_1_161 rfl rfl rfl dX2_makeStep_54 ?_
      refine r_getp X hH (k := 6) (a := (o1 + 8)) (j := 13) (b := (o1 + 20)) (A := 12) (B := 0) (m_lay_at hT hk_o1 (by decide) (i := 8) rfl) (by decide) rfl m_wi6 (by decide) in_1_84 rfl rfl rfl dX2_makeStep_57 ?_
      refine lv_iload_n hx hb dX2_makeStep_60 rfl (lv_at hl 0 rfl) ?_
      obtain ⟨v8, h_v8, e_v8, hm⟩ := n_ldi hm
      refine n_iald X hH (n := 24) (m_lay_at hT hk_o1 (by decide) (i := 20) rfl) h_v8 e_v8 dX2_makeStep_61 ?_
      obtain ⟨S9, e_S9, hm⟩ := m_cal0_of hm
      refine r_cVv X hH hS (k := 2) (c_X2_makeRooms (a := a) hT hk_a e_S9) mw_X2_makeRooms in_5_7 hk_a (by decide) rfl rfl rfl ⟨rfl, rfl⟩ ⟨Nat.le_of_ble_eq_true rfl, Nat.le_of_ble_eq_true rfl⟩ ⟨Nat.zero_le _, Nat.zero_le _⟩ hl.1 (Nat.le_of_ble_eq_true rfl) dX2_makeStep_62 (fun H locs hH hS => ?_)
      refine lv_aload_n hx hb dX2_makeStep_65 rfl (lv_at hl 2 rfl) ?_
      refine lv_aload_n hx hb dX2_makeStep_66 rfl (lv_at hl 3 rfl) ?_
      refine lv_iload_n hx hb dX2_makeStep_67 rfl (lv_at hl 1 rfl) ?_
      refine lv_iload_n hx hb dX2_makeStep_68 rfl (lv_at hl 0 rfl) ?_
      obtain ⟨v11, S10, e_S10, hm⟩ := m_call_of hm
      refine n_cVi X hH hS (k := 2) (c_X2_stopReason (a := a) (o1 := o1) hT hk_a hk_o1 e_S10) mw_X2_stopReason in_5_32 hk_a (by decide) rfl rfl rfl ⟨rfl, rfl⟩ ⟨Nat.le_of_ble_eq_true rfl, Nat.le_of_ble_eq_true rfl⟩ ⟨Nat.zero_le _, Nat.zero_le _⟩ hl.1 (Nat.le_of_ble_eq_true rfl) dX2_makeStep_69 (fun H locs hH hS => ?_)
      refine lv_istore (lv' := [(4, .int v11), (3, .int v7), (2, .int v4), (0, .ref a), (1, .ref o1)]) hx hb dX2_makeStep_72 hl (by decide) rfl (fun ls hl => ?_)
      refine lv_aload_n hx hb dX2_makeStep_74 rfl (lv_at hl 3 rfl) ?_
      refine lv_dup hx hb dX2_makeStep_75 rfl ?_
      refine r_geti X hH (k := 2) (a := a) (j := 6) hk_a (by decide) rfl m_wi2 (by decide) in_2_189 rfl rfl dX2_makeStep_76 ?_
      refine lv_iconst (v := (1 : Int32)) hx hb dX2_makeStep_79 (by decide) ?_
      refine lv_iadd hx hb dX2_makeStep_80 ?_
      obtain ⟨S12, e_S12, hm⟩ := m_let_of hm
      refine n_puti X hH hS tyX2 (k := 2) (a := a) (j := 6) hk_a (by decide) rfl m_wi2 tyX2_ok nmX2 (by decide) in_2_189 rfl rfl rfl ⟨rfl, rfl⟩ e_S12 dX2_makeStep_81 (fun H locs hH hS => ?_)
      refine lv_iload hx hb dX2_makeStep_84 (lv_at hl 0 rfl) ?_
      refine lv_if_eq (tgt := 103) hx hb dX2_makeStep_86 (by decide) (fun c13 => ?_) (fun c13 => ?_)
      · have hm := m_ite_t hm c13
        refine lv_aload_n hx hb dX2_makeStep_103 rfl (lv_at hl 3 rfl) ?_
        refine lv_aload_n hx hb dX2_makeStep_104 rfl (lv_at hl 4 rfl) ?_
        refine lv_iload_n hx hb dX2_makeStep_105 rfl (lv_at hl 1 rfl) ?_
        obtain ⟨v15, S14, e_S14, hm⟩ := m_call_of hm
        refine n_cVi X hH hS (k := 2) (c_X2_callsNow (a := a) (o1 := o1) hT hk_a hk_o1 e_S14) mw_X2_callsNow in_5_49 hk_a (by decide) rfl rfl rfl ⟨rfl, rfl⟩ ⟨Nat.le_of_ble_eq_true rfl, Nat.le_of_ble_eq_true rfl⟩ ⟨Nat.zero_le _, Nat.zero_le _⟩ hl.1 (Nat.le_of_ble_eq_true rfl) dX2_makeStep_106 (fun H locs hH hS => ?_)
        refine lv_if_eq (tgt := 122) hx hb dX2_makeStep_109 (by decide) (fun c16 => ?_) (fun c16 => ?_)
        · have hm := m_ite_t hm c16
          refine lv_aload_n hx hb dX2_makeStep_122 rfl (lv_at hl 3 rfl) ?_
          refine lv_aload_n hx hb dX2_makeStep_123 rfl (lv_at hl 4 rfl) ?_
          refine lv_iload_n hx hb dX2_makeStep_124 rfl (lv_at hl 2 rfl) ?_
          refine lv_iload_n hx hb dX2_makeStep_125 rfl (lv_at hl 1 rfl) ?_
          obtain ⟨S17, e_S17, hm⟩ := m_cal0_of hm
          refine r_cVv X hH hS (k := 2) (c_X2_work (a := a) (o1 := o1) hT hk_a hk_o1 e_S17) mw_X2_work in_5_70 hk_a (by decide) rfl rfl rfl ⟨rfl, rfl⟩ ⟨Nat.le_of_ble_eq_true rfl, Nat.le_of_ble_eq_true rfl⟩ ⟨Nat.zero_le _, Nat.zero_le _⟩ hl.1 (Nat.le_of_ble_eq_true rfl) dX2_makeStep_126 (fun H locs hH hS => ?_)
          refine lv_aload_n hx hb dX2_makeStep_129 rfl (lv_at hl 3 rfl) ?_
          refine lv_aload_n hx hb dX2_makeStep_130 rfl (lv_at hl 4 rfl) ?_
          obtain ⟨S18, e_S18, hm⟩ := m_cal0_of hm
          refine r_cVv X hH hS (k := 2) (c_X2_settle (a := a) (o1 := o1) hT hk_a hk_o1 e_S18) mw_X2_settle in_5_102 hk_a (by decide) rfl rfl rfl ⟨rfl, rfl⟩ ⟨Nat.le_of_ble_eq_true rfl, Nat.le_of_ble_eq_true rfl⟩ ⟨Nat.zero_le _, Nat.zero_le _⟩ hl.1 (Nat.le_of_ble_eq_true rfl) dX2_makeStep_131 (fun H locs hH hS => ?_)
          exact k_X2_makeStep_134 (a := a) (o1 := o1) X hr hT hk_a hk_o1   S18 _ _ _ hH hS (lv_sub hl [] rfl) hm
        · have hm := m_ite_f hm c16
          refine lv_aload_n hx hb dX2_makeStep_112 rfl (lv_at hl 3 rfl) ?_
          refine lv_aload_n hx hb dX2_makeStep_113 rfl (lv_at hl 4 rfl) ?_
          refine lv_iload_n hx hb dX2_makeStep_114 rfl (lv_at hl 2 rfl) ?_
          refine lv_iload_n hx hb dX2_makeStep_115 rfl (lv_at hl 1 rfl) ?_
          obtain ⟨S19, e_S19, hm⟩ := m_cal0_of hm
          refine r_cVv X hH hS (k := 2) (c_X2_callBy (a := a) (o1 := o1) hT hk_a hk_o1 e_S19) mw_X2_callBy in_5_61 hk_a (by decide) rfl rfl rfl ⟨rfl, rfl⟩ ⟨Nat.le_of_ble_eq_true rfl, Nat.le_of_ble_eq_true rfl⟩ ⟨Nat.zero_le _, Nat.zero_le _⟩ hl.1 (Nat.le_of_ble_eq_true rfl) dX2_makeStep_116 (fun H locs hH hS => ?_)
          refine lv_goto (tgt := 134) hx hb dX2_makeStep_119 (by decide) ?_
          exact k_X2_makeStep_134 (a := a) (o1 := o1) X hr hT hk_a hk_o1   S19 _ _ _ hH hS (lv_sub hl [] rfl) hm
      · have hm := m_ite_f hm c13
        refine lv_aload_n hx hb dX2_makeStep_89 rfl (lv_at hl 3 rfl) ?_
        refine lv_iconst (v := (3 : Int32)) hx hb dX2_makeStep_90 (by decide) ?_
        obtain ⟨S20, e_S20, hm⟩ := m_let_of hm
        refine n_puti X hH hS tyX2 (k := 2) (a := a) (j := 0) hk_a (by decide) rfl m_wi2 tyX2_ok nmX2 (by decide) in_2_176 rfl rfl rfl ⟨rfl, rfl⟩ e_S20 dX2_makeStep_91 (fun H locs hH hS => ?_)
        refine lv_aload_n hx hb dX2_makeStep_94 rfl (lv_at hl 3 rfl) ?_
        refine lv_iload hx hb dX2_makeStep_95 (lv_at hl 0 rfl) ?_
        obtain ⟨S21, e_S21, hm⟩ := m_let_of hm
        refine n_puti X hH hS tyX2 (k := 2) (a := a) (j := 1) hk_a (by decide) rfl m_wi2 tyX2_ok nmX2 (by decide) in_2_178 rfl rfl rfl ⟨rfl, rfl⟩ e_S21 dX2_makeStep_97 (fun H locs hH hS => ?_)
        refine lv_goto (tgt := 134) hx hb dX2_makeStep_100 (by decide) ?_
        exact k_X2_makeStep_134 (a := a) (o1 := o1) X hr hT hk_a hk_o1   S21 _ _ _ hH hS (lv_sub hl [] rfl) hm
    · have hm := m_ite_t hm c2
      exact k_X2_makeStep_15 (a := a) (o1 := o1) X hr hT hk_a hk_o1   S _ _ _ hH hS (lv_sub hl [] rfl) hm
def rm_X3_clear : Room := { frames := 0, cells := 0, slots := 0, locals := 0 }
def f_X3_clear (a : Nat) (S : m_M)  : Option m_M :=
    m_let (m_si S a 0 (0 : Int32)) fun S1 =>
    m_let (m_si S1 a 1 (0 : Int32)) fun S2 =>
    some S2
set_option maxHeartbeats 4000000 in
set_option maxRecDepth 100000 in
theorem c_X3_clear {l : Launch} {G : m_G} {nx : Nat} {κ : Nat → Nat} {a : Nat} {S : m_M}  {res : m_M} (hT : m_Str κ) (hk_a : κ a = 4) (hm : f_X3_clear a S = some res) : m_Cv l yX3_clear cX3_clear 1 rm_X3_clear G nx κ [.ref a] S res := by
  refine m_Cv.of (by decide) (Nat.le_of_ble_eq_true rfl) ?_
  intro p e s m args below meth c ls X hr hH hl
  have hx := X.1.1
  have hb := X.1.2.1
  have hS : m_S G s s.heap [] := va_S.rf
  have hl : lv_has ls 1 [(0, .ref a)] := hl
  rw [f_X3_clear] at hm
  refine lv_aload_n hx hb dX3_clear_0 rfl (lv_at hl 0 rfl) ?_
  refine lv_iconst (v := (0 : Int32)) hx hb dX3_clear_1 (by decide) ?_
  obtain ⟨S1, e_S1, hm⟩ := m_let_of hm
  refine n_puti X hH hS tyX3 (k := 3) (a := a) (j := 0) hk_a (by decide) rfl m_wi3 tyX3_ok nmX3 (by decide) in_1_122 rfl rfl rfl ⟨rfl, rfl⟩ e_S1 dX3_clear_2 (fun H locs hH hS => ?_)
  refine lv_aload_n hx hb dX3_clear_5 rfl (lv_at hl 0 rfl) ?_
  refine lv_iconst (v := (0 : Int32)) hx hb dX3_clear_6 (by decide) ?_
  obtain ⟨S2, e_S2, hm⟩ := m_let_of hm
  refine n_puti X hH hS tyX3 (k := 3) (a := a) (j := 1) hk_a (by decide) rfl m_wi3 tyX3_ok nmX3 (by decide) in_1_129 rfl rfl rfl ⟨rfl, rfl⟩ e_S2 dX3_clear_7 (fun H locs hH hS => ?_)
  exact r_vret X hr hH hS hm dX3_clear_10
def rm_X6_copyFrom : Room := { frames := 1, cells := 0, slots := 0, locals := 60 }
def f_X6_copyFrom (a o1 : Nat) (S : m_M)  : Option m_M :=
    m_let (m_si S a 0 (m_ri S o1 0)) fun S1 =>
    m_let (m_si S1 a 1 (m_ri S1 o1 1)) fun S2 =>
    (m_cpi S2 (o1 + 1) 135 (a + 1) 135 (0 : Int32) (0 : Int32) (135 : Int32)).bind fun S3 =>
    (m_cpi S3 (o1 + 2) 135 (a + 2) 135 (0 : Int32) (0 : Int32) (135 : Int32)).bind fun S4 =>
    (m_cpi S4 (o1 + 3) 24 (a + 3) 24 (0 : Int32) (0 : Int32) (24 : Int32)).bind fun S5 =>
    (m_cpi S5 (o1 + 4) 24 (a + 4) 24 (0 : Int32) (0 : Int32) (24 : Int32)).bind fun S6 =>
    (m_cpi S6 (o1 + 5) 24 (a + 5) 24 (0 : Int32) (0 : Int32) (24 : Int32)).bind fun S7 =>
    (m_cpi S7 (o1 + 6) 24 (a + 6) 24 (0 : Int32) (0 : Int32) (24 : Int32)).bind fun S8 =>
    (m_cpi S8 (o1 + 7) 24 (a + 7) 24 (0 : Int32) (0 : Int32) (24 : Int32)).bind fun S9 =>
    (m_cpi S9 (o1 + 8) 5 (a + 8) 5 (0 : Int32) (0 : Int32) (5 : Int32)).bind fun S10 =>
    (m_cpi S10 (o1 + 9) 5 (a + 9) 5 (0 : Int32) (0 : Int32) (5 : Int32)).bind fun S11 =>
    (m_cpi S11 (o1 + 10) 120 (a + 10) 120 (0 : Int32) (0 : Int32) (120 : Int32)).bind fun S12 =>
    (m_cpi S12 (o1 + 11) 120 (a + 11) 120 (0 : Int32) (0 : Int32) (120 : Int32)).bind fun S13 =>
    (m_cpi S13 (o1 + 12) 24 (a + 12) 24 (0 : Int32) (0 : Int32) (24 : Int32)).bind fun S14 =>
    (m_cpi S14 (o1 + 13) 24 (a + 13) 24 (0 : Int32) (0 : Int32) (24 : Int32)).bind fun S15 =>
    some S15
set_option maxHeartbeats 4000000 in
set_option maxRecDepth 100000 in
theorem c_X6_copyFrom {l : Launch} {G : m_G} {nx : Nat} {κ : Nat → Nat} {a o1 : Nat} {S : m_M}  {res : m_M} (hT : m_Str κ) (hk_a : κ a = 7) (hk_o1 : κ o1 = 7) (hm : f_X6_copyFrom a o1 S = some res) : m_Cv l yX6_copyFrom cX6_copyFrom 2 rm_X6_copyFrom G nx κ [.ref a, .ref o1] S res := by
  refine m_Cv.of (by decide) (Nat.le_of_ble_eq_true rfl) ?_
  intro p e s m args below meth c ls X hr hH hl
  have hx := X.1.1
  have hb := X.1.2.1
  have hS : m_S G s s.heap [] := va_S.rf
  have hl : lv_has ls 2 [(0, .ref a), (1, .ref o1)] := hl
  rw [f_X6_copyFrom] at hm
  refine lv_aload_n hx hb dX6_copyFrom_0 rfl (lv_at hl 0 rfl) ?_
  refine lv_aload_n hx hb dX6_copyFrom_1 rfl (lv_at hl 1 rfl) ?_
  refine r_geti X hH (k := 6) (a := o1) (j := 0) hk_o1 (by decide) rfl m_wi6 (by decide) in_1_52 rfl rfl dX6_copyFrom_2 ?_
  obtain ⟨S1, e_S1, hm⟩ := m_let_of hm
  refine n_puti X hH hS tyX6 (k := 6) (a := a) (j := 0) hk_a (by decide) rfl m_wi6 tyX6_ok nmX6 (by decide) in_1_52 rfl rfl rfl ⟨rfl, rfl⟩ e_S1 dX6_copyFrom_5 (fun H locs hH hS => ?_)
  refine lv_aload_n hx hb dX6_copyFrom_8 rfl (lv_at hl 0 rfl) ?_
  refine lv_aload_n hx hb dX6_copyFrom_9 rfl (lv_at hl 1 rfl) ?_
  refine r_geti X hH (k := 6) (a := o1) (j := 1) hk_o1 (by decide) rfl m_wi6 (by decide) in_1_55 rfl rfl dX6_copyFrom_10 ?_
  obtain ⟨S2, e_S2, hm⟩ := m_let_of hm
  refine n_puti X hH hS tyX6 (k := 6) (a := a) (j := 1) hk_a (by decide) rfl m_wi6 tyX6_ok nmX6 (by decide) in_1_55 rfl rfl rfl ⟨rfl, rfl⟩ e_S2 dX6_copyFrom_13 (fun H locs hH hS => ?_)
  refine lv_aload_n hx hb dX6_copyFrom_16 rfl (lv_at hl 1 rfl) ?_
  refine r_getp X hH (k := 6) (a := o1) (j := 2) (b := (o1 + 1)) (A := 1) (B := 0) hk_o1 (by decide) rfl m_wi6 (by decide) in_1_57 rfl rfl rfl dX6_copyFrom_17 ?_
  refine lv_iconst (v := (0 : Int32)) hx hb dX6_copyFrom_20 (by decide) ?_
  refine lv_aload_n hx hb dX6_copyFrom_21 rfl (lv_at hl 0 rfl) ?_
  refine r_getp X hH (k := 6) (a := a) (j := 2) (b := (a + 1)) (A := 1) (B := 0) hk_a (by decide) rfl m_wi6 (by decide) in_1_57 rfl rfl rfl dX6_copyFrom_22 ?_
  refine lv_iconst (v := (0 : Int32)) hx hb dX6_copyFrom_25 (by decide) ?_
  refine lv_aload_n hx hb dX6_copyFrom_26 rfl (lv_at hl 0 rfl) ?_
  refine r_getp X hH (k := 6) (a := a) (j := 2) (b := (a + 1)) (A := 1) (B := 0) hk_a (by decide) rfl m_wi6 (by decide) in_1_57 rfl rfl rfl dX6_copyFrom_27 ?_
  refine r_alen X hH (t := 1) (n := 135) (v := (135 : Int32)) (m_lay_at hT hk_a (by decide) (i := 1) rfl) (by decide) rfl dX6_copyFrom_30 ?_
  obtain ⟨S3, e_S3, hm⟩ := m_bind_of hm
  refine n_cpi X hH hS hl.1 (n0 := 135) (n1 := 135) (m_lay_at hT hk_o1 (by decide) (i := 1) rfl) (m_lay_at hT hk_a (by decide) (i := 1) rfl) e_S3 in_4_155 in_4_150 in_4_149 in_1_21 (Nat.le_of_ble_eq_true rfl) (Nat.le_of_ble_eq_true rfl) dX6_copyFrom_31 (fun H locs hH hS => ?_)
  refine lv_aload_n hx hb dX6_copyFrom_34 rfl (lv_at hl 1 rfl) ?_
  refine r_getp X hH (k := 6) (a := o1) (j := 3) (b := (o1 + 2)) (A := 2) (B := 0) hk_o1 (by decide) rfl m_wi6 (by decide) in_1_59 rfl rfl rfl dX6_copyFrom_35 ?_
  refine lv_iconst (v := (0 : Int32)) hx hb dX6_copyFrom_38 (by decide) ?_
  refine lv_aload_n hx hb dX6_copyFrom_39 rfl (lv_at hl 0 rfl) ?_
  refine r_getp X hH (k := 6) (a := a) (j := 3) (b := (a + 2)) (A := 2) (B := 0) hk_a (by decide) rfl m_wi6 (by decide) in_1_59 rfl rfl rfl dX6_copyFrom_40 ?_
  refine lv_iconst (v := (0 : Int32)) hx hb dX6_copyFrom_43 (by decide) ?_
  refine lv_aload_n hx hb dX6_copyFrom_44 rfl (lv_at hl 0 rfl) ?_
  refine r_getp X hH (k := 6) (a := a) (j := 3) (b := (a + 2)) (A := 2) (B := 0) hk_a (by decide) rfl m_wi6 (by decide) in_1_59 rfl rfl rfl dX6_copyFrom_45 ?_
  refine r_alen X hH (t := 1) (n := 135) (v := (135 : Int32)) (m_lay_at hT hk_a (by decide) (i := 2) rfl) (by decide) rfl dX6_copyFrom_48 ?_
  obtain ⟨S4, e_S4, hm⟩ := m_bind_of hm
  refine n_cpi X hH hS hl.1 (n0 := 135) (n1 := 135) (m_lay_at hT hk_o1 (by decide) (i := 2) rfl) (m_lay_at hT hk_a (by decide) (i := 2) rfl) e_S4 in_4_155 in_4_150 in_4_149 in_1_21 (Nat.le_of_ble_eq_true rfl) (Nat.le_of_ble_eq_true rfl) dX6_copyFrom_49 (fun H locs hH hS => ?_)
  refine lv_aload_n hx hb dX6_copyFrom_52 rfl (lv_at hl 1 rfl) ?_
  refine r_getp X hH (k := 6) (a := o1) (j := 4) (b := (o1 + 3)) (A := 3) (B := 0) hk_o1 (by decide) rfl m_wi6 (by decide) in_1_60 rfl rfl rfl dX6_copyFrom_53 ?_
  refine lv_iconst (v := (0 : Int32)) hx hb dX6_copyFrom_56 (by decide) ?_
  refine lv_aload_n hx hb dX6_copyFrom_57 rfl (lv_at hl 0 rfl) ?_
  refine r_getp X hH (k := 6) (a := a) (j := 4) (b := (a + 3)) (A := 3) (B := 0) hk_a (by decide) rfl m_wi6 (by decide) in_1_60 rfl rfl rfl dX6_copyFrom_58 ?_
  refine lv_iconst (v := (0 : Int32)) hx hb dX6_copyFrom_61 (by decide) ?_
  refine lv_aload_n hx hb dX6_copyFrom_62 rfl (lv_at hl 0 rfl) ?_
  refine r_getp X hH (k := 6) (a := a) (j := 4) (b := (a + 3)) (A := 3) (B := 0) hk_a (by decide) rfl m_wi6 (by decide) in_1_60 rfl rfl rfl dX6_copyFrom_63 ?_
  refine r_alen X hH (t := 1) (n := 24) (v := (24 : Int32)) (m_lay_at hT hk_a (by decide) (i := 3) rfl) (by decide) rfl dX6_copyFrom_66 ?_
  obtain ⟨S5, e_S5, hm⟩ := m_bind_of hm
  refine n_cpi X hH hS hl.1 (n0 := 24) (n1 := 24) (m_lay_at hT hk_o1 (by decide) (i := 3) rfl) (m_lay_at hT hk_a (by decide) (i := 3) rfl) e_S5 in_4_155 in_4_150 in_4_149 in_1_21 (Nat.le_of_ble_eq_true rfl) (Nat.le_of_ble_eq_true rfl) dX6_copyFrom_67 (fun H locs hH hS => ?_)
  refine lv_aload_n hx hb dX6_copyFrom_70 rfl (lv_at hl 1 rfl) ?_
  refine r_getp X hH (k := 6) (a := o1) (j := 5) (b := (o1 + 4)) (A := 4) (B := 0) hk_o1 (by decide) rfl m_wi6 (by decide) in_1_63 rfl rfl rfl dX6_copyFrom_71 ?_
  refine lv_iconst (v := (0 : Int32)) hx hb dX6_copyFrom_74 (by decide) ?_
  refine lv_aload_n hx hb dX6_copyFrom_75 rfl (lv_at hl 0 rfl) ?_
  refine r_getp X hH (k := 6) (a := a) (j := 5) (b := (a + 4)) (A := 4) (B := 0) hk_a (by decide) rfl m_wi6 (by decide) in_1_63 rfl rfl rfl dX6_copyFrom_76 ?_
  refine lv_iconst (v := (0 : Int32)) hx hb dX6_copyFrom_79 (by decide) ?_
  refine lv_aload_n hx hb dX6_copyFrom_80 rfl (lv_at hl 0 rfl) ?_
  refine r_getp X hH (k := 6) (a := a) (j := 5) (b := (a + 4)) (A := 4) (B := 0) hk_a (by decide) rfl m_wi6 (by decide) in_1_63 rfl rfl rfl dX6_copyFrom_81 ?_
  refine r_alen X hH (t := 1) (n := 24) (v := (24 : Int32)) (m_lay_at hT hk_a (by decide) (i := 4) rfl) (by decide) rfl dX6_copyFrom_84 ?_
  obtain ⟨S6, e_S6, hm⟩ := m_bind_of hm
  refine n_cpi X hH hS hl.1 (n0 := 24) (n1 := 24) (m_lay_at hT hk_o1 (by decide) (i := 4) rfl) (m_lay_at hT hk_a (by decide) (i := 4) rfl) e_S6 in_4_155 in_4_150 in_4_149 in_1_21 (Nat.le_of_ble_eq_true rfl) (Nat.le_of_ble_eq_true rfl) dX6_copyFrom_85 (fun H locs hH hS => ?_)
  refine lv_aload_n hx hb dX6_copyFrom_88 rfl (lv_at hl 1 rfl) ?_
  refine r_getp X hH (k := 6) (a := o1) (j := 6) (b := (o1 + 5)) (A := 5) (B := 0) hk_o1 (by decide) rfl m_wi6 (by decide) in_1_66 rfl rfl rfl dX6_copyFrom_89 ?_
  refine lv_iconst (v := (0 : Int32)) hx hb dX6_copyFrom_92 (by decide) ?_
  refine lv_aload_n hx hb dX6_copyFrom_93 rfl (lv_at hl 0 rfl) ?_
  refine r_getp X hH (k := 6) (a := a) (j := 6) (b := (a + 5)) (A := 5) (B := 0) hk_a (by decide) rfl m_wi6 (by decide) in_1_66 rfl rfl rfl dX6_copyFrom_94 ?_
  refine lv_iconst (v := (0 : Int32)) hx hb dX6_copyFrom_97 (by decide) ?_
  refine lv_aload_n hx hb dX6_copyFrom_98 rfl (lv_at hl 0 rfl) ?_
  refine r_getp X hH (k := 6) (a := a) (j := 6) (b := (a + 5)) (A := 5) (B := 0) hk_a (by decide) rfl m_wi6 (by decide) in_1_66 rfl rfl rfl dX6_copyFrom_99 ?_
  refine r_alen X hH (t := 1) (n := 24) (v := (24 : Int32)) (m_lay_at hT hk_a (by decide) (i := 5) rfl) (by decide) rfl dX6_copyFrom_102 ?_
  obtain ⟨S7, e_S7, hm⟩ := m_bind_of hm
  refine n_cpi X hH hS hl.1 (n0 := 24) (n1 := 24) (m_lay_at hT hk_o1 (by decide) (i := 5) rfl) (m_lay_at hT hk_a (by decide) (i := 5) rfl) e_S7 in_4_155 in_4_150 in_4_149 in_1_21 (Nat.le_of_ble_eq_true rfl) (Nat.le_of_ble_eq_true rfl) dX6_copyFrom_103 (fun H locs hH hS => ?_)
  refine lv_aload_n hx hb dX6_copyFrom_106 rfl (lv_at hl 1 rfl) ?_
  refine r_getp X hH (k := 6) (a := o1) (j := 7) (b := (o1 + 6)) (A := 6) (B := 0) hk_o1 (by decide) rfl m_wi6 (by decide) in_1_67 rfl rfl rfl dX6_copyFrom_107 ?_
  refine lv_iconst (v := (0 : Int32)) hx hb dX6_copyFrom_110 (by decide) ?_
  refine lv_aload_n hx hb dX6_copyFrom_111 rfl (lv_at hl 0 rfl) ?_
  refine r_getp X hH (k := 6) (a := a) (j := 7) (b := (a + 6)) (A := 6) (B := 0) hk_a (by decide) rfl m_wi6 (by decide) in_1_67 rfl rfl rfl dX6_copyFrom_112 ?_
  refine lv_iconst (v := (0 : Int32)) hx hb dX6_copyFrom_115 (by decide) ?_
  refine lv_aload_n hx hb dX6_copyFrom_116 rfl (lv_at hl 0 rfl) ?_
  refine r_getp X hH (k := 6) (a := a) (j := 7) (b := (a + 6)) (A := 6) (B := 0) hk_a (by decide) rfl m_wi6 (by decide) in_1_67 rfl rfl rfl dX6_copyFrom_117 ?_
  refine r_alen X hH (t := 1) (n := 24) (v := (24 : Int32)) (m_lay_at hT hk_a (by decide) (i := 6) rfl) (by decide) rfl dX6_copyFrom_120 ?_
  obtain ⟨S8, e_S8, hm⟩ := m_bind_of hm
  refine n_cpi X hH hS hl.1 (n0 := 24) (n1 := 24) (m_lay_at hT hk_o1 (by decide) (i := 6) rfl) (m_lay_at hT hk_a (by decide) (i := 6) rfl) e_S8 in_4_155 in_4_150 in_4_149 in_1_21 (Nat.le_of_ble_eq_true rfl) (Nat.le_of_ble_eq_true rfl) dX6_copyFrom_121 (fun H locs hH hS => ?_)
  refine lv_aload_n hx hb dX6_copyFrom_124 rfl (lv_at hl 1 rfl) ?_
  refine r_getp X hH (k := 6) (a := o1) (j := 8) (b := (o1 + 7)) (A := 7) (B := 0) hk_o1 (by decide) rfl m_wi6 (by decide) in_1_70 rfl rfl rfl dX6_copyFrom_125 ?_
  refine lv_iconst (v := (0 : Int32)) hx hb dX6_copyFrom_128 (by decide) ?_
  refine lv_aload_n hx hb dX6_copyFrom_129 rfl (lv_at hl 0 rfl) ?_
  refine r_getp X hH (k := 6) (a := a) (j := 8) (b := (a + 7)) (A := 7) (B := 0) hk_a (by decide) rfl m_wi6 (by decide) in_1_70 rfl rfl rfl dX6_copyFrom_130 ?_
  refine lv_iconst (v := (0 : Int32)) hx hb dX6_copyFrom_133 (by decide) ?_
  refine lv_aload_n hx hb dX6_copyFrom_134 rfl (lv_at hl 0 rfl) ?_
  refine r_getp X hH (k := 6) (a := a) (j := 8) (b := (a + 7)) (A := 7) (B := 0) hk_a (by decide) rfl m_wi6 (by decide) in_1_70 rfl rfl rfl dX6_copyFrom_135 ?_
  refine r_alen X hH (t := 1) (n := 24) (v := (24 : Int32)) (m_lay_at hT hk_a (by decide) (i := 7) rfl) (by decide) rfl dX6_copyFrom_138 ?_
  obtain ⟨S9, e_S9, hm⟩ := m_bind_of hm
  refine n_cpi X hH hS hl.1 (n0 := 24) (n1 := 24) (m_lay_at hT hk_o1 (by decide) (i := 7) rfl) (m_lay_at hT hk_a (by decide) (i := 7) rfl) e_S9 in_4_155 in_4_150 in_4_149 in_1_21 (Nat.le_of_ble_eq_true rfl) (Nat.le_of_ble_eq_true rfl) dX6_copyFrom_139 (fun H locs hH hS => ?_)
  refine lv_aload_n hx hb dX6_copyFrom_142 rfl (lv_at hl 1 rfl) ?_
  refine r_getp X hH (k := 6) (a := o1) (j := 9) (b := (o1 + 8)) (A := 8) (B := 0) hk_o1 (by decide) rfl m_wi6 (by decide) in_1_73 rfl rfl rfl dX6_copyFrom_143 ?_
  refine lv_iconst (v := (0 : Int32)) hx hb dX6_copyFrom_146 (by decide) ?_
  refine lv_aload_n hx hb dX6_copyFrom_147 rfl (lv_at hl 0 rfl) ?_
  refine r_getp X hH (k := 6) (a := a) (j := 9) (b := (a + 8)) (A := 8) (B := 0) hk_a (by decide) rfl m_wi6 (by decide) in_1_73 rfl rfl rfl dX6_copyFrom_148 ?_
  refine lv_iconst (v := (0 : Int32)) hx hb dX6_copyFrom_151 (by decide) ?_
  refine lv_aload_n hx hb dX6_copyFrom_152 rfl (lv_at hl 0 rfl) ?_
  refine r_getp X hH (k := 6) (a := a) (j := 9) (b := (a + 8)) (A := 8) (B := 0) hk_a (by decide) rfl m_wi6 (by decide) in_1_73 rfl rfl rfl dX6_copyFrom_153 ?_
  refine r_alen X hH (t := 1) (n := 5) (v := (5 : Int32)) (m_lay_at hT hk_a (by decide) (i := 8) rfl) (by decide) rfl dX6_copyFrom_156 ?_
  obtain ⟨S10, e_S10, hm⟩ := m_bind_of hm
  refine n_cpi X hH hS hl.1 (n0 := 5) (n1 := 5) (m_lay_at hT hk_o1 (by decide) (i := 8) rfl) (m_lay_at hT hk_a (by decide) (i := 8) rfl) e_S10 in_4_155 in_4_150 in_4_149 in_1_21 (Nat.le_of_ble_eq_true rfl) (Nat.le_of_ble_eq_true rfl) dX6_copyFrom_157 (fun H locs hH hS => ?_)
  refine lv_aload_n hx hb dX6_copyFrom_160 rfl (lv_at hl 1 rfl) ?_
  refine r_getp X hH (k := 6) (a := o1) (j := 10) (b := (o1 + 9)) (A := 9) (B := 0) hk_o1 (by decide) rfl m_wi6 (by decide) in_1_77 rfl rfl rfl dX6_copyFrom_161 ?_
  refine lv_iconst (v := (0 : Int32)) hx hb dX6_copyFrom_164 (by decide) ?_
  refine lv_aload_n hx hb dX6_copyFrom_165 rfl (lv_at hl 0 rfl) ?_
  refine r_getp X hH (k := 6) (a := a) (j := 10) (b := (a + 9)) (A := 9) (B := 0) hk_a (by decide) rfl m_wi6 (by decide) in_1_77 rfl rfl rfl dX6_copyFrom_166 ?_
  refine lv_iconst (v := (0 : Int32)) hx hb dX6_copyFrom_169 (by decide) ?_
  refine lv_aload_n hx hb dX6_copyFrom_170 rfl (lv_at hl 0 rfl) ?_
  refine r_getp X hH (k := 6) (a := a) (j := 10) (b := (a + 9)) (A := 9) (B := 0) hk_a (by decide) rfl m_wi6 (by decide) in_1_77 rfl rfl rfl dX6_copyFrom_171 ?_
  refine r_alen X hH (t := 1) (n := 5) (v := (5 : Int32)) (m_lay_at hT hk_a (by decide) (i := 9) rfl) (by decide) rfl dX6_copyFrom_174 ?_
  obtain ⟨S11, e_S11, hm⟩ := m_bind_of hm
  refine n_cpi X hH hS hl.1 (n0 := 5) (n1 := 5) (m_lay_at hT hk_o1 (by decide) (i := 9) rfl) (m_lay_at hT hk_a (by decide) (i := 9) rfl) e_S11 in_4_155 in_4_150 in_4_149 in_1_21 (Nat.le_of_ble_eq_true rfl) (Nat.le_of_ble_eq_true rfl) dX6_copyFrom_175 (fun H locs hH hS => ?_)
  refine lv_aload_n hx hb dX6_copyFrom_178 rfl (lv_at hl 1 rfl) ?_
  refine r_getp X hH (k := 6) (a := o1) (j := 11) (b := (o1 + 10)) (A := 10) (B := 0) hk_o1 (by decide) rfl m_wi6 (by decide) in_1_79 rfl rfl rfl dX6_copyFrom_179 ?_
  refine lv_iconst (v := (0 : Int32)) hx hb dX6_copyFrom_182 (by decide) ?_
  refine lv_aload_n hx hb dX6_copyFrom_183 rfl (lv_at hl 0 rfl) ?_
  refine r_getp X hH (k := 6) (a := a) (j := 11) (b := (a + 10)) (A := 10) (B := 0) hk_a (by decide) rfl m_wi6 (by decide) in_1_79 rfl rfl rfl dX6_copyFrom_184 ?_
  refine lv_iconst (v := (0 : Int32)) hx hb dX6_copyFrom_187 (by decide) ?_
  refine lv_aload_n hx hb dX6_copyFrom_188 rfl (lv_at hl 0 rfl) ?_
  refine r_getp X hH (k := 6) (a := a) (j := 11) (b := (a + 10)) (A := 10) (B := 0) hk_a (by decide) rfl m_wi6 (by decide) in_1_79 rfl rfl rfl dX6_copyFrom_189 ?_
  refine r_alen X hH (t := 1) (n := 120) (v := (120 : Int32)) (m_lay_at hT hk_a (by decide) (i := 10) rfl) (by decide) rfl dX6_copyFrom_192 ?_
  obtain ⟨S12, e_S12, hm⟩ := m_bind_of hm
  refine n_cpi X hH hS hl.1 (n0 := 120) (n1 := 120) (m_lay_at hT hk_o1 (by decide) (i := 10) rfl) (m_lay_at hT hk_a (by decide) (i := 10) rfl) e_S12 in_4_155 in_4_150 in_4_149 in_1_21 (Nat.le_of_ble_eq_true rfl) (Nat.le_of_ble_eq_true rfl) dX6_copyFrom_193 (fun H locs hH hS => ?_)
  refine lv_aload_n hx hb dX6_copyFrom_196 rfl (lv_at hl 1 rfl) ?_
  refine r_getp X hH (k := 6) (a := o1) (j := 12) (b := (o1 + 11)) (A := 11) (B := 0) hk_o1 (by decide) rfl m_wi6 (by decide) in_1_81 rfl rfl rfl dX6_copyFrom_197 ?_
  refine lv_iconst (v := (0 : Int32)) hx hb dX6_copyFrom_200 (by decide) ?_
  refine lv_aload_n hx hb dX6_copyFrom_201 rfl (lv_at hl 0 rfl) ?_
  refine r_getp X hH (k := 6) (a := a) (j := 12) (b := (a + 11)) (A := 11) (B := 0) hk_a (by decide) rfl m_wi6 (by decide) in_1_81 rfl rfl rfl dX6_copyFrom_202 ?_
  refine lv_iconst (v := (0 : Int32)) hx hb dX6_copyFrom_205 (by decide) ?_
  refine lv_aload_n hx hb dX6_copyFrom_206 rfl (lv_at hl 0 rfl) ?_
  refine r_getp X hH (k := 6) (a := a) (j := 12) (b := (a + 11)) (A := 11) (B := 0) hk_a (by decide) rfl m_wi6 (by decide) in_1_81 rfl rfl rfl dX6_copyFrom_207 ?_
  refine r_alen X hH (t := 1) (n := 120) (v := (120 : Int32)) (m_lay_at hT hk_a (by decide) (i := 11) rfl) (by decide) rfl dX6_copyFrom_210 ?_
  obtain ⟨S13, e_S13, hm⟩ := m_bind_of hm
  refine n_cpi X hH hS hl.1 (n0 := 120) (n1 := 120) (m_lay_at hT hk_o1 (by decide) (i := 11) rfl) (m_lay_at hT hk_a (by decide) (i := 11) rfl) e_S13 in_4_155 in_4_150 in_4_149 in_1_21 (Nat.le_of_ble_eq_true rfl) (Nat.le_of_ble_eq_true rfl) dX6_copyFrom_211 (fun H locs hH hS => ?_)
  refine lv_aload_n hx hb dX6_copyFrom_214 rfl (lv_at hl 1 rfl) ?_
  refine r_getp X hH (k := 6) (a := o1) (j := 13) (b := (o1 + 12)) (A := 12) (B := 0) hk_o1 (by decide) rfl m_wi6 (by decide) in_1_83 rfl rfl rfl dX6_copyFrom_215 ?_
  refine lv_iconst (v := (0 : Int32)) hx hb dX6_copyFrom_218 (by decide) ?_
  refine lv_aload_n hx hb dX6_copyFrom_219 rfl (lv_at hl 0 rfl) ?_
  refine r_getp X hH (k := 6) (a := a) (j := 13) (b := (a + 12)) (A := 12) (B := 0) hk_a (by decide) rfl m_wi6 (by decide) in_1_83 rfl rfl rfl dX6_copyFrom_220 ?_
  refine lv_iconst (v := (0 : Int32)) hx hb dX6_copyFrom_223 (by decide) ?_
  refine lv_aload_n hx hb dX6_copyFrom_224 rfl (lv_at hl 0 rfl) ?_
  refine r_getp X hH (k := 6) (a := a) (j := 13) (b := (a + 12)) (A := 12) (B := 0) hk_a (by decide) rfl m_wi6 (by decide) in_1_83 rfl rfl rfl dX6_copyFrom_225 ?_
  refine r_alen X hH (t := 1) (n := 24) (v := (24 : Int32)) (m_lay_at hT hk_a (by decide) (i := 12) rfl) (by decide) rfl dX6_copyFrom_228 ?_
  obtain ⟨S14, e_S14, hm⟩ := m_bind_of hm
  refine n_cpi X hH hS hl.1 (n0 := 24) (n1 := 24) (m_lay_at hT hk_o1 (by decide) (i := 12) rfl) (m_lay_at hT hk_a (by decide) (i := 12) rfl) e_S14 in_4_155 in_4_150 in_4_149 in_1_21 (Nat.le_of_ble_eq_true rfl) (Nat.le_of_ble_eq_true rfl) dX6_copyFrom_229 (fun H locs hH hS => ?_)
  refine lv_aload_n hx hb dX6_copyFrom_232 rfl (lv_at hl 1 rfl) ?_
  refine r_getp X hH (k := 6) (a := o1) (j := 14) (b := (o1 + 13)) (A := 13) (B := 0) hk_o1 (by decide) rfl m_wi6 (by decide) in_1_85 rfl rfl rfl dX6_copyFrom_233 ?_
  refine lv_iconst (v := (0 : Int32)) hx hb dX6_copyFrom_236 (by decide) ?_
  refine lv_aload_n hx hb dX6_copyFrom_237 rfl (lv_at hl 0 rfl) ?_
  refine r_getp X hH (k := 6) (a := a) (j := 14) (b := (a + 13)) (A := 13) (B := 0) hk_a (by decide) rfl m_wi6 (by decide) in_1_85 rfl rfl rfl dX6_copyFrom_238 ?_
  refine lv_iconst (v := (0 : Int32)) hx hb dX6_copyFrom_241 (by decide) ?_
  refine lv_aload_n hx hb dX6_copyFrom_242 rfl (lv_at hl 0 rfl) ?_
  refine r_getp X hH (k := 6) (a := a) (j := 14) (b := (a + 13)) (A := 13) (B := 0) hk_a (by decide) rfl m_wi6 (by decide) in_1_85 rfl rfl rfl dX6_copyFrom_243 ?_
  refine r_alen X hH (t := 1) (n := 24) (v := (24 : Int32)) (m_lay_at hT hk_a (by decide) (i := 13) rfl) (by decide) rfl dX6_copyFrom_246 ?_
  obtain ⟨S15, e_S15, hm⟩ := m_bind_of hm
  refine n_cpi X hH hS hl.1 (n0 := 24) (n1 := 24) (m_lay_at hT hk_o1 (by decide) (i := 13) rfl) (m_lay_at hT hk_a (by decide) (i := 13) rfl) e_S15 in_4_155 in_4_150 in_4_149 in_1_21 (Nat.le_of_ble_eq_true rfl) (Nat.le_of_ble_eq_true rfl) dX6_copyFrom_247 (fun H locs hH hS => ?_)
  exact r_vret X hr hH hS hm dX6_copyFrom_250
def rm_X3_copyFrom : Room := { frames := 2, cells := 0, slots := 0, locals := 81 }
def f_X3_copyFrom (a o1 : Nat) (S : m_M)  : Option m_M :=
    m_let (m_si S a 0 (m_ri S o1 0)) fun S1 =>
    m_let (m_si S1 a 1 (m_ri S1 o1 1)) fun S2 =>
    (m_cpj S2 (o1 + 1) 5 (a + 1) 5 (0 : Int32) (0 : Int32) (5 : Int32)).bind fun S3 =>
    (m_cpi S3 (o1 + 2) 5 (a + 2) 5 (0 : Int32) (0 : Int32) (5 : Int32)).bind fun S4 =>
    (m_cpi S4 (o1 + 3) 5 (a + 3) 5 (0 : Int32) (0 : Int32) (5 : Int32)).bind fun S5 =>
    (m_cpi S5 (o1 + 4) 5 (a + 4) 5 (0 : Int32) (0 : Int32) (5 : Int32)).bind fun S6 =>
    (m_cpi S6 (o1 + 5) 24 (a + 5) 24 (0 : Int32) (0 : Int32) (24 : Int32)).bind fun S7 =>
    (m_cpi S7 (o1 + 6) 24 (a + 6) 24 (0 : Int32) (0 : Int32) (24 : Int32)).bind fun S8 =>
    (m_cpi S8 (o1 + 7) 120 (a + 7) 120 (0 : Int32) (0 : Int32) (120 : Int32)).bind fun S9 =>
    m_cal0 (f_X6_copyFrom (a + 8) (o1 + 8) S9) fun S10 =>
    some S10
set_option maxHeartbeats 4000000 in
set_option maxRecDepth 100000 in
theorem c_X3_copyFrom {l : Launch} {G : m_G} {nx : Nat} {κ : Nat → Nat} {a o1 : Nat} {S : m_M}  {res : m_M} (hT : m_Str κ) (hk_a : κ a = 4) (hk_o1 : κ o1 = 4) (hm : f_X3_copyFrom a o1 S = some res) : m_Cv l yX3_copyFrom cX3_copyFrom 2 rm_X3_copyFrom G nx κ [.ref a, .ref o1] S res := by
  refine m_Cv.of (by decide) (Nat.le_of_ble_eq_true rfl) ?_
  intro p e s m args below meth c ls X hr hH hl
  have hx := X.1.1
  have hb := X.1.2.1
  have hS : m_S G s s.heap [] := va_S.rf
  have hl : lv_has ls 2 [(0, .ref a), (1, .ref o1)] := hl
  rw [f_X3_copyFrom] at hm
  refine lv_aload_n hx hb dX3_copyFrom_0 rfl (lv_at hl 0 rfl) ?_
  refine lv_aload_n hx hb dX3_copyFrom_1 rfl (lv_at hl 1 rfl) ?_
  refine r_geti X hH (k := 3) (a := o1) (j := 0) hk_o1 (by decide) rfl m_wi3 (by decide) in_1_122 rfl rfl dX3_copyFrom_2 ?_
  obtain ⟨S1, e_S1, hm⟩ := m_let_of hm
  refine n_puti X hH hS tyX3 (k := 3) (a := a) (j := 0) hk_a (by decide) rfl m_wi3 tyX3_ok nmX3 (by decide) in_1_122 rfl rfl rfl ⟨rfl, rfl⟩ e_S1 dX3_copyFrom_5 (fun H locs hH hS => ?_)
  refine lv_aload_n hx hb dX3_copyFrom_8 rfl (lv_at hl 0 rfl) ?_
  refine lv_aload_n hx hb dX3_copyFrom_9 rfl (lv_at hl 1 rfl) ?_
  refine r_geti X hH (k := 3) (a := o1) (j := 1) hk_o1 (by decide) rfl m_wi3 (by decide) in_1_129 rfl rfl dX3_copyFrom_10 ?_
  obtain ⟨S2, e_S2, hm⟩ := m_let_of hm
  refine n_puti X hH hS tyX3 (k := 3) (a := a) (j := 1) hk_a (by decide) rfl m_wi3 tyX3_ok nmX3 (by decide) in_1_129 rfl rfl rfl ⟨rfl, rfl⟩ e_S2 dX3_copyFrom_13 (fun H locs hH hS => ?_)
  refine lv_aload_n hx hb dX3_copyFrom_16 rfl (lv_at hl 1 rfl) ?_
  refine r_getp X hH (k := 3) (a := o1) (j := 2) (b := (o1 + 1)) (A := 1) (B := 0) hk_o1 (by decide) rfl m_wi3 (by decide) in_1_132 rfl rfl rfl dX3_copyFrom_17 ?_
  refine lv_iconst (v := (0 : Int32)) hx hb dX3_copyFrom_20 (by decide) ?_
  refine lv_aload_n hx hb dX3_copyFrom_21 rfl (lv_at hl 0 rfl) ?_
  refine r_getp X hH (k := 3) (a := a) (j := 2) (b := (a + 1)) (A := 1) (B := 0) hk_a (by decide) rfl m_wi3 (by decide) in_1_132 rfl rfl rfl dX3_copyFrom_22 ?_
  refine lv_iconst (v := (0 : Int32)) hx hb dX3_copyFrom_25 (by decide) ?_
  refine lv_aload_n hx hb dX3_copyFrom_26 rfl (lv_at hl 0 rfl) ?_
  refine r_getp X hH (k := 3) (a := a) (j := 2) (b := (a + 1)) (A := 1) (B := 0) hk_a (by decide) rfl m_wi3 (by decide) in_1_132 rfl rfl rfl dX3_copyFrom_27 ?_
  refine r_alen X hH (t := 2) (n := 5) (v := (5 : Int32)) (m_lay_at hT hk_a (by decide) (i := 1) rfl) (by decide) rfl dX3_copyFrom_30 ?_
  obtain ⟨S3, e_S3, hm⟩ := m_bind_of hm
  refine n_cpj X hH hS hl.1 (n0 := 5) (n1 := 5) (m_lay_at hT hk_o1 (by decide) (i := 1) rfl) (m_lay_at hT hk_a (by decide) (i := 1) rfl) e_S3 in_4_148 in_4_150 in_4_149 in_1_21 (Nat.le_of_ble_eq_true rfl) (Nat.le_of_ble_eq_true rfl) dX3_copyFrom_31 (fun H locs hH hS => ?_)
  refine lv_aload_n hx hb dX3_copyFrom_34 rfl (lv_at hl 1 rfl) ?_
  refine r_getp X hH (k := 3) (a := o1) (j := 3) (b := (o1 + 2)) (A := 2) (B := 0) hk_o1 (by decide) rfl m_wi3 (by decide) in_1_133 rfl rfl rfl dX3_copyFrom_35 ?_
  refine lv_iconst (v := (0 : Int32)) hx hb dX3_copyFrom_38 (by decide) ?_
  refine lv_aload_n hx hb dX3_copyFrom_39 rfl (lv_at hl 0 rfl) ?_
  refine r_getp X hH (k := 3) (a := a) (j := 3) (b := (a + 2)) (A := 2) (B := 0) hk_a (by decide) rfl m_wi3 (by decide) in_1_133 rfl rfl rfl dX3_copyFrom_40 ?_
  refine lv_iconst (v := (0 : Int32)) hx hb dX3_copyFrom_43 (by decide) ?_
  refine lv_aload_n hx hb dX3_copyFrom_44 rfl (lv_at hl 0 rfl) ?_
  refine r_getp X hH (k := 3) (a := a) (j := 3) (b := (a + 2)) (A := 2) (B := 0) hk_a (by decide) rfl m_wi3 (by decide) in_1_133 rfl rfl rfl dX3_copyFrom_45 ?_
  refine r_alen X hH (t := 1) (n := 5) (v := (5 : Int32)) (m_lay_at hT hk_a (by decide) (i := 2) rfl) (by decide) rfl dX3_copyFrom_48 ?_
  obtain ⟨S4, e_S4, hm⟩ := m_bind_of hm
  refine n_cpi X hH hS hl.1 (n0 := 5) (n1 := 5) (m_lay_at hT hk_o1 (by decide) (i := 2) rfl) (m_lay_at hT hk_a (by decide) (i := 2) rfl) e_S4 in_4_148 in_4_150 in_4_149 in_1_21 (Nat.le_of_ble_eq_true rfl) (Nat.le_of_ble_eq_true rfl) dX3_copyFrom_49 (fun H locs hH hS => ?_)
  refine lv_aload_n hx hb dX3_copyFrom_52 rfl (lv_at hl 1 rfl) ?_
  refine r_getp X hH (k := 3) (a := o1) (j := 4) (b := (o1 + 3)) (A := 3) (B := 0) hk_o1 (by decide) rfl m_wi3 (by decide) in_1_139 rfl rfl rfl dX3_copyFrom_53 ?_
  refine lv_iconst (v := (0 : Int32)) hx hb dX3_copyFrom_56 (by decide) ?_
  refine lv_aload_n hx hb dX3_copyFrom_57 rfl (lv_at hl 0 rfl) ?_
  refine r_getp X hH (k := 3) (a := a) (j := 4) (b := (a + 3)) (A := 3) (B := 0) hk_a (by decide) rfl m_wi3 (by decide) in_1_139 rfl rfl rfl dX3_copyFrom_58 ?_
  refine lv_iconst (v := (0 : Int32)) hx hb dX3_copyFrom_61 (by decide) ?_
  refine lv_aload_n hx hb dX3_copyFrom_62 rfl (lv_at hl 0 rfl) ?_
  refine r_getp X hH (k := 3) (a := a) (j := 4) (b := (a + 3)) (A := 3) (B := 0) hk_a (by decide) rfl m_wi3 (by decide) in_1_139 rfl rfl rfl dX3_copyFrom_63 ?_
  refine r_alen X hH (t := 1) (n := 5) (v := (5 : Int32)) (m_lay_at hT hk_a (by decide) (i := 3) rfl) (by decide) rfl dX3_copyFrom_66 ?_
  obtain ⟨S5, e_S5, hm⟩ := m_bind_of hm
  refine n_cpi X hH hS hl.1 (n0 := 5) (n1 := 5) (m_lay_at hT hk_o1 (by decide) (i := 3) rfl) (m_lay_at hT hk_a (by decide) (i := 3) rfl) e_S5 in_4_148 in_4_150 in_4_149 in_1_21 (Nat.le_of_ble_eq_true rfl) (Nat.le_of_ble_eq_true rfl) dX3_copyFrom_67 (fun H locs hH hS => ?_)
  refine lv_aload_n hx hb dX3_copyFrom_70 rfl (lv_at hl 1 rfl) ?_
  refine r_getp X hH (k := 3) (a := o1) (j := 5) (b := (o1 + 4)) (A := 4) (B := 0) hk_o1 (by decide) rfl m_wi3 (by decide) in_1_143 rfl rfl rfl dX3_copyFrom_71 ?_
  refine lv_iconst (v := (0 : Int32)) hx hb dX3_copyFrom_74 (by decide) ?_
  refine lv_aload_n hx hb dX3_copyFrom_75 rfl (lv_at hl 0 rfl) ?_
  refine r_getp X hH (k := 3) (a := a) (j := 5) (b := (a + 4)) (A := 4) (B := 0) hk_a (by decide) rfl m_wi3 (by decide) in_1_143 rfl rfl rfl dX3_copyFrom_76 ?_
  refine lv_iconst (v := (0 : Int32)) hx hb dX3_copyFrom_79 (by decide) ?_
  refine lv_aload_n hx hb dX3_copyFrom_80 rfl (lv_at hl 0 rfl) ?_
  refine r_getp X hH (k := 3) (a := a) (j := 5) (b := (a + 4)) (A := 4) (B := 0) hk_a (by decide) rfl m_wi3 (by decide) in_1_143 rfl rfl rfl dX3_copyFrom_81 ?_
  refine r_alen X hH (t := 1) (n := 5) (v := (5 : Int32)) (m_lay_at hT hk_a (by decide) (i := 4) rfl) (by decide) rfl dX3_copyFrom_84 ?_
  obtain ⟨S6, e_S6, hm⟩ := m_bind_of hm
  refine n_cpi X hH hS hl.1 (n0 := 5) (n1 := 5) (m_lay_at hT hk_o1 (by decide) (i := 4) rfl) (m_lay_at hT hk_a (by decide) (i := 4) rfl) e_S6 in_4_148 in_4_150 in_4_149 in_1_21 (Nat.le_of_ble_eq_true rfl) (Nat.le_of_ble_eq_true rfl) dX3_copyFrom_85 (fun H locs hH hS => ?_)
  refine lv_aload_n hx hb dX3_copyFrom_88 rfl (lv_at hl 1 rfl) ?_
  refine r_getp X hH (k := 3) (a := o1) (j := 6) (b := (o1 + 5)) (A := 5) (B := 0) hk_o1 (by decide) rfl m_wi3 (by decide) in_1_149 rfl rfl rfl dX3_copyFrom_89 ?_
  refine lv_iconst (v := (0 : Int32)) hx hb dX3_copyFrom_92 (by decide) ?_
  refine lv_aload_n hx hb dX3_copyFrom_93 rfl (lv_at hl 0 rfl) ?_
  refine r_getp X hH (k := 3) (a := a) (j := 6) (b := (a + 5)) (A := 5) (B := 0) hk_a (by decide) rfl m_wi3 (by decide) in_1_149 rfl rfl rfl dX3_copyFrom_94 ?_
  refine lv_iconst (v := (0 : Int32)) hx hb dX3_copyFrom_97 (by decide) ?_
  refine lv_aload_n hx hb dX3_copyFrom_98 rfl (lv_at hl 0 rfl) ?_
  refine r_getp X hH (k := 3) (a := a) (j := 6) (b := (a + 5)) (A := 5) (B := 0) hk_a (by decide) rfl m_wi3 (by decide) in_1_149 rfl rfl rfl dX3_copyFrom_99 ?_
  refine r_alen X hH (t := 1) (n := 24) (v := (24 : Int32)) (m_lay_at hT hk_a (by decide) (i := 5) rfl) (by decide) rfl dX3_copyFrom_102 ?_
  obtain ⟨S7, e_S7, hm⟩ := m_bind_of hm
  refine n_cpi X hH hS hl.1 (n0 := 24) (n1 := 24) (m_lay_at hT hk_o1 (by decide) (i := 5) rfl) (m_lay_at hT hk_a (by decide) (i := 5) rfl) e_S7 in_4_148 in_4_150 in_4_149 in_1_21 (Nat.le_of_ble_eq_true rfl) (Nat.le_of_ble_eq_true rfl) dX3_copyFrom_103 (fun H locs hH hS => ?_)
  refine lv_aload_n hx hb dX3_copyFrom_106 rfl (lv_at hl 1 rfl) ?_
  refine r_getp X hH (k := 3) (a := o1) (j := 7) (b := (o1 + 6)) (A := 6) (B := 0) hk_o1 (by decide) rfl m_wi3 (by decide) in_1_154 rfl rfl rfl dX3_copyFrom_107 ?_
  refine lv_iconst (v := (0 : Int32)) hx hb dX3_copyFrom_110 (by decide) ?_
  refine lv_aload_n hx hb dX3_copyFrom_111 rfl (lv_at hl 0 rfl) ?_
  refine r_getp X hH (k := 3) (a := a) (j := 7) (b := (a + 6)) (A := 6) (B := 0) hk_a (by decide) rfl m_wi3 (by decide) in_1_154 rfl rfl rfl dX3_copyFrom_112 ?_
  refine lv_iconst (v := (0 : Int32)) hx hb dX3_copyFrom_115 (by decide) ?_
  refine lv_aload_n hx hb dX3_copyFrom_116 rfl (lv_at hl 0 rfl) ?_
  refine r_getp X hH (k := 3) (a := a) (j := 7) (b := (a + 6)) (A := 6) (B := 0) hk_a (by decide) rfl m_wi3 (by decide) in_1_154 rfl rfl rfl dX3_copyFrom_117 ?_
  refine r_alen X hH (t := 1) (n := 24) (v := (24 : Int32)) (m_lay_at hT hk_a (by decide) (i := 6) rfl) (by decide) rfl dX3_copyFrom_120 ?_
  obtain ⟨S8, e_S8, hm⟩ := m_bind_of hm
  refine n_cpi X hH hS hl.1 (n0 := 24) (n1 := 24) (m_lay_at hT hk_o1 (by decide) (i := 6) rfl) (m_lay_at hT hk_a (by decide) (i := 6) rfl) e_S8 in_4_148 in_4_150 in_4_149 in_1_21 (Nat.le_of_ble_eq_true rfl) (Nat.le_of_ble_eq_true rfl) dX3_copyFrom_121 (fun H locs hH hS => ?_)
  refine lv_aload_n hx hb dX3_copyFrom_124 rfl (lv_at hl 1 rfl) ?_
  refine r_getp X hH (k := 3) (a := o1) (j := 8) (b := (o1 + 7)) (A := 7) (B := 0) hk_o1 (by decide) rfl m_wi3 (by decide) in_1_158 rfl rfl rfl dX3_copyFrom_125 ?_
  refine lv_iconst (v := (0 : Int32)) hx hb dX3_copyFrom_128 (by decide) ?_
  refine lv_aload_n hx hb dX3_copyFrom_129 rfl (lv_at hl 0 rfl) ?_
  refine r_getp X hH (k := 3) (a := a) (j := 8) (b := (a + 7)) (A := 7) (B := 0) hk_a (by decide) rfl m_wi3 (by decide) in_1_158 rfl rfl rfl dX3_copyFrom_130 ?_
  refine lv_iconst (v := (0 : Int32)) hx hb dX3_copyFrom_133 (by decide) ?_
  refine lv_aload_n hx hb dX3_copyFrom_134 rfl (lv_at hl 0 rfl) ?_
  refine r_getp X hH (k := 3) (a := a) (j := 8) (b := (a + 7)) (A := 7) (B := 0) hk_a (by decide) rfl m_wi3 (by decide) in_1_158 rfl rfl rfl dX3_copyFrom_135 ?_
  refine r_alen X hH (t := 1) (n := 120) (v := (120 : Int32)) (m_lay_at hT hk_a (by decide) (i := 7) rfl) (by decide) rfl dX3_copyFrom_138 ?_
  obtain ⟨S9, e_S9, hm⟩ := m_bind_of hm
  refine n_cpi X hH hS hl.1 (n0 := 120) (n1 := 120) (m_lay_at hT hk_o1 (by decide) (i := 7) rfl) (m_lay_at hT hk_a (by decide) (i := 7) rfl) e_S9 in_4_148 in_4_150 in_4_149 in_1_21 (Nat.le_of_ble_eq_true rfl) (Nat.le_of_ble_eq_true rfl) dX3_copyFrom_139 (fun H locs hH hS => ?_)
  refine lv_aload_n hx hb dX3_copyFrom_142 rfl (lv_at hl 0 rfl) ?_
  refine r_getp X hH (k := 3) (a := a) (j := 9) (b := (a + 8)) (A := 8) (B := 0) hk_a (by decide) rfl m_wi3 (by decide) in_1_160 rfl rfl rfl dX3_copyFrom_143 ?_
  refine lv_aload_n hx hb dX3_copyFrom_146 rfl (lv_at hl 1 rfl) ?_
  refine r_getp X hH (k := 3) (a := o1) (j := 9) (b := (o1 + 8)) (A := 8) (B := 0) hk_o1 (by decide) rfl m_wi3 (by decide) in_1_160 rfl rfl rfl dX3_copyFrom_147 ?_
  obtain ⟨S10, e_S10, hm⟩ := m_cal0_of hm
  refine r_cVv X hH hS (k := 6) (c_X6_copyFrom (a := (a + 8)) (o1 := (o1 + 8)) hT (m_lay_at hT hk_a (by decide) (i := 8) rfl) (m_lay_at hT hk_o1 (by decide) (i := 8) rfl) e_S10) mw_X6_copyFrom in_4_151 (m_lay_at hT hk_a (by decide) (i := 8) rfl) (by decide) rfl rfl rfl ⟨rfl, rfl⟩ ⟨Nat.le_of_ble_eq_true rfl, Nat.le_of_ble_eq_true rfl⟩ ⟨Nat.zero_le _, Nat.zero_le _⟩ hl.1 (Nat.le_of_ble_eq_true rfl) dX3_copyFrom_150 (fun H locs hH hS => ?_)
  exact r_vret X hr hH hS hm dX3_copyFrom_153
def rm_X3_openFun : Room := { frames := 0, cells := 0, slots := 0, locals := 0 }
def f_X3_openFun (a : Nat) (S : m_M) (j1 : Int64) : Option m_M :=
    (m_stj S (a + 1) 5 (m_ri S a 0) j1).bind fun S1 =>
    (m_sti S1 (a + 2) 5 (m_ri S1 a 0) (0 : Int32)).bind fun S2 =>
    (m_sti S2 (a + 3) 5 (m_ri S2 a 0) (m_ri S2 a 1)).bind fun S3 =>
    (m_sti S3 (a + 4) 5 (m_ri S3 a 0) (0 : Int32)).bind fun S4 =>
    m_let (m_si S4 a 0 ((m_ri S4 a 0) + (1 : Int32))) fun S5 =>
    some S5
set_option maxHeartbeats 4000000 in
set_option maxRecDepth 100000 in
theorem c_X3_openFun {l : Launch} {G : m_G} {nx : Nat} {κ : Nat → Nat} {a : Nat} {S : m_M} {j1 : Int64} {res : m_M} (hT : m_Str κ) (hk_a : κ a = 4) (hm : f_X3_openFun a S j1 = some res) : m_Cv l yX3_openFun cX3_openFun 3 rm_X3_openFun G nx κ [.ref a, .long j1] S res := by
  refine m_Cv.of (by decide) (Nat.le_of_ble_eq_true rfl) ?_
  intro p e s m args below meth c ls X hr hH hl
  have hx := X.1.1
  have hb := X.1.2.1
  have hS : m_S G s s.heap [] := va_S.rf
  have hl : lv_has ls 3 [(0, .ref a), (1, .long j1)] := hl
  rw [f_X3_openFun] at hm
  refine lv_aload_n hx hb dX3_openFun_0 rfl (lv_at hl 0 rfl) ?_
  refine r_getp X hH (k := 3) (a := a) (j := 2) (b := (a + 1)) (A := 1) (B := 0) hk_a (by decide) rfl m_wi3 (by decide) in_1_132 rfl rfl rfl dX3_openFun_1 ?_
  refine lv_aload_n hx hb dX3_openFun_4 rfl (lv_at hl 0 rfl) ?_
  refine r_geti X hH (k := 3) (a := a) (j := 0) hk_a (by decide) rfl m_wi3 (by decide) in_1_122 rfl rfl dX3_openFun_5 ?_
  refine lv_lload_n hx hb dX3_openFun_8 rfl (lv_at hl 1 rfl) ?_
  obtain ⟨S1, h_S1, e_S1, hm⟩ := n_stj hm
  refine n_last X hH hS (n := 5) (m_lay_at hT hk_a (by decide) (i := 1) rfl) h_S1 e_S1 dX3_openFun_9 (fun H locs hH hS => ?_)
  refine lv_aload_n hx hb dX3_openFun_10 rfl (lv_at hl 0 rfl) ?_
  refine r_getp X hH (k := 3) (a := a) (j := 3) (b := (a + 2)) (A := 2) (B := 0) hk_a (by decide) rfl m_wi3 (by decide) in_1_133 rfl rfl rfl dX3_openFun_11 ?_
  refine lv_aload_n hx hb dX3_openFun_14 rfl (lv_at hl 0 rfl) ?_
  refine r_geti X hH (k := 3) (a := a) (j := 0) hk_a (by decide) rfl m_wi3 (by decide) in_1_122 rfl rfl dX3_openFun_15 ?_
  refine lv_iconst (v := (0 : Int32)) hx hb dX3_openFun_18 (by decide) ?_
  obtain ⟨S2, h_S2, e_S2, hm⟩ := n_sti hm
  refine n_iast X hH hS (n := 5) (m_lay_at hT hk_a (by decide) (i := 2) rfl) h_S2 e_S2 dX3_openFun_19 (fun H locs hH hS => ?_)
  refine lv_aload_n hx hb dX3_openFun_20 rfl (lv_at hl 0 rfl) ?_
  refine r_getp X hH (k := 3) (a := a) (j := 4) (b := (a + 3)) (A := 3) (B := 0) hk_a (by decide) rfl m_wi3 (by decide) in_1_139 rfl rfl rfl dX3_openFun_21 ?_
  refine lv_aload_n hx hb dX3_openFun_24 rfl (lv_at hl 0 rfl) ?_
  refine r_geti X hH (k := 3) (a := a) (j := 0) hk_a (by decide) rfl m_wi3 (by decide) in_1_122 rfl rfl dX3_openFun_25 ?_
  refine lv_aload_n hx hb dX3_openFun_28 rfl (lv_at hl 0 rfl) ?_
  refine r_geti X hH (k := 3) (a := a) (j := 1) hk_a (by decide) rfl m_wi3 (by decide) in_1_129 rfl rfl dX3_openFun_29 ?_
  obtain ⟨S3, h_S3, e_S3, hm⟩ := n_sti hm
  refine n_iast X hH hS (n := 5) (m_lay_at hT hk_a (by decide) (i := 3) rfl) h_S3 e_S3 dX3_openFun_32 (fun H locs hH hS => ?_)
  refine lv_aload_n hx hb dX3_openFun_33 rfl (lv_at hl 0 rfl) ?_
  refine r_getp X hH (k := 3) (a := a) (j := 5) (b := (a + 4)) (A := 4) (B := 0) hk_a (by decide) rfl m_wi3 (by decide) in_1_143 rfl rfl rfl dX3_openFun_34 ?_
  refine lv_aload_n hx hb dX3_openFun_37 rfl (lv_at hl 0 rfl) ?_
  refine r_geti X hH (k := 3) (a := a) (j := 0) hk_a (by decide) rfl m_wi3 (by decide) in_1_122 rfl rfl dX3_openFun_38 ?_
  refine lv_iconst (v := (0 : Int32)) hx hb dX3_openFun_41 (by decide) ?_
  obtain ⟨S4, h_S4, e_S4, hm⟩ := n_sti hm
  refine n_iast X hH hS (n := 5) (m_lay_at hT hk_a (by decide) (i := 4) rfl) h_S4 e_S4 dX3_openFun_42 (fun H locs hH hS => ?_)
  refine lv_aload_n hx hb dX3_openFun_43 rfl (lv_at hl 0 rfl) ?_
  refine lv_dup hx hb dX3_openFun_44 rfl ?_
  refine r_geti X hH (k := 3) (a := a) (j := 0) hk_a (by decide) rfl m_wi3 (by decide) in_1_122 rfl rfl dX3_openFun_45 ?_
  refine lv_iconst (v := (1 : Int32)) hx hb dX3_openFun_48 (by decide) ?_
  refine lv_iadd hx hb dX3_openFun_49 ?_
  obtain ⟨S5, e_S5, hm⟩ := m_let_of hm
  refine n_puti X hH hS tyX3 (k := 3) (a := a) (j := 0) hk_a (by decide) rfl m_wi3 tyX3_ok nmX3 (by decide) in_1_122 rfl rfl rfl ⟨rfl, rfl⟩ e_S5 dX3_openFun_50 (fun H locs hH hS => ?_)
  exact r_vret X hr hH hS hm dX3_openFun_53
def rm_X3_closeLine : Room := { frames := 0, cells := 0, slots := 0, locals := 0 }
def f_X3_closeLine (a : Nat) (S : m_M)  : Option m_M :=
    (m_ldi S (a + 4) 5 ((m_ri S a 0) - (1 : Int32))).bind fun v1 =>
    (m_sti S (a + 4) 5 ((m_ri S a 0) - (1 : Int32)) (v1 + (1 : Int32))).bind fun S2 =>
    m_let (m_si S2 a 1 ((m_ri S2 a 1) + (1 : Int32))) fun S3 =>
    some S3
set_option maxHeartbeats 4000000 in
set_option maxRecDepth 100000 in
theorem c_X3_closeLine {l : Launch} {G : m_G} {nx : Nat} {κ : Nat → Nat} {a : Nat} {S : m_M}  {res : m_M} (hT : m_Str κ) (hk_a : κ a = 4) (hm : f_X3_closeLine a S = some res) : m_Cv l yX3_closeLine cX3_closeLine 1 rm_X3_closeLine G nx κ [.ref a] S res := by
  refine m_Cv.of (by decide) (Nat.le_of_ble_eq_true rfl) ?_
  intro p e s m args below meth c ls X hr hH hl
  have hx := X.1.1
  have hb := X.1.2.1
  have hS : m_S G s s.heap [] := va_S.rf
  have hl : lv_has ls 1 [(0, .ref a)] := hl
  rw [f_X3_closeLine] at hm
  refine lv_aload_n hx hb dX3_closeLine_0 rfl (lv_at hl 0 rfl) ?_
  refine r_getp X hH (k := 3) (a := a) (j := 5) (b := (a + 4)) (A := 4) (B := 0) hk_a (by decide) rfl m_wi3 (by decide) in_1_143 rfl rfl rfl dX3_closeLine_1 ?_
  refine lv_aload_n hx hb dX3_closeLine_4 rfl (lv_at hl 0 rfl) ?_
  refine r_geti X hH (k := 3) (a := a) (j := 0) hk_a (by decide) rfl m_wi3 (by decide) in_1_122 rfl rfl dX3_closeLine_5 ?_
  refine lv_iconst (v := (1 : Int32)) hx hb dX3_closeLine_8 (by decide) ?_
  refine lv_isub hx hb dX3_closeLine_9 ?_
  refine lv_dup2_11 hx hb dX3_closeLine_10 rfl rfl ?_
  obtain ⟨v1, h_v1, e_v1, hm⟩ := n_ldi hm
  refine n_iald X hH (n := 5) (m_lay_at hT hk_a (by decide) (i := 4) rfl) h_v1 e_v1 dX3_closeLine_11 ?_
  refine lv_iconst (v := (1 : Int32)) hx hb dX3_closeLine_12 (by decide) ?_
  refine lv_iadd hx hb dX3_closeLine_13 ?_
  obtain ⟨S2, h_S2, e_S2, hm⟩ := n_sti hm
  refine n_iast X hH hS (n := 5) (m_lay_at hT hk_a (by decide) (i := 4) rfl) h_S2 e_S2 dX3_closeLine_14 (fun H locs hH hS => ?_)
  refine lv_aload_n hx hb dX3_closeLine_15 rfl (lv_at hl 0 rfl) ?_
  refine lv_dup hx hb dX3_closeLine_16 rfl ?_
  refine r_geti X hH (k := 3) (a := a) (j := 1) hk_a (by decide) rfl m_wi3 (by decide) in_1_129 rfl rfl dX3_closeLine_17 ?_
  refine lv_iconst (v := (1 : Int32)) hx hb dX3_closeLine_20 (by decide) ?_
  refine lv_iadd hx hb dX3_closeLine_21 ?_
  obtain ⟨S3, e_S3, hm⟩ := m_let_of hm
  refine n_puti X hH hS tyX3 (k := 3) (a := a) (j := 1) hk_a (by decide) rfl m_wi3 tyX3_ok nmX3 (by decide) in_1_129 rfl rfl rfl ⟨rfl, rfl⟩ e_S3 dX3_closeLine_22 (fun H locs hH hS => ?_)
  exact r_vret X hr hH hS hm dX3_closeLine_25
def rm_X3_funOf : Room := { frames := 0, cells := 0, slots := 0, locals := 0 }
def b_X3_funOf_2 (a : Nat)  : Nat → m_M → Int64 → Int32 → Option (Int32 × m_M)
  | 0, _, _, _ => none
  | n + 1, S, l1, l3 =>
    if (m_ri S a 0) ≤ l3 then (
    some ((-1 : Int32), S)) else (
    (m_ldj S (a + 1) 5 l3).bind fun v2 =>
    if (lg_cmp v2 l1) = 0 then (
    some (l3, S)) else (
    m_let (l3 + (1 : Int32)) fun v4 =>
    b_X3_funOf_2 a n S l1 v4))
set_option maxHeartbeats 4000000 in
set_option maxRecDepth 100000 in
theorem k_X3_funOf_2 {p : Program} {l : Launch} {e : Env} {s : State} {m : MethodId} {args : Array Value} {below : List Frame} {meth : Method} {c : Code} {G : m_G} {nx : Nat} {κ : Nat → Nat} {res : (Int32 × m_M)} {a : Nat} (X : m_Cx p s m args meth c cX3_funOf 4 RX3 G) (hr : meth.sig.returnType = (some .int)) (hT : m_Str κ) (hk_a : κ a = 4)  (n : Nat) : ∀ (S : m_M) (l1 : Int64) (l3 : Int32) (H : Heap) (locs : List Loc) (ls : Array Slot), m_H G nx κ S H → m_S G s H locs → lv_has ls 4 [(0, .ref a), (1, .long l1), (3, .int l3)] → b_X3_funOf_2 a n S l1 l3 = some res → W p l e rm_X3_funOf s m args below meth c H locs 0 0 (m_Qi below args s G nx κ res) (F0 m 2 ls []) := by
  have hx := X.1.1
  have hb := X.1.2.1
  induction n with
  | zero => intro S l1 l3 H locs ls hH hS hl hm; have hm : (none : Option (Int32 × m_M)) = some res := hm; cases hm
  | succ n ih =>
    intro S l1 l3 H locs ls hH hS hl hm
    rw [b_X3_funOf_2] at hm
    refine lv_iload_n hx hb dX3_funOf_2 rfl (lv_at hl 2 rfl) ?_
    refine lv_aload_n hx hb dX3_funOf_3 rfl (lv_at hl 0 rfl) ?_
    refine r_geti X hH (k := 3) (a := a) (j := 0) hk_a (by decide) rfl m_wi3 (by decide) in_1_122 rfl rfl dX3_funOf_4 ?_
    refine lv_icmp_ge (tgt := 29) hx hb dX3_funOf_7 (by decide) (fun c1 => ?_) (fun c1 => ?_)
    · have hm := m_ite_t hm c1
      refine lv_iconst (v := (-1 : Int32)) hx hb dX3_funOf_29 (by decide) ?_
      exact r_iret X hr hH hS hm dX3_funOf_30
    · have hm := m_ite_f hm c1
      refine lv_aload_n hx hb dX3_funOf_10 rfl (lv_at hl 0 rfl) ?_
      refine r_getp X hH (k := 3) (a := a) (j := 2) (b := (a + 1)) (A := 1) (B := 0) hk_a (by decide) rfl m_wi3 (by decide) in_1_132 rfl rfl rfl dX3_funOf_11 ?_
      refine lv_iload_n hx hb dX3_funOf_14 rfl (lv_at hl 2 rfl) ?_
      obtain ⟨v2, h_v2, e_v2, hm⟩ := n_ldj hm
      refine n_lald X hH (n := 5) (m_lay_at hT hk_a (by decide) (i := 1) rfl) h_v2 e_v2 dX3_funOf_15 ?_
      refine lv_lload_n hx hb dX3_funOf_16 rfl (lv_at hl 1 rfl) ?_
      refine W.lcmp hx hb dX3_funOf_17 ?_
      refine lv_if_ne (tgt := 23) hx hb dX3_funOf_18 (by decide) (fun c3 => ?_) (fun c3 => ?_)
      · have hm := m_ite_f hm c3
        obtain ⟨v4, e_v4, hm⟩ := m_let_of hm
        refine lv_iinc (v := v4) (lv' := [(3, .int v4), (0, .ref a), (1, .long l1)]) hx hb dX3_funOf_23 hl (k := 2) rfl (by rw [← e_v4]; rfl) (by decide) rfl (fun ls hl => ?_)
        refine lv_goto (tgt := 2) hx hb dX3_funOf_26 (by decide) ?_
        exact ih S l1 v4 _ _ _ hH hS (lv_sub hl [1, 2, 0] rfl) hm
      · have hm := m_ite_t hm c3
        refine lv_iload_n hx hb dX3_funOf_21 rfl (lv_at hl 2 rfl) ?_
        exact r_iret X hr hH hS hm dX3_funOf_22
def f_X3_funOf (a : Nat) (S : m_M) (j1 : Int64) : Option (Int32 × m_M) :=
    b_X3_funOf_2 a m_fu S j1 (0 : Int32)
set_option maxHeartbeats 4000000 in
set_option maxRecDepth 100000 in
theorem c_X3_funOf {l : Launch} {G : m_G} {nx : Nat} {κ : Nat → Nat} {a : Nat} {S : m_M} {j1 : Int64} {res : (Int32 × m_M)} (hT : m_Str κ) (hk_a : κ a = 4) (hm : f_X3_funOf a S j1 = some res) : m_Ci l yX3_funOf cX3_funOf 4 (some .int) rm_X3_funOf G nx κ [.ref a, .long j1] S res := by
  refine m_Ci.of (by decide) (Nat.le_of_ble_eq_true rfl) ?_
  intro p e s m args below meth c ls X hr hH hl
  have hx := X.1.1
  have hb := X.1.2.1
  have hS : m_S G s s.heap [] := va_S.rf
  have hl : lv_has ls 4 [(0, .ref a), (1, .long j1)] := hl
  rw [f_X3_funOf] at hm
  refine lv_iconst (v := (0 : Int32)) hx hb dX3_funOf_0 (by decide) ?_
  refine lv_istore_n (lv' := [(3, .int (0 : Int32)), (0, .ref a), (1, .long j1)]) hx hb dX3_funOf_1 rfl hl (by decide) rfl (fun ls hl => ?_)
  exact k_X3_funOf_2 (a := a) X hr hT hk_a  m_fu S j1 (0 : Int32) _ _ _ hH hS (lv_sub hl [1, 2, 0] rfl) hm
def rm_X3_parametersOfMain : Room := { frames := 0, cells := 0, slots := 0, locals := 0 }
def b_X3_parametersOfMain_22 (a : Nat)  (S : m_M) (t0 : Int32) : Option (Int32 × m_M) :=
    some (t0, S)
set_option maxHeartbeats 4000000 in
set_option maxRecDepth 100000 in
theorem k_X3_parametersOfMain_22 {p : Program} {l : Launch} {e : Env} {s : State} {m : MethodId} {args : Array Value} {below : List Frame} {meth : Method} {c : Code} {G : m_G} {nx : Nat} {κ : Nat → Nat} {res : (Int32 × m_M)} {a : Nat} (X : m_Cx p s m args meth c cX3_parametersOfMain 1 RX3 G) (hr : meth.sig.returnType = (some .int)) (hT : m_Str κ) (hk_a : κ a = 4)  : ∀ (S : m_M) (t0 : Int32) (H : Heap) (locs : List Loc) (ls : Array Slot), m_H G nx κ S H → m_S G s H locs → lv_has ls 1 [] → b_X3_parametersOfMain_22 a S t0 = some res → W p l e rm_X3_parametersOfMain s m args below meth c H locs 0 0 (m_Qi below args s G nx κ res) (F0 m 22 ls [.int t0]) := by
  have hx := X.1.1
  have hb := X.1.2.1
  intro S t0 H locs ls hH hS hl hm
  rw [b_X3_parametersOfMain_22] at hm
  exact r_iret X hr hH hS hm dX3_parametersOfMain_22
def f_X3_parametersOfMain (a : Nat) (S : m_M)  : Option (Int32 × m_M) :=
    if (m_ri S a 0) ≤ 0 then (
    b_X3_parametersOfMain_22 a S (0 : Int32)) else (
    (m_ldi S (a + 2) 5 ((m_ri S a 0) - (1 : Int32))).bind fun v2 =>
    b_X3_parametersOfMain_22 a S v2)
set_option maxHeartbeats 4000000 in
set_option maxRecDepth 100000 in
theorem c_X3_parametersOfMain {l : Launch} {G : m_G} {nx : Nat} {κ : Nat → Nat} {a : Nat} {S : m_M}  {res : (Int32 × m_M)} (hT : m_Str κ) (hk_a : κ a = 4) (hm : f_X3_parametersOfMain a S = some res) : m_Ci l yX3_parametersOfMain cX3_parametersOfMain 1 (some .int) rm_X3_parametersOfMain G nx κ [.ref a] S res := by
  refine m_Ci.of (by decide) (Nat.le_of_ble_eq_true rfl) ?_
  intro p e s m args below meth c ls X hr hH hl
  have hx := X.1.1
  have hb := X.1.2.1
  have hS : m_S G s s.heap [] := va_S.rf
  have hl : lv_has ls 1 [(0, .ref a)] := hl
  rw [f_X3_parametersOfMain] at hm
  refine lv_aload_n hx hb dX3_parametersOfMain_0 rfl (lv_at hl 0 rfl) ?_
  refine r_geti X hH (k := 3) (a := a) (j := 0) hk_a (by decide) rfl m_wi3 (by decide) in_1_122 rfl rfl dX3_parametersOfMain_1 ?_
  refine lv_if_le (tgt := 21) hx hb dX3_parametersOfMain_4 (by decide) (fun c1 => ?_) (fun c1 => ?_)
  · have hm := m_ite_t hm c1
    refine lv_iconst (v := (0 : Int32)) hx hb dX3_parametersOfMain_21 (by decide) ?_
    exact k_X3_parametersOfMain_22 (a := a) X hr hT hk_a   S (0 : Int32) _ _ _ hH hS (lv_sub hl [] rfl) hm
  · have hm := m_ite_f hm c1
    refine lv_aload_n hx hb dX3_parametersOfMain_7 rfl (lv_at hl 0 rfl) ?_
    refine r_getp X hH (k := 3) (a := a) (j := 3) (b := (a + 2)) (A := 2) (B := 0) hk_a (by decide) rfl m_wi3 (by decide) in_1_133 rfl rfl rfl dX3_parametersOfMain_8 ?_
    refine lv_aload_n hx hb dX3_parametersOfMain_11 rfl (lv_at hl 0 rfl) ?_
    refine r_geti X hH (k := 3) (a := a) (j := 0) hk_a (by decide) rfl m_wi3 (by decide) in_1_122 rfl rfl dX3_parametersOfMain_12 ?_
    refine lv_iconst (v := (1 : Int32)) hx hb dX3_parametersOfMain_15 (by decide) ?_
    refine lv_isub hx hb dX3_parametersOfMain_16 ?_
    obtain ⟨v2, h_v2, e_v2, hm⟩ := n_ldi hm
    refine n_iald X hH (n := 5) (m_lay_at hT hk_a (by decide) (i := 2) rfl) h_v2 e_v2 dX3_parametersOfMain_17 ?_
    refine lv_goto (tgt := 22) hx hb dX3_parametersOfMain_18 (by decide) ?_
    exact k_X3_parametersOfMain_22 (a := a) X hr hT hk_a   S v2 _ _ _ hH hS (lv_sub hl [] rfl) hm
def rm_X3_resultOf : Room := { frames := 1, cells := 0, slots := 0, locals := 21 }
def f_X3_resultOf (a : Nat) (S : m_M) (i1 : Int32) : Option (Int32 × m_M) :=
    m_call (f_X3_varCount a S i1) fun v2 S1 =>
    some ((v2 - (1 : Int32)), S1)
set_option maxHeartbeats 4000000 in
set_option maxRecDepth 100000 in
theorem c_X3_resultOf {l : Launch} {G : m_G} {nx : Nat} {κ : Nat → Nat} {a : Nat} {S : m_M} {i1 : Int32} {res : (Int32 × m_M)} (hT : m_Str κ) (hk_a : κ a = 4) (hm : f_X3_resultOf a S i1 = some res) : m_Ci l yX3_resultOf cX3_resultOf 2 (some .int) rm_X3_resultOf G nx κ [.ref a, .int i1] S res := by
  refine m_Ci.of (by decide) (Nat.le_of_ble_eq_true rfl) ?_
  intro p e s m args below meth c ls X hr hH hl
  have hx := X.1.1
  have hb := X.1.2.1
  have hS : m_S G s s.heap [] := va_S.rf
  have hl : lv_has ls 2 [(0, .ref a), (1, .int i1)] := hl
  rw [f_X3_resultOf] at hm
  refine lv_aload_n hx hb dX3_resultOf_0 rfl (lv_at hl 0 rfl) ?_
  refine lv_iload_n hx hb dX3_resultOf_1 rfl (lv_at hl 1 rfl) ?_
  obtain ⟨v2, S1, e_S1, hm⟩ := m_call_of hm
  refine n_cVi X hH hS (k := 3) (c_X3_varCount (a := a) hT hk_a e_S1) mw_X3_varCount in_4_59 hk_a (by decide) rfl rfl rfl ⟨rfl, rfl⟩ ⟨Nat.le_of_ble_eq_true rfl, Nat.le_of_ble_eq_true rfl⟩ ⟨Nat.zero_le _, Nat.zero_le _⟩ hl.1 (Nat.le_of_ble_eq_true rfl) dX3_resultOf_2 (fun H locs hH hS => ?_)
  refine lv_iconst (v := (1 : Int32)) hx hb dX3_resultOf_5 (by decide) ?_
  refine lv_isub hx hb dX3_resultOf_6 ?_
  exact r_iret X hr hH hS hm dX3_resultOf_7
def rm_X3_isCall : Room := { frames := 0, cells := 0, slots := 0, locals := 0 }
def b_X3_isCall_27 (a : Nat)  (S : m_M) (t0 : Int32) : Option (Int32 × m_M) :=
    if t0 = 0 ∨ t0 = 1 then some (t0, S) else none
set_option maxHeartbeats 4000000 in
set_option maxRecDepth 100000 in
theorem k_X3_isCall_27 {p : Program} {l : Launch} {e : Env} {s : State} {m : MethodId} {args : Array Value} {below : List Frame} {meth : Method} {c : Code} {G : m_G} {nx : Nat} {κ : Nat → Nat} {res : (Int32 × m_M)} {a : Nat} (X : m_Cx p s m args meth c cX3_isCall 2 RX3 G) (hr : meth.sig.returnType = (some .boolean)) (hT : m_Str κ) (hk_a : κ a = 4)  : ∀ (S : m_M) (t0 : Int32) (H : Heap) (locs : List Loc) (ls : Array Slot), m_H G nx κ S H → m_S G s H locs → lv_has ls 2 [] → b_X3_isCall_27 a S t0 = some res → W p l e rm_X3_isCall s m args below meth c H locs 0 0 (m_Qi below args s G nx κ res) (F0 m 27 ls [.int t0]) := by
  have hx := X.1.1
  have hb := X.1.2.1
  intro S t0 H locs ls hH hS hl hm
  rw [b_X3_isCall_27] at hm
  exact r_zret X hr hH hS hm dX3_isCall_27
def b_X3_isCall_22 (a : Nat)  (S : m_M)  : Option (Int32 × m_M) :=
    b_X3_isCall_27 a S (1 : Int32)
set_option maxHeartbeats 4000000 in
set_option maxRecDepth 100000 in
theorem k_X3_isCall_22 {p : Program} {l : Launch} {e : Env} {s : State} {m : MethodId} {args : Array Value} {below : List Frame} {meth : Method} {c : Code} {G : m_G} {nx : Nat} {κ : Nat → Nat} {res : (Int32 × m_M)} {a : Nat} (X : m_Cx p s m args meth c cX3_isCall 2 RX3 G) (hr : meth.sig.returnType = (some .boolean)) (hT : m_Str κ) (hk_a : κ a = 4)  : ∀ (S : m_M)  (H : Heap) (locs : List Loc) (ls : Array Slot), m_H G nx κ S H → m_S G s H locs → lv_has ls 2 [] → b_X3_isCall_22 a S  = some res → W p l e rm_X3_isCall s m args below meth c H locs 0 0 (m_Qi below args s G nx κ res) (F0 m 22 ls []) := by
  have hx := X.1.1
  have hb := X.1.2.1
  intro S H locs ls hH hS hl hm
  rw [b_X3_isCall_22] at hm
  refine lv_iconst (v := (1 : Int32)) hx hb dX3_isCall_22 (by decide) ?_
  refine lv_goto (tgt := 27) hx hb dX3_isCall_23 (by decide) ?_
  exact k_X3_isCall_27 (a := a) X hr hT hk_a   S (1 : Int32) _ _ _ hH hS hl hm
def f_X3_isCall (a : Nat) (S : m_M) (i1 : Int32) : Option (Int32 × m_M) :=
    (m_ldi S (a + 5) 24 i1).bind fun v1 =>
    if v1 = (8 : Int32) then (
    b_X3_isCall_22 a S) else (
    (m_ldi S (a + 5) 24 i1).bind fun v3 =>
    if v3 = (9 : Int32) then (
    b_X3_isCall_22 a S) else (
    b_X3_isCall_27 a S (0 : Int32)))
set_option maxHeartbeats 4000000 in
set_option maxRecDepth 100000 in
theorem c_X3_isCall {l : Launch} {G : m_G} {nx : Nat} {κ : Nat → Nat} {a : Nat} {S : m_M} {i1 : Int32} {res : (Int32 × m_M)} (hT : m_Str κ) (hk_a : κ a = 4) (hm : f_X3_isCall a S i1 = some res) : m_Ci l yX3_isCall cX3_isCall 2 (some .boolean) rm_X3_isCall G nx κ [.ref a, .int i1] S res := by
  refine m_Ci.of (by decide) (Nat.le_of_ble_eq_true rfl) ?_
  intro p e s m args below meth c ls X hr hH hl
  have hx := X.1.1
  have hb := X.1.2.1
  have hS : m_S G s s.heap [] := va_S.rf
  have hl : lv_has ls 2 [(0, .ref a), (1, .int i1)] := hl
  rw [f_X3_isCall] at hm
  refine lv_aload_n hx hb dX3_isCall_0 rfl (lv_at hl 0 rfl) ?_
  refine r_getp X hH (k := 3) (a := a) (j := 6) (b := (a + 5)) (A := 5) (B := 0) hk_a (by decide) rfl m_wi3 (by decide) in_1_149 rfl rfl rfl dX3_isCall_1 ?_
  refine lv_iload_n hx hb dX3_isCall_4 rfl (lv_at hl 1 rfl) ?_
  obtain ⟨v1, h_v1, e_v1, hm⟩ := n_ldi hm
  refine n_iald X hH (n := 24) (m_lay_at hT hk_a (by decide) (i := 5) rfl) h_v1 e_v1 dX3_isCall_5 ?_
  refine lv_bipush (v := (8 : Int32)) hx hb dX3_isCall_6 (by decide) ?_
  refine lv_icmp_eq (tgt := 22) hx hb dX3_isCall_8 (by decide) (fun c2 => ?_) (fun c2 => ?_)
  · have hm := m_ite_t hm c2
    exact k_X3_isCall_22 (a := a) X hr hT hk_a   S _ _ _ hH hS (lv_sub hl [] rfl) hm
  · have hm := m_ite_f hm c2
    refine lv_aload_n hx hb dX3_isCall_11 rfl (lv_at hl 0 rfl) ?_
    refine r_getp X hH (k := 3) (a := a) (j := 6) (b := (a + 5)) (A := 5) (B := 0) hk_a (by decide) rfl m_wi3 (by decide) in_1_149 rfl rfl rfl dX3_isCall_12 ?_
    refine lv_iload_n hx hb dX3_isCall_15 rfl (lv_at hl 1 rfl) ?_
    obtain ⟨v3, h_v3, e_v3, hm⟩ := n_ldi hm
    refine n_iald X hH (n := 24) (m_lay_at hT hk_a (by decide) (i := 5) rfl) h_v3 e_v3 dX3_isCall_16 ?_
    refine lv_bipush (v := (9 : Int32)) hx hb dX3_isCall_17 (by decide) ?_
    refine lv_icmp_ne (tgt := 26) hx hb dX3_isCall_19 (by decide) (fun c4 => ?_) (fun c4 => ?_)
    · have hm := m_ite_f hm c4
      refine lv_iconst (v := (0 : Int32)) hx hb dX3_isCall_26 (by decide) ?_
      exact k_X3_isCall_27 (a := a) X hr hT hk_a   S (0 : Int32) _ _ _ hH hS (lv_sub hl [] rfl) hm
    · have hm := m_ite_t hm c4
      exact k_X3_isCall_22 (a := a) X hr hT hk_a   S _ _ _ hH hS (lv_sub hl [] rfl) hm
def rm_X3_operandCount : Room := { frames := 1, cells := 0, slots := 0, locals := 21 }
def b_X3_operandCount_106 (a : Nat)  (S : m_M)  : Option (Int32 × m_M) :=
    some ((1 : Int32), S)
set_option maxHeartbeats 4000000 in
set_option maxRecDepth 100000 in
theorem k_X3_operandCount_106 {p : Program} {l : Launch} {e : Env} {s : State} {m : MethodId} {args : Array Value} {below : List Frame} {meth : Method} {c : Code} {G : m_G} {nx : Nat} {κ : Nat → Nat} {res : (Int32 × m_M)} {a : Nat} (X : m_Cx p s m args meth c cX3_operandCount 2 RX3 G) (hr : meth.sig.returnType = (some .int)) (hT : m_Str κ) (hk_a : κ a = 4)  : ∀ (S : m_M)  (H : Heap) (locs : List Loc) (ls : Array Slot), m_H G nx κ S H → m_S G s H locs → lv_has ls 2 [] → b_X3_operandCount_106 a S  = some res → W p l e rm_X3_operandCount s m args below meth c H locs 0 0 (m_Qi below args s G nx κ res) (F0 m 106 ls []) := by
  have hx := X.1.1
  have hb := X.1.2.1
  intro S H locs ls hH hS hl hm
  rw [b_X3_operandCount_106] at hm
  refine lv_iconst (v := (1 : Int32)) hx hb dX3_operandCount_106 (by decide) ?_
  exact r_iret X hr hH hS hm dX3_operandCount_107
def b_X3_operandCount_124 (a : Nat)  (S : m_M)  : Option (Int32 × m_M) :=
    some ((2 : Int32), S)
set_option maxHeartbeats 4000000 in
set_option maxRecDepth 100000 in
theorem k_X3_operandCount_124 {p : Program} {l : Launch} {e : Env} {s : State} {m : MethodId} {args : Array Value} {below : List Frame} {meth : Method} {c : Code} {G : m_G} {nx : Nat} {κ : Nat → Nat} {res : (Int32 × m_M)} {a : Nat} (X : m_Cx p s m args meth c cX3_operandCount 2 RX3 G) (hr : meth.sig.returnType = (some .int)) (hT : m_Str κ) (hk_a : κ a = 4)  : ∀ (S : m_M)  (H : Heap) (locs : List Loc) (ls : Array Slot), m_H G nx κ S H → m_S G s H locs → lv_has ls 2 [] → b_X3_operandCount_124 a S  = some res → W p l e rm_X3_operandCount s m args below meth c H locs 0 0 (m_Qi below args s G nx κ res) (F0 m 124 ls []) := by
  have hx := X.1.1
  have hb := X.1.2.1
  intro S H locs ls hH hS hl hm
  rw [b_X3_operandCount_124] at hm
  refine lv_iconst (v := (2 : Int32)) hx hb dX3_operandCount_124 (by decide) ?_
  exact r_iret X hr hH hS hm dX3_operandCount_125
def f_X3_operandCount (a : Nat) (S : m_M) (i1 : Int32) : Option (Int32 × m_M) :=
    (m_ldi S (a + 5) 24 i1).bind fun v1 =>
    if v1 = (3 : Int32) then (
    b_X3_operandCount_106 a S) else (
    if v1 = (4 : Int32) then (
    b_X3_operandCount_106 a S) else (
    if v1 = (5 : Int32) then (
    b_X3_operandCount_124 a S) else (
    if v1 = (6 : Int32) then (
    b_X3_operandCount_124 a S) else (
    if v1 = (7 : Int32) then (
    some ((3 : Int32), S)) else (
    if v1 = (8 : Int32) then (
    m_call (f_X3_argumentCount a S i1) fun v9 S8 =>
    some (v9, S8)) else (
    if v1 = (9 : Int32) then (
    m_call (f_X3_argumentCount a S i1) fun v12 S11 =>
    some ((v12 + (2 : Int32)), S11)) else (
    if v1 = (10 : Int32) then (
    b_X3_operandCount_124 a S) else (
    if v1 = (11 : Int32) then (
    b_X3_operandCount_124 a S) else (
    if v1 = (12 : Int32) then (
    b_X3_operandCount_124 a S) else (
    if v1 = (13 : Int32) then (
    b_X3_operandCount_124 a S) else (
    if v1 = (14 : Int32) then (
    b_X3_operandCount_124 a S) else (
    if v1 = (15 : Int32) then (
    b_X3_operandCount_124 a S) else (
    if v1 = (16 : Int32) then (
    b_X3_operandCount_124 a S) else (
    if v1 = (17 : Int32) then (
    b_X3_operandCount_124 a S) else (
    if v1 = (18 : Int32) then (
    b_X3_operandCount_124 a S) else (
    if v1 = (19 : Int32) then (
    b_X3_operandCount_124 a S) else (
    if v1 = (20 : Int32) then (
    b_X3_operandCount_124 a S) else (
    if v1 = (21 : Int32) then (
    b_X3_operandCount_124 a S) else (
    if v1 = (22 : Int32) then (
    some ((0 : Int32), S)) else (
    if v1 = (23 : Int32) then (
    b_X3_operandCount_106 a S) else (
    b_X3_operandCount_124 a S)))))))))))))))))))))
set_option maxHeartbeats 4000000 in
set_option maxRecDepth 100000 in
theorem c_X3_operandCount {l : Launch} {G : m_G} {nx : Nat} {κ : Nat → Nat} {a : Nat} {S : m_M} {i1 : Int32} {res : (Int32 × m_M)} (hT : m_Str κ) (hk_a : κ a = 4) (hm : f_X3_operandCount a S i1 = some res) : m_Ci l yX3_operandCount cX3_operandCount 2 (some .int) rm_X3_operandCount G nx κ [.ref a, .int i1] S res := by
  refine m_Ci.of (by decide) (Nat.le_of_ble_eq_true rfl) ?_
  intro p e s m args below meth c ls X hr hH hl
  have hx := X.1.1
  have hb := X.1.2.1
  have hS : m_S G s s.heap [] := va_S.rf
  have hl : lv_has ls 2 [(0, .ref a), (1, .int i1)] := hl
  rw [f_X3_operandCount] at hm
  refine lv_aload_n hx hb dX3_operandCount_0 rfl (lv_at hl 0 rfl) ?_
  refine r_getp X hH (k := 3) (a := a) (j := 6) (b := (a + 5)) (A := 5) (B := 0) hk_a (by decide) rfl m_wi3 (by decide) in_1_149 rfl rfl rfl dX3_operandCount_1 ?_
  refine lv_iload_n hx hb dX3_operandCount_4 rfl (lv_at hl 1 rfl) ?_
  obtain ⟨v1, h_v1, e_v1, hm⟩ := n_ldi hm
  refine n_iald X hH (n := 24) (m_lay_at hT hk_a (by decide) (i := 5) rfl) h_v1 e_v1 dX3_operandCount_5 ?_
  by_cases c2 : v1 = (3 : Int32)
  · have hm := m_ite_t hm c2
    refine lv_tableIn (off := 100) (tgt := 106) hx hb dX3_operandCount_6 (by rw [c2]; decide) (by rw [c2]; decide) (by rw [c2]; rfl) (by decide) ?_
    exact k_X3_operandCount_106 (a := a) X hr hT hk_a   S _ _ _ hH hS (lv_sub hl [] rfl) hm
  · have hm := m_ite_f hm c2
    by_cases c3 : v1 = (4 : Int32)
    · have hm := m_ite_t hm c3
      refine lv_tableIn (off := 100) (tgt := 106) hx hb dX3_operandCount_6 (by rw [c3]; decide) (by rw [c3]; decide) (by rw [c3]; rfl) (by decide) ?_
      exact k_X3_operandCount_106 (a := a) X hr hT hk_a   S _ _ _ hH hS (lv_sub hl [] rfl) hm
    · have hm := m_ite_f hm c3
      by_cases c4 : v1 = (5 : Int32)
      · have hm := m_ite_t hm c4
        refine lv_tableIn (off := 118) (tgt := 124) hx hb dX3_operandCount_6 (by rw [c4]; decide) (by rw [c4]; decide) (by rw [c4]; rfl) (by decide) ?_
        exact k_X3_operandCount_124 (a := a) X hr hT hk_a   S _ _ _ hH hS (lv_sub hl [] rfl) hm
      · have hm := m_ite_f hm c4
        by_cases c5 : v1 = (6 : Int32)
        · have hm := m_ite_t hm c5
          refine lv_tableIn (off := 118) (tgt := 124) hx hb dX3_operandCount_6 (by rw [c5]; decide) (by rw [c5]; decide) (by rw [c5]; rfl) (by decide) ?_
          exact k_X3_operandCount_124 (a := a) X hr hT hk_a   S _ _ _ hH hS (lv_sub hl [] rfl) hm
        · have hm := m_ite_f hm c5
          by_cases c6 : v1 = (7 : Int32)
          · have hm := m_ite_t hm c6
            refine lv_tableIn (off := 102) (tgt := 108) hx hb dX3_operandCount_6 (by rw [c6]; decide) (by rw [c6]; decide) (by rw [c6]; rfl) (by decide) ?_
            refine lv_iconst (v := (3 : Int32)) hx hb dX3_operandCount_108 (by decide) ?_
            exact r_iret X hr hH hS hm dX3_operandCount_109
          · have hm := m_ite_f hm c6
            by_cases c7 : v1 = (8 : Int32)
            · have hm := m_ite_t hm c7
              refine lv_tableIn (off := 104) (tgt := 110) hx hb dX3_operandCount_6 (by rw [c7]; decide) (by rw [c7]; decide) (by rw [c7]; rfl) (by decide) ?_
              refine lv_aload_n hx hb dX3_operandCount_110 rfl (lv_at hl 0 rfl) ?_
              refine lv_iload_n hx hb dX3_operandCount_111 rfl (lv_at hl 1 rfl) ?_
              obtain ⟨v9, S8, e_S8, hm⟩ := m_call_of hm
              refine n_cVi X hH hS (k := 3) (c_X3_argumentCount (a := a) hT hk_a e_S8) mw_X3_argumentCount in_4_67 hk_a (by decide) rfl rfl rfl ⟨rfl, rfl⟩ ⟨Nat.le_of_ble_eq_true rfl, Nat.le_of_ble_eq_true rfl⟩ ⟨Nat.zero_le _, Nat.zero_le _⟩ hl.1 (Nat.le_of_ble_eq_true rfl) dX3_operandCount_112 (fun H locs hH hS => ?_)
              exact r_iret X hr hH hS hm dX3_operandCount_115
            · have hm := m_ite_f hm c7
              by_cases c10 : v1 = (9 : Int32)
              · have hm := m_ite_t hm c10
                refine lv_tableIn (off := 110) (tgt := 116) hx hb dX3_operandCount_6 (by rw [c10]; decide) (by rw [c10]; decide) (by rw [c10]; rfl) (by decide) ?_
                refine lv_aload_n hx hb dX3_operandCount_116 rfl (lv_at hl 0 rfl) ?_
                refine lv_iload_n hx hb dX3_operandCount_117 rfl (lv_at hl 1 rfl) ?_
                obtain ⟨v12, S11, e_S11, hm⟩ := m_call_of hm
                refine n_cVi X hH hS (k := 3) (c_X3_argumentCount (a := a) hT hk_a e_S11) mw_X3_argumentCount in_4_67 hk_a (by decide) rfl rfl rfl ⟨rfl, rfl⟩ ⟨Nat.le_of_ble_eq_true rfl, Nat.le_of_ble_eq_true rfl⟩ ⟨Nat.zero_le _, Nat.zero_le _⟩ hl.1 (Nat.le_of_ble_eq_true rfl) dX3_operandCount_118 (fun H locs hH hS => ?_)
                refine lv_iconst (v := (2 : Int32)) hx hb dX3_operandCount_121 (by decide) ?_
                refine lv_iadd hx hb dX3_operandCount_122 ?_
                exact r_iret X hr hH hS hm dX3_operandCount_123
              · have hm := m_ite_f hm c10
                by_cases c13 : v1 = (10 : Int32)
                · have hm := m_ite_t hm c13
                  refine lv_tableIn (off := 118) (tgt := 124) hx hb dX3_operandCount_6 (by rw [c13]; decide) (by rw [c13]; decide) (by rw [c13]; rfl) (by decide) ?_
                  exact k_X3_operandCount_124 (a := a) X hr hT hk_a   S _ _ _ hH hS (lv_sub hl [] rfl) hm
                · have hm := m_ite_f hm c13
                  by_cases c14 : v1 = (11 : Int32)
                  · have hm := m_ite_t hm c14
                    refine lv_tableIn (off := 118) (tgt := 124) hx hb dX3_operandCount_6 (by rw [c14]; decide) (by rw [c14]; decide) (by rw [c14]; rfl) (by decide) ?_
                    exact k_X3_operandCount_124 (a := a) X hr hT hk_a   S _ _ _ hH hS (lv_sub hl [] rfl) hm
                  · have hm := m_ite_f hm c14
                    by_cases c15 : v1 = (12 : Int32)
                    · have hm := m_ite_t hm c15
                      refine lv_tableIn (off := 118) (tgt := 124) hx hb dX3_operandCount_6 (by rw [c15]; decide) (by rw [c15]; decide) (by rw [c15]; rfl) (by decide) ?_
                      exact k_X3_operandCount_124 (a := a) X hr hT hk_a   S _ _ _ hH hS (lv_sub hl [] rfl) hm
                    · have hm := m_ite_f hm c15
                      by_cases c16 : v1 = (13 : Int32)
                      · have hm := m_ite_t hm c16
                        refine lv_tableIn (off := 118) (tgt := 124) hx hb dX3_operandCount_6 (by rw [c16]; decide) (by rw [c16]; decide) (by rw [c16]; rfl) (by decide) ?_
                        exact k_X3_operandCount_124 (a := a) X hr hT hk_a   S _ _ _ hH hS (lv_sub hl [] rfl) hm
                      · have hm := m_ite_f hm c16
                        by_cases c17 : v1 = (14 : Int32)
                        · have hm := m_ite_t hm c17
                          refine lv_tableIn (off := 118) (tgt := 124) hx hb dX3_operandCount_6 (by rw [c17]; decide) (by rw [c17]; decide) (by rw [c17]; rfl) (by decide) ?_
                          exact k_X3_operandCount_124 (a := a) X hr hT hk_a   S _ _ _ hH hS (lv_sub hl [] rfl) hm
                        · have hm := m_ite_f hm c17
                          by_cases c18 : v1 = (15 : Int32)
                          · have hm := m_ite_t hm c18
                            refine lv_tableIn (off := 118) (tgt := 124) hx hb dX3_operandCount_6 (by rw [c18]; decide) (by rw [c18]; decide) (by rw [c18]; rfl) (by decide) ?_
                            exact k_X3_operandCount_124 (a := a) X hr hT hk_a   S _ _ _ hH hS (lv_sub hl [] rfl) hm
                          · have hm := m_ite_f hm c18
                            by_cases c19 : v1 = (16 : Int32)
                            · have hm := m_ite_t hm c19
                              refine lv_tableIn (off := 118) (tgt := 124) hx hb dX3_operandCount_6 (by rw [c19]; decide) (by rw [c19]; decide) (by rw [c19]; rfl) (by decide) ?_
                              exact k_X3_operandCount_124 (a := a) X hr hT hk_a   S _ _ _ hH hS (lv_sub hl [] rfl) hm
                            · have hm := m_ite_f hm c19
                              by_cases c20 : v1 = (17 : Int32)
                              · have hm := m_ite_t hm c20
                                refine lv_tableIn (off := 118) (tgt := 124) hx hb dX3_operandCount_6 (by rw [c20]; decide) (by rw [c20]; decide) (by rw [c20]; rfl) (by decide) ?_
                                exact k_X3_operandCount_124 (a := a) X hr hT hk_a   S _ _ _ hH hS (lv_sub hl [] rfl) hm
                              · have hm := m_ite_f hm c20
                                by_cases c21 : v1 = (18 : Int32)
                                · have hm := m_ite_t hm c21
                                  refine lv_tableIn (off := 118) (tgt := 124) hx hb dX3_operandCount_6 (by rw [c21]; decide) (by rw [c21]; decide) (by rw [c21]; rfl) (by decide) ?_
                                  exact k_X3_operandCount_124 (a := a) X hr hT hk_a   S _ _ _ hH hS (lv_sub hl [] rfl) hm
                                · have hm := m_ite_f hm c21
                                  by_cases c22 : v1 = (19 : Int32)
                                  · have hm := m_ite_t hm c22
                                    refine lv_tableIn (off := 118) (tgt := 124) hx hb dX3_operandCount_6 (by rw [c22]; decide) (by rw [c22]; decide) (by rw [c22]; rfl) (by decide) ?_
                                    exact k_X3_operandCount_124 (a := a) X hr hT hk_a   S _ _ _ hH hS (lv_sub hl [] rfl) hm
                                  · have hm := m_ite_f hm c22
                                    by_cases c23 : v1 = (20 : Int32)
                                    · have hm := m_ite_t hm c23
                                      refine lv_tableIn (off := 118) (tgt := 124) hx hb dX3_operandCount_6 (by rw [c23]; decide) (by rw [c23]; decide) (by rw [c23]; rfl) (by decide) ?_
                                      exact k_X3_operandCount_124 (a := a) X hr hT hk_a   S _ _ _ hH hS (lv_sub hl [] rfl) hm
                                    · have hm := m_ite_f hm c23
                                      by_cases c24 : v1 = (21 : Int32)
                                      · have hm := m_ite_t hm c24
                                        refine lv_tableIn (off := 118) (tgt := 124) hx hb dX3_operandCount_6 (by rw [c24]; decide) (by rw [c24]; decide) (by rw [c24]; rfl) (by decide) ?_
                                        exact k_X3_operandCount_124 (a := a) X hr hT hk_a   S _ _ _ hH hS (lv_sub hl [] rfl) hm
                                      · have hm := m_ite_f hm c24
                                        by_cases c25 : v1 = (22 : Int32)
                                        · have hm := m_ite_t hm c25
                                          refine lv_tableIn (off := 98) (tgt := 104) hx hb dX3_operandCount_6 (by rw [c25]; decide) (by rw [c25]; decide) (by rw [c25]; rfl) (by decide) ?_
                                          refine lv_iconst (v := (0 : Int32)) hx hb dX3_operandCount_104 (by decide) ?_
                                          exact r_iret X hr hH hS hm dX3_operandCount_105
                                        · have hm := m_ite_f hm c25
                                          by_cases c26 : v1 = (23 : Int32)
                                          · have hm := m_ite_t hm c26
                                            refine lv_tableIn (off := 100) (tgt := 106) hx hb dX3_operandCount_6 (by rw [c26]; decide) (by rw [c26]; decide) (by rw [c26]; rfl) (by decide) ?_
                                            exact k_X3_operandCount_106 (a := a) X hr hT hk_a   S _ _ _ hH hS (lv_sub hl [] rfl) hm
                                          · have hm := m_ite_f hm c26
                                            refine lv_tableOut (tgt := 124) hx hb dX3_operandCount_6 (by have h_c2 := lv_neT (a := 3) c2 rfl; have h_c3 := lv_neT (a := 4) c3 rfl; have h_c4 := lv_neT (a := 5) c4 rfl; have h_c5 := lv_neT (a := 6) c5 rfl; have h_c6 := lv_neT (a := 7) c6 rfl; have h_c7 := lv_neT (a := 8) c7 rfl; have h_c10 := lv_neT (a := 9) c10 rfl; have h_c13 := lv_neT (a := 10) c13 rfl; have h_c14 := lv_neT (a := 11) c14 rfl; have h_c15 := lv_neT (a := 12) c15 rfl; have h_c16 := lv_neT (a := 13) c16 rfl; have h_c17 := lv_neT (a := 14) c17 rfl; have h_c18 := lv_neT (a := 15) c18 rfl; have h_c19 := lv_neT (a := 16) c19 rfl; have h_c20 := lv_neT (a := 17) c20 rfl; have h_c21 := lv_neT (a := 18) c21 rfl; have h_c22 := lv_neT (a := 19) c22 rfl; have h_c23 := lv_neT (a := 20) c23 rfl; have h_c24 := lv_neT (a := 21) c24 rfl; have h_c25 := lv_neT (a := 22) c25 rfl; have h_c26 := lv_neT (a := 23) c26 rfl; omega) (by decide) ?_
                                            exact k_X3_operandCount_124 (a := a) X hr hT hk_a   S _ _ _ hH hS (lv_sub hl [] rfl) hm
def rm_X3_calledBy : Room := { frames := 1, cells := 0, slots := 0, locals := 21 }
def b_X3_calledBy_45 (a : Nat) (K_9 : m_M → Int32 → Int32 → Int32 → Option (Int32 × m_M)) (S : m_M) (l1 : Int32) (l2 : Int32) (l3 : Int32) : Option (Int32 × m_M) :=
    m_let (l3 + (1 : Int32)) fun v1 =>
    K_9 S l1 l2 v1
set_option maxHeartbeats 4000000 in
set_option maxRecDepth 100000 in
theorem k_X3_calledBy_45 {p : Program} {l : Launch} {e : Env} {s : State} {m : MethodId} {args : Array Value} {below : List Frame} {meth : Method} {c : Code} {G : m_G} {nx : Nat} {κ : Nat → Nat} {res : (Int32 × m_M)} {a : Nat} (X : m_Cx p s m args meth c cX3_calledBy 4 RX3 G) (hr : meth.sig.returnType = (some .int)) (hT : m_Str κ) (hk_a : κ a = 4) (K_9 : m_M → Int32 → Int32 → Int32 → Option (Int32 × m_M)) (hK_9 : ∀ (S : m_M) (l1 : Int32) (l2 : Int32) (l3 : Int32) (H : Heap) (locs : List Loc) (ls : Array Slot), m_H G nx κ S H → m_S G s H locs → lv_has ls 4 [(0, .ref a), (1, .int l1), (2, .int l2), (3, .int l3)] → K_9 S l1 l2 l3 = some res → W p l e rm_X3_calledBy s m args below meth c H locs 0 0 (m_Qi below args s G nx κ res) (F0 m 9 ls [])) : ∀ (S : m_M) (l1 : Int32) (l2 : Int32) (l3 : Int32) (H : Heap) (locs : List Loc) (ls : Array Slot), m_H G nx κ S H → m_S G s H locs → lv_has ls 4 [(0, .ref a), (1, .int l1), (2, .int l2), (3, .int l3)] → b_X3_calledBy_45 a K_9 S l1 l2 l3 = some res → W p l e rm_X3_calledBy s m args below meth c H locs 0 0 (m_Qi below args s G nx κ res) (F0 m 45 ls []) := by
  have hx := X.1.1
  have hb := X.1.2.1
  intro S l1 l2 l3 H locs ls hH hS hl hm
  rw [b_X3_calledBy_45] at hm
  obtain ⟨v1, e_v1, hm⟩ := m_let_of hm
  refine lv_iinc (v := v1) (lv' := [(3, .int v1), (0, .ref a), (1, .int l1), (2, .int l2)]) hx hb dX3_calledBy_45 hl (k := 3) rfl (by rw [← e_v1]; rfl) (by decide) rfl (fun ls hl => ?_)
  refine lv_goto (tgt := 9) hx hb dX3_calledBy_48 (by decide) ?_
  exact hK_9 S l1 l2 v1 _ _ _ hH hS (lv_sub hl [1, 2, 3, 0] rfl) hm
def b_X3_calledBy_9 (a : Nat)  : Nat → m_M → Int32 → Int32 → Int32 → Option (Int32 × m_M)
  | 0, _, _, _, _ => none
  | n + 1, S, l1, l2, l3 =>
    (m_ldi S (a + 3) 5 l1).bind fun v1 =>
    (m_ldi S (a + 4) 5 l1).bind fun v2 =>
    if (v1 + v2) ≤ l3 then (
    some (l2, S)) else (
    m_call (f_X3_isCall a S l3) fun v5 S4 =>
    if v5 = 0 then (
    b_X3_calledBy_45 a (b_X3_calledBy_9 a n) S4 l1 l2 l3) else (
    (m_ldi S4 (a + 6) 24 l3).bind fun v7 =>
    m_let (l2 ||| ((1 : Int32) <<< (v7 &&& 31))) fun v8 =>
    b_X3_calledBy_45 a (b_X3_calledBy_9 a n) S4 l1 v8 l3))
set_option maxHeartbeats 4000000 in
set_option maxRecDepth 100000 in
theorem k_X3_calledBy_9 {p : Program} {l : Launch} {e : Env} {s : State} {m : MethodId} {args : Array Value} {below : List Frame} {meth : Method} {c : Code} {G : m_G} {nx : Nat} {κ : Nat → Nat} {res : (Int32 × m_M)} {a : Nat} (X : m_Cx p s m args meth c cX3_calledBy 4 RX3 G) (hr : meth.sig.returnType = (some .int)) (hT : m_Str κ) (hk_a : κ a = 4)  (n : Nat) : ∀ (S : m_M) (l1 : Int32) (l2 : Int32) (l3 : Int32) (H : Heap) (locs : List Loc) (ls : Array Slot), m_H G nx κ S H → m_S G s H locs → lv_has ls 4 [(0, .ref a), (1, .int l1), (2, .int l2), (3, .int l3)] → b_X3_calledBy_9 a n S l1 l2 l3 = some res → W p l e rm_X3_calledBy s m args below meth c H locs 0 0 (m_Qi below args s G nx κ res) (F0 m 9 ls []) := by
  have hx := X.1.1
  have hb := X.1.2.1
  induction n with
  | zero => intro S l1 l2 l3 H locs ls hH hS hl hm; have hm : (none : Option (Int32 × m_M)) = some res := hm; cases hm
  | succ n ih =>
    intro S l1 l2 l3 H locs ls hH hS hl hm
    rw [b_X3_calledBy_9] at hm
    refine lv_iload_n hx hb dX3_calledBy_9 rfl (lv_at hl 3 rfl) ?_
    refine lv_aload_n hx hb dX3_calledBy_10 rfl (lv_at hl 0 rfl) ?_
    refine r_getp X hH (k := 3) (a := a) (j := 4) (b := (a + 3)) (A := 3) (B := 0) hk_a (by decide) rfl m_wi3 (by decide) in_1_139 rfl rfl rfl dX3_calledBy_11 ?_
    refine lv_iload_n hx hb dX3_calledBy_14 rfl (lv_at hl 1 rfl) ?_
    obtain ⟨v1, h_v1, e_v1, hm⟩ := n_ldi hm
    refine n_iald X hH (n := 5) (m_lay_at hT hk_a (by decide) (i := 3) rfl) h_v1 e_v1 dX3_calledBy_15 ?_
    refine lv_aload_n hx hb dX3_calledBy_16 rfl (lv_at hl 0 rfl) ?_
    refine r_getp X hH (k := 3) (a := a) (j := 5) (b := (a + 4)) (A := 4) (B := 0) hk_a (by decide) rfl m_wi3 (by decide) in_1_143 rfl rfl rfl dX3_calledBy_17 ?_
    refine lv_iload_n hx hb dX3_calledBy_20 rfl (lv_at hl 1 rfl) ?_
    obtain ⟨v2, h_v2, e_v2, hm⟩ := n_ldi hm
    refine n_iald X hH (n := 5) (m_lay_at hT hk_a (by decide) (i := 4) rfl) h_v2 e_v2 dX3_calledBy_21 ?_
    refine lv_iadd hx hb dX3_calledBy_22 ?_
    refine lv_icmp_ge (tgt := 51) hx hb dX3_calledBy_23 (by decide) (fun c3 => ?_) (fun c3 => ?_)
    · have hm := m_ite_t hm c3
      refine lv_iload_n hx hb dX3_calledBy_51 rfl (lv_at hl 2 rfl) ?_
      exact r_iret X hr hH hS hm dX3_calledBy_52
    · have hm := m_ite_f hm c3
      refine lv_aload_n hx hb dX3_calledBy_26 rfl (lv_at hl 0 rfl) ?_
      refine lv_iload_n hx hb dX3_calledBy_27 rfl (lv_at hl 3 rfl) ?_
      obtain ⟨v5, S4, e_S4, hm⟩ := m_call_of hm
      refine n_cVi X hH hS (k := 3) (c_X3_isCall (a := a) hT hk_a e_S4) mw_X3_isCall in_6_132 hk_a (by decide) rfl rfl rfl ⟨rfl, rfl⟩ ⟨Nat.le_of_ble_eq_true rfl, Nat.le_of_ble_eq_true rfl⟩ ⟨Nat.zero_le _, Nat.zero_le _⟩ hl.1 (Nat.le_of_ble_eq_true rfl) dX3_calledBy_28 (fun H locs hH hS => ?_)
      refine lv_if_eq (tgt := 45) hx hb dX3_calledBy_31 (by decide) (fun c6 => ?_) (fun c6 => ?_)
      · have hm := m_ite_t hm c6
        exact k_X3_calledBy_45 (a := a) X hr hT hk_a (b_X3_calledBy_9 a n) ih  S4 l1 l2 l3 _ _ _ hH hS hl hm
      · have hm := m_ite_f hm c6
        refine lv_iload_n hx hb dX3_calledBy_34 rfl (lv_at hl 2 rfl) ?_
        refine lv_iconst (v := (1 : Int32)) hx hb dX3_calledBy_35 (by decide) ?_
        refine lv_aload_n hx hb dX3_calledBy_36 rfl (lv_at hl 0 rfl) ?_
        refine r_getp X hH (k := 3) (a := a) (j := 7) (b := (a + 6)) (A := 6) (B := 0) hk_a (by decide) rfl m_wi3 (by decide) in_1_154 rfl rfl rfl dX3_calledBy_37 ?_
        refine lv_iload_n hx hb dX3_calledBy_40 rfl (lv_at hl 3 rfl) ?_
        obtain ⟨v7, h_v7, e_v7, hm⟩ := n_ldi hm
        refine n_iald X hH (n := 24) (m_lay_at hT hk_a (by decide) (i := 6) rfl) h_v7 e_v7 dX3_calledBy_41 ?_
        refine lv_ishl hx hb dX3_calledBy_42 ?_
        refine lv_ior hx hb dX3_calledBy_43 ?_
        obtain ⟨v8, e_v8, hm⟩ := m_let_of hm
        refine n_topi e_v8 ?_
        refine lv_istore_n (lv' := [(2, .int v8), (0, .ref a), (1, .int l1), (3, .int l3)]) hx hb dX3_calledBy_44 rfl hl (by decide) rfl (fun ls hl => ?_)
        exact k_X3_calledBy_45 (a := a) X hr hT hk_a (b_X3_calledBy_9 a n) ih  S4 l1 v8 l3 _ _ _ hH hS (lv_sub hl [1, 2, 0, 3] rfl) hm
def f_X3_calledBy (a : Nat) (S : m_M) (i1 : Int32) : Option (Int32 × m_M) :=
    (m_ldi S (a + 3) 5 i1).bind fun v1 =>
    b_X3_calledBy_9 a m_fu S i1 (0 : Int32) v1
set_option maxHeartbeats 4000000 in
set_option maxRecDepth 100000 in
theorem c_X3_calledBy {l : Launch} {G : m_G} {nx : Nat} {κ : Nat → Nat} {a : Nat} {S : m_M} {i1 : Int32} {res : (Int32 × m_M)} (hT : m_Str κ) (hk_a : κ a = 4) (hm : f_X3_calledBy a S i1 = some res) : m_Ci l yX3_calledBy cX3_calledBy 4 (some .int) rm_X3_calledBy G nx κ [.ref a, .int i1] S res := by
  refine m_Ci.of (by decide) (Nat.le_of_ble_eq_true rfl) ?_
  intro p e s m args below meth c ls X hr hH hl
  have hx := X.1.1
  have hb := X.1.2.1
  have hS : m_S G s s.heap [] := va_S.rf
  have hl : lv_has ls 4 [(0, .ref a), (1, .int i1)] := hl
  rw [f_X3_calledBy] at hm
  refine lv_iconst (v := (0 : Int32)) hx hb dX3_calledBy_0 (by decide) ?_
  refine lv_istore_n (lv' := [(2, .int (0 : Int32)), (0, .ref a), (1, .int i1)]) hx hb dX3_calledBy_1 rfl hl (by decide) rfl (fun ls hl => ?_)
  refine lv_aload_n hx hb dX3_calledBy_2 rfl (lv_at hl 1 rfl) ?_
  refine r_getp X hH (k := 3) (a := a) (j := 4) (b := (a + 3)) (A := 3) (B := 0) hk_a (by decide) rfl m_wi3 (by decide) in_1_139 rfl rfl rfl dX3_calledBy_3 ?_
  refine lv_iload_n hx hb dX3_calledBy_6 rfl (lv_at hl 2 rfl) ?_
  obtain ⟨v1, h_v1, e_v1, hm⟩ := n_ldi hm
  refine n_iald X hH (n := 5) (m_lay_at hT hk_a (by decide) (i := 3) rfl) h_v1 e_v1 dX3_calledBy_7 ?_
  refine lv_istore_n (lv' := [(3, .int v1), (2, .int (0 : Int32)), (0, .ref a), (1, .int i1)]) hx hb dX3_calledBy_8 rfl hl (by decide) rfl (fun ls hl => ?_)
  exact k_X3_calledBy_9 (a := a) X hr hT hk_a  m_fu S i1 (0 : Int32) v1 _ _ _ hH hS (lv_sub hl [2, 3, 1, 0] rfl) hm
def rm_X3_endsWithLeavingCall : Room := { frames := 1, cells := 0, slots := 0, locals := 22 }
def b_X3_endsWithLeavingCall_42 (a : Nat)  (S : m_M) (t0 : Int32) : Option (Int32 × m_M) :=
    if t0 = 0 ∨ t0 = 1 then some (t0, S) else none
set_option maxHeartbeats 4000000 in
set_option maxRecDepth 100000 in
theorem k_X3_endsWithLeavingCall_42 {p : Program} {l : Launch} {e : Env} {s : State} {m : MethodId} {args : Array Value} {below : List Frame} {meth : Method} {c : Code} {G : m_G} {nx : Nat} {κ : Nat → Nat} {res : (Int32 × m_M)} {a : Nat} (X : m_Cx p s m args meth c cX3_endsWithLeavingCall 3 RX3 G) (hr : meth.sig.returnType = (some .boolean)) (hT : m_Str κ) (hk_a : κ a = 4)  : ∀ (S : m_M) (t0 : Int32) (H : Heap) (locs : List Loc) (ls : Array Slot), m_H G nx κ S H → m_S G s H locs → lv_has ls 3 [] → b_X3_endsWithLeavingCall_42 a S t0 = some res → W p l e rm_X3_endsWithLeavingCall s m args below meth c H locs 0 0 (m_Qi below args s G nx κ res) (F0 m 42 ls [.int t0]) := by
  have hx := X.1.1
  have hb := X.1.2.1
  intro S t0 H locs ls hH hS hl hm
  rw [b_X3_endsWithLeavingCall_42] at hm
  exact r_zret X hr hH hS hm dX3_endsWithLeavingCall_42
def b_X3_endsWithLeavingCall_41 (a : Nat)  (S : m_M)  : Option (Int32 × m_M) :=
    b_X3_endsWithLeavingCall_42 a S (0 : Int32)
set_option maxHeartbeats 4000000 in
set_option maxRecDepth 100000 in
theorem k_X3_endsWithLeavingCall_41 {p : Program} {l : Launch} {e : Env} {s : State} {m : MethodId} {args : Array Value} {below : List Frame} {meth : Method} {c : Code} {G : m_G} {nx : Nat} {κ : Nat → Nat} {res : (Int32 × m_M)} {a : Nat} (X : m_Cx p s m args meth c cX3_endsWithLeavingCall 3 RX3 G) (hr : meth.sig.returnType = (some .boolean)) (hT : m_Str κ) (hk_a : κ a = 4)  : ∀ (S : m_M)  (H : Heap) (locs : List Loc) (ls : Array Slot), m_H G nx κ S H → m_S G s H locs → lv_has ls 3 [] → b_X3_endsWithLeavingCall_41 a S  = some res → W p l e rm_X3_endsWithLeavingCall s m args below meth c H locs 0 0 (m_Qi below args s G nx κ res) (F0 m 41 ls []) := by
  have hx := X.1.1
  have hb := X.1.2.1
  intro S H locs ls hH hS hl hm
  rw [b_X3_endsWithLeavingCall_41] at hm
  refine lv_iconst (v := (0 : Int32)) hx hb dX3_endsWithLeavingCall_41 (by decide) ?_
  exact k_X3_endsWithLeavingCall_42 (a := a) X hr hT hk_a   S (0 : Int32) _ _ _ hH hS hl hm
def f_X3_endsWithLeavingCall (a : Nat) (S : m_M) (i1 : Int32) : Option (Int32 × m_M) :=
    (m_ldi S (a + 3) 5 i1).bind fun v1 =>
    (m_ldi S (a + 4) 5 i1).bind fun v2 =>
    m_let ((v1 + v2) - (1 : Int32)) fun v3 =>
    if v3 < 0 then (
    b_X3_endsWithLeavingCall_41 a S) else (
    m_call (f_X3_isCall a S v3) fun v6 S5 =>
    if v6 = 0 then (
    b_X3_endsWithLeavingCall_41 a S5) else (
    m_call (f_X3_leavesBy a S5 i1 v3) fun v9 S8 =>
    if v9 = 0 then (
    b_X3_endsWithLeavingCall_41 a S8) else (
    b_X3_endsWithLeavingCall_42 a S8 (1 : Int32))))
set_option maxHeartbeats 4000000 in
set_option maxRecDepth 100000 in
theorem c_X3_endsWithLeavingCall {l : Launch} {G : m_G} {nx : Nat} {κ : Nat → Nat} {a : Nat} {S : m_M} {i1 : Int32} {res : (Int32 × m_M)} (hT : m_Str κ) (hk_a : κ a = 4) (hm : f_X3_endsWithLeavingCall a S i1 = some res) : m_Ci l yX3_endsWithLeavingCall cX3_endsWithLeavingCall 3 (some .boolean) rm_X3_endsWithLeavingCall G nx κ [.ref a, .int i1] S res := by
  refine m_Ci.of (by decide) (Nat.le_of_ble_eq_true rfl) ?_
  intro p e s m args below meth c ls X hr hH hl
  have hx := X.1.1
  have hb := X.1.2.1
  have hS : m_S G s s.heap [] := va_S.rf
  have hl : lv_has ls 3 [(0, .ref a), (1, .int i1)] := hl
  rw [f_X3_endsWithLeavingCall] at hm
  refine lv_aload_n hx hb dX3_endsWithLeavingCall_0 rfl (lv_at hl 0 rfl) ?_
  refine r_getp X hH (k := 3) (a := a) (j := 4) (b := (a + 3)) (A := 3) (B := 0) hk_a (by decide) rfl m_wi3 (by decide) in_1_139 rfl rfl rfl dX3_endsWithLeavingCall_1 ?_
  refine lv_iload_n hx hb dX3_endsWithLeavingCall_4 rfl (lv_at hl 1 rfl) ?_
  obtain ⟨v1, h_v1, e_v1, hm⟩ := n_ldi hm
  refine n_iald X hH (n := 5) (m_lay_at hT hk_a (by decide) (i := 3) rfl) h_v1 e_v1 dX3_endsWithLeavingCall_5 ?_
  refine lv_aload_n hx hb dX3_endsWithLeavingCall_6 rfl (lv_at hl 0 rfl) ?_
  refine r_getp X hH (k := 3) (a := a) (j := 5) (b := (a + 4)) (A := 4) (B := 0) hk_a (by decide) rfl m_wi3 (by decide) in_1_143 rfl rfl rfl dX3_endsWithLeavingCall_7 ?_
  refine lv_iload_n hx hb dX3_endsWithLeavingCall_10 rfl (lv_at hl 1 rfl) ?_
  obtain ⟨v2, h_v2, e_v2, hm⟩ := n_ldi hm
  refine n_iald X hH (n := 5) (m_lay_at hT hk_a (by decide) (i := 4) rfl) h_v2 e_v2 dX3_endsWithLeavingCall_11 ?_
  refine lv_iadd hx hb dX3_endsWithLeavingCall_12 ?_
  refine lv_iconst (v := (1 : Int32)) hx hb dX3_endsWithLeavingCall_13 (by decide) ?_
  refine lv_isub hx hb dX3_endsWithLeavingCall_14 ?_
  obtain ⟨v3, e_v3, hm⟩ := m_let_of hm
  refine n_topi e_v3 ?_
  refine lv_istore_n (lv' := [(2, .int v3), (0, .ref a), (1, .int i1)]) hx hb dX3_endsWithLeavingCall_15 rfl hl (by decide) rfl (fun ls hl => ?_)
  refine lv_iload_n hx hb dX3_endsWithLeavingCall_16 rfl (lv_at hl 0 rfl) ?_
  refine lv_if_lt (tgt := 41) hx hb dX3_endsWithLeavingCall_17 (by decide) (fun c4 => ?_) (fun c4 => ?_)
  · have hm := m_ite_t hm c4
    exact k_X3_endsWithLeavingCall_41 (a := a) X hr hT hk_a   S _ _ _ hH hS (lv_sub hl [] rfl) hm
  · have hm := m_ite_f hm c4
    refine lv_aload_n hx hb dX3_endsWithLeavingCall_20 rfl (lv_at hl 1 rfl) ?_
    refine lv_iload_n hx hb dX3_endsWithLeavingCall_21 rfl (lv_at hl 0 rfl) ?_
    obtain ⟨v6, S5, e_S5, hm⟩ := m_call_of hm
    refine n_cVi X hH hS (k := 3) (c_X3_isCall (a := a) hT hk_a e_S5) mw_X3_isCall in_6_132 hk_a (by decide) rfl rfl rfl ⟨rfl, rfl⟩ ⟨Nat.le_of_ble_eq_true rfl, Nat.le_of_ble_eq_true rfl⟩ ⟨Nat.zero_le _, Nat.zero_le _⟩ hl.1 (Nat.le_of_ble_eq_true rfl) dX3_endsWithLeavingCall_22 (fun H locs hH hS => ?_)
    refine lv_if_eq (tgt := 41) hx hb dX3_endsWithLeavingCall_25 (by decide) (fun c7 => ?_) (fun c7 => ?_)
    · have hm := m_ite_t hm c7
      exact k_X3_endsWithLeavingCall_41 (a := a) X hr hT hk_a   S5 _ _ _ hH hS (lv_sub hl [] rfl) hm
    · have hm := m_ite_f hm c7
      refine lv_aload_n hx hb dX3_endsWithLeavingCall_28 rfl (lv_at hl 1 rfl) ?_
      refine lv_iload_n hx hb dX3_endsWithLeavingCall_29 rfl (lv_at hl 2 rfl) ?_
      refine lv_iload_n hx hb dX3_endsWithLeavingCall_30 rfl (lv_at hl 0 rfl) ?_
      obtain ⟨v9, S8, e_S8, hm⟩ := m_call_of hm
      refine n_cVi X hH hS (k := 3) (c_X3_leavesBy (a := a) hT hk_a e_S8) mw_X3_leavesBy in_6_140 hk_a (by decide) rfl rfl rfl ⟨rfl, rfl⟩ ⟨Nat.le_of_ble_eq_true rfl, Nat.le_of_ble_eq_true rfl⟩ ⟨Nat.zero_le _, Nat.zero_le _⟩ hl.1 (Nat.le_of_ble_eq_true rfl) dX3_endsWithLeavingCall_31 (fun H locs hH hS => ?_)
      refine lv_if_eq (tgt := 41) hx hb dX3_endsWithLeavingCall_34 (by decide) (fun c10 => ?_) (fun c10 => ?_)
      · have hm := m_ite_t hm c10
        exact k_X3_endsWithLeavingCall_41 (a := a) X hr hT hk_a   S8 _ _ _ hH hS (lv_sub hl [] rfl) hm
      · have hm := m_ite_f hm c10
        refine lv_iconst (v := (1 : Int32)) hx hb dX3_endsWithLeavingCall_37 (by decide) ?_
        refine lv_goto (tgt := 42) hx hb dX3_endsWithLeavingCall_38 (by decide) ?_
        exact k_X3_endsWithLeavingCall_42 (a := a) X hr hT hk_a   S8 (1 : Int32) _ _ _ hH hS (lv_sub hl [] rfl) hm
def rm_X9_isLetter : Room := { frames := 0, cells := 0, slots := 0, locals := 0 }
def b_X9_isLetter_17  (S : m_M) (t0 : Int32) : Option (Int32 × m_M) :=
    if t0 = 0 ∨ t0 = 1 then some (t0, S) else none
set_option maxHeartbeats 4000000 in
set_option maxRecDepth 100000 in
theorem k_X9_isLetter_17 {p : Program} {l : Launch} {e : Env} {s : State} {m : MethodId} {args : Array Value} {below : List Frame} {meth : Method} {c : Code} {G : m_G} {nx : Nat} {κ : Nat → Nat} {res : (Int32 × m_M)} (X : m_Cx p s m args meth c cX9_isLetter 1 RX9 G) (hr : meth.sig.returnType = (some .boolean)) (hT : m_Str κ)  : ∀ (S : m_M) (t0 : Int32) (H : Heap) (locs : List Loc) (ls : Array Slot), m_H G nx κ S H → m_S G s H locs → lv_has ls 1 [] → b_X9_isLetter_17  S t0 = some res → W p l e rm_X9_isLetter s m args below meth c H locs 0 0 (m_Qi below args s G nx κ res) (F0 m 17 ls [.int t0]) := by
  have hx := X.1.1
  have hb := X.1.2.1
  intro S t0 H locs ls hH hS hl hm
  rw [b_X9_isLetter_17] at hm
  exact r_zret X hr hH hS hm dX9_isLetter_17
def b_X9_isLetter_16  (S : m_M)  : Option (Int32 × m_M) :=
    b_X9_isLetter_17 S (0 : Int32)
set_option maxHeartbeats 4000000 in
set_option maxRecDepth 100000 in
theorem k_X9_isLetter_16 {p : Program} {l : Launch} {e : Env} {s : State} {m : MethodId} {args : Array Value} {below : List Frame} {meth : Method} {c : Code} {G : m_G} {nx : Nat} {κ : Nat → Nat} {res : (Int32 × m_M)} (X : m_Cx p s m args meth c cX9_isLetter 1 RX9 G) (hr : meth.sig.returnType = (some .boolean)) (hT : m_Str κ)  : ∀ (S : m_M)  (H : Heap) (locs : List Loc) (ls : Array Slot), m_H G nx κ S H → m_S G s H locs → lv_has ls 1 [] → b_X9_isLetter_16  S  = some res → W p l e rm_X9_isLetter s m args below meth c H locs 0 0 (m_Qi below args s G nx κ res) (F0 m 16 ls []) := by
  have hx := X.1.1
  have hb := X.1.2.1
  intro S H locs ls hH hS hl hm
  rw [b_X9_isLetter_16] at hm
  refine lv_iconst (v := (0 : Int32)) hx hb dX9_isLetter_16 (by decide) ?_
  exact k_X9_isLetter_17  X hr hT    S (0 : Int32) _ _ _ hH hS hl hm
def f_X9_isLetter (S : m_M) (i0 : Int32) : Option (Int32 × m_M) :=
    if i0 < (97 : Int32) then (
    b_X9_isLetter_16 S) else (
    if (122 : Int32) < i0 then (
    b_X9_isLetter_16 S) else (
    b_X9_isLetter_17 S (1 : Int32)))
set_option maxHeartbeats 4000000 in
set_option maxRecDepth 100000 in
theorem c_X9_isLetter {l : Launch} {G : m_G} {nx : Nat} {κ : Nat → Nat} {S : m_M} {i0 : Int32} {res : (Int32 × m_M)} (hT : m_Str κ)  (hm : f_X9_isLetter S i0 = some res) : m_Ci l yX9_isLetter cX9_isLetter 1 (some .boolean) rm_X9_isLetter G nx κ [.int i0] S res := by
  refine m_Ci.of (by decide) (Nat.le_of_ble_eq_true rfl) ?_
  intro p e s m args below meth c ls X hr hH hl
  have hx := X.1.1
  have hb := X.1.2.1
  have hS : m_S G s s.heap [] := va_S.rf
  have hl : lv_has ls 1 [(0, .int i0)] := hl
  rw [f_X9_isLetter] at hm
  refine lv_iload_n hx hb dX9_isLetter_0 rfl (lv_at hl 0 rfl) ?_
  refine lv_bipush (v := (97 : Int32)) hx hb dX9_isLetter_1 (by decide) ?_
  refine lv_icmp_lt (tgt := 16) hx hb dX9_isLetter_3 (by decide) (fun c1 => ?_) (fun c1 => ?_)
  · have hm := m_ite_t hm c1
    exact k_X9_isLetter_16  X hr hT    S _ _ _ hH hS (lv_sub hl [] rfl) hm
  · have hm := m_ite_f hm c1
    refine lv_iload_n hx hb dX9_isLetter_6 rfl (lv_at hl 0 rfl) ?_
    refine lv_bipush (v := (122 : Int32)) hx hb dX9_isLetter_7 (by decide) ?_
    refine lv_icmp_gt (tgt := 16) hx hb dX9_isLetter_9 (by decide) (fun c2 => ?_) (fun c2 => ?_)
    · have hm := m_ite_t hm c2
      exact k_X9_isLetter_16  X hr hT    S _ _ _ hH hS (lv_sub hl [] rfl) hm
    · have hm := m_ite_f hm c2
      refine lv_iconst (v := (1 : Int32)) hx hb dX9_isLetter_12 (by decide) ?_
      refine lv_goto (tgt := 17) hx hb dX9_isLetter_13 (by decide) ?_
      exact k_X9_isLetter_17  X hr hT    S (1 : Int32) _ _ _ hH hS (lv_sub hl [] rfl) hm
def rm_X9_isDigit : Room := { frames := 0, cells := 0, slots := 0, locals := 0 }
def b_X9_isDigit_17  (S : m_M) (t0 : Int32) : Option (Int32 × m_M) :=
    if t0 = 0 ∨ t0 = 1 then some (t0, S) else none
set_option maxHeartbeats 4000000 in
set_option maxRecDepth 100000 in
theorem k_X9_isDigit_17 {p : Program} {l : Launch} {e : Env} {s : State} {m : MethodId} {args : Array Value} {below : List Frame} {meth : Method} {c : Code} {G : m_G} {nx : Nat} {κ : Nat → Nat} {res : (Int32 × m_M)} (X : m_Cx p s m args meth c cX9_isDigit 1 RX9 G) (hr : meth.sig.returnType = (some .boolean)) (hT : m_Str κ)  : ∀ (S : m_M) (t0 : Int32) (H : Heap) (locs : List Loc) (ls : Array Slot), m_H G nx κ S H → m_S G s H locs → lv_has ls 1 [] → b_X9_isDigit_17  S t0 = some res → W p l e rm_X9_isDigit s m args below meth c H locs 0 0 (m_Qi below args s G nx κ res) (F0 m 17 ls [.int t0]) := by
  have hx := X.1.1
  have hb := X.1.2.1
  intro S t0 H locs ls hH hS hl hm
  rw [b_X9_isDigit_17] at hm
  exact r_zret X hr hH hS hm dX9_isDigit_17
def b_X9_isDigit_16  (S : m_M)  : Option (Int32 × m_M) :=
    b_X9_isDigit_17 S (0 : Int32)
set_option maxHeartbeats 4000000 in
set_option maxRecDepth 100000 in
theorem k_X9_isDigit_16 {p : Program} {l : Launch} {e : Env} {s : State} {m : MethodId} {args : Array Value} {below : List Frame} {meth : Method} {c : Code} {G : m_G} {nx : Nat} {κ : Nat → Nat} {res : (Int32 × m_M)} (X : m_Cx p s m args meth c cX9_isDigit 1 RX9 G) (hr : meth.sig.returnType = (some .boolean)) (hT : m_Str κ)  : ∀ (S : m_M)  (H : Heap) (locs : List Loc) (ls : Array Slot), m_H G nx κ S H → m_S G s H locs → lv_has ls 1 [] → b_X9_isDigit_16  S  = some res → W p l e rm_X9_isDigit s m args below meth c H locs 0 0 (m_Qi below args s G nx κ res) (F0 m 16 ls []) := by
  have hx := X.1.1
  have hb := X.1.2.1
  intro S H locs ls hH hS hl hm
  rw [b_X9_isDigit_16] at hm
  refine lv_iconst (v := (0 : Int32)) hx hb dX9_isDigit_16 (by decide) ?_
  exact k_X9_isDigit_17  X hr hT    S (0 : Int32) _ _ _ hH hS hl hm
def f_X9_isDigit (S : m_M) (i0 : Int32) : Option (Int32 × m_M) :=
    if i0 < (48 : Int32) then (
    b_X9_isDigit_16 S) else (
    if (57 : Int32) < i0 then (
    b_X9_isDigit_16 S) else (
    b_X9_isDigit_17 S (1 : Int32)))
set_option maxHeartbeats 4000000 in
set_option maxRecDepth 100000 in
theorem c_X9_isDigit {l : Launch} {G : m_G} {nx : Nat} {κ : Nat → Nat} {S : m_M} {i0 : Int32} {res : (Int32 × m_M)} (hT : m_Str κ)  (hm : f_X9_isDigit S i0 = some res) : m_Ci l yX9_isDigit cX9_isDigit 1 (some .boolean) rm_X9_isDigit G nx κ [.int i0] S res := by
  refine m_Ci.of (by decide) (Nat.le_of_ble_eq_true rfl) ?_
  intro p e s m args below meth c ls X hr hH hl
  have hx := X.1.1
  have hb := X.1.2.1
  have hS : m_S G s s.heap [] := va_S.rf
  have hl : lv_has ls 1 [(0, .int i0)] := hl
  rw [f_X9_isDigit] at hm
  refine lv_iload_n hx hb dX9_isDigit_0 rfl (lv_at hl 0 rfl) ?_
  refine lv_bipush (v := (48 : Int32)) hx hb dX9_isDigit_1 (by decide) ?_
  refine lv_icmp_lt (tgt := 16) hx hb dX9_isDigit_3 (by decide) (fun c1 => ?_) (fun c1 => ?_)
  · have hm := m_ite_t hm c1
    exact k_X9_isDigit_16  X hr hT    S _ _ _ hH hS (lv_sub hl [] rfl) hm
  · have hm := m_ite_f hm c1
    refine lv_iload_n hx hb dX9_isDigit_6 rfl (lv_at hl 0 rfl) ?_
    refine lv_bipush (v := (57 : Int32)) hx hb dX9_isDigit_7 (by decide) ?_
    refine lv_icmp_gt (tgt := 16) hx hb dX9_isDigit_9 (by decide) (fun c2 => ?_) (fun c2 => ?_)
    · have hm := m_ite_t hm c2
      exact k_X9_isDigit_16  X hr hT    S _ _ _ hH hS (lv_sub hl [] rfl) hm
    · have hm := m_ite_f hm c2
      refine lv_iconst (v := (1 : Int32)) hx hb dX9_isDigit_12 (by decide) ?_
      refine lv_goto (tgt := 17) hx hb dX9_isDigit_13 (by decide) ?_
      exact k_X9_isDigit_17  X hr hT    S (1 : Int32) _ _ _ hH hS (lv_sub hl [] rfl) hm
def rm_X9_withLetter : Room := { frames := 0, cells := 0, slots := 0, locals := 0 }
def f_X9_withLetter (S : m_M) (j0 : Int64) (i2 : Int32) : Option (Int64 × m_M) :=
    some (((j0 * (27 : Int64)) + ((i2 - (97 : Int32)) + (1 : Int32)).toInt64), S)
set_option maxHeartbeats 4000000 in
set_option maxRecDepth 100000 in
theorem c_X9_withLetter {l : Launch} {G : m_G} {nx : Nat} {κ : Nat → Nat} {S : m_M} {j0 : Int64} {i2 : Int32} {res : (Int64 × m_M)} (hT : m_Str κ)  (hm : f_X9_withLetter S j0 i2 = some res) : m_Cl l yX9_withLetter cX9_withLetter 3 (some .long) rm_X9_withLetter G nx κ [.long j0, .int i2] S res := by
  refine m_Cl.of (by decide) (Nat.le_of_ble_eq_true rfl) ?_
  intro p e s m args below meth c ls X hr hH hl
  have hx := X.1.1
  have hb := X.1.2.1
  have hS : m_S G s s.heap [] := va_S.rf
  have hl : lv_has ls 3 [(0, .long j0), (2, .int i2)] := hl
  rw [f_X9_withLetter] at hm
  refine lv_lload_n hx hb dX9_withLetter_0 rfl (lv_at hl 0 rfl) ?_
  refine lv_ldc2 hx hb X.1.2.2.2.1 (m_w X in_2_8) dX9_withLetter_1 ?_
  refine lv_lmul hx hb dX9_withLetter_4 ?_
  refine lv_iload_n hx hb dX9_withLetter_5 rfl (lv_at hl 1 rfl) ?_
  refine lv_bipush (v := (97 : Int32)) hx hb dX9_withLetter_6 (by decide) ?_
  refine lv_isub hx hb dX9_withLetter_8 ?_
  refine lv_iconst (v := (1 : Int32)) hx hb dX9_withLetter_9 (by decide) ?_
  refine lv_iadd hx hb dX9_withLetter_10 ?_
  refine lv_i2l hx hb dX9_withLetter_11 rfl ?_
  refine lv_ladd hx hb dX9_withLetter_12 ?_
  exact r_lret X hr hH hS hm dX9_withLetter_13
def rm_X9_keywordOf : Room := { frames := 0, cells := 0, slots := 0, locals := 0 }
def b_X9_keywordOf_2 (x : Nat)  : Nat → m_M → Int64 → Int32 → Option (Int32 × m_M)
  | 0, _, _, _ => none
  | n + 1, S, l1, l3 =>
    if (22 : Int32) ≤ l3 then (
    some ((-1 : Int32), S)) else (
    (m_ldj S (x + 26) 22 l3).bind fun v2 =>
    if (lg_cmp v2 l1) = 0 then (
    some (l3, S)) else (
    m_let (l3 + (1 : Int32)) fun v4 =>
    b_X9_keywordOf_2 x n S l1 v4))
set_option maxHeartbeats 4000000 in
set_option maxRecDepth 100000 in
theorem k_X9_keywordOf_2 {p : Program} {l : Launch} {e : Env} {s : State} {m : MethodId} {args : Array Value} {below : List Frame} {meth : Method} {c : Code} {G : m_G} {nx : Nat} {κ : Nat → Nat} {res : (Int32 × m_M)} {x : Nat} (X : m_Cx p s m args meth c cX9_keywordOf 4 RX9 G) (hr : meth.sig.returnType = (some .int)) (hT : m_Str κ) (hk_x : κ x = 12)  (n : Nat) : ∀ (S : m_M) (l1 : Int64) (l3 : Int32) (H : Heap) (locs : List Loc) (ls : Array Slot), m_H G nx κ S H → m_S G s H locs → lv_has ls 4 [(0, .ref (x + 25)), (1, .long l1), (3, .int l3)] → b_X9_keywordOf_2 x n S l1 l3 = some res → W p l e rm_X9_keywordOf s m args below meth c H locs 0 0 (m_Qi below args s G nx κ res) (F0 m 2 ls []) := by
  have hx := X.1.1
  have hb := X.1.2.1
  induction n with
  | zero => intro S l1 l3 H locs ls hH hS hl hm; have hm : (none : Option (Int32 × m_M)) = some res := hm; cases hm
  | succ n ih =>
    intro S l1 l3 H locs ls hH hS hl hm
    rw [b_X9_keywordOf_2] at hm
    refine lv_iload_n hx hb dX9_keywordOf_2 rfl (lv_at hl 2 rfl) ?_
    refine lv_bipush (v := (22 : Int32)) hx hb dX9_keywordOf_3 (by decide) ?_
    refine lv_icmp_ge (tgt := 27) hx hb dX9_keywordOf_5 (by decide) (fun c1 => ?_) (fun c1 => ?_)
    · have hm := m_ite_t hm c1
      refine lv_iconst (v := (-1 : Int32)) hx hb dX9_keywordOf_27 (by decide) ?_
      exact r_iret X hr hH hS hm dX9_keywordOf_28
    · have hm := m_ite_f hm c1
      refine lv_aload_n hx hb dX9_keywordOf_8 rfl (lv_at hl 0 rfl) ?_
      refine r_getp X hH (k := 9) (a := (x + 25)) (j := 1) (b := (x + 26)) (A := 1) (B := 0) (m_lay_at hT hk_x (by decide) (i := 25) rfl) (by decide) rfl m_wi9 (by decide) in_2_10 rfl rfl rfl dX9_keywordOf_9 ?_
      refine lv_iload_n hx hb dX9_keywordOf_12 rfl (lv_at hl 2 rfl) ?_
      obtain ⟨v2, h_v2, e_v2, hm⟩ := n_ldj hm
      refine n_lald X hH (n := 22) (m_lay_at hT hk_x (by decide) (i := 26) rfl) h_v2 e_v2 dX9_keywordOf_13 ?_
      refine lv_lload_n hx hb dX9_keywordOf_14 rfl (lv_at hl 1 rfl) ?_
      refine W.lcmp hx hb dX9_keywordOf_15 ?_
      refine lv_if_ne (tgt := 21) hx hb dX9_keywordOf_16 (by decide) (fun c3 => ?_) (fun c3 => ?_)
      · have hm := m_ite_f hm c3
        obtain ⟨v4, e_v4, hm⟩ := m_let_of hm
        refine lv_iinc (v := v4) (lv' := [(3, .int v4), (0, .ref (x + 25)), (1, .long l1)]) hx hb dX9_keywordOf_21 hl (k := 2) rfl (by rw [← e_v4]; rfl) (by decide) rfl (fun ls hl => ?_)
        refine lv_goto (tgt := 2) hx hb dX9_keywordOf_24 (by decide) ?_
        exact ih S l1 v4 _ _ _ hH hS (lv_sub hl [1, 2, 0] rfl) hm
      · have hm := m_ite_t hm c3
        refine lv_iload_n hx hb dX9_keywordOf_19 rfl (lv_at hl 2 rfl) ?_
        exact r_iret X hr hH hS hm dX9_keywordOf_20
def f_X9_keywordOf (x : Nat) (S : m_M) (j1 : Int64) : Option (Int32 × m_M) :=
    b_X9_keywordOf_2 x m_fu S j1 (0 : Int32)
set_option maxHeartbeats 4000000 in
set_option maxRecDepth 100000 in
theorem c_X9_keywordOf {l : Launch} {G : m_G} {nx : Nat} {κ : Nat → Nat} {x : Nat} {S : m_M} {j1 : Int64} {res : (Int32 × m_M)} (hT : m_Str κ) (hk_x : κ x = 12) (hm : f_X9_keywordOf x S j1 = some res) : m_Ci l yX9_keywordOf cX9_keywordOf 4 (some .int) rm_X9_keywordOf G nx κ [.ref (x + 25), .long j1] S res := by
  refine m_Ci.of (by decide) (Nat.le_of_ble_eq_true rfl) ?_
  intro p e s m args below meth c ls X hr hH hl
  have hx := X.1.1
  have hb := X.1.2.1
  have hS : m_S G s s.heap [] := va_S.rf
  have hl : lv_has ls 4 [(0, .ref (x + 25)), (1, .long j1)] := hl
  rw [f_X9_keywordOf] at hm
  refine lv_iconst (v := (0 : Int32)) hx hb dX9_keywordOf_0 (by decide) ?_
  refine lv_istore_n (lv' := [(3, .int (0 : Int32)), (0, .ref (x + 25)), (1, .long j1)]) hx hb dX9_keywordOf_1 rfl hl (by decide) rfl (fun ls hl => ?_)
  exact k_X9_keywordOf_2 (x := x) X hr hT hk_x  m_fu S j1 (0 : Int32) _ _ _ hH hS (lv_sub hl [1, 2, 0] rfl) hm
def rm_X9s_keywordOf : Room := { frames := 0, cells := 0, slots := 0, locals := 0 }
def b_X9s_keywordOf_2 (x : Nat)  : Nat → m_M → Int64 → Int32 → Option (Int32 × m_M)
  | 0, _, _, _ => none
  | n + 1, S, l1, l3 =>
    if (22 : Int32) ≤ l3 then (
    some ((-1 : Int32), S)) else (
    (m_ldj S (x + 38) 22 l3).bind fun v2 =>
    if (lg_cmp v2 l1) = 0 then (
    some (l3, S)) else (
    m_let (l3 + (1 : Int32)) fun v4 =>
    b_X9s_keywordOf_2 x n S l1 v4))
set_option maxHeartbeats 4000000 in
set_option maxRecDepth 100000 in
theorem k_X9s_keywordOf_2 {p : Program} {l : Launch} {e : Env} {s : State} {m : MethodId} {args : Array Value} {below : List Frame} {meth : Method} {c : Code} {G : m_G} {nx : Nat} {κ : Nat → Nat} {res : (Int32 × m_M)} {x : Nat} (X : m_Cx p s m args meth c cX9_keywordOf 4 RX9 G) (hr : meth.sig.returnType = (some .int)) (hT : m_Str κ) (hk_x : κ x = 12)  (n : Nat) : ∀ (S : m_M) (l1 : Int64) (l3 : Int32) (H : Heap) (locs : List Loc) (ls : Array Slot), m_H G nx κ S H → m_S G s H locs → lv_has ls 4 [(0, .ref (x + 37)), (1, .long l1), (3, .int l3)] → b_X9s_keywordOf_2 x n S l1 l3 = some res → W p l e rm_X9s_keywordOf s m args below meth c H locs 0 0 (m_Qi below args s G nx κ res) (F0 m 2 ls []) := by
  have hx := X.1.1
  have hb := X.1.2.1
  induction n with
  | zero => intro S l1 l3 H locs ls hH hS hl hm; have hm : (none : Option (Int32 × m_M)) = some res := hm; cases hm
  | succ n ih =>
    intro S l1 l3 H locs ls hH hS hl hm
    rw [b_X9s_keywordOf_2] at hm
    refine lv_iload_n hx hb dX9_keywordOf_2 rfl (lv_at hl 2 rfl) ?_
    refine lv_bipush (v := (22 : Int32)) hx hb dX9_keywordOf_3 (by decide) ?_
    refine lv_icmp_ge (tgt := 27) hx hb dX9_keywordOf_5 (by decide) (fun c1 => ?_) (fun c1 => ?_)
    · have hm := m_ite_t hm c1
      refine lv_iconst (v := (-1 : Int32)) hx hb dX9_keywordOf_27 (by decide) ?_
      exact r_iret X hr hH hS hm dX9_keywordOf_28
    · have hm := m_ite_f hm c1
      refine lv_aload_n hx hb dX9_keywordOf_8 rfl (lv_at hl 0 rfl) ?_
      refine r_getp X hH (k := 9) (a := (x + 37)) (j := 1) (b := (x + 38)) (A := 1) (B := 0) (m_lay_at hT hk_x (by decide) (i := 37) rfl) (by decide) rfl m_wi9 (by decide) in_2_10 rfl rfl rfl dX9_keywordOf_9 ?_
      refine lv_iload_n hx hb dX9_keywordOf_12 rfl (lv_at hl 2 rfl) ?_
      obtain ⟨v2, h_v2, e_v2, hm⟩ := n_ldj hm
      refine n_lald X hH (n := 22) (m_lay_at hT hk_x (by decide) (i := 38) rfl) h_v2 e_v2 dX9_keywordOf_13 ?_
      refine lv_lload_n hx hb dX9_keywordOf_14 rfl (lv_at hl 1 rfl) ?_
      refine W.lcmp hx hb dX9_keywordOf_15 ?_
      refine lv_if_ne (tgt := 21) hx hb dX9_keywordOf_16 (by decide) (fun c3 => ?_) (fun c3 => ?_)
      · have hm := m_ite_f hm c3
        obtain ⟨v4, e_v4, hm⟩ := m_let_of hm
        refine lv_iinc (v := v4) (lv' := [(3, .int v4), (0, .ref (x + 37)), (1, .long l1)]) hx hb dX9_keywordOf_21 hl (k := 2) rfl (by rw [← e_v4]; rfl) (by decide) rfl (fun ls hl => ?_)
        refine lv_goto (tgt := 2) hx hb dX9_keywordOf_24 (by decide) ?_
        exact ih S l1 v4 _ _ _ hH hS (lv_sub hl [1, 2, 0] rfl) hm
      · have hm := m_ite_t hm c3
        refine lv_iload_n hx hb dX9_keywordOf_19 rfl (lv_at hl 2 rfl) ?_
        exact r_iret X hr hH hS hm dX9_keywordOf_20
def f_X9s_keywordOf (x : Nat) (S : m_M) (j1 : Int64) : Option (Int32 × m_M) :=
    b_X9s_keywordOf_2 x m_fu S j1 (0 : Int32)
set_option maxHeartbeats 4000000 in
set_option maxRecDepth 100000 in
theorem c_X9s_keywordOf {l : Launch} {G : m_G} {nx : Nat} {κ : Nat → Nat} {x : Nat} {S : m_M} {j1 : Int64} {res : (Int32 × m_M)} (hT : m_Str κ) (hk_x : κ x = 12) (hm : f_X9s_keywordOf x S j1 = some res) : m_Ci l yX9_keywordOf cX9_keywordOf 4 (some .int) rm_X9s_keywordOf G nx κ [.ref (x + 37), .long j1] S res := by
  refine m_Ci.of (by decide) (Nat.le_of_ble_eq_true rfl) ?_
  intro p e s m args below meth c ls X hr hH hl
  have hx := X.1.1
  have hb := X.1.2.1
  have hS : m_S G s s.heap [] := va_S.rf
  have hl : lv_has ls 4 [(0, .ref (x + 37)), (1, .long j1)] := hl
  rw [f_X9s_keywordOf] at hm
  refine lv_iconst (v := (0 : Int32)) hx hb dX9_keywordOf_0 (by decide) ?_
  refine lv_istore_n (lv' := [(3, .int (0 : Int32)), (0, .ref (x + 37)), (1, .long j1)]) hx hb dX9_keywordOf_1 rfl hl (by decide) rfl (fun ls hl => ?_)
  exact k_X9s_keywordOf_2 (x := x) X hr hT hk_x  m_fu S j1 (0 : Int32) _ _ _ hH hS (lv_sub hl [1, 2, 0] rfl) hm
def rm_X9_put : Room := { frames := 0, cells := 0, slots := 0, locals := 0 }
def b_X9_put_51 (x : Nat)  (S : m_M)  : Option m_M :=
    some S
set_option maxHeartbeats 4000000 in
set_option maxRecDepth 100000 in
theorem k_X9_put_51 {p : Program} {l : Launch} {e : Env} {s : State} {m : MethodId} {args : Array Value} {below : List Frame} {meth : Method} {c : Code} {G : m_G} {nx : Nat} {κ : Nat → Nat} {res : m_M} {x : Nat} (X : m_Cx p s m args meth c cX9_put 5 RX9 G) (hr : meth.sig.returnType = none) (hT : m_Str κ) (hk_x : κ x = 12)  : ∀ (S : m_M)  (H : Heap) (locs : List Loc) (ls : Array Slot), m_H G nx κ S H → m_S G s H locs → lv_has ls 5 [] → b_X9_put_51 x S  = some res → W p l e rm_X9_put s m args below meth c H locs 0 0 (m_Qv below args s G nx κ res) (F0 m 51 ls []) := by
  have hx := X.1.1
  have hb := X.1.2.1
  intro S H locs ls hH hS hl hm
  rw [b_X9_put_51] at hm
  exact r_vret X hr hH hS hm dX9_put_51
def f_X9_put (x : Nat) (S : m_M) (i1 : Int32) (i2 : Int32) (j3 : Int64) : Option m_M :=
    if (m_ri S (x + 25) 0) < (m_ri S (x + 25) 7) then (
    b_X9_put_51 x S) else (
    (m_sti S (x + 27) 901 (m_ri S (x + 25) 7) i1).bind fun S2 =>
    (m_sti S2 (x + 28) 901 (m_ri S2 (x + 25) 7) i2).bind fun S3 =>
    (m_stj S3 (x + 29) 901 (m_ri S3 (x + 25) 7) j3).bind fun S4 =>
    m_let (m_si S4 (x + 25) 7 ((m_ri S4 (x + 25) 7) + (1 : Int32))) fun S5 =>
    b_X9_put_51 x S5)
set_option maxHeartbeats 4000000 in
set_option maxRecDepth 100000 in
theorem c_X9_put {l : Launch} {G : m_G} {nx : Nat} {κ : Nat → Nat} {x : Nat} {S : m_M} {i1 : Int32} {i2 : Int32} {j3 : Int64} {res : m_M} (hT : m_Str κ) (hk_x : κ x = 12) (hm : f_X9_put x S i1 i2 j3 = some res) : m_Cv l yX9_put cX9_put 5 rm_X9_put G nx κ [.ref (x + 25), .int i1, .int i2, .long j3] S res := by
  refine m_Cv.of (by decide) (Nat.le_of_ble_eq_true rfl) ?_
  intro p e s m args below meth c ls X hr hH hl
  have hx := X.1.1
  have hb := X.1.2.1
  have hS : m_S G s s.heap [] := va_S.rf
  have hl : lv_has ls 5 [(0, .ref (x + 25)), (1, .int i1), (2, .int i2), (3, .long j3)] := hl
  rw [f_X9_put] at hm
  refine lv_aload_n hx hb dX9_put_0 rfl (lv_at hl 0 rfl) ?_
  refine r_geti X hH (k := 9) (a := (x + 25)) (j := 7) (m_lay_at hT hk_x (by decide) (i := 25) rfl) (by decide) rfl m_wi9 (by decide) in_2_16 rfl rfl dX9_put_1 ?_
  refine lv_aload_n hx hb dX9_put_4 rfl (lv_at hl 0 rfl) ?_
  refine r_geti X hH (k := 9) (a := (x + 25)) (j := 0) (m_lay_at hT hk_x (by decide) (i := 25) rfl) (by decide) rfl m_wi9 (by decide) in_2_9 rfl rfl dX9_put_5 ?_
  refine lv_icmp_gt (tgt := 51) hx hb dX9_put_8 (by decide) (fun c1 => ?_) (fun c1 => ?_)
  · have hm := m_ite_t hm c1
    exact k_X9_put_51 (x := x) X hr hT hk_x   S _ _ _ hH hS (lv_sub hl [] rfl) hm
  · have hm := m_ite_f hm c1
    refine lv_aload_n hx hb dX9_put_11 rfl (lv_at hl 0 rfl) ?_
    refine r_getp X hH (k := 9) (a := (x + 25)) (j := 2) (b := (x + 27)) (A := 2) (B := 0) (m_lay_at hT hk_x (by decide) (i := 25) rfl) (by decide) rfl m_wi9 (by decide) in_2_11 rfl rfl rfl dX9_put_12 ?_
    refine lv_aload_n hx hb dX9_put_15 rfl (lv_at hl 0 rfl) ?_
    refine r_geti X hH (k := 9) (a := (x + 25)) (j := 7) (m_lay_at hT hk_x (by decide) (i := 25) rfl) (by decide) rfl m_wi9 (by decide) in_2_16 rfl rfl dX9_put_16 ?_
    refine lv_iload_n hx hb dX9_put_19 rfl (lv_at hl 1 rfl) ?_
    obtain ⟨S2, h_S2, e_S2, hm⟩ := n_sti hm
    refine n_iast X hH hS (n := 901) (m_lay_at hT hk_x (by decide) (i := 27) rfl) h_S2 e_S2 dX9_put_20 (fun H locs hH hS => ?_)
    refine lv_aload_n hx hb dX9_put_21 rfl (lv_at hl 0 rfl) ?_
    refine r_getp X hH (k := 9) (a := (x + 25)) (j := 3) (b := (x + 28)) (A := 3) (B := 0) (m_lay_at hT hk_x (by decide) (i := 25) rfl) (by decide) rfl m_wi9 (by decide) in_2_12 rfl rfl rfl dX9_put_22 ?_
    refine lv_aload_n hx hb dX9_put_25 rfl (lv_at hl 0 rfl) ?_
    refine r_geti X hH (k := 9) (a := (x + 25)) (j := 7) (m_lay_at hT hk_x (by decide) (i := 25) rfl) (by decide) rfl m_wi9 (by decide) in_2_16 rfl rfl dX9_put_26 ?_
    refine lv_iload_n hx hb dX9_put_29 rfl (lv_at hl 2 rfl) ?_
    obtain ⟨S3, h_S3, e_S3, hm⟩ := n_sti hm
    refine n_iast X hH hS (n := 901) (m_lay_at hT hk_x (by decide) (i := 28) rfl) h_S3 e_S3 dX9_put_30 (fun H locs hH hS => ?_)
    refine lv_aload_n hx hb dX9_put_31 rfl (lv_at hl 0 rfl) ?_
    refine r_getp X hH (k := 9) (a := (x + 25)) (j := 4) (b := (x + 29)) (A := 4) (B := 0) (m_lay_at hT hk_x (by decide) (i := 25) rfl) (by decide) rfl m_wi9 (by decide) in_2_13 rfl rfl rfl dX9_put_32 ?_
    refine lv_aload_n hx hb dX9_put_35 rfl (lv_at hl 0 rfl) ?_
    refine r_geti X hH (k := 9) (a := (x + 25)) (j := 7) (m_lay_at hT hk_x (by decide) (i := 25) rfl) (by decide) rfl m_wi9 (by decide) in_2_16 rfl rfl dX9_put_36 ?_
    refine lv_lload_n hx hb dX9_put_39 rfl (lv_at hl 3 rfl) ?_
    obtain ⟨S4, h_S4, e_S4, hm⟩ := n_stj hm
    refine n_last X hH hS (n := 901) (m_lay_at hT hk_x (by decide) (i := 29) rfl) h_S4 e_S4 dX9_put_40 (fun H locs hH hS => ?_)
    refine lv_aload_n hx hb dX9_put_41 rfl (lv_at hl 0 rfl) ?_
    refine lv_dup hx hb dX9_put_42 rfl ?_
    refine r_geti X hH (k := 9) (a := (x + 25)) (j := 7) (m_lay_at hT hk_x (by decide) (i := 25) rfl) (by decide) rfl m_wi9 (by decide) in_2_16 rfl rfl dX9_put_43 ?_
    refine lv_iconst (v := (1 : Int32)) hx hb dX9_put_46 (by decide) ?_
    refine lv_iadd hx hb dX9_put_47 ?_
    obtain ⟨S5, e_S5, hm⟩ := m_let_of hm
    refine n_puti X hH hS tyX9 (k := 9) (a := (x + 25)) (j := 7) (m_lay_at hT hk_x (by decide) (i := 25) rfl) (by decide) rfl m_wi9 tyX9_ok nmX9 (by decide) in_2_16 rfl rfl rfl ⟨rfl, rfl⟩ e_S5 dX9_put_48 (fun H locs hH hS => ?_)
    exact k_X9_put_51 (x := x) X hr hT hk_x   S5 _ _ _ hH hS (lv_sub hl [] rfl) hm
def rm_X9s_put : Room := { frames := 0, cells := 0, slots := 0, locals := 0 }
def b_X9s_put_51 (x : Nat)  (S : m_M)  : Option m_M :=
    some S
set_option maxHeartbeats 4000000 in
set_option maxRecDepth 100000 in
theorem k_X9s_put_51 {p : Program} {l : Launch} {e : Env} {s : State} {m : MethodId} {args : Array Value} {below : List Frame} {meth : Method} {c : Code} {G : m_G} {nx : Nat} {κ : Nat → Nat} {res : m_M} {x : Nat} (X : m_Cx p s m args meth c cX9_put 5 RX9 G) (hr : meth.sig.returnType = none) (hT : m_Str κ) (hk_x : κ x = 12)  : ∀ (S : m_M)  (H : Heap) (locs : List Loc) (ls : Array Slot), m_H G nx κ S H → m_S G s H locs → lv_has ls 5 [] → b_X9s_put_51 x S  = some res → W p l e rm_X9s_put s m args below meth c H locs 0 0 (m_Qv below args s G nx κ res) (F0 m 51 ls []) := by
  have hx := X.1.1
  have hb := X.1.2.1
  intro S H locs ls hH hS hl hm
  rw [b_X9s_put_51] at hm
  exact r_vret X hr hH hS hm dX9_put_51
def f_X9s_put (x : Nat) (S : m_M) (i1 : Int32) (i2 : Int32) (j3 : Int64) : Option m_M :=
    if (m_ri S (x + 37) 0) < (m_ri S (x + 37) 7) then (
    b_X9s_put_51 x S) else (
    (m_sti S (x + 39) 201 (m_ri S (x + 37) 7) i1).bind fun S2 =>
    (m_sti S2 (x + 40) 201 (m_ri S2 (x + 37) 7) i2).bind fun S3 =>
    (m_stj S3 (x + 41) 201 (m_ri S3 (x + 37) 7) j3).bind fun S4 =>
    m_let (m_si S4 (x + 37) 7 ((m_ri S4 (x + 37) 7) + (1 : Int32))) fun S5 =>
    b_X9s_put_51 x S5)
set_option maxHeartbeats 4000000 in
set_option maxRecDepth 100000 in
theorem c_X9s_put {l : Launch} {G : m_G} {nx : Nat} {κ : Nat → Nat} {x : Nat} {S : m_M} {i1 : Int32} {i2 : Int32} {j3 : Int64} {res : m_M} (hT : m_Str κ) (hk_x : κ x = 12) (hm : f_X9s_put x S i1 i2 j3 = some res) : m_Cv l yX9_put cX9_put 5 rm_X9s_put G nx κ [.ref (x + 37), .int i1, .int i2, .long j3] S res := by
  refine m_Cv.of (by decide) (Nat.le_of_ble_eq_true rfl) ?_
  intro p e s m args below meth c ls X hr hH hl
  have hx := X.1.1
  have hb := X.1.2.1
  have hS : m_S G s s.heap [] := va_S.rf
  have hl : lv_has ls 5 [(0, .ref (x + 37)), (1, .int i1), (2, .int i2), (3, .long j3)] := hl
  rw [f_X9s_put] at hm
  refine lv_aload_n hx hb dX9_put_0 rfl (lv_at hl 0 rfl) ?_
  refine r_geti X hH (k := 9) (a := (x + 37)) (j := 7) (m_lay_at hT hk_x (by decide) (i := 37) rfl) (by decide) rfl m_wi9 (by decide) in_2_16 rfl rfl dX9_put_1 ?_
  refine lv_aload_n hx hb dX9_put_4 rfl (lv_at hl 0 rfl) ?_
  refine r_geti X hH (k := 9) (a := (x + 37)) (j := 0) (m_lay_at hT hk_x (by decide) (i := 37) rfl) (by decide) rfl m_wi9 (by decide) in_2_9 rfl rfl dX9_put_5 ?_
  refine lv_icmp_gt (tgt := 51) hx hb dX9_put_8 (by decide) (fun c1 => ?_) (fun c1 => ?_)
  · have hm := m_ite_t hm c1
    exact k_X9s_put_51 (x := x) X hr hT hk_x   S _ _ _ hH hS (lv_sub hl [] rfl) hm
  · have hm := m_ite_f hm c1
    refine lv_aload_n hx hb dX9_put_11 rfl (lv_at hl 0 rfl) ?_
    refine r_getp X hH (k := 9) (a := (x + 37)) (j := 2) (b := (x + 39)) (A := 2) (B := 0) (m_lay_at hT hk_x (by decide) (i := 37) rfl) (by decide) rfl m_wi9 (by decide) in_2_11 rfl rfl rfl dX9_put_12 ?_
    refine lv_aload_n hx hb dX9_put_15 rfl (lv_at hl 0 rfl) ?_
    refine r_geti X hH (k := 9) (a := (x + 37)) (j := 7) (m_lay_at hT hk_x (by decide) (i := 37) rfl) (by decide) rfl m_wi9 (by decide) in_2_16 rfl rfl dX9_put_16 ?_
    refine lv_iload_n hx hb dX9_put_19 rfl (lv_at hl 1 rfl) ?_
    obtain ⟨S2, h_S2, e_S2, hm⟩ := n_sti hm
    refine n_iast X hH hS (n := 201) (m_lay_at hT hk_x (by decide) (i := 39) rfl) h_S2 e_S2 dX9_put_20 (fun H locs hH hS => ?_)
    refine lv_aload_n hx hb dX9_put_21 rfl (lv_at hl 0 rfl) ?_
    refine r_getp X hH (k := 9) (a := (x + 37)) (j := 3) (b := (x + 40)) (A := 3) (B := 0) (m_lay_at hT hk_x (by decide) (i := 37) rfl) (by decide) rfl m_wi9 (by decide) in_2_12 rfl rfl rfl dX9_put_22 ?_
    refine lv_aload_n hx hb dX9_put_25 rfl (lv_at hl 0 rfl) ?_
    refine r_geti X hH (k := 9) (a := (x + 37)) (j := 7) (m_lay_at hT hk_x (by decide) (i := 37) rfl) (by decide) rfl m_wi9 (by decide) in_2_16 rfl rfl dX9_put_26 ?_
    refine lv_iload_n hx hb dX9_put_29 rfl (lv_at hl 2 rfl) ?_
    obtain ⟨S3, h_S3, e_S3, hm⟩ := n_sti hm
    refine n_iast X hH hS (n := 201) (m_lay_at hT hk_x (by decide) (i := 40) rfl) h_S3 e_S3 dX9_put_30 (fun H locs hH hS => ?_)
    refine lv_aload_n hx hb dX9_put_31 rfl (lv_at hl 0 rfl) ?_
    refine r_getp X hH (k := 9) (a := (x + 37)) (j := 4) (b := (x + 41)) (A := 4) (B := 0) (m_lay_at hT hk_x (by decide) (i := 37) rfl) (by decide) rfl m_wi9 (by decide) in_2_13 rfl rfl rfl dX9_put_32 ?_
    refine lv_aload_n hx hb dX9_put_35 rfl (lv_at hl 0 rfl) ?_
    refine r_geti X hH (k := 9) (a := (x + 37)) (j := 7) (m_lay_at hT hk_x (by decide) (i := 37) rfl) (by decide) rfl m_wi9 (by decide) in_2_16 rfl rfl dX9_put_36 ?_
    refine lv_lload_n hx hb dX9_put_39 rfl (lv_at hl 3 rfl) ?_
    obtain ⟨S4, h_S4, e_S4, hm⟩ := n_stj hm
    refine n_last X hH hS (n := 201) (m_lay_at hT hk_x (by decide) (i := 41) rfl) h_S4 e_S4 dX9_put_40 (fun H locs hH hS => ?_)
    refine lv_aload_n hx hb dX9_put_41 rfl (lv_at hl 0 rfl) ?_
    refine lv_dup hx hb dX9_put_42 rfl ?_
    refine r_geti X hH (k := 9) (a := (x + 37)) (j := 7) (m_lay_at hT hk_x (by decide) (i := 37) rfl) (by decide) rfl m_wi9 (by decide) in_2_16 rfl rfl dX9_put_43 ?_
    refine lv_iconst (v := (1 : Int32)) hx hb dX9_put_46 (by decide) ?_
    refine lv_iadd hx hb dX9_put_47 ?_
    obtain ⟨S5, e_S5, hm⟩ := m_let_of hm
    refine n_puti X hH hS tyX9 (k := 9) (a := (x + 37)) (j := 7) (m_lay_at hT hk_x (by decide) (i := 37) rfl) (by decide) rfl m_wi9 tyX9_ok nmX9 (by decide) in_2_16 rfl rfl rfl ⟨rfl, rfl⟩ e_S5 dX9_put_48 (fun H locs hH hS => ?_)
    exact k_X9s_put_51 (x := x) X hr hT hk_x   S5 _ _ _ hH hS (lv_sub hl [] rfl) hm
def rm_X9_readLettersAndDigits : Room := { frames := 1, cells := 0, slots := 0, locals := 24 }
def b_X9_readLettersAndDigits_96 (x : Nat) (K_13 : m_M → Int32 → Int32 → Int64 → Int32 → Option m_M) (S : m_M) (l2 : Int32) (l3 : Int32) (l4 : Int64) (l6 : Int32) : Option m_M :=
    m_let (m_si S (x + 25) 6 ((m_ri S (x + 25) 6) + (1 : Int32))) fun S1 =>
    K_13 S1 l2 l3 l4 l6
set_option maxHeartbeats 4000000 in
set_option maxRecDepth 100000 in
theorem k_X9_readLettersAndDigits_96 {p : Program} {l : Launch} {e : Env} {s : State} {m : MethodId} {args : Array Value} {below : List Frame} {meth : Method} {c : Code} {G : m_G} {nx : Nat} {κ : Nat → Nat} {res : m_M} {x : Nat} (X : m_Cx p s m args meth c cX9_readLettersAndDigits 8 RX9 G) (hr : meth.sig.returnType = none) (hT : m_Str κ) (hk_x : κ x = 12) (K_13 : m_M → Int32 → Int32 → Int64 → Int32 → Option m_M) (hK_13 : ∀ (S : m_M) (l2 : Int32) (l3 : Int32) (l4 : Int64) (l6 : Int32) (H : Heap) (locs : List Loc) (ls : Array Slot), m_H G nx κ S H → m_S G s H locs → lv_has ls 8 [(0, .ref (x + 25)), (1, .ref (x + 1)), (2, .int l2), (3, .int l3), (4, .long l4), (6, .int l6)] → K_13 S l2 l3 l4 l6 = some res → W p l e rm_X9_readLettersAndDigits s m args below meth c H locs 0 0 (m_Qv below args s G nx κ res) (F0 m 13 ls [])) : ∀ (S : m_M) (l2 : Int32) (l3 : Int32) (l4 : Int64) (l6 : Int32) (H : Heap) (locs : List Loc) (ls : Array Slot), m_H G nx κ S H → m_S G s H locs → lv_has ls 8 [(0, .ref (x + 25)), (1, .ref (x + 1)), (2, .int l2), (3, .int l3), (4, .long l4), (6, .int l6)] → b_X9_readLettersAndDigits_96 x K_13 S l2 l3 l4 l6 = some res → W p l e rm_X9_readLettersAndDigits s m args below meth c H locs 0 0 (m_Qv below args s G nx κ res) (F0 m 96 ls []) := by
  have hx := X.1.1
  have hb := X.1.2.1
  intro S l2 l3 l4 l6 H locs ls hH hS hl hm
  rw [b_X9_readLettersAndDigits_96] at hm
  refine lv_aload_n hx hb dX9_readLettersAndDigits_96 rfl (lv_at hl 0 rfl) ?_
  refine lv_dup hx hb dX9_readLettersAndDigits_97 rfl ?_
  refine r_geti X hH (k := 9) (a := (x + 25)) (j := 6) (m_lay_at hT hk_x (by decide) (i := 25) rfl) (by decide) rfl m_wi9 (by decide) in_2_15 rfl rfl dX9_readLettersAndDigits_98 ?_
  refine lv_iconst (v := (1 : Int32)) hx hb dX9_readLettersAndDigits_101 (by decide) ?_
  refine lv_iadd hx hb dX9_readLettersAndDigits_102 ?_
  obtain ⟨S1, e_S1, hm⟩ := m_let_of hm
  refine n_puti X hH hS tyX9 (k := 9) (a := (x + 25)) (j := 6) (m_lay_at hT hk_x (by decide) (i := 25) rfl) (by decide) rfl m_wi9 tyX9_ok nmX9 (by decide) in_2_15 rfl rfl rfl ⟨rfl, rfl⟩ e_S1 dX9_readLettersAndDigits_103 (fun H locs hH hS => ?_)
  refine lv_goto (tgt := 13) hx hb dX9_readLettersAndDigits_106 (by decide) ?_
  exact hK_13 S1 l2 l3 l4 l6 _ _ _ hH hS hl hm
def b_X9_readLettersAndDigits_48 (x : Nat) (K_13 : m_M → Int32 → Int32 → Int64 → Int32 → Option m_M) (S : m_M) (l2 : Int32) (l3 : Int32) (l4 : Int64) (l6 : Int32) : Option m_M :=
    (m_ldi S (x + 1) 940 (m_ri S (x + 25) 6)).bind fun v1 =>
    m_call (f_X9_isDigit S v1) fun v3 S2 =>
    if v3 = 0 then (
    (m_ldi S2 (x + 1) 940 (m_ri S2 (x + 25) 6)).bind fun v5 =>
    m_call (f_X9_withLetter S2 l4 v5) fun v7 S6 =>
    b_X9_readLettersAndDigits_96 x K_13 S6 l2 l3 v7 l6) else (
    m_let (l3 + (1 : Int32)) fun v8 =>
    (m_ldi S2 (x + 1) 940 (m_ri S2 (x + 25) 6)).bind fun v9 =>
    m_let ((l6 * (10 : Int32)) + (v9 - (48 : Int32))) fun v10 =>
    b_X9_readLettersAndDigits_96 x K_13 S2 l2 v8 l4 v10)
set_option maxHeartbeats 4000000 in
set_option maxRecDepth 100000 in
theorem k_X9_readLettersAndDigits_48 {p : Program} {l : Launch} {e : Env} {s : State} {m : MethodId} {args : Array Value} {below : List Frame} {meth : Method} {c : Code} {G : m_G} {nx : Nat} {κ : Nat → Nat} {res : m_M} {x : Nat} (X : m_Cx p s m args meth c cX9_readLettersAndDigits 8 RX9 G) (hr : meth.sig.returnType = none) (hT : m_Str κ) (hk_x : κ x = 12) (K_13 : m_M → Int32 → Int32 → Int64 → Int32 → Option m_M) (hK_13 : ∀ (S : m_M) (l2 : Int32) (l3 : Int32) (l4 : Int64) (l6 : Int32) (H : Heap) (locs : List Loc) (ls : Array Slot), m_H G nx κ S H → m_S G s H locs → lv_has ls 8 [(0, .ref (x + 25)), (1, .ref (x + 1)), (2, .int l2), (3, .int l3), (4, .long l4), (6, .int l6)] → K_13 S l2 l3 l4 l6 = some res → W p l e rm_X9_readLettersAndDigits s m args below meth c H locs 0 0 (m_Qv below args s G nx κ res) (F0 m 13 ls [])) : ∀ (S : m_M) (l2 : Int32) (l3 : Int32) (l4 : Int64) (l6 : Int32) (H : Heap) (locs : List Loc) (ls : Array Slot), m_H G nx κ S H → m_S G s H locs → lv_has ls 8 [(0, .ref (x + 25)), (1, .ref (x + 1)), (2, .int l2), (3, .int l3), (4, .long l4), (6, .int l6)] → b_X9_readLettersAndDigits_48 x K_13 S l2 l3 l4 l6 = some res → W p l e rm_X9_readLettersAndDigits s m args below meth c H locs 0 0 (m_Qv below args s G nx κ res) (F0 m 48 ls []) := by
  have hx := X.1.1
  have hb := X.1.2.1
  intro S l2 l3 l4 l6 H locs ls hH hS hl hm
  rw [b_X9_readLettersAndDigits_48] at hm
  refine lv_aload_n hx hb dX9_readLettersAndDigits_48 rfl (lv_at hl 1 rfl) ?_
  refine lv_aload_n hx hb dX9_readLettersAndDigits_49 rfl (lv_at hl 0 rfl) ?_
  refine r_geti X hH (k := 9) (a := (x + 25)) (j := 6) (m_lay_at hT hk_x (by decide) (i := 25) rfl) (by decide) rfl m_wi9 (by decide) in_2_15 rfl rfl dX9_readLettersAndDigits_50 ?_
  obtain ⟨v1, h_v1, e_v1, hm⟩ := n_ldi hm
  refine n_bald X hH (n := 940) (m_lay_at hT hk_x (by decide) (i := 1) rfl) h_v1 e_v1 dX9_readLettersAndDigits_53 ?_
  obtain ⟨v3, S2, e_S2, hm⟩ := m_call_of hm
  refine n_cSi X hH hS (c_X9_isDigit  hT  e_S2) mw_X9_isDigit in_3_155 rfl ⟨rfl, rfl⟩ ⟨Nat.le_of_ble_eq_true rfl, Nat.le_of_ble_eq_true rfl⟩ ⟨Nat.zero_le _, Nat.zero_le _⟩ hl.1 (Nat.le_of_ble_eq_true rfl) dX9_readLettersAndDigits_54 (fun H locs hH hS => ?_)
  refine lv_if_eq (tgt := 83) hx hb dX9_readLettersAndDigits_57 (by decide) (fun c4 => ?_) (fun c4 => ?_)
  · have hm := m_ite_t hm c4
    refine lv_lload hx hb dX9_readLettersAndDigits_83 (lv_at hl 4 rfl) ?_
    refine lv_aload_n hx hb dX9_readLettersAndDigits_85 rfl (lv_at hl 1 rfl) ?_
    refine lv_aload_n hx hb dX9_readLettersAndDigits_86 rfl (lv_at hl 0 rfl) ?_
    refine r_geti X hH (k := 9) (a := (x + 25)) (j := 6) (m_lay_at hT hk_x (by decide) (i := 25) rfl) (by decide) rfl m_wi9 (by decide) in_2_15 rfl rfl dX9_readLettersAndDigits_87 ?_
    obtain ⟨v5, h_v5, e_v5, hm⟩ := n_ldi hm
    refine n_bald X hH (n := 940) (m_lay_at hT hk_x (by decide) (i := 1) rfl) h_v5 e_v5 dX9_readLettersAndDigits_90 ?_
    obtain ⟨v7, S6, e_S6, hm⟩ := m_call_of hm
    refine n_cSl X hH hS (c_X9_withLetter  hT  e_S6) mw_X9_withLetter in_2_5 rfl ⟨rfl, rfl⟩ ⟨Nat.le_of_ble_eq_true rfl, Nat.le_of_ble_eq_true rfl⟩ ⟨Nat.zero_le _, Nat.zero_le _⟩ hl.1 (Nat.le_of_ble_eq_true rfl) dX9_readLettersAndDigits_91 (fun H locs hH hS => ?_)
    refine lv_lstore (lv' := [(4, .long v7), (0, .ref (x + 25)), (1, .ref (x + 1)), (2, .int l2), (3, .int l3), (6, .int l6)]) hx hb dX9_readLettersAndDigits_94 hl (by decide) rfl (fun ls hl => ?_)
    exact k_X9_readLettersAndDigits_96 (x := x) X hr hT hk_x K_13 hK_13  S6 l2 l3 v7 l6 _ _ _ hH hS (lv_sub hl [1, 2, 3, 4, 0, 5] rfl) hm
  · have hm := m_ite_f hm c4
    obtain ⟨v8, e_v8, hm⟩ := m_let_of hm
    refine lv_iinc (v := v8) (lv' := [(3, .int v8), (0, .ref (x + 25)), (1, .ref (x + 1)), (2, .int l2), (4, .long l4), (6, .int l6)]) hx hb dX9_readLettersAndDigits_60 hl (k := 3) rfl (by rw [← e_v8]; rfl) (by decide) rfl (fun ls hl => ?_)
    refine lv_iload hx hb dX9_readLettersAndDigits_63 (lv_at hl 5 rfl) ?_
    refine lv_bipush (v := (10 : Int32)) hx hb dX9_readLettersAndDigits_65 (by decide) ?_
    refine lv_imul hx hb dX9_readLettersAndDigits_67 ?_
    refine lv_aload_n hx hb dX9_readLettersAndDigits_68 rfl (lv_at hl 2 rfl) ?_
    refine lv_aload_n hx hb dX9_readLettersAndDigits_69 rfl (lv_at hl 1 rfl) ?_
    refine r_geti X hH (k := 9) (a := (x + 25)) (j := 6) (m_lay_at hT hk_x (by decide) (i := 25) rfl) (by decide) rfl m_wi9 (by decide) in_2_15 rfl rfl dX9_readLettersAndDigits_70 ?_
    obtain ⟨v9, h_v9, e_v9, hm⟩ := n_ldi hm
    refine n_bald X hH (n := 940) (m_lay_at hT hk_x (by decide) (i := 1) rfl) h_v9 e_v9 dX9_readLettersAndDigits_73 ?_
    refine lv_bipush (v := (48 : Int32)) hx hb dX9_readLettersAndDigits_74 (by decide) ?_
    refine lv_isub hx hb dX9_readLettersAndDigits_76 ?_
    refine lv_iadd hx hb dX9_readLettersAndDigits_77 ?_
    obtain ⟨v10, e_v10, hm⟩ := m_let_of hm
    refine n_topi e_v10 ?_
    refine lv_istore (lv' := [(6, .int v10), (3, .int v8), (0, .ref (x + 25)), (1, .ref (x + 1)), (2, .int l2), (4, .long l4)]) hx hb dX9_readLettersAndDigits_78 hl (by decide) rfl (fun ls hl => ?_)
    refine lv_goto (tgt := 96) hx hb dX9_readLettersAndDigits_80 (by decide) ?_
    exact k_X9_readLettersAndDigits_96 (x := x) X hr hT hk_x K_13 hK_13  S2 l2 v8 l4 v10 _ _ _ hH hS (lv_sub hl [2, 3, 4, 1, 5, 0] rfl) hm
def b_X9_readLettersAndDigits_201 (x : Nat)  (S : m_M)  : Option m_M :=
    some S
set_option maxHeartbeats 4000000 in
set_option maxRecDepth 100000 in
theorem k_X9_readLettersAndDigits_201 {p : Program} {l : Launch} {e : Env} {s : State} {m : MethodId} {args : Array Value} {below : List Frame} {meth : Method} {c : Code} {G : m_G} {nx : Nat} {κ : Nat → Nat} {res : m_M} {x : Nat} (X : m_Cx p s m args meth c cX9_readLettersAndDigits 8 RX9 G) (hr : meth.sig.returnType = none) (hT : m_Str κ) (hk_x : κ x = 12)  : ∀ (S : m_M)  (H : Heap) (locs : List Loc) (ls : Array Slot), m_H G nx κ S H → m_S G s H locs → lv_has ls 8 [] → b_X9_readLettersAndDigits_201 x S  = some res → W p l e rm_X9_readLettersAndDigits s m args below meth c H locs 0 0 (m_Qv below args s G nx κ res) (F0 m 201 ls []) := by
  have hx := X.1.1
  have hb := X.1.2.1
  intro S H locs ls hH hS hl hm
  rw [b_X9_readLettersAndDigits_201] at hm
  exact r_vret X hr hH hS hm dX9_readLettersAndDigits_201
def b_X9_readLettersAndDigits_159 (x : Nat)  (S : m_M) (t1 : Int32) (t2 : Int32) (t3 : Int64) : Option m_M :=
    m_cal0 (f_X9_put x S t1 t2 t3) fun S1 =>
    b_X9_readLettersAndDigits_201 x S1
set_option maxHeartbeats 4000000 in
set_option maxRecDepth 100000 in
theorem k_X9_readLettersAndDigits_159 {p : Program} {l : Launch} {e : Env} {s : State} {m : MethodId} {args : Array Value} {below : List Frame} {meth : Method} {c : Code} {G : m_G} {nx : Nat} {κ : Nat → Nat} {res : m_M} {x : Nat} (X : m_Cx p s m args meth c cX9_readLettersAndDigits 8 RX9 G) (hr : meth.sig.returnType = none) (hT : m_Str κ) (hk_x : κ x = 12)  : ∀ (S : m_M) (t1 : Int32) (t2 : Int32) (t3 : Int64) (H : Heap) (locs : List Loc) (ls : Array Slot), m_H G nx κ S H → m_S G s H locs → lv_has ls 8 [] → b_X9_readLettersAndDigits_159 x S t1 t2 t3 = some res → W p l e rm_X9_readLettersAndDigits s m args below meth c H locs 0 0 (m_Qv below args s G nx κ res) (F0 m 159 ls [.long t3, .int t2, .int t1, .ref (x + 25)]) := by
  have hx := X.1.1
  have hb := X.1.2.1
  intro S t1 t2 t3 H locs ls hH hS hl hm
  rw [b_X9_readLettersAndDigits_159] at hm
  obtain ⟨S1, e_S1, hm⟩ := m_cal0_of hm
  refine r_cVv X hH hS (k := 9) (c_X9_put (x := x) hT hk_x e_S1) mw_X9_put in_3_166 (m_lay_at hT hk_x (by decide) (i := 25) rfl) (by decide) rfl rfl rfl ⟨rfl, rfl⟩ ⟨Nat.le_of_ble_eq_true rfl, Nat.le_of_ble_eq_true rfl⟩ ⟨Nat.zero_le _, Nat.zero_le _⟩ hl.1 (Nat.le_of_ble_eq_true rfl) dX9_readLettersAndDigits_159 (fun H locs hH hS => ?_)
  refine lv_goto (tgt := 201) hx hb dX9_readLettersAndDigits_162 (by decide) ?_
  exact k_X9_readLettersAndDigits_201 (x := x) X hr hT hk_x   S1 _ _ _ hH hS hl hm
def b_X9_readLettersAndDigits_144 (x : Nat)  (S : m_M) (l2 : Int32) (l4 : Int64) (l7 : Int32) (t1 : Int32) : Option m_M :=
    if l7 = (-1 : Int32) then (
    b_X9_readLettersAndDigits_159 x S t1 l2 l4) else (
    b_X9_readLettersAndDigits_159 x S t1 l2 l7.toInt64)
set_option maxHeartbeats 4000000 in
set_option maxRecDepth 100000 in
theorem k_X9_readLettersAndDigits_144 {p : Program} {l : Launch} {e : Env} {s : State} {m : MethodId} {args : Array Value} {below : List Frame} {meth : Method} {c : Code} {G : m_G} {nx : Nat} {κ : Nat → Nat} {res : m_M} {x : Nat} (X : m_Cx p s m args meth c cX9_readLettersAndDigits 8 RX9 G) (hr : meth.sig.returnType = none) (hT : m_Str κ) (hk_x : κ x = 12)  : ∀ (S : m_M) (l2 : Int32) (l4 : Int64) (l7 : Int32) (t1 : Int32) (H : Heap) (locs : List Loc) (ls : Array Slot), m_H G nx κ S H → m_S G s H locs → lv_has ls 8 [(2, .int l2), (4, .long l4), (7, .int l7)] → b_X9_readLettersAndDigits_144 x S l2 l4 l7 t1 = some res → W p l e rm_X9_readLettersAndDigits s m args below meth c H locs 0 0 (m_Qv below args s G nx κ res) (F0 m 144 ls [.int t1, .ref (x + 25)]) := by
  have hx := X.1.1
  have hb := X.1.2.1
  intro S l2 l4 l7 t1 H locs ls hH hS hl hm
  rw [b_X9_readLettersAndDigits_144] at hm
  refine lv_iload_n hx hb dX9_readLettersAndDigits_144 rfl (lv_at hl 0 rfl) ?_
  refine lv_iload hx hb dX9_readLettersAndDigits_145 (lv_at hl 2 rfl) ?_
  refine lv_iconst (v := (-1 : Int32)) hx hb dX9_readLettersAndDigits_147 (by decide) ?_
  refine lv_icmp_ne (tgt := 156) hx hb dX9_readLettersAndDigits_148 (by decide) (fun c1 => ?_) (fun c1 => ?_)
  · have hm := m_ite_f hm c1
    refine lv_iload hx hb dX9_readLettersAndDigits_156 (lv_at hl 2 rfl) ?_
    refine lv_i2l hx hb dX9_readLettersAndDigits_158 rfl ?_
    exact k_X9_readLettersAndDigits_159 (x := x) X hr hT hk_x   S t1 l2 l7.toInt64 _ _ _ hH hS (lv_sub hl [] rfl) hm
  · have hm := m_ite_t hm c1
    refine lv_lload hx hb dX9_readLettersAndDigits_151 (lv_at hl 1 rfl) ?_
    refine lv_goto (tgt := 159) hx hb dX9_readLettersAndDigits_153 (by decide) ?_
    exact k_X9_readLettersAndDigits_159 (x := x) X hr hT hk_x   S t1 l2 l4 _ _ _ hH hS (lv_sub hl [] rfl) hm
def b_X9_readLettersAndDigits_192 (x : Nat)  (S : m_M) (l2 : Int32) : Option m_M :=
    m_cal0 (f_X9_put x S (1 : Int32) l2 (-1 : Int64)) fun S1 =>
    b_X9_readLettersAndDigits_201 x S1
set_option maxHeartbeats 4000000 in
set_option maxRecDepth 100000 in
theorem k_X9_readLettersAndDigits_192 {p : Program} {l : Launch} {e : Env} {s : State} {m : MethodId} {args : Array Value} {below : List Frame} {meth : Method} {c : Code} {G : m_G} {nx : Nat} {κ : Nat → Nat} {res : m_M} {x : Nat} (X : m_Cx p s m args meth c cX9_readLettersAndDigits 8 RX9 G) (hr : meth.sig.returnType = none) (hT : m_Str κ) (hk_x : κ x = 12)  : ∀ (S : m_M) (l2 : Int32) (H : Heap) (locs : List Loc) (ls : Array Slot), m_H G nx κ S H → m_S G s H locs → lv_has ls 8 [(0, .ref (x + 25)), (2, .int l2)] → b_X9_readLettersAndDigits_192 x S l2 = some res → W p l e rm_X9_readLettersAndDigits s m args below meth c H locs 0 0 (m_Qv below args s G nx κ res) (F0 m 192 ls []) := by
  have hx := X.1.1
  have hb := X.1.2.1
  intro S l2 H locs ls hH hS hl hm
  rw [b_X9_readLettersAndDigits_192] at hm
  refine lv_aload_n hx hb dX9_readLettersAndDigits_192 rfl (lv_at hl 0 rfl) ?_
  refine lv_iconst (v := (1 : Int32)) hx hb dX9_readLettersAndDigits_193 (by decide) ?_
  refine lv_iload_n hx hb dX9_readLettersAndDigits_194 rfl (lv_at hl 1 rfl) ?_
  refine lv_ldc2 hx hb X.1.2.2.2.1 (m_w X in_1_192) dX9_readLettersAndDigits_195 ?_
  obtain ⟨S1, e_S1, hm⟩ := m_cal0_of hm
  refine r_cVv X hH hS (k := 9) (c_X9_put (x := x) hT hk_x e_S1) mw_X9_put in_3_166 (m_lay_at hT hk_x (by decide) (i := 25) rfl) (by decide) rfl rfl rfl ⟨rfl, rfl⟩ ⟨Nat.le_of_ble_eq_true rfl, Nat.le_of_ble_eq_true rfl⟩ ⟨Nat.zero_le _, Nat.zero_le _⟩ hl.1 (Nat.le_of_ble_eq_true rfl) dX9_readLettersAndDigits_198 (fun H locs hH hS => ?_)
  exact k_X9_readLettersAndDigits_201 (x := x) X hr hT hk_x   S1 _ _ _ hH hS (lv_sub hl [] rfl) hm
def b_X9_readLettersAndDigits_165 (x : Nat)  (S : m_M) (l2 : Int32) (l3 : Int32) (l6 : Int32) : Option m_M :=
    if l3 = ((m_ri S (x + 25) 6) - l2) then (
    if (3 : Int32) < l3 then (
    b_X9_readLettersAndDigits_192 x S l2) else (
    m_cal0 (f_X9_put x S (4 : Int32) l2 l6.toInt64) fun S3 =>
    b_X9_readLettersAndDigits_201 x S3)) else (
    b_X9_readLettersAndDigits_192 x S l2)
set_option maxHeartbeats 4000000 in
set_option maxRecDepth 100000 in
theorem k_X9_readLettersAndDigits_165 {p : Program} {l : Launch} {e : Env} {s : State} {m : MethodId} {args : Array Value} {below : List Frame} {meth : Method} {c : Code} {G : m_G} {nx : Nat} {κ : Nat → Nat} {res : m_M} {x : Nat} (X : m_Cx p s m args meth c cX9_readLettersAndDigits 8 RX9 G) (hr : meth.sig.returnType = none) (hT : m_Str κ) (hk_x : κ x = 12)  : ∀ (S : m_M) (l2 : Int32) (l3 : Int32) (l6 : Int32) (H : Heap) (locs : List Loc) (ls : Array Slot), m_H G nx κ S H → m_S G s H locs → lv_has ls 8 [(0, .ref (x + 25)), (2, .int l2), (3, .int l3), (6, .int l6)] → b_X9_readLettersAndDigits_165 x S l2 l3 l6 = some res → W p l e rm_X9_readLettersAndDigits s m args below meth c H locs 0 0 (m_Qv below args s G nx κ res) (F0 m 165 ls []) := by
  have hx := X.1.1
  have hb := X.1.2.1
  intro S l2 l3 l6 H locs ls hH hS hl hm
  rw [b_X9_readLettersAndDigits_165] at hm
  refine lv_iload_n hx hb dX9_readLettersAndDigits_165 rfl (lv_at hl 2 rfl) ?_
  refine lv_aload_n hx hb dX9_readLettersAndDigits_166 rfl (lv_at hl 0 rfl) ?_
  refine r_geti X hH (k := 9) (a := (x + 25)) (j := 6) (m_lay_at hT hk_x (by decide) (i := 25) rfl) (by decide) rfl m_wi9 (by decide) in_2_15 rfl rfl dX9_readLettersAndDigits_167 ?_
  refine lv_iload_n hx hb dX9_readLettersAndDigits_170 rfl (lv_at hl 1 rfl) ?_
  refine lv_isub hx hb dX9_readLettersAndDigits_171 ?_
  refine lv_icmp_ne (tgt := 192) hx hb dX9_readLettersAndDigits_172 (by decide) (fun c1 => ?_) (fun c1 => ?_)
  · have hm := m_ite_f hm c1
    exact k_X9_readLettersAndDigits_192 (x := x) X hr hT hk_x   S l2 _ _ _ hH hS (lv_sub hl [0, 1] rfl) hm
  · have hm := m_ite_t hm c1
    refine lv_iload_n hx hb dX9_readLettersAndDigits_175 rfl (lv_at hl 2 rfl) ?_
    refine lv_iconst (v := (3 : Int32)) hx hb dX9_readLettersAndDigits_176 (by decide) ?_
    refine lv_icmp_gt (tgt := 192) hx hb dX9_readLettersAndDigits_177 (by decide) (fun c2 => ?_) (fun c2 => ?_)
    · have hm := m_ite_t hm c2
      exact k_X9_readLettersAndDigits_192 (x := x) X hr hT hk_x   S l2 _ _ _ hH hS (lv_sub hl [0, 1] rfl) hm
    · have hm := m_ite_f hm c2
      refine lv_aload_n hx hb dX9_readLettersAndDigits_180 rfl (lv_at hl 0 rfl) ?_
      refine lv_iconst (v := (4 : Int32)) hx hb dX9_readLettersAndDigits_181 (by decide) ?_
      refine lv_iload_n hx hb dX9_readLettersAndDigits_182 rfl (lv_at hl 1 rfl) ?_
      refine lv_iload hx hb dX9_readLettersAndDigits_183 (lv_at hl 3 rfl) ?_
      refine lv_i2l hx hb dX9_readLettersAndDigits_185 rfl ?_
      obtain ⟨S3, e_S3, hm⟩ := m_cal0_of hm
      refine r_cVv X hH hS (k := 9) (c_X9_put (x := x) hT hk_x e_S3) mw_X9_put in_3_166 (m_lay_at hT hk_x (by decide) (i := 25) rfl) (by decide) rfl rfl rfl ⟨rfl, rfl⟩ ⟨Nat.le_of_ble_eq_true rfl, Nat.le_of_ble_eq_true rfl⟩ ⟨Nat.zero_le _, Nat.zero_le _⟩ hl.1 (Nat.le_of_ble_eq_true rfl) dX9_readLettersAndDigits_186 (fun H locs hH hS => ?_)
      refine lv_goto (tgt := 201) hx hb dX9_readLettersAndDigits_189 (by decide) ?_
      exact k_X9_readLettersAndDigits_201 (x := x) X hr hT hk_x   S3 _ _ _ hH hS (lv_sub hl [] rfl) hm
def b_X9_readLettersAndDigits_109 (x : Nat)  (S : m_M) (l2 : Int32) (l3 : Int32) (l4 : Int64) (l6 : Int32) : Option m_M :=
    if l3 = 0 then (
    if (7 : Int32) < ((m_ri S (x + 25) 6) - l2) then (
    b_X9_readLettersAndDigits_165 x S l2 l3 l6) else (
    m_call (f_X9_keywordOf x S l4) fun v4 S3 =>
    if v4 = (-1 : Int32) then (
    b_X9_readLettersAndDigits_144 x S3 l2 l4 v4 (2 : Int32)) else (
    b_X9_readLettersAndDigits_144 x S3 l2 l4 v4 (3 : Int32)))) else (
    b_X9_readLettersAndDigits_165 x S l2 l3 l6)
set_option maxHeartbeats 4000000 in
set_option maxRecDepth 100000 in
theorem k_X9_readLettersAndDigits_109 {p : Program} {l : Launch} {e : Env} {s : State} {m : MethodId} {args : Array Value} {below : List Frame} {meth : Method} {c : Code} {G : m_G} {nx : Nat} {κ : Nat → Nat} {res : m_M} {x : Nat} (X : m_Cx p s m args meth c cX9_readLettersAndDigits 8 RX9 G) (hr : meth.sig.returnType = none) (hT : m_Str κ) (hk_x : κ x = 12)  : ∀ (S : m_M) (l2 : Int32) (l3 : Int32) (l4 : Int64) (l6 : Int32) (H : Heap) (locs : List Loc) (ls : Array Slot), m_H G nx κ S H → m_S G s H locs → lv_has ls 8 [(0, .ref (x + 25)), (2, .int l2), (3, .int l3), (4, .long l4), (6, .int l6)] → b_X9_readLettersAndDigits_109 x S l2 l3 l4 l6 = some res → W p l e rm_X9_readLettersAndDigits s m args below meth c H locs 0 0 (m_Qv below args s G nx κ res) (F0 m 109 ls []) := by
  have hx := X.1.1
  have hb := X.1.2.1
  intro S l2 l3 l4 l6 H locs ls hH hS hl hm
  rw [b_X9_readLettersAndDigits_109] at hm
  refine lv_iload_n hx hb dX9_readLettersAndDigits_109 rfl (lv_at hl 2 rfl) ?_
  refine lv_if_ne (tgt := 165) hx hb dX9_readLettersAndDigits_110 (by decide) (fun c1 => ?_) (fun c1 => ?_)
  · have hm := m_ite_f hm c1
    exact k_X9_readLettersAndDigits_165 (x := x) X hr hT hk_x   S l2 l3 l6 _ _ _ hH hS (lv_sub hl [0, 1, 2, 4] rfl) hm
  · have hm := m_ite_t hm c1
    refine lv_aload_n hx hb dX9_readLettersAndDigits_113 rfl (lv_at hl 0 rfl) ?_
    refine r_geti X hH (k := 9) (a := (x + 25)) (j := 6) (m_lay_at hT hk_x (by decide) (i := 25) rfl) (by decide) rfl m_wi9 (by decide) in_2_15 rfl rfl dX9_readLettersAndDigits_114 ?_
    refine lv_iload_n hx hb dX9_readLettersAndDigits_117 rfl (lv_at hl 1 rfl) ?_
    refine lv_isub hx hb dX9_readLettersAndDigits_118 ?_
    refine lv_bipush (v := (7 : Int32)) hx hb dX9_readLettersAndDigits_119 (by decide) ?_
    refine lv_icmp_gt (tgt := 165) hx hb dX9_readLettersAndDigits_121 (by decide) (fun c2 => ?_) (fun c2 => ?_)
    · have hm := m_ite_t hm c2
      exact k_X9_readLettersAndDigits_165 (x := x) X hr hT hk_x   S l2 l3 l6 _ _ _ hH hS (lv_sub hl [0, 1, 2, 4] rfl) hm
    · have hm := m_ite_f hm c2
      refine lv_aload_n hx hb dX9_readLettersAndDigits_124 rfl (lv_at hl 0 rfl) ?_
      refine lv_lload hx hb dX9_readLettersAndDigits_125 (lv_at hl 3 rfl) ?_
      obtain ⟨v4, S3, e_S3, hm⟩ := m_call_of hm
      refine n_cVi X hH hS (k := 9) (c_X9_keywordOf (x := x) hT hk_x e_S3) mw_X9_keywordOf in_3_162 (m_lay_at hT hk_x (by decide) (i := 25) rfl) (by decide) rfl rfl rfl ⟨rfl, rfl⟩ ⟨Nat.le_of_ble_eq_true rfl, Nat.le_of_ble_eq_true rfl⟩ ⟨Nat.zero_le _, Nat.zero_le _⟩ hl.1 (Nat.le_of_ble_eq_true rfl) dX9_readLettersAndDigits_127 (fun H locs hH hS => ?_)
      refine lv_istore (lv' := [(7, .int v4), (0, .ref (x + 25)), (2, .int l2), (3, .int l3), (4, .long l4), (6, .int l6)]) hx hb dX9_readLettersAndDigits_130 hl (by decide) rfl (fun ls hl => ?_)
      refine lv_aload_n hx hb dX9_readLettersAndDigits_132 rfl (lv_at hl 1 rfl) ?_
      refine lv_iload hx hb dX9_readLettersAndDigits_133 (lv_at hl 0 rfl) ?_
      refine lv_iconst (v := (-1 : Int32)) hx hb dX9_readLettersAndDigits_135 (by decide) ?_
      refine lv_icmp_ne (tgt := 143) hx hb dX9_readLettersAndDigits_136 (by decide) (fun c5 => ?_) (fun c5 => ?_)
      · have hm := m_ite_f hm c5
        refine lv_iconst (v := (3 : Int32)) hx hb dX9_readLettersAndDigits_143 (by decide) ?_
        exact k_X9_readLettersAndDigits_144 (x := x) X hr hT hk_x   S3 l2 l4 v4 (3 : Int32) _ _ _ hH hS (lv_sub hl [2, 4, 0] rfl) hm
      · have hm := m_ite_t hm c5
        refine lv_iconst (v := (2 : Int32)) hx hb dX9_readLettersAndDigits_139 (by decide) ?_
        refine lv_goto (tgt := 144) hx hb dX9_readLettersAndDigits_140 (by decide) ?_
        exact k_X9_readLettersAndDigits_144 (x := x) X hr hT hk_x   S3 l2 l4 v4 (2 : Int32) _ _ _ hH hS (lv_sub hl [2, 4, 0] rfl) hm
def b_X9_readLettersAndDigits_13 (x : Nat)  : Nat → m_M → Int32 → Int32 → Int64 → Int32 → Option m_M
  | 0, _, _, _, _, _ => none
  | n + 1, S, l2, l3, l4, l6 =>
    if (m_ri S (x + 25) 5) ≤ (m_ri S (x + 25) 6) then (
    b_X9_readLettersAndDigits_109 x S l2 l3 l4 l6) else (
    (m_ldi S (x + 1) 940 (m_ri S (x + 25) 6)).bind fun v2 =>
    m_call (f_X9_isLetter S v2) fun v4 S3 =>
    if v4 = 0 then (
    (m_ldi S3 (x + 1) 940 (m_ri S3 (x + 25) 6)).bind fun v6 =>
    m_call (f_X9_isDigit S3 v6) fun v8 S7 =>
    if v8 = 0 then (
    b_X9_readLettersAndDigits_109 x S7 l2 l3 l4 l6) else (
    b_X9_readLettersAndDigits_48 x (b_X9_readLettersAndDigits_13 x n) S7 l2 l3 l4 l6)) else (
    b_X9_readLettersAndDigits_48 x (b_X9_readLettersAndDigits_13 x n) S3 l2 l3 l4 l6))
set_option maxHeartbeats 4000000 in
set_option maxRecDepth 100000 in
theorem k_X9_readLettersAndDigits_13 {p : Program} {l : Launch} {e : Env} {s : State} {m : MethodId} {args : Array Value} {below : List Frame} {meth : Method} {c : Code} {G : m_G} {nx : Nat} {κ : Nat → Nat} {res : m_M} {x : Nat} (X : m_Cx p s m args meth c cX9_readLettersAndDigits 8 RX9 G) (hr : meth.sig.returnType = none) (hT : m_Str κ) (hk_x : κ x = 12)  (n : Nat) : ∀ (S : m_M) (l2 : Int32) (l3 : Int32) (l4 : Int64) (l6 : Int32) (H : Heap) (locs : List Loc) (ls : Array Slot), m_H G nx κ S H → m_S G s H locs → lv_has ls 8 [(0, .ref (x + 25)), (1, .ref (x + 1)), (2, .int l2), (3, .int l3), (4, .long l4), (6, .int l6)] → b_X9_readLettersAndDigits_13 x n S l2 l3 l4 l6 = some res → W p l e rm_X9_readLettersAndDigits s m args below meth c H locs 0 0 (m_Qv below args s G nx κ res) (F0 m 13 ls []) := by
  have hx := X.1.1
  have hb := X.1.2.1
  induction n with
  | zero => intro S l2 l3 l4 l6 H locs ls hH hS hl hm; have hm : (none : Option m_M) = some res := hm; cases hm
  | succ n ih =>
    intro S l2 l3 l4 l6 H locs ls hH hS hl hm
    rw [b_X9_readLettersAndDigits_13] at hm
    refine lv_aload_n hx hb dX9_readLettersAndDigits_13 rfl (lv_at hl 0 rfl) ?_
    refine r_geti X hH (k := 9) (a := (x + 25)) (j := 6) (m_lay_at hT hk_x (by decide) (i := 25) rfl) (by decide) rfl m_wi9 (by decide) in_2_15 rfl rfl dX9_readLettersAndDigits_14 ?_
    refine lv_aload_n hx hb dX9_readLettersAndDigits_17 rfl (lv_at hl 0 rfl) ?_
    refine r_geti X hH (k := 9) (a := (x + 25)) (j := 5) (m_lay_at hT hk_x (by decide) (i := 25) rfl) (by decide) rfl m_wi9 (by decide) in_2_14 rfl rfl dX9_readLettersAndDigits_18 ?_
    refine lv_icmp_ge (tgt := 109) hx hb dX9_readLettersAndDigits_21 (by decide) (fun c1 => ?_) (fun c1 => ?_)
    · have hm := m_ite_t hm c1
      exact k_X9_readLettersAndDigits_109 (x := x) X hr hT hk_x   S l2 l3 l4 l6 _ _ _ hH hS (lv_sub hl [0, 2, 3, 4, 5] rfl) hm
    · have hm := m_ite_f hm c1
      refine lv_aload_n hx hb dX9_readLettersAndDigits_24 rfl (lv_at hl 1 rfl) ?_
      refine lv_aload_n hx hb dX9_readLettersAndDigits_25 rfl (lv_at hl 0 rfl) ?_
      refine r_geti X hH (k := 9) (a := (x + 25)) (j := 6) (m_lay_at hT hk_x (by decide) (i := 25) rfl) (by decide) rfl m_wi9 (by decide) in_2_15 rfl rfl dX9_readLettersAndDigits_26 ?_
      obtain ⟨v2, h_v2, e_v2, hm⟩ := n_ldi hm
      refine n_bald X hH (n := 940) (m_lay_at hT hk_x (by decide) (i := 1) rfl) h_v2 e_v2 dX9_readLettersAndDigits_29 ?_
      obtain ⟨v4, S3, e_S3, hm⟩ := m_call_of hm
      refine n_cSi X hH hS (c_X9_isLetter  hT  e_S3) mw_X9_isLetter in_3_152 rfl ⟨rfl, rfl⟩ ⟨Nat.le_of_ble_eq_true rfl, Nat.le_of_ble_eq_true rfl⟩ ⟨Nat.zero_le _, Nat.zero_le _⟩ hl.1 (Nat.le_of_ble_eq_true rfl) dX9_readLettersAndDigits_30 (fun H locs hH hS => ?_)
      refine lv_if_ne (tgt := 48) hx hb dX9_readLettersAndDigits_33 (by decide) (fun c5 => ?_) (fun c5 => ?_)
      · have hm := m_ite_f hm c5
        exact k_X9_readLettersAndDigits_48 (x := x) X hr hT hk_x (b_X9_readLettersAndDigits_13 x n) ih  S3 l2 l3 l4 l6 _ _ _ hH hS hl hm
      · have hm := m_ite_t hm c5
        refine lv_aload_n hx hb dX9_readLettersAndDigits_36 rfl (lv_at hl 1 rfl) ?_
        refine lv_aload_n hx hb dX9_readLettersAndDigits_37 rfl (lv_at hl 0 rfl) ?_
        refine r_geti X hH (k := 9) (a := (x + 25)) (j := 6) (m_lay_at hT hk_x (by decide) (i := 25) rfl) (by decide) rfl m_wi9 (by decide) in_2_15 rfl rfl dX9_readLettersAndDigits_38 ?_
        obtain ⟨v6, h_v6, e_v6, hm⟩ := n_ldi hm
        refine n_bald X hH (n := 940) (m_lay_at hT hk_x (by decide) (i := 1) rfl) h_v6 e_v6 dX9_readLettersAndDigits_41 ?_
        obtain ⟨v8, S7, e_S7, hm⟩ := m_call_of hm
        refine n_cSi X hH hS (c_X9_isDigit  hT  e_S7) mw_X9_isDigit in_3_155 rfl ⟨rfl, rfl⟩ ⟨Nat.le_of_ble_eq_true rfl, Nat.le_of_ble_eq_true rfl⟩ ⟨Nat.zero_le _, Nat.zero_le _⟩ hl.1 (Nat.le_of_ble_eq_true rfl) dX9_readLettersAndDigits_42 (fun H locs hH hS => ?_)
        refine lv_if_eq (tgt := 109) hx hb dX9_readLettersAndDigits_45 (by decide) (fun c9 => ?_) (fun c9 => ?_)
        · have hm := m_ite_t hm c9
          exact k_X9_readLettersAndDigits_109 (x := x) X hr hT hk_x   S7 l2 l3 l4 l6 _ _ _ hH hS (lv_sub hl [0, 2, 3, 4, 5] rfl) hm
        · have hm := m_ite_f hm c9
          exact k_X9_readLettersAndDigits_48 (x := x) X hr hT hk_x (b_X9_readLettersAndDigits_13 x n) ih  S7 l2 l3 l4 l6 _ _ _ hH hS hl hm
def f_X9_readLettersAndDigits (x : Nat) (S : m_M)  : Option m_M :=
    m_let (m_ri S (x + 25) 6) fun v1 =>
    b_X9_readLettersAndDigits_13 x m_fu S v1 (0 : Int32) (0 : Int64) (0 : Int32)
set_option maxHeartbeats 4000000 in
set_option maxRecDepth 100000 in
theorem c_X9_readLettersAndDigits {l : Launch} {G : m_G} {nx : Nat} {κ : Nat → Nat} {x : Nat} {S : m_M}  {res : m_M} (hT : m_Str κ) (hk_x : κ x = 12) (hm : f_X9_readLettersAndDigits x S = some res) : m_Cv l yX9_readLettersAndDigits cX9_readLettersAndDigits 8 rm_X9_readLettersAndDigits G nx κ [.ref (x + 25), .ref (x + 1)] S res := by
  refine m_Cv.of (by decide) (Nat.le_of_ble_eq_true rfl) ?_
  intro p e s m args below meth c ls X hr hH hl
  have hx := X.1.1
  have hb := X.1.2.1
  have hS : m_S G s s.heap [] := va_S.rf
  have hl : lv_has ls 8 [(0, .ref (x + 25)), (1, .ref (x + 1))] := hl
  rw [f_X9_readLettersAndDigits] at hm
  refine lv_aload_n hx hb dX9_readLettersAndDigits_0 rfl (lv_at hl 0 rfl) ?_
  refine r_geti X hH (k := 9) (a := (x + 25)) (j := 6) (m_lay_at hT hk_x (by decide) (i := 25) rfl) (by decide) rfl m_wi9 (by decide) in_2_15 rfl rfl dX9_readLettersAndDigits_1 ?_
  obtain ⟨v1, e_v1, hm⟩ := m_let_of hm
  refine n_topi e_v1 ?_
  refine lv_istore_n (lv' := [(2, .int v1), (0, .ref (x + 25)), (1, .ref (x + 1))]) hx hb dX9_readLettersAndDigits_4 rfl hl (by decide) rfl (fun ls hl => ?_)
  refine lv_iconst (v := (0 : Int32)) hx hb dX9_readLettersAndDigits_5 (by decide) ?_
  refine lv_istore_n (lv' := [(3, .int (0 : Int32)), (2, .int v1), (0, .ref (x + 25)), (1, .ref (x + 1))]) hx hb dX9_readLettersAndDigits_6 rfl hl (by decide) rfl (fun ls hl => ?_)
  refine lv_lconst (v := (0 : Int64)) hx hb dX9_readLettersAndDigits_7 (by decide) ?_
  refine lv_lstore (lv' := [(4, .long (0 : Int64)), (3, .int (0 : Int32)), (2, .int v1), (0, .ref (x + 25)), (1, .ref (x + 1))]) hx hb dX9_readLettersAndDigits_8 hl (by decide) rfl (fun ls hl => ?_)
  refine lv_iconst (v := (0 : Int32)) hx hb dX9_readLettersAndDigits_10 (by decide) ?_
  refine lv_istore (lv' := [(6, .int (0 : Int32)), (4, .long (0 : Int64)), (3, .int (0 : Int32)), (2, .int v1), (0, .ref (x + 25)), (1, .ref (x + 1))]) hx hb dX9_readLettersAndDigits_11 hl (by decide) rfl (fun ls hl => ?_)
  exact k_X9_readLettersAndDigits_13 (x := x) X hr hT hk_x  m_fu S v1 (0 : Int32) (0 : Int64) (0 : Int32) _ _ _ hH hS (lv_sub hl [4, 5, 3, 2, 1, 0] rfl) hm
def rm_X9s_readLettersAndDigits : Room := { frames := 1, cells := 0, slots := 0, locals := 24 }
def b_X9s_readLettersAndDigits_96 (x : Nat) (K_13 : m_M → Int32 → Int32 → Int64 → Int32 → Option m_M) (S : m_M) (l2 : Int32) (l3 : Int32) (l4 : Int64) (l6 : Int32) : Option m_M :=
    m_let (m_si S (x + 37) 6 ((m_ri S (x + 37) 6) + (1 : Int32))) fun S1 =>
    K_13 S1 l2 l3 l4 l6
set_option maxHeartbeats 4000000 in
set_option maxRecDepth 100000 in
theorem k_X9s_readLettersAndDigits_96 {p : Program} {l : Launch} {e : Env} {s : State} {m : MethodId} {args : Array Value} {below : List Frame} {meth : Method} {c : Code} {G : m_G} {nx : Nat} {κ : Nat → Nat} {res : m_M} {x : Nat} (X : m_Cx p s m args meth c cX9_readLettersAndDigits 8 RX9 G) (hr : meth.sig.returnType = none) (hT : m_Str κ) (hk_x : κ x = 12) (K_13 : m_M → Int32 → Int32 → Int64 → Int32 → Option m_M) (hK_13 : ∀ (S : m_M) (l2 : Int32) (l3 : Int32) (l4 : Int64) (l6 : Int32) (H : Heap) (locs : List Loc) (ls : Array Slot), m_H G nx κ S H → m_S G s H locs → lv_has ls 8 [(0, .ref (x + 37)), (1, .ref (x + 1)), (2, .int l2), (3, .int l3), (4, .long l4), (6, .int l6)] → K_13 S l2 l3 l4 l6 = some res → W p l e rm_X9s_readLettersAndDigits s m args below meth c H locs 0 0 (m_Qv below args s G nx κ res) (F0 m 13 ls [])) : ∀ (S : m_M) (l2 : Int32) (l3 : Int32) (l4 : Int64) (l6 : Int32) (H : Heap) (locs : List Loc) (ls : Array Slot), m_H G nx κ S H → m_S G s H locs → lv_has ls 8 [(0, .ref (x + 37)), (1, .ref (x + 1)), (2, .int l2), (3, .int l3), (4, .long l4), (6, .int l6)] → b_X9s_readLettersAndDigits_96 x K_13 S l2 l3 l4 l6 = some res → W p l e rm_X9s_readLettersAndDigits s m args below meth c H locs 0 0 (m_Qv below args s G nx κ res) (F0 m 96 ls []) := by
  have hx := X.1.1
  have hb := X.1.2.1
  intro S l2 l3 l4 l6 H locs ls hH hS hl hm
  rw [b_X9s_readLettersAndDigits_96] at hm
  refine lv_aload_n hx hb dX9_readLettersAndDigits_96 rfl (lv_at hl 0 rfl) ?_
  refine lv_dup hx hb dX9_readLettersAndDigits_97 rfl ?_
  refine r_geti X hH (k := 9) (a := (x + 37)) (j := 6) (m_lay_at hT hk_x (by decide) (i := 37) rfl) (by decide) rfl m_wi9 (by decide) in_2_15 rfl rfl dX9_readLettersAndDigits_98 ?_
  refine lv_iconst (v := (1 : Int32)) hx hb dX9_readLettersAndDigits_101 (by decide) ?_
  refine lv_iadd hx hb dX9_readLettersAndDigits_102 ?_
  obtain ⟨S1, e_S1, hm⟩ := m_let_of hm
  refine n_puti X hH hS tyX9 (k := 9) (a := (x + 37)) (j := 6) (m_lay_at hT hk_x (by decide) (i := 37) rfl) (by decide) rfl m_wi9 tyX9_ok nmX9 (by decide) in_2_15 rfl rfl rfl ⟨rfl, rfl⟩ e_S1 dX9_readLettersAndDigits_103 (fun H locs hH hS => ?_)
  refine lv_goto (tgt := 13) hx hb dX9_readLettersAndDigits_106 (by decide) ?_
  exact hK_13 S1 l2 l3 l4 l6 _ _ _ hH hS hl hm
def b_X9s_readLettersAndDigits_48 (x : Nat) (K_13 : m_M → Int32 → Int32 → Int64 → Int32 → Option m_M) (S : m_M) (l2 : Int32) (l3 : Int32) (l4 : Int64) (l6 : Int32) : Option m_M :=
    (m_ldi S (x + 1) 940 (m_ri S (x + 37) 6)).bind fun v1 =>
    m_call (f_X9_isDigit S v1) fun v3 S2 =>
    if v3 = 0 then (
    (m_ldi S2 (x + 1) 940 (m_ri S2 (x + 37) 6)).bind fun v5 =>
    m_call (f_X9_withLetter S2 l4 v5) fun v7 S6 =>
    b_X9s_readLettersAndDigits_96 x K_13 S6 l2 l3 v7 l6) else (
    m_let (l3 + (1 : Int32)) fun v8 =>
    (m_ldi S2 (x + 1) 940 (m_ri S2 (x + 37) 6)).bind fun v9 =>
    m_let ((l6 * (10 : Int32)) + (v9 - (48 : Int32))) fun v10 =>
    b_X9s_readLettersAndDigits_96 x K_13 S2 l2 v8 l4 v10)
set_option maxHeartbeats 4000000 in
set_option maxRecDepth 100000 in
theorem k_X9s_readLettersAndDigits_48 {p : Program} {l : Launch} {e : Env} {s : State} {m : MethodId} {args : Array Value} {below : List Frame} {meth : Method} {c : Code} {G : m_G} {nx : Nat} {κ : Nat → Nat} {res : m_M} {x : Nat} (X : m_Cx p s m args meth c cX9_readLettersAndDigits 8 RX9 G) (hr : meth.sig.returnType = none) (hT : m_Str κ) (hk_x : κ x = 12) (K_13 : m_M → Int32 → Int32 → Int64 → Int32 → Option m_M) (hK_13 : ∀ (S : m_M) (l2 : Int32) (l3 : Int32) (l4 : Int64) (l6 : Int32) (H : Heap) (locs : List Loc) (ls : Array Slot), m_H G nx κ S H → m_S G s H locs → lv_has ls 8 [(0, .ref (x + 37)), (1, .ref (x + 1)), (2, .int l2), (3, .int l3), (4, .long l4), (6, .int l6)] → K_13 S l2 l3 l4 l6 = some res → W p l e rm_X9s_readLettersAndDigits s m args below meth c H locs 0 0 (m_Qv below args s G nx κ res) (F0 m 13 ls [])) : ∀ (S : m_M) (l2 : Int32) (l3 : Int32) (l4 : Int64) (l6 : Int32) (H : Heap) (locs : List Loc) (ls : Array Slot), m_H G nx κ S H → m_S G s H locs → lv_has ls 8 [(0, .ref (x + 37)), (1, .ref (x + 1)), (2, .int l2), (3, .int l3), (4, .long l4), (6, .int l6)] → b_X9s_readLettersAndDigits_48 x K_13 S l2 l3 l4 l6 = some res → W p l e rm_X9s_readLettersAndDigits s m args below meth c H locs 0 0 (m_Qv below args s G nx κ res) (F0 m 48 ls []) := by
  have hx := X.1.1
  have hb := X.1.2.1
  intro S l2 l3 l4 l6 H locs ls hH hS hl hm
  rw [b_X9s_readLettersAndDigits_48] at hm
  refine lv_aload_n hx hb dX9_readLettersAndDigits_48 rfl (lv_at hl 1 rfl) ?_
  refine lv_aload_n hx hb dX9_readLettersAndDigits_49 rfl (lv_at hl 0 rfl) ?_
  refine r_geti X hH (k := 9) (a := (x + 37)) (j := 6) (m_lay_at hT hk_x (by decide) (i := 37) rfl) (by decide) rfl m_wi9 (by decide) in_2_15 rfl rfl dX9_readLettersAndDigits_50 ?_
  obtain ⟨v1, h_v1, e_v1, hm⟩ := n_ldi hm
  refine n_bald X hH (n := 940) (m_lay_at hT hk_x (by decide) (i := 1) rfl) h_v1 e_v1 dX9_readLettersAndDigits_53 ?_
  obtain ⟨v3, S2, e_S2, hm⟩ := m_call_of hm
  refine n_cSi X hH hS (c_X9_isDigit  hT  e_S2) mw_X9_isDigit in_3_155 rfl ⟨rfl, rfl⟩ ⟨Nat.le_of_ble_eq_true rfl, Nat.le_of_ble_eq_true rfl⟩ ⟨Nat.zero_le _, Nat.zero_le _⟩ hl.1 (Nat.le_of_ble_eq_true rfl) dX9_readLettersAndDigits_54 (fun H locs hH hS => ?_)
  refine lv_if_eq (tgt := 83) hx hb dX9_readLettersAndDigits_57 (by decide) (fun c4 => ?_) (fun c4 => ?_)
  · have hm := m_ite_t hm c4
    refine lv_lload hx hb dX9_readLettersAndDigits_83 (lv_at hl 4 rfl) ?_
    refine lv_aload_n hx hb dX9_readLettersAndDigits_85 rfl (lv_at hl 1 rfl) ?_
    refine lv_aload_n hx hb dX9_readLettersAndDigits_86 rfl (lv_at hl 0 rfl) ?_
    refine r_geti X hH (k := 9) (a := (x + 37)) (j := 6) (m_lay_at hT hk_x (by decide) (i := 37) rfl) (by decide) rfl m_wi9 (by decide) in_2_15 rfl rfl dX9_readLettersAndDigits_87 ?_
    obtain ⟨v5, h_v5, e_v5, hm⟩ := n_ldi hm
    refine n_bald X hH (n := 940) (m_lay_at hT hk_x (by decide) (i := 1) rfl) h_v5 e_v5 dX9_readLettersAndDigits_90 ?_
    obtain ⟨v7, S6, e_S6, hm⟩ := m_call_of hm
    refine n_cSl X hH hS (c_X9_withLetter  hT  e_S6) mw_X9_withLetter in_2_5 rfl ⟨rfl, rfl⟩ ⟨Nat.le_of_ble_eq_true rfl, Nat.le_of_ble_eq_true rfl⟩ ⟨Nat.zero_le _, Nat.zero_le _⟩ hl.1 (Nat.le_of_ble_eq_true rfl) dX9_readLettersAndDigits_91 (fun H locs hH hS => ?_)
    refine lv_lstore (lv' := [(4, .long v7), (0, .ref (x + 37)), (1, .ref (x + 1)), (2, .int l2), (3, .int l3), (6, .int l6)]) hx hb dX9_readLettersAndDigits_94 hl (by decide) rfl (fun ls hl => ?_)
    exact k_X9s_readLettersAndDigits_96 (x := x) X hr hT hk_x K_13 hK_13  S6 l2 l3 v7 l6 _ _ _ hH hS (lv_sub hl [1, 2, 3, 4, 0, 5] rfl) hm
  · have hm := m_ite_f hm c4
    obtain ⟨v8, e_v8, hm⟩ := m_let_of hm
    refine lv_iinc (v := v8) (lv' := [(3, .int v8), (0, .ref (x + 37)), (1, .ref (x + 1)), (2, .int l2), (4, .long l4), (6, .int l6)]) hx hb dX9_readLettersAndDigits_60 hl (k := 3) rfl (by rw [← e_v8]; rfl) (by decide) rfl (fun ls hl => ?_)
    refine lv_iload hx hb dX9_readLettersAndDigits_63 (lv_at hl 5 rfl) ?_
    refine lv_bipush (v := (10 : Int32)) hx hb dX9_readLettersAndDigits_65 (by decide) ?_
    refine lv_imul hx hb dX9_readLettersAndDigits_67 ?_
    refine lv_aload_n hx hb dX9_readLettersAndDigits_68 rfl (lv_at hl 2 rfl) ?_
    refine lv_aload_n hx hb dX9_readLettersAndDigits_69 rfl (lv_at hl 1 rfl) ?_
    refine r_geti X hH (k := 9) (a := (x + 37)) (j := 6) (m_lay_at hT hk_x (by decide) (i := 37) rfl) (by decide) rfl m_wi9 (by decide) in_2_15 rfl rfl dX9_readLettersAndDigits_70 ?_
    obtain ⟨v9, h_v9, e_v9, hm⟩ := n_ldi hm
    refine n_bald X hH (n := 940) (m_lay_at hT hk_x (by decide) (i := 1) rfl) h_v9 e_v9 dX9_readLettersAndDigits_73 ?_
    refine lv_bipush (v := (48 : Int32)) hx hb dX9_readLettersAndDigits_74 (by decide) ?_
    refine lv_isub hx hb dX9_readLettersAndDigits_76 ?_
    refine lv_iadd hx hb dX9_readLettersAndDigits_77 ?_
    obtain ⟨v10, e_v10, hm⟩ := m_let_of hm
    refine n_topi e_v10 ?_
    refine lv_istore (lv' := [(6, .int v10), (3, .int v8), (0, .ref (x + 37)), (1, .ref (x + 1)), (2, .int l2), (4, .long l4)]) hx hb dX9_readLettersAndDigits_78 hl (by decide) rfl (fun ls hl => ?_)
    refine lv_goto (tgt := 96) hx hb dX9_readLettersAndDigits_80 (by decide) ?_
    exact k_X9s_readLettersAndDigits_96 (x := x) X hr hT hk_x K_13 hK_13  S2 l2 v8 l4 v10 _ _ _ hH hS (lv_sub hl [2, 3, 4, 1, 5, 0] rfl) hm
def b_X9s_readLettersAndDigits_201 (x : Nat)  (S : m_M)  : Option m_M :=
    some S
set_option maxHeartbeats 4000000 in
set_option maxRecDepth 100000 in
theorem k_X9s_readLettersAndDigits_201 {p : Program} {l : Launch} {e : Env} {s : State} {m : MethodId} {args : Array Value} {below : List Frame} {meth : Method} {c : Code} {G : m_G} {nx : Nat} {κ : Nat → Nat} {res : m_M} {x : Nat} (X : m_Cx p s m args meth c cX9_readLettersAndDigits 8 RX9 G) (hr : meth.sig.returnType = none) (hT : m_Str κ) (hk_x : κ x = 12)  : ∀ (S : m_M)  (H : Heap) (locs : List Loc) (ls : Array Slot), m_H G nx κ S H → m_S G s H locs → lv_has ls 8 [] → b_X9s_readLettersAndDigits_201 x S  = some res → W p l e rm_X9s_readLettersAndDigits s m args below meth c H locs 0 0 (m_Qv below args s G nx κ res) (F0 m 201 ls []) := by
  have hx := X.1.1
  have hb := X.1.2.1
  intro S H locs ls hH hS hl hm
  rw [b_X9s_readLettersAndDigits_201] at hm
  exact r_vret X hr hH hS hm dX9_readLettersAndDigits_201
def b_X9s_readLettersAndDigits_159 (x : Nat)  (S : m_M) (t1 : Int32) (t2 : Int32) (t3 : Int64) : Option m_M :=
    m_cal0 (f_X9s_put x S t1 t2 t3) fun S1 =>
    b_X9s_readLettersAndDigits_201 x S1
set_option maxHeartbeats 4000000 in
set_option maxRecDepth 100000 in
theorem k_X9s_readLettersAndDigits_159 {p : Program} {l : Launch} {e : Env} {s : State} {m : MethodId} {args : Array Value} {below : List Frame} {meth : Method} {c : Code} {G : m_G} {nx : Nat} {κ : Nat → Nat} {res : m_M} {x : Nat} (X : m_Cx p s m args meth c cX9_readLettersAndDigits 8 RX9 G) (hr : meth.sig.returnType = none) (hT : m_Str κ) (hk_x : κ x = 12)  : ∀ (S : m_M) (t1 : Int32) (t2 : Int32) (t3 : Int64) (H : Heap) (locs : List Loc) (ls : Array Slot), m_H G nx κ S H → m_S G s H locs → lv_has ls 8 [] → b_X9s_readLettersAndDigits_159 x S t1 t2 t3 = some res → W p l e rm_X9s_readLettersAndDigits s m args below meth c H locs 0 0 (m_Qv below args s G nx κ res) (F0 m 159 ls [.long t3, .int t2, .int t1, .ref (x + 37)]) := by
  have hx := X.1.1
  have hb := X.1.2.1
  intro S t1 t2 t3 H locs ls hH hS hl hm
  rw [b_X9s_readLettersAndDigits_159] at hm
  obtain ⟨S1, e_S1, hm⟩ := m_cal0_of hm
  refine r_cVv X hH hS (k := 9) (c_X9s_put (x := x) hT hk_x e_S1) mw_X9_put in_3_166 (m_lay_at hT hk_x (by decide) (i := 37) rfl) (by decide) rfl rfl rfl ⟨rfl, rfl⟩ ⟨Nat.le_of_ble_eq_true rfl, Nat.le_of_ble_eq_true rfl⟩ ⟨Nat.zero_le _, Nat.zero_le _⟩ hl.1 (Nat.le_of_ble_eq_true rfl) dX9_readLettersAndDigits_159 (fun H locs hH hS => ?_)
  refine lv_goto (tgt := 201) hx hb dX9_readLettersAndDigits_162 (by decide) ?_
  exact k_X9s_readLettersAndDigits_201 (x := x) X hr hT hk_x   S1 _ _ _ hH hS hl hm
def b_X9s_readLettersAndDigits_144 (x : Nat)  (S : m_M) (l2 : Int32) (l4 : Int64) (l7 : Int32) (t1 : Int32) : Option m_M :=
    if l7 = (-1 : Int32) then (
    b_X9s_readLettersAndDigits_159 x S t1 l2 l4) else (
    b_X9s_readLettersAndDigits_159 x S t1 l2 l7.toInt64)
set_option maxHeartbeats 4000000 in
set_option maxRecDepth 100000 in
theorem k_X9s_readLettersAndDigits_144 {p : Program} {l : Launch} {e : Env} {s : State} {m : MethodId} {args : Array Value} {below : List Frame} {meth : Method} {c : Code} {G : m_G} {nx : Nat} {κ : Nat → Nat} {res : m_M} {x : Nat} (X : m_Cx p s m args meth c cX9_readLettersAndDigits 8 RX9 G) (hr : meth.sig.returnType = none) (hT : m_Str κ) (hk_x : κ x = 12)  : ∀ (S : m_M) (l2 : Int32) (l4 : Int64) (l7 : Int32) (t1 : Int32) (H : Heap) (locs : List Loc) (ls : Array Slot), m_H G nx κ S H → m_S G s H locs → lv_has ls 8 [(2, .int l2), (4, .long l4), (7, .int l7)] → b_X9s_readLettersAndDigits_144 x S l2 l4 l7 t1 = some res → W p l e rm_X9s_readLettersAndDigits s m args below meth c H locs 0 0 (m_Qv below args s G nx κ res) (F0 m 144 ls [.int t1, .ref (x + 37)]) := by
  have hx := X.1.1
  have hb := X.1.2.1
  intro S l2 l4 l7 t1 H locs ls hH hS hl hm
  rw [b_X9s_readLettersAndDigits_144] at hm
  refine lv_iload_n hx hb dX9_readLettersAndDigits_144 rfl (lv_at hl 0 rfl) ?_
  refine lv_iload hx hb dX9_readLettersAndDigits_145 (lv_at hl 2 rfl) ?_
  refine lv_iconst (v := (-1 : Int32)) hx hb dX9_readLettersAndDigits_147 (by decide) ?_
  refine lv_icmp_ne (tgt := 156) hx hb dX9_readLettersAndDigits_148 (by decide) (fun c1 => ?_) (fun c1 => ?_)
  · have hm := m_ite_f hm c1
    refine lv_iload hx hb dX9_readLettersAndDigits_156 (lv_at hl 2 rfl) ?_
    refine lv_i2l hx hb dX9_readLettersAndDigits_158 rfl ?_
    exact k_X9s_readLettersAndDigits_159 (x := x) X hr hT hk_x   S t1 l2 l7.toInt64 _ _ _ hH hS (lv_sub hl [] rfl) hm
  · have hm := m_ite_t hm c1
    refine lv_lload hx hb dX9_readLettersAndDigits_151 (lv_at hl 1 rfl) ?_
    refine lv_goto (tgt := 159) hx hb dX9_readLettersAndDigits_153 (by decide) ?_
    exact k_X9s_readLettersAndDigits_159 (x := x) X hr hT hk_x   S t1 l2 l4 _ _ _ hH hS (lv_sub hl [] rfl) hm
def b_X9s_readLettersAndDigits_192 (x : Nat)  (S : m_M) (l2 : Int32) : Option m_M :=
    m_cal0 (f_X9s_put x S (1 : Int32) l2 (-1 : Int64)) fun S1 =>
    b_X9s_readLettersAndDigits_201 x S1
set_option maxHeartbeats 4000000 in
set_option maxRecDepth 100000 in
theorem k_X9s_readLettersAndDigits_192 {p : Program} {l : Launch} {e : Env} {s : State} {m : MethodId} {args : Array Value} {below : List Frame} {meth : Method} {c : Code} {G : m_G} {nx : Nat} {κ : Nat → Nat} {res : m_M} {x : Nat} (X : m_Cx p s m args meth c cX9_readLettersAndDigits 8 RX9 G) (hr : meth.sig.returnType = none) (hT : m_Str κ) (hk_x : κ x = 12)  : ∀ (S : m_M) (l2 : Int32) (H : Heap) (locs : List Loc) (ls : Array Slot), m_H G nx κ S H → m_S G s H locs → lv_has ls 8 [(0, .ref (x + 37)), (2, .int l2)] → b_X9s_readLettersAndDigits_192 x S l2 = some res → W p l e rm_X9s_readLettersAndDigits s m args below meth c H locs 0 0 (m_Qv below args s G nx κ res) (F0 m 192 ls []) := by
  have hx := X.1.1
  have hb := X.1.2.1
  intro S l2 H locs ls hH hS hl hm
  rw [b_X9s_readLettersAndDigits_192] at hm
  refine lv_aload_n hx hb dX9_readLettersAndDigits_192 rfl (lv_at hl 0 rfl) ?_
  refine lv_iconst (v := (1 : Int32)) hx hb dX9_readLettersAndDigits_193 (by decide) ?_
  refine lv_iload_n hx hb dX9_readLettersAndDigits_194 rfl (lv_at hl 1 rfl) ?_
  refine lv_ldc2 hx hb X.1.2.2.2.1 (m_w X in_1_192) dX9_readLettersAndDigits_195 ?_
  obtain ⟨S1, e_S1, hm⟩ := m_cal0_of hm
  refine r_cVv X hH hS (k := 9) (c_X9s_put (x := x) hT hk_x e_S1) mw_X9_put in_3_166 (m_lay_at hT hk_x (by decide) (i := 37) rfl) (by decide) rfl rfl rfl ⟨rfl, rfl⟩ ⟨Nat.le_of_ble_eq_true rfl, Nat.le_of_ble_eq_true rfl⟩ ⟨Nat.zero_le _, Nat.zero_le _⟩ hl.1 (Nat.le_of_ble_eq_true rfl) dX9_readLettersAndDigits_198 (fun H locs hH hS => ?_)
  exact k_X9s_readLettersAndDigits_201 (x := x) X hr hT hk_x   S1 _ _ _ hH hS (lv_sub hl [] rfl) hm
def b_X9s_readLettersAndDigits_165 (x : Nat)  (S : m_M) (l2 : Int32) (l3 : Int32) (l6 : Int32) : Option m_M :=
    if l3 = ((m_ri S (x + 37) 6) - l2) then (
    if (3 : Int32) < l3 then (
    b_X9s_readLettersAndDigits_192 x S l2) else (
    m_cal0 (f_X9s_put x S (4 : Int32) l2 l6.toInt64) fun S3 =>
    b_X9s_readLettersAndDigits_201 x S3)) else (
    b_X9s_readLettersAndDigits_192 x S l2)
set_option maxHeartbeats 4000000 in
set_option maxRecDepth 100000 in
theorem k_X9s_readLettersAndDigits_165 {p : Program} {l : Launch} {e : Env} {s : State} {m : MethodId} {args : Array Value} {below : List Frame} {meth : Method} {c : Code} {G : m_G} {nx : Nat} {κ : Nat → Nat} {res : m_M} {x : Nat} (X : m_Cx p s m args meth c cX9_readLettersAndDigits 8 RX9 G) (hr : meth.sig.returnType = none) (hT : m_Str κ) (hk_x : κ x = 12)  : ∀ (S : m_M) (l2 : Int32) (l3 : Int32) (l6 : Int32) (H : Heap) (locs : List Loc) (ls : Array Slot), m_H G nx κ S H → m_S G s H locs → lv_has ls 8 [(0, .ref (x + 37)), (2, .int l2), (3, .int l3), (6, .int l6)] → b_X9s_readLettersAndDigits_165 x S l2 l3 l6 = some res → W p l e rm_X9s_readLettersAndDigits s m args below meth c H locs 0 0 (m_Qv below args s G nx κ res) (F0 m 165 ls []) := by
  have hx := X.1.1
  have hb := X.1.2.1
  intro S l2 l3 l6 H locs ls hH hS hl hm
  rw [b_X9s_readLettersAndDigits_165] at hm
  refine lv_iload_n hx hb dX9_readLettersAndDigits_165 rfl (lv_at hl 2 rfl) ?_
  refine lv_aload_n hx hb dX9_readLettersAndDigits_166 rfl (lv_at hl 0 rfl) ?_
  refine r_geti X hH (k := 9) (a := (x + 37)) (j := 6) (m_lay_at hT hk_x (by decide) (i := 37) rfl) (by decide) rfl m_wi9 (by decide) in_2_15 rfl rfl dX9_readLettersAndDigits_167 ?_
  refine lv_iload_n hx hb dX9_readLettersAndDigits_170 rfl (lv_at hl 1 rfl) ?_
  refine lv_isub hx hb dX9_readLettersAndDigits_171 ?_
  refine lv_icmp_ne (tgt := 192) hx hb dX9_readLettersAndDigits_172 (by decide) (fun c1 => ?_) (fun c1 => ?_)
  · have hm := m_ite_f hm c1
    exact k_X9s_readLettersAndDigits_192 (x := x) X hr hT hk_x   S l2 _ _ _ hH hS (lv_sub hl [0, 1] rfl) hm
  · have hm := m_ite_t hm c1
    refine lv_iload_n hx hb dX9_readLettersAndDigits_175 rfl (lv_at hl 2 rfl) ?_
    refine lv_iconst (v := (3 : Int32)) hx hb dX9_readLettersAndDigits_176 (by decide) ?_
    refine lv_icmp_gt (tgt := 192) hx hb dX9_readLettersAndDigits_177 (by decide) (fun c2 => ?_) (fun c2 => ?_)
    · have hm := m_ite_t hm c2
      exact k_X9s_readLettersAndDigits_192 (x := x) X hr hT hk_x   S l2 _ _ _ hH hS (lv_sub hl [0, 1] rfl) hm
    · have hm := m_ite_f hm c2
      refine lv_aload_n hx hb dX9_readLettersAndDigits_180 rfl (lv_at hl 0 rfl) ?_
      refine lv_iconst (v := (4 : Int32)) hx hb dX9_readLettersAndDigits_181 (by decide) ?_
      refine lv_iload_n hx hb dX9_readLettersAndDigits_182 rfl (lv_at hl 1 rfl) ?_
      refine lv_iload hx hb dX9_readLettersAndDigits_183 (lv_at hl 3 rfl) ?_
      refine lv_i2l hx hb dX9_readLettersAndDigits_185 rfl ?_
      obtain ⟨S3, e_S3, hm⟩ := m_cal0_of hm
      refine r_cVv X hH hS (k := 9) (c_X9s_put (x := x) hT hk_x e_S3) mw_X9_put in_3_166 (m_lay_at hT hk_x (by decide) (i := 37) rfl) (by decide) rfl rfl rfl ⟨rfl, rfl⟩ ⟨Nat.le_of_ble_eq_true rfl, Nat.le_of_ble_eq_true rfl⟩ ⟨Nat.zero_le _, Nat.zero_le _⟩ hl.1 (Nat.le_of_ble_eq_true rfl) dX9_readLettersAndDigits_186 (fun H locs hH hS => ?_)
      refine lv_goto (tgt := 201) hx hb dX9_readLettersAndDigits_189 (by decide) ?_
      exact k_X9s_readLettersAndDigits_201 (x := x) X hr hT hk_x   S3 _ _ _ hH hS (lv_sub hl [] rfl) hm
def b_X9s_readLettersAndDigits_109 (x : Nat)  (S : m_M) (l2 : Int32) (l3 : Int32) (l4 : Int64) (l6 : Int32) : Option m_M :=
    if l3 = 0 then (
    if (7 : Int32) < ((m_ri S (x + 37) 6) - l2) then (
    b_X9s_readLettersAndDigits_165 x S l2 l3 l6) else (
    m_call (f_X9s_keywordOf x S l4) fun v4 S3 =>
    if v4 = (-1 : Int32) then (
    b_X9s_readLettersAndDigits_144 x S3 l2 l4 v4 (2 : Int32)) else (
    b_X9s_readLettersAndDigits_144 x S3 l2 l4 v4 (3 : Int32)))) else (
    b_X9s_readLettersAndDigits_165 x S l2 l3 l6)
set_option maxHeartbeats 4000000 in
set_option maxRecDepth 100000 in
theorem k_X9s_readLettersAndDigits_109 {p : Program} {l : Launch} {e : Env} {s : State} {m : MethodId} {args : Array Value} {below : List Frame} {meth : Method} {c : Code} {G : m_G} {nx : Nat} {κ : Nat → Nat} {res : m_M} {x : Nat} (X : m_Cx p s m args meth c cX9_readLettersAndDigits 8 RX9 G) (hr : meth.sig.returnType = none) (hT : m_Str κ) (hk_x : κ x = 12)  : ∀ (S : m_M) (l2 : Int32) (l3 : Int32) (l4 : Int64) (l6 : Int32) (H : Heap) (locs : List Loc) (ls : Array Slot), m_H G nx κ S H → m_S G s H locs → lv_has ls 8 [(0, .ref (x + 37)), (2, .int l2), (3, .int l3), (4, .long l4), (6, .int l6)] → b_X9s_readLettersAndDigits_109 x S l2 l3 l4 l6 = some res → W p l e rm_X9s_readLettersAndDigits s m args below meth c H locs 0 0 (m_Qv below args s G nx κ res) (F0 m 109 ls []) := by
  have hx := X.1.1
  have hb := X.1.2.1
  intro S l2 l3 l4 l6 H locs ls hH hS hl hm
  rw [b_X9s_readLettersAndDigits_109] at hm
  refine lv_iload_n hx hb dX9_readLettersAndDigits_109 rfl (lv_at hl 2 rfl) ?_
  refine lv_if_ne (tgt := 165) hx hb dX9_readLettersAndDigits_110 (by decide) (fun c1 => ?_) (fun c1 => ?_)
  · have hm := m_ite_f hm c1
    exact k_X9s_readLettersAndDigits_165 (x := x) X hr hT hk_x   S l2 l3 l6 _ _ _ hH hS (lv_sub hl [0, 1, 2, 4] rfl) hm
  · have hm := m_ite_t hm c1
    refine lv_aload_n hx hb dX9_readLettersAndDigits_113 rfl (lv_at hl 0 rfl) ?_
    refine r_geti X hH (k := 9) (a := (x + 37)) (j := 6) (m_lay_at hT hk_x (by decide) (i := 37) rfl) (by decide) rfl m_wi9 (by decide) in_2_15 rfl rfl dX9_readLettersAndDigits_114 ?_
    refine lv_iload_n hx hb dX9_readLettersAndDigits_117 rfl (lv_at hl 1 rfl) ?_
    refine lv_isub hx hb dX9_readLettersAndDigits_118 ?_
    refine lv_bipush (v := (7 : Int32)) hx hb dX9_readLettersAndDigits_119 (by decide) ?_
    refine lv_icmp_gt (tgt := 165) hx hb dX9_readLettersAndDigits_121 (by decide) (fun c2 => ?_) (fun c2 => ?_)
    · have hm := m_ite_t hm c2
      exact k_X9s_readLettersAndDigits_165 (x := x) X hr hT hk_x   S l2 l3 l6 _ _ _ hH hS (lv_sub hl [0, 1, 2, 4] rfl) hm
    · have hm := m_ite_f hm c2
      refine lv_aload_n hx hb dX9_readLettersAndDigits_124 rfl (lv_at hl 0 rfl) ?_
      refine lv_lload hx hb dX9_readLettersAndDigits_125 (lv_at hl 3 rfl) ?_
      obtain ⟨v4, S3, e_S3, hm⟩ := m_call_of hm
      refine n_cVi X hH hS (k := 9) (c_X9s_keywordOf (x := x) hT hk_x e_S3) mw_X9_keywordOf in_3_162 (m_lay_at hT hk_x (by decide) (i := 37) rfl) (by decide) rfl rfl rfl ⟨rfl, rfl⟩ ⟨Nat.le_of_ble_eq_true rfl, Nat.le_of_ble_eq_true rfl⟩ ⟨Nat.zero_le _, Nat.zero_le _⟩ hl.1 (Nat.le_of_ble_eq_true rfl) dX9_readLettersAndDigits_127 (fun H locs hH hS => ?_)
      refine lv_istore (lv' := [(7, .int v4), (0, .ref (x + 37)), (2, .int l2), (3, .int l3), (4, .long l4), (6, .int l6)]) hx hb dX9_readLettersAndDigits_130 hl (by decide) rfl (fun ls hl => ?_)
      refine lv_aload_n hx hb dX9_readLettersAndDigits_132 rfl (lv_at hl 1 rfl) ?_
      refine lv_iload hx hb dX9_readLettersAndDigits_133 (lv_at hl 0 rfl) ?_
      refine lv_iconst (v := (-1 : Int32)) hx hb dX9_readLettersAndDigits_135 (by decide) ?_
      refine lv_icmp_ne (tgt := 143) hx hb dX9_readLettersAndDigits_136 (by decide) (fun c5 => ?_) (fun c5 => ?_)
      · have hm := m_ite_f hm c5
        refine lv_iconst (v := (3 : Int32)) hx hb dX9_readLettersAndDigits_143 (by decide) ?_
        exact k_X9s_readLettersAndDigits_144 (x := x) X hr hT hk_x   S3 l2 l4 v4 (3 : Int32) _ _ _ hH hS (lv_sub hl [2, 4, 0] rfl) hm
      · have hm := m_ite_t hm c5
        refine lv_iconst (v := (2 : Int32)) hx hb dX9_readLettersAndDigits_139 (by decide) ?_
        refine lv_goto (tgt := 144) hx hb dX9_readLettersAndDigits_140 (by decide) ?_
        exact k_X9s_readLettersAndDigits_144 (x := x) X hr hT hk_x   S3 l2 l4 v4 (2 : Int32) _ _ _ hH hS (lv_sub hl [2, 4, 0] rfl) hm
def b_X9s_readLettersAndDigits_13 (x : Nat)  : Nat → m_M → Int32 → Int32 → Int64 → Int32 → Option m_M
  | 0, _, _, _, _, _ => none
  | n + 1, S, l2, l3, l4, l6 =>
    if (m_ri S (x + 37) 5) ≤ (m_ri S (x + 37) 6) then (
    b_X9s_readLettersAndDigits_109 x S l2 l3 l4 l6) else (
    (m_ldi S (x + 1) 940 (m_ri S (x + 37) 6)).bind fun v2 =>
    m_call (f_X9_isLetter S v2) fun v4 S3 =>
    if v4 = 0 then (
    (m_ldi S3 (x + 1) 940 (m_ri S3 (x + 37) 6)).bind fun v6 =>
    m_call (f_X9_isDigit S3 v6) fun v8 S7 =>
    if v8 = 0 then (
    b_X9s_readLettersAndDigits_109 x S7 l2 l3 l4 l6) else (
    b_X9s_readLettersAndDigits_48 x (b_X9s_readLettersAndDigits_13 x n) S7 l2 l3 l4 l6)) else (
    b_X9s_readLettersAndDigits_48 x (b_X9s_readLettersAndDigits_13 x n) S3 l2 l3 l4 l6))
set_option maxHeartbeats 4000000 in
set_option maxRecDepth 100000 in
theorem k_X9s_readLettersAndDigits_13 {p : Program} {l : Launch} {e : Env} {s : State} {m : MethodId} {args : Array Value} {below : List Frame} {meth : Method} {c : Code} {G : m_G} {nx : Nat} {κ : Nat → Nat} {res : m_M} {x : Nat} (X : m_Cx p s m args meth c cX9_readLettersAndDigits 8 RX9 G) (hr : meth.sig.returnType = none) (hT : m_Str κ) (hk_x : κ x = 12)  (n : Nat) : ∀ (S : m_M) (l2 : Int32) (l3 : Int32) (l4 : Int64) (l6 : Int32) (H : Heap) (locs : List Loc) (ls : Array Slot), m_H G nx κ S H → m_S G s H locs → lv_has ls 8 [(0, .ref (x + 37)), (1, .ref (x + 1)), (2, .int l2), (3, .int l3), (4, .long l4), (6, .int l6)] → b_X9s_readLettersAndDigits_13 x n S l2 l3 l4 l6 = some res → W p l e rm_X9s_readLettersAndDigits s m args below meth c H locs 0 0 (m_Qv below args s G nx κ res) (F0 m 13 ls []) := by
  have hx := X.1.1
  have hb := X.1.2.1
  induction n with
  | zero => intro S l2 l3 l4 l6 H locs ls hH hS hl hm; have hm : (none : Option m_M) = some res := hm; cases hm
  | succ n ih =>
    intro S l2 l3 l4 l6 H locs ls hH hS hl hm
    rw [b_X9s_readLettersAndDigits_13] at hm
    refine lv_aload_n hx hb dX9_readLettersAndDigits_13 rfl (lv_at hl 0 rfl) ?_
    refine r_geti X hH (k := 9) (a := (x + 37)) (j := 6) (m_lay_at hT hk_x (by decide) (i := 37) rfl) (by decide) rfl m_wi9 (by decide) in_2_15 rfl rfl dX9_readLettersAndDigits_14 ?_
    refine lv_aload_n hx hb dX9_readLettersAndDigits_17 rfl (lv_at hl 0 rfl) ?_
    refine r_geti X hH (k := 9) (a := (x + 37)) (j := 5) (m_lay_at hT hk_x (by decide) (i := 37) rfl) (by decide) rfl m_wi9 (by decide) in_2_14 rfl rfl dX9_readLettersAndDigits_18 ?_
    refine lv_icmp_ge (tgt := 109) hx hb dX9_readLettersAndDigits_21 (by decide) (fun c1 => ?_) (fun c1 => ?_)
    · have hm := m_ite_t hm c1
      exact k_X9s_readLettersAndDigits_109 (x := x) X hr hT hk_x   S l2 l3 l4 l6 _ _ _ hH hS (lv_sub hl [0, 2, 3, 4, 5] rfl) hm
    · have hm := m_ite_f hm c1
      refine lv_aload_n hx hb dX9_readLettersAndDigits_24 rfl (lv_at hl 1 rfl) ?_
      refine lv_aload_n hx hb dX9_readLettersAndDigits_25 rfl (lv_at hl 0 rfl) ?_
      refine r_geti X hH (k := 9) (a := (x + 37)) (j := 6) (m_lay_at hT hk_x (by decide) (i := 37) rfl) (by decide) rfl m_wi9 (by decide) in_2_15 rfl rfl dX9_readLettersAndDigits_26 ?_
      obtain ⟨v2, h_v2, e_v2, hm⟩ := n_ldi hm
      refine n_bald X hH (n := 940) (m_lay_at hT hk_x (by decide) (i := 1) rfl) h_v2 e_v2 dX9_readLettersAndDigits_29 ?_
      obtain ⟨v4, S3, e_S3, hm⟩ := m_call_of hm
      refine n_cSi X hH hS (c_X9_isLetter  hT  e_S3) mw_X9_isLetter in_3_152 rfl ⟨rfl, rfl⟩ ⟨Nat.le_of_ble_eq_true rfl, Nat.le_of_ble_eq_true rfl⟩ ⟨Nat.zero_le _, Nat.zero_le _⟩ hl.1 (Nat.le_of_ble_eq_true rfl) dX9_readLettersAndDigits_30 (fun H locs hH hS => ?_)
      refine lv_if_ne (tgt := 48) hx hb dX9_readLettersAndDigits_33 (by decide) (fun c5 => ?_) (fun c5 => ?_)
      · have hm := m_ite_f hm c5
        exact k_X9s_readLettersAndDigits_48 (x := x) X hr hT hk_x (b_X9s_readLettersAndDigits_13 x n) ih  S3 l2 l3 l4 l6 _ _ _ hH hS hl hm
      · have hm := m_ite_t hm c5
        refine lv_aload_n hx hb dX9_readLettersAndDigits_36 rfl (lv_at hl 1 rfl) ?_
        refine lv_aload_n hx hb dX9_readLettersAndDigits_37 rfl (lv_at hl 0 rfl) ?_
        refine r_geti X hH (k := 9) (a := (x + 37)) (j := 6) (m_lay_at hT hk_x (by decide) (i := 37) rfl) (by decide) rfl m_wi9 (by decide) in_2_15 rfl rfl dX9_readLettersAndDigits_38 ?_
        obtain ⟨v6, h_v6, e_v6, hm⟩ := n_ldi hm
        refine n_bald X hH (n := 940) (m_lay_at hT hk_x (by decide) (i := 1) rfl) h_v6 e_v6 dX9_readLettersAndDigits_41 ?_
        obtain ⟨v8, S7, e_S7, hm⟩ := m_call_of hm
        refine n_cSi X hH hS (c_X9_isDigit  hT  e_S7) mw_X9_isDigit in_3_155 rfl ⟨rfl, rfl⟩ ⟨Nat.le_of_ble_eq_true rfl, Nat.le_of_ble_eq_true rfl⟩ ⟨Nat.zero_le _, Nat.zero_le _⟩ hl.1 (Nat.le_of_ble_eq_true rfl) dX9_readLettersAndDigits_42 (fun H locs hH hS => ?_)
        refine lv_if_eq (tgt := 109) hx hb dX9_readLettersAndDigits_45 (by decide) (fun c9 => ?_) (fun c9 => ?_)
        · have hm := m_ite_t hm c9
          exact k_X9s_readLettersAndDigits_109 (x := x) X hr hT hk_x   S7 l2 l3 l4 l6 _ _ _ hH hS (lv_sub hl [0, 2, 3, 4, 5] rfl) hm
        · have hm := m_ite_f hm c9
          exact k_X9s_readLettersAndDigits_48 (x := x) X hr hT hk_x (b_X9s_readLettersAndDigits_13 x n) ih  S7 l2 l3 l4 l6 _ _ _ hH hS hl hm
def f_X9s_readLettersAndDigits (x : Nat) (S : m_M)  : Option m_M :=
    m_let (m_ri S (x + 37) 6) fun v1 =>
    b_X9s_readLettersAndDigits_13 x m_fu S v1 (0 : Int32) (0 : Int64) (0 : Int32)
set_option maxHeartbeats 4000000 in
set_option maxRecDepth 100000 in
theorem c_X9s_readLettersAndDigits {l : Launch} {G : m_G} {nx : Nat} {κ : Nat → Nat} {x : Nat} {S : m_M}  {res : m_M} (hT : m_Str κ) (hk_x : κ x = 12) (hm : f_X9s_readLettersAndDigits x S = some res) : m_Cv l yX9_readLettersAndDigits cX9_readLettersAndDigits 8 rm_X9s_readLettersAndDigits G nx κ [.ref (x + 37), .ref (x + 1)] S res := by
  refine m_Cv.of (by decide) (Nat.le_of_ble_eq_true rfl) ?_
  intro p e s m args below meth c ls X hr hH hl
  have hx := X.1.1
  have hb := X.1.2.1
  have hS : m_S G s s.heap [] := va_S.rf
  have hl : lv_has ls 8 [(0, .ref (x + 37)), (1, .ref (x + 1))] := hl
  rw [f_X9s_readLettersAndDigits] at hm
  refine lv_aload_n hx hb dX9_readLettersAndDigits_0 rfl (lv_at hl 0 rfl) ?_
  refine r_geti X hH (k := 9) (a := (x + 37)) (j := 6) (m_lay_at hT hk_x (by decide) (i := 37) rfl) (by decide) rfl m_wi9 (by decide) in_2_15 rfl rfl dX9_readLettersAndDigits_1 ?_
  obtain ⟨v1, e_v1, hm⟩ := m_let_of hm
  refine n_topi e_v1 ?_
  refine lv_istore_n (lv' := [(2, .int v1), (0, .ref (x + 37)), (1, .ref (x + 1))]) hx hb dX9_readLettersAndDigits_4 rfl hl (by decide) rfl (fun ls hl => ?_)
  refine lv_iconst (v := (0 : Int32)) hx hb dX9_readLettersAndDigits_5 (by decide) ?_
  refine lv_istore_n (lv' := [(3, .int (0 : Int32)), (2, .int v1), (0, .ref (x + 37)), (1, .ref (x + 1))]) hx hb dX9_readLettersAndDigits_6 rfl hl (by decide) rfl (fun ls hl => ?_)
  refine lv_lconst (v := (0 : Int64)) hx hb dX9_readLettersAndDigits_7 (by decide) ?_
  refine lv_lstore (lv' := [(4, .long (0 : Int64)), (3, .int (0 : Int32)), (2, .int v1), (0, .ref (x + 37)), (1, .ref (x + 1))]) hx hb dX9_readLettersAndDigits_8 hl (by decide) rfl (fun ls hl => ?_)
  refine lv_iconst (v := (0 : Int32)) hx hb dX9_readLettersAndDigits_10 (by decide) ?_
  refine lv_istore (lv' := [(6, .int (0 : Int32)), (4, .long (0 : Int64)), (3, .int (0 : Int32)), (2, .int v1), (0, .ref (x + 37)), (1, .ref (x + 1))]) hx hb dX9_readLettersAndDigits_11 hl (by decide) rfl (fun ls hl => ?_)
  exact k_X9s_readLettersAndDigits_13 (x := x) X hr hT hk_x  m_fu S v1 (0 : Int32) (0 : Int64) (0 : Int32) _ _ _ hH hS (lv_sub hl [4, 5, 3, 2, 1, 0] rfl) hm
def rm_X9_readPiece : Room := { frames := 2, cells := 0, slots := 0, locals := 51 }
def b_X9_readPiece_21 (x : Nat)  (S : m_M)  : Option m_M :=
    m_cal0 (f_X9_readLettersAndDigits x S) fun S1 =>
    some S1
set_option maxHeartbeats 4000000 in
set_option maxRecDepth 100000 in
theorem k_X9_readPiece_21 {p : Program} {l : Launch} {e : Env} {s : State} {m : MethodId} {args : Array Value} {below : List Frame} {meth : Method} {c : Code} {G : m_G} {nx : Nat} {κ : Nat → Nat} {res : m_M} {x : Nat} (X : m_Cx p s m args meth c cX9_readPiece 4 RX9 G) (hr : meth.sig.returnType = none) (hT : m_Str κ) (hk_x : κ x = 12)  : ∀ (S : m_M)  (H : Heap) (locs : List Loc) (ls : Array Slot), m_H G nx κ S H → m_S G s H locs → lv_has ls 4 [(0, .ref (x + 25)), (1, .ref (x + 1))] → b_X9_readPiece_21 x S  = some res → W p l e rm_X9_readPiece s m args below meth c H locs 0 0 (m_Qv below args s G nx κ res) (F0 m 21 ls []) := by
  have hx := X.1.1
  have hb := X.1.2.1
  intro S H locs ls hH hS hl hm
  rw [b_X9_readPiece_21] at hm
  refine lv_aload_n hx hb dX9_readPiece_21 rfl (lv_at hl 0 rfl) ?_
  refine lv_aload_n hx hb dX9_readPiece_22 rfl (lv_at hl 1 rfl) ?_
  obtain ⟨S1, e_S1, hm⟩ := m_cal0_of hm
  refine r_cVv X hH hS (k := 9) (c_X9_readLettersAndDigits (x := x) hT hk_x e_S1) mw_X9_readLettersAndDigits in_3_158 (m_lay_at hT hk_x (by decide) (i := 25) rfl) (by decide) rfl rfl rfl ⟨rfl, rfl⟩ ⟨Nat.le_of_ble_eq_true rfl, Nat.le_of_ble_eq_true rfl⟩ ⟨Nat.zero_le _, Nat.zero_le _⟩ hl.1 (Nat.le_of_ble_eq_true rfl) dX9_readPiece_23 (fun H locs hH hS => ?_)
  exact r_vret X hr hH hS hm dX9_readPiece_26
def b_X9_readPiece_100 (x : Nat)  (S : m_M)  : Option m_M :=
    m_let (m_si S (x + 25) 6 ((m_ri S (x + 25) 6) + (1 : Int32))) fun S1 =>
    some S1
set_option maxHeartbeats 4000000 in
set_option maxRecDepth 100000 in
theorem k_X9_readPiece_100 {p : Program} {l : Launch} {e : Env} {s : State} {m : MethodId} {args : Array Value} {below : List Frame} {meth : Method} {c : Code} {G : m_G} {nx : Nat} {κ : Nat → Nat} {res : m_M} {x : Nat} (X : m_Cx p s m args meth c cX9_readPiece 4 RX9 G) (hr : meth.sig.returnType = none) (hT : m_Str κ) (hk_x : κ x = 12)  : ∀ (S : m_M)  (H : Heap) (locs : List Loc) (ls : Array Slot), m_H G nx κ S H → m_S G s H locs → lv_has ls 4 [(0, .ref (x + 25))] → b_X9_readPiece_100 x S  = some res → W p l e rm_X9_readPiece s m args below meth c H locs 0 0 (m_Qv below args s G nx κ res) (F0 m 100 ls []) := by
  have hx := X.1.1
  have hb := X.1.2.1
  intro S H locs ls hH hS hl hm
  rw [b_X9_readPiece_100] at hm
  refine lv_aload_n hx hb dX9_readPiece_100 rfl (lv_at hl 0 rfl) ?_
  refine lv_dup hx hb dX9_readPiece_101 rfl ?_
  refine r_geti X hH (k := 9) (a := (x + 25)) (j := 6) (m_lay_at hT hk_x (by decide) (i := 25) rfl) (by decide) rfl m_wi9 (by decide) in_2_15 rfl rfl dX9_readPiece_102 ?_
  refine lv_iconst (v := (1 : Int32)) hx hb dX9_readPiece_105 (by decide) ?_
  refine lv_iadd hx hb dX9_readPiece_106 ?_
  obtain ⟨S1, e_S1, hm⟩ := m_let_of hm
  refine n_puti X hH hS tyX9 (k := 9) (a := (x + 25)) (j := 6) (m_lay_at hT hk_x (by decide) (i := 25) rfl) (by decide) rfl m_wi9 tyX9_ok nmX9 (by decide) in_2_15 rfl rfl rfl ⟨rfl, rfl⟩ e_S1 dX9_readPiece_107 (fun H locs hH hS => ?_)
  exact r_vret X hr hH hS hm dX9_readPiece_110
def b_X9_readPiece_91 (x : Nat)  (S : m_M) (l2 : Int32) (t1 : Int32) : Option m_M :=
    m_cal0 (f_X9_put x S t1 (m_ri S (x + 25) 6) l2.toInt64) fun S1 =>
    b_X9_readPiece_100 x S1
set_option maxHeartbeats 4000000 in
set_option maxRecDepth 100000 in
theorem k_X9_readPiece_91 {p : Program} {l : Launch} {e : Env} {s : State} {m : MethodId} {args : Array Value} {below : List Frame} {meth : Method} {c : Code} {G : m_G} {nx : Nat} {κ : Nat → Nat} {res : m_M} {x : Nat} (X : m_Cx p s m args meth c cX9_readPiece 4 RX9 G) (hr : meth.sig.returnType = none) (hT : m_Str κ) (hk_x : κ x = 12)  : ∀ (S : m_M) (l2 : Int32) (t1 : Int32) (H : Heap) (locs : List Loc) (ls : Array Slot), m_H G nx κ S H → m_S G s H locs → lv_has ls 4 [(0, .ref (x + 25)), (2, .int l2)] → b_X9_readPiece_91 x S l2 t1 = some res → W p l e rm_X9_readPiece s m args below meth c H locs 0 0 (m_Qv below args s G nx κ res) (F0 m 91 ls [.int t1, .ref (x + 25)]) := by
  have hx := X.1.1
  have hb := X.1.2.1
  intro S l2 t1 H locs ls hH hS hl hm
  rw [b_X9_readPiece_91] at hm
  refine lv_aload_n hx hb dX9_readPiece_91 rfl (lv_at hl 0 rfl) ?_
  refine r_geti X hH (k := 9) (a := (x + 25)) (j := 6) (m_lay_at hT hk_x (by decide) (i := 25) rfl) (by decide) rfl m_wi9 (by decide) in_2_15 rfl rfl dX9_readPiece_92 ?_
  refine lv_iload_n hx hb dX9_readPiece_95 rfl (lv_at hl 1 rfl) ?_
  refine lv_i2l hx hb dX9_readPiece_96 rfl ?_
  obtain ⟨S1, e_S1, hm⟩ := m_cal0_of hm
  refine r_cVv X hH hS (k := 9) (c_X9_put (x := x) hT hk_x e_S1) mw_X9_put in_3_166 (m_lay_at hT hk_x (by decide) (i := 25) rfl) (by decide) rfl rfl rfl ⟨rfl, rfl⟩ ⟨Nat.le_of_ble_eq_true rfl, Nat.le_of_ble_eq_true rfl⟩ ⟨Nat.zero_le _, Nat.zero_le _⟩ hl.1 (Nat.le_of_ble_eq_true rfl) dX9_readPiece_97 (fun H locs hH hS => ?_)
  exact k_X9_readPiece_100 (x := x) X hr hT hk_x   S1 _ _ _ hH hS (lv_sub hl [0] rfl) hm
def b_X9_readPiece_80 (x : Nat)  (S : m_M) (l2 : Int32) (t0 : Int32) : Option m_M :=
    if t0 = 0 then (
    b_X9_readPiece_91 x S l2 (1 : Int32)) else (
    b_X9_readPiece_91 x S l2 (5 : Int32))
set_option maxHeartbeats 4000000 in
set_option maxRecDepth 100000 in
theorem k_X9_readPiece_80 {p : Program} {l : Launch} {e : Env} {s : State} {m : MethodId} {args : Array Value} {below : List Frame} {meth : Method} {c : Code} {G : m_G} {nx : Nat} {κ : Nat → Nat} {res : m_M} {x : Nat} (X : m_Cx p s m args meth c cX9_readPiece 4 RX9 G) (hr : meth.sig.returnType = none) (hT : m_Str κ) (hk_x : κ x = 12)  : ∀ (S : m_M) (l2 : Int32) (t0 : Int32) (H : Heap) (locs : List Loc) (ls : Array Slot), m_H G nx κ S H → m_S G s H locs → lv_has ls 4 [(0, .ref (x + 25)), (2, .int l2)] → b_X9_readPiece_80 x S l2 t0 = some res → W p l e rm_X9_readPiece s m args below meth c H locs 0 0 (m_Qv below args s G nx κ res) (F0 m 80 ls [.int t0]) := by
  have hx := X.1.1
  have hb := X.1.2.1
  intro S l2 t0 H locs ls hH hS hl hm
  rw [b_X9_readPiece_80] at hm
  refine lv_istore_n (lv' := [(3, .int t0), (0, .ref (x + 25)), (2, .int l2)]) hx hb dX9_readPiece_80 rfl hl (by decide) rfl (fun ls hl => ?_)
  refine lv_aload_n hx hb dX9_readPiece_81 rfl (lv_at hl 1 rfl) ?_
  refine lv_iload_n hx hb dX9_readPiece_82 rfl (lv_at hl 0 rfl) ?_
  refine lv_if_eq (tgt := 90) hx hb dX9_readPiece_83 (by decide) (fun c1 => ?_) (fun c1 => ?_)
  · have hm := m_ite_t hm c1
    refine lv_iconst (v := (1 : Int32)) hx hb dX9_readPiece_90 (by decide) ?_
    exact k_X9_readPiece_91 (x := x) X hr hT hk_x   S l2 (1 : Int32) _ _ _ hH hS (lv_sub hl [1, 2] rfl) hm
  · have hm := m_ite_f hm c1
    refine lv_iconst (v := (5 : Int32)) hx hb dX9_readPiece_86 (by decide) ?_
    refine lv_goto (tgt := 91) hx hb dX9_readPiece_87 (by decide) ?_
    exact k_X9_readPiece_91 (x := x) X hr hT hk_x   S l2 (5 : Int32) _ _ _ hH hS (lv_sub hl [1, 2] rfl) hm
def b_X9_readPiece_75 (x : Nat)  (S : m_M) (l2 : Int32) : Option m_M :=
    b_X9_readPiece_80 x S l2 (1 : Int32)
set_option maxHeartbeats 4000000 in
set_option maxRecDepth 100000 in
theorem k_X9_readPiece_75 {p : Program} {l : Launch} {e : Env} {s : State} {m : MethodId} {args : Array Value} {below : List Frame} {meth : Method} {c : Code} {G : m_G} {nx : Nat} {κ : Nat → Nat} {res : m_M} {x : Nat} (X : m_Cx p s m args meth c cX9_readPiece 4 RX9 G) (hr : meth.sig.returnType = none) (hT : m_Str κ) (hk_x : κ x = 12)  : ∀ (S : m_M) (l2 : Int32) (H : Heap) (locs : List Loc) (ls : Array Slot), m_H G nx κ S H → m_S G s H locs → lv_has ls 4 [(0, .ref (x + 25)), (2, .int l2)] → b_X9_readPiece_75 x S l2 = some res → W p l e rm_X9_readPiece s m args below meth c H locs 0 0 (m_Qv below args s G nx κ res) (F0 m 75 ls []) := by
  have hx := X.1.1
  have hb := X.1.2.1
  intro S l2 H locs ls hH hS hl hm
  rw [b_X9_readPiece_75] at hm
  refine lv_iconst (v := (1 : Int32)) hx hb dX9_readPiece_75 (by decide) ?_
  refine lv_goto (tgt := 80) hx hb dX9_readPiece_76 (by decide) ?_
  exact k_X9_readPiece_80 (x := x) X hr hT hk_x   S l2 (1 : Int32) _ _ _ hH hS hl hm
def f_X9_readPiece (x : Nat) (S : m_M)  : Option m_M :=
    (m_ldi S (x + 1) 940 (m_ri S (x + 25) 6)).bind fun v1 =>
    m_call (f_X9_isLetter S v1) fun v3 S2 =>
    if v3 = 0 then (
    m_call (f_X9_isDigit S2 v1) fun v6 S5 =>
    if v6 = 0 then (
    if v1 = (32 : Int32) then (
    b_X9_readPiece_100 x S5) else (
    if v1 = (10 : Int32) then (
    b_X9_readPiece_100 x S5) else (
    if v1 = (59 : Int32) then (
    b_X9_readPiece_75 x S5 v1) else (
    if v1 = (60 : Int32) then (
    b_X9_readPiece_75 x S5 v1) else (
    if v1 = (61 : Int32) then (
    b_X9_readPiece_75 x S5 v1) else (
    if v1 = (62 : Int32) then (
    b_X9_readPiece_75 x S5 v1) else (
    if v1 = (40 : Int32) then (
    b_X9_readPiece_75 x S5 v1) else (
    if v1 = (41 : Int32) then (
    b_X9_readPiece_75 x S5 v1) else (
    b_X9_readPiece_80 x S5 v1 (0 : Int32)))))))))) else (
    b_X9_readPiece_21 x S5)) else (
    b_X9_readPiece_21 x S2)
set_option maxHeartbeats 4000000 in
set_option maxRecDepth 100000 in
theorem c_X9_readPiece {l : Launch} {G : m_G} {nx : Nat} {κ : Nat → Nat} {x : Nat} {S : m_M}  {res : m_M} (hT : m_Str κ) (hk_x : κ x = 12) (hm : f_X9_readPiece x S = some res) : m_Cv l yX9_readPiece cX9_readPiece 4 rm_X9_readPiece G nx κ [.ref (x + 25), .ref (x + 1)] S res := by
  refine m_Cv.of (by decide) (Nat.le_of_ble_eq_true rfl) ?_
  intro p e s m args below meth c ls X hr hH hl
  have hx := X.1.1
  have hb := X.1.2.1
  have hS : m_S G s s.heap [] := va_S.rf
  have hl : lv_has ls 4 [(0, .ref (x + 25)), (1, .ref (x + 1))] := hl
  rw [f_X9_readPiece] at hm
  refine lv_aload_n hx hb dX9_readPiece_0 rfl (lv_at hl 1 rfl) ?_
  refine lv_aload_n hx hb dX9_readPiece_1 rfl (lv_at hl 0 rfl) ?_
  refine r_geti X hH (k := 9) (a := (x + 25)) (j := 6) (m_lay_at hT hk_x (by decide) (i := 25) rfl) (by decide) rfl m_wi9 (by decide) in_2_15 rfl rfl dX9_readPiece_2 ?_
  obtain ⟨v1, h_v1, e_v1, hm⟩ := n_ldi hm
  refine n_bald X hH (n := 940) (m_lay_at hT hk_x (by decide) (i := 1) rfl) h_v1 e_v1 dX9_readPiece_5 ?_
  refine lv_istore_n (lv' := [(2, .int v1), (0, .ref (x + 25)), (1, .ref (x + 1))]) hx hb dX9_readPiece_6 rfl hl (by decide) rfl (fun ls hl => ?_)
  refine lv_iload_n hx hb dX9_readPiece_7 rfl (lv_at hl 0 rfl) ?_
  obtain ⟨v3, S2, e_S2, hm⟩ := m_call_of hm
  refine n_cSi X hH hS (c_X9_isLetter  hT  e_S2) mw_X9_isLetter in_3_152 rfl ⟨rfl, rfl⟩ ⟨Nat.le_of_ble_eq_true rfl, Nat.le_of_ble_eq_true rfl⟩ ⟨Nat.zero_le _, Nat.zero_le _⟩ hl.1 (Nat.le_of_ble_eq_true rfl) dX9_readPiece_8 (fun H locs hH hS => ?_)
  refine lv_if_ne (tgt := 21) hx hb dX9_readPiece_11 (by decide) (fun c4 => ?_) (fun c4 => ?_)
  · have hm := m_ite_f hm c4
    exact k_X9_readPiece_21 (x := x) X hr hT hk_x   S2 _ _ _ hH hS (lv_sub hl [1, 2] rfl) hm
  · have hm := m_ite_t hm c4
    refine lv_iload_n hx hb dX9_readPiece_14 rfl (lv_at hl 0 rfl) ?_
    obtain ⟨v6, S5, e_S5, hm⟩ := m_call_of hm
    refine n_cSi X hH hS (c_X9_isDigit  hT  e_S5) mw_X9_isDigit in_3_155 rfl ⟨rfl, rfl⟩ ⟨Nat.le_of_ble_eq_true rfl, Nat.le_of_ble_eq_true rfl⟩ ⟨Nat.zero_le _, Nat.zero_le _⟩ hl.1 (Nat.le_of_ble_eq_true rfl) dX9_readPiece_15 (fun H locs hH hS => ?_)
    refine lv_if_eq (tgt := 27) hx hb dX9_readPiece_18 (by decide) (fun c7 => ?_) (fun c7 => ?_)
    · have hm := m_ite_t hm c7
      refine lv_iload_n hx hb dX9_readPiece_27 rfl (lv_at hl 0 rfl) ?_
      refine lv_bipush (v := (32 : Int32)) hx hb dX9_readPiece_28 (by decide) ?_
      refine lv_icmp_eq (tgt := 100) hx hb dX9_readPiece_30 (by decide) (fun c8 => ?_) (fun c8 => ?_)
      · have hm := m_ite_t hm c8
        exact k_X9_readPiece_100 (x := x) X hr hT hk_x   S5 _ _ _ hH hS (lv_sub hl [1] rfl) hm
      · have hm := m_ite_f hm c8
        refine lv_iload_n hx hb dX9_readPiece_33 rfl (lv_at hl 0 rfl) ?_
        refine lv_bipush (v := (10 : Int32)) hx hb dX9_readPiece_34 (by decide) ?_
        refine lv_icmp_eq (tgt := 100) hx hb dX9_readPiece_36 (by decide) (fun c9 => ?_) (fun c9 => ?_)
        · have hm := m_ite_t hm c9
          exact k_X9_readPiece_100 (x := x) X hr hT hk_x   S5 _ _ _ hH hS (lv_sub hl [1] rfl) hm
        · have hm := m_ite_f hm c9
          refine lv_iload_n hx hb dX9_readPiece_39 rfl (lv_at hl 0 rfl) ?_
          refine lv_bipush (v := (59 : Int32)) hx hb dX9_readPiece_40 (by decide) ?_
          refine lv_icmp_eq (tgt := 75) hx hb dX9_readPiece_42 (by decide) (fun c10 => ?_) (fun c10 => ?_)
          · have hm := m_ite_t hm c10
            exact k_X9_readPiece_75 (x := x) X hr hT hk_x   S5 v1 _ _ _ hH hS (lv_sub hl [1, 0] rfl) hm
          · have hm := m_ite_f hm c10
            refine lv_iload_n hx hb dX9_readPiece_45 rfl (lv_at hl 0 rfl) ?_
            refine lv_bipush (v := (60 : Int32)) hx hb dX9_readPiece_46 (by decide) ?_
            refine lv_icmp_eq (tgt := 75) hx hb dX9_readPiece_48 (by decide) (fun c11 => ?_) (fun c11 => ?_)
            · have hm := m_ite_t hm c11
              exact k_X9_readPiece_75 (x := x) X hr hT hk_x   S5 v1 _ _ _ hH hS (lv_sub hl [1, 0] rfl) hm
            · have hm := m_ite_f hm c11
              refine lv_iload_n hx hb dX9_readPiece_51 rfl (lv_at hl 0 rfl) ?_
              refine lv_bipush (v := (61 : Int32)) hx hb dX9_readPiece_52 (by decide) ?_
              refine lv_icmp_eq (tgt := 75) hx hb dX9_readPiece_54 (by decide) (fun c12 => ?_) (fun c12 => ?_)
              · have hm := m_ite_t hm c12
                exact k_X9_readPiece_75 (x := x) X hr hT hk_x   S5 v1 _ _ _ hH hS (lv_sub hl [1, 0] rfl) hm
              · have hm := m_ite_f hm c12
                refine lv_iload_n hx hb dX9_readPiece_57 rfl (lv_at hl 0 rfl) ?_
                refine lv_bipush (v := (62 : Int32)) hx hb dX9_readPiece_58 (by decide) ?_
                refine lv_icmp_eq (tgt := 75) hx hb dX9_readPiece_60 (by decide) (fun c13 => ?_) (fun c13 => ?_)
                · have hm := m_ite_t hm c13
                  exact k_X9_readPiece_75 (x := x) X hr hT hk_x   S5 v1 _ _ _ hH hS (lv_sub hl [1, 0] rfl) hm
                · have hm := m_ite_f hm c13
                  refine lv_iload_n hx hb dX9_readPiece_63 rfl (lv_at hl 0 rfl) ?_
                  refine lv_bipush (v := (40 : Int32)) hx hb dX9_readPiece_64 (by decide) ?_
                  refine lv_icmp_eq (tgt := 75) hx hb dX9_readPiece_66 (by decide) (fun c14 => ?_) (fun c14 => ?_)
                  · have hm := m_ite_t hm c14
                    exact k_X9_readPiece_75 (x := x) X hr hT hk_x   S5 v1 _ _ _ hH hS (lv_sub hl [1, 0] rfl) hm
                  · have hm := m_ite_f hm c14
                    refine lv_iload_n hx hb dX9_readPiece_69 rfl (lv_at hl 0 rfl) ?_
                    refine lv_bipush (v := (41 : Int32)) hx hb dX9_readPiece_70 (by decide) ?_
                    refine lv_icmp_ne (tgt := 79) hx hb dX9_readPiece_72 (by decide) (fun c15 => ?_) (fun c15 => ?_)
                    · have hm := m_ite_f hm c15
                      refine lv_iconst (v := (0 : Int32)) hx hb dX9_readPiece_79 (by decide) ?_
                      exact k_X9_readPiece_80 (x := x) X hr hT hk_x   S5 v1 (0 : Int32) _ _ _ hH hS (lv_sub hl [1, 0] rfl) hm
                    · have hm := m_ite_t hm c15
                      exact k_X9_readPiece_75 (x := x) X hr hT hk_x   S5 v1 _ _ _ hH hS (lv_sub hl [1, 0] rfl) hm
    · have hm := m_ite_f hm c7
      exact k_X9_readPiece_21 (x := x) X hr hT hk_x   S5 _ _ _ hH hS (lv_sub hl [1, 2] rfl) hm
def rm_X9s_readPiece : Room := { frames := 2, cells := 0, slots := 0, locals := 51 }
def b_X9s_readPiece_21 (x : Nat)  (S : m_M)  : Option m_M :=
    m_cal0 (f_X9s_readLettersAndDigits x S) fun S1 =>
    some S1
set_option maxHeartbeats 4000000 in
set_option maxRecDepth 100000 in
theorem k_X9s_readPiece_21 {p : Program} {l : Launch} {e : Env} {s : State} {m : MethodId} {args : Array Value} {below : List Frame} {meth : Method} {c : Code} {G : m_G} {nx : Nat} {κ : Nat → Nat} {res : m_M} {x : Nat} (X : m_Cx p s m args meth c cX9_readPiece 4 RX9 G) (hr : meth.sig.returnType = none) (hT : m_Str κ) (hk_x : κ x = 12)  : ∀ (S : m_M)  (H : Heap) (locs : List Loc) (ls : Array Slot), m_H G nx κ S H → m_S G s H locs → lv_has ls 4 [(0, .ref (x + 37)), (1, .ref (x + 1))] → b_X9s_readPiece_21 x S  = some res → W p l e rm_X9s_readPiece s m args below meth c H locs 0 0 (m_Qv below args s G nx κ res) (F0 m 21 ls []) := by
  have hx := X.1.1
  have hb := X.1.2.1
  intro S H locs ls hH hS hl hm
  rw [b_X9s_readPiece_21] at hm
  refine lv_aload_n hx hb dX9_readPiece_21 rfl (lv_at hl 0 rfl) ?_
  refine lv_aload_n hx hb dX9_readPiece_22 rfl (lv_at hl 1 rfl) ?_
  obtain ⟨S1, e_S1, hm⟩ := m_cal0_of hm
  refine r_cVv X hH hS (k := 9) (c_X9s_readLettersAndDigits (x := x) hT hk_x e_S1) mw_X9_readLettersAndDigits in_3_158 (m_lay_at hT hk_x (by decide) (i := 37) rfl) (by decide) rfl rfl rfl ⟨rfl, rfl⟩ ⟨Nat.le_of_ble_eq_true rfl, Nat.le_of_ble_eq_true rfl⟩ ⟨Nat.zero_le _, Nat.zero_le _⟩ hl.1 (Nat.le_of_ble_eq_true rfl) dX9_readPiece_23 (fun H locs hH hS => ?_)
  exact r_vret X hr hH hS hm dX9_readPiece_26
def b_X9s_readPiece_100 (x : Nat)  (S : m_M)  : Option m_M :=
    m_let (m_si S (x + 37) 6 ((m_ri S (x + 37) 6) + (1 : Int32))) fun S1 =>
    some S1
set_option maxHeartbeats 4000000 in
set_option maxRecDepth 100000 in
theorem k_X9s_readPiece_100 {p : Program} {l : Launch} {e : Env} {s : State} {m : MethodId} {args : Array Value} {below : List Frame} {meth : Method} {c : Code} {G : m_G} {nx : Nat} {κ : Nat → Nat} {res : m_M} {x : Nat} (X : m_Cx p s m args meth c cX9_readPiece 4 RX9 G) (hr : meth.sig.returnType = none) (hT : m_Str κ) (hk_x : κ x = 12)  : ∀ (S : m_M)  (H : Heap) (locs : List Loc) (ls : Array Slot), m_H G nx κ S H → m_S G s H locs → lv_has ls 4 [(0, .ref (x + 37))] → b_X9s_readPiece_100 x S  = some res → W p l e rm_X9s_readPiece s m args below meth c H locs 0 0 (m_Qv below args s G nx κ res) (F0 m 100 ls []) := by
  have hx := X.1.1
  have hb := X.1.2.1
  intro S H locs ls hH hS hl hm
  rw [b_X9s_readPiece_100] at hm
  refine lv_aload_n hx hb dX9_readPiece_100 rfl (lv_at hl 0 rfl) ?_
  refine lv_dup hx hb dX9_readPiece_101 rfl ?_
  refine r_geti X hH (k := 9) (a := (x + 37)) (j := 6) (m_lay_at hT hk_x (by decide) (i := 37) rfl) (by decide) rfl m_wi9 (by decide) in_2_15 rfl rfl dX9_readPiece_102 ?_
  refine lv_iconst (v := (1 : Int32)) hx hb dX9_readPiece_105 (by decide) ?_
  refine lv_iadd hx hb dX9_readPiece_106 ?_
  obtain ⟨S1, e_S1, hm⟩ := m_let_of hm
  refine n_puti X hH hS tyX9 (k := 9) (a := (x + 37)) (j := 6) (m_lay_at hT hk_x (by decide) (i := 37) rfl) (by decide) rfl m_wi9 tyX9_ok nmX9 (by decide) in_2_15 rfl rfl rfl ⟨rfl, rfl⟩ e_S1 dX9_readPiece_107 (fun H locs hH hS => ?_)
  exact r_vret X hr hH hS hm dX9_readPiece_110
def b_X9s_readPiece_91 (x : Nat)  (S : m_M) (l2 : Int32) (t1 : Int32) : Option m_M :=
    m_cal0 (f_X9s_put x S t1 (m_ri S (x + 37) 6) l2.toInt64) fun S1 =>
    b_X9s_readPiece_100 x S1
set_option maxHeartbeats 4000000 in
set_option maxRecDepth 100000 in
theorem k_X9s_readPiece_91 {p : Program} {l : Launch} {e : Env} {s : State} {m : MethodId} {args : Array Value} {below : List Frame} {meth : Method} {c : Code} {G : m_G} {nx : Nat} {κ : Nat → Nat} {res : m_M} {x : Nat} (X : m_Cx p s m args meth c cX9_readPiece 4 RX9 G) (hr : meth.sig.returnType = none) (hT : m_Str κ) (hk_x : κ x = 12)  : ∀ (S : m_M) (l2 : Int32) (t1 : Int32) (H : Heap) (locs : List Loc) (ls : Array Slot), m_H G nx κ S H → m_S G s H locs → lv_has ls 4 [(0, .ref (x + 37)), (2, .int l2)] → b_X9s_readPiece_91 x S l2 t1 = some res → W p l e rm_X9s_readPiece s m args below meth c H locs 0 0 (m_Qv below args s G nx κ res) (F0 m 91 ls [.int t1, .ref (x + 37)]) := by
  have hx := X.1.1
  have hb := X.1.2.1
  intro S l2 t1 H locs ls hH hS hl hm
  rw [b_X9s_readPiece_91] at hm
  refine lv_aload_n hx hb dX9_readPiece_91 rfl (lv_at hl 0 rfl) ?_
  refine r_geti X hH (k := 9) (a := (x + 37)) (j := 6) (m_lay_at hT hk_x (by decide) (i := 37) rfl) (by decide) rfl m_wi9 (by decide) in_2_15 rfl rfl dX9_readPiece_92 ?_
  refine lv_iload_n hx hb dX9_readPiece_95 rfl (lv_at hl 1 rfl) ?_
  refine lv_i2l hx hb dX9_readPiece_96 rfl ?_
  obtain ⟨S1, e_S1, hm⟩ := m_cal0_of hm
  refine r_cVv X hH hS (k := 9) (c_X9s_put (x := x) hT hk_x e_S1) mw_X9_put in_3_166 (m_lay_at hT hk_x (by decide) (i := 37) rfl) (by decide) rfl rfl rfl ⟨rfl, rfl⟩ ⟨Nat.le_of_ble_eq_true rfl, Nat.le_of_ble_eq_true rfl⟩ ⟨Nat.zero_le _, Nat.zero_le _⟩ hl.1 (Nat.le_of_ble_eq_true rfl) dX9_readPiece_97 (fun H locs hH hS => ?_)
  exact k_X9s_readPiece_100 (x := x) X hr hT hk_x   S1 _ _ _ hH hS (lv_sub hl [0] rfl) hm
def b_X9s_readPiece_80 (x : Nat)  (S : m_M) (l2 : Int32) (t0 : Int32) : Option m_M :=
    if t0 = 0 then (
    b_X9s_readPiece_91 x S l2 (1 : Int32)) else (
    b_X9s_readPiece_91 x S l2 (5 : Int32))
set_option maxHeartbeats 4000000 in
set_option maxRecDepth 100000 in
theorem k_X9s_readPiece_80 {p : Program} {l : Launch} {e : Env} {s : State} {m : MethodId} {args : Array Value} {below : List Frame} {meth : Method} {c : Code} {G : m_G} {nx : Nat} {κ : Nat → Nat} {res : m_M} {x : Nat} (X : m_Cx p s m args meth c cX9_readPiece 4 RX9 G) (hr : meth.sig.returnType = none) (hT : m_Str κ) (hk_x : κ x = 12)  : ∀ (S : m_M) (l2 : Int32) (t0 : Int32) (H : Heap) (locs : List Loc) (ls : Array Slot), m_H G nx κ S H → m_S G s H locs → lv_has ls 4 [(0, .ref (x + 37)), (2, .int l2)] → b_X9s_readPiece_80 x S l2 t0 = some res → W p l e rm_X9s_readPiece s m args below meth c H locs 0 0 (m_Qv below args s G nx κ res) (F0 m 80 ls [.int t0]) := by
  have hx := X.1.1
  have hb := X.1.2.1
  intro S l2 t0 H locs ls hH hS hl hm
  rw [b_X9s_readPiece_80] at hm
  refine lv_istore_n (lv' := [(3, .int t0), (0, .ref (x + 37)), (2, .int l2)]) hx hb dX9_readPiece_80 rfl hl (by decide) rfl (fun ls hl => ?_)
  refine lv_aload_n hx hb dX9_readPiece_81 rfl (lv_at hl 1 rfl) ?_
  refine lv_iload_n hx hb dX9_readPiece_82 rfl (lv_at hl 0 rfl) ?_
  refine lv_if_eq (tgt := 90) hx hb dX9_readPiece_83 (by decide) (fun c1 => ?_) (fun c1 => ?_)
  · have hm := m_ite_t hm c1
    refine lv_iconst (v := (1 : Int32)) hx hb dX9_readPiece_90 (by decide) ?_
    exact k_X9s_readPiece_91 (x := x) X hr hT hk_x   S l2 (1 : Int32) _ _ _ hH hS (lv_sub hl [1, 2] rfl) hm
  · have hm := m_ite_f hm c1
    refine lv_iconst (v := (5 : Int32)) hx hb dX9_readPiece_86 (by decide) ?_
    refine lv_goto (tgt := 91) hx hb dX9_readPiece_87 (by decide) ?_
    exact k_X9s_readPiece_91 (x := x) X hr hT hk_x   S l2 (5 : Int32) _ _ _ hH hS (lv_sub hl [1, 2] rfl) hm
def b_X9s_readPiece_75 (x : Nat)  (S : m_M) (l2 : Int32) : Option m_M :=
    b_X9s_readPiece_80 x S l2 (1 : Int32)
set_option maxHeartbeats 4000000 in
set_option maxRecDepth 100000 in
theorem k_X9s_readPiece_75 {p : Program} {l : Launch} {e : Env} {s : State} {m : MethodId} {args : Array Value} {below : List Frame} {meth : Method} {c : Code} {G : m_G} {nx : Nat} {κ : Nat → Nat} {res : m_M} {x : Nat} (X : m_Cx p s m args meth c cX9_readPiece 4 RX9 G) (hr : meth.sig.returnType = none) (hT : m_Str κ) (hk_x : κ x = 12)  : ∀ (S : m_M) (l2 : Int32) (H : Heap) (locs : List Loc) (ls : Array Slot), m_H G nx κ S H → m_S G s H locs → lv_has ls 4 [(0, .ref (x + 37)), (2, .int l2)] → b_X9s_readPiece_75 x S l2 = some res → W p l e rm_X9s_readPiece s m args below meth c H locs 0 0 (m_Qv below args s G nx κ res) (F0 m 75 ls []) := by
  have hx := X.1.1
  have hb := X.1.2.1
  intro S l2 H locs ls hH hS hl hm
  rw [b_X9s_readPiece_75] at hm
  refine lv_iconst (v := (1 : Int32)) hx hb dX9_readPiece_75 (by decide) ?_
  refine lv_goto (tgt := 80) hx hb dX9_readPiece_76 (by decide) ?_
  exact k_X9s_readPiece_80 (x := x) X hr hT hk_x   S l2 (1 : Int32) _ _ _ hH hS hl hm
def f_X9s_readPiece (x : Nat) (S : m_M)  : Option m_M :=
    (m_ldi S (x + 1) 940 (m_ri S (x + 37) 6)).bind fun v1 =>
    m_call (f_X9_isLetter S v1) fun v3 S2 =>
    if v3 = 0 then (
    m_call (f_X9_isDigit S2 v1) fun v6 S5 =>
    if v6 = 0 then (
    if v1 = (32 : Int32) then (
    b_X9s_readPiece_100 x S5) else (
    if v1 = (10 : Int32) then (
    b_X9s_readPiece_100 x S5) else (
    if v1 = (59 : Int32) then (
    b_X9s_readPiece_75 x S5 v1) else (
    if v1 = (60 : Int32) then (
    b_X9s_readPiece_75 x S5 v1) else (
    if v1 = (61 : Int32) then (
    b_X9s_readPiece_75 x S5 v1) else (
    if v1 = (62 : Int32) then (
    b_X9s_readPiece_75 x S5 v1) else (
    if v1 = (40 : Int32) then (
    b_X9s_readPiece_75 x S5 v1) else (
    if v1 = (41 : Int32) then (
    b_X9s_readPiece_75 x S5 v1) else (
    b_X9s_readPiece_80 x S5 v1 (0 : Int32)))))))))) else (
    b_X9s_readPiece_21 x S5)) else (
    b_X9s_readPiece_21 x S2)
set_option maxHeartbeats 4000000 in
set_option maxRecDepth 100000 in
theorem c_X9s_readPiece {l : Launch} {G : m_G} {nx : Nat} {κ : Nat → Nat} {x : Nat} {S : m_M}  {res : m_M} (hT : m_Str κ) (hk_x : κ x = 12) (hm : f_X9s_readPiece x S = some res) : m_Cv l yX9_readPiece cX9_readPiece 4 rm_X9s_readPiece G nx κ [.ref (x + 37), .ref (x + 1)] S res := by
  refine m_Cv.of (by decide) (Nat.le_of_ble_eq_true rfl) ?_
  intro p e s m args below meth c ls X hr hH hl
  have hx := X.1.1
  have hb := X.1.2.1
  have hS : m_S G s s.heap [] := va_S.rf
  have hl : lv_has ls 4 [(0, .ref (x + 37)), (1, .ref (x + 1))] := hl
  rw [f_X9s_readPiece] at hm
  refine lv_aload_n hx hb dX9_readPiece_0 rfl (lv_at hl 1 rfl) ?_
  refine lv_aload_n hx hb dX9_readPiece_1 rfl (lv_at hl 0 rfl) ?_
  refine r_geti X hH (k := 9) (a := (x + 37)) (j := 6) (m_lay_at hT hk_x (by decide) (i := 37) rfl) (by decide) rfl m_wi9 (by decide) in_2_15 rfl rfl dX9_readPiece_2 ?_
  obtain ⟨v1, h_v1, e_v1, hm⟩ := n_ldi hm
  refine n_bald X hH (n := 940) (m_lay_at hT hk_x (by decide) (i := 1) rfl) h_v1 e_v1 dX9_readPiece_5 ?_
  refine lv_istore_n (lv' := [(2, .int v1), (0, .ref (x + 37)), (1, .ref (x + 1))]) hx hb dX9_readPiece_6 rfl hl (by decide) rfl (fun ls hl => ?_)
  refine lv_iload_n hx hb dX9_readPiece_7 rfl (lv_at hl 0 rfl) ?_
  obtain ⟨v3, S2, e_S2, hm⟩ := m_call_of hm
  refine n_cSi X hH hS (c_X9_isLetter  hT  e_S2) mw_X9_isLetter in_3_152 rfl ⟨rfl, rfl⟩ ⟨Nat.le_of_ble_eq_true rfl, Nat.le_of_ble_eq_true rfl⟩ ⟨Nat.zero_le _, Nat.zero_le _⟩ hl.1 (Nat.le_of_ble_eq_true rfl) dX9_readPiece_8 (fun H locs hH hS => ?_)
  refine lv_if_ne (tgt := 21) hx hb dX9_readPiece_11 (by decide) (fun c4 => ?_) (fun c4 => ?_)
  · have hm := m_ite_f hm c4
    exact k_X9s_readPiece_21 (x := x) X hr hT hk_x   S2 _ _ _ hH hS (lv_sub hl [1, 2] rfl) hm
  · have hm := m_ite_t hm c4
    refine lv_iload_n hx hb dX9_readPiece_14 rfl (lv_at hl 0 rfl) ?_
    obtain ⟨v6, S5, e_S5, hm⟩ := m_call_of hm
    refine n_cSi X hH hS (c_X9_isDigit  hT  e_S5) mw_X9_isDigit in_3_155 rfl ⟨rfl, rfl⟩ ⟨Nat.le_of_ble_eq_true rfl, Nat.le_of_ble_eq_true rfl⟩ ⟨Nat.zero_le _, Nat.zero_le _⟩ hl.1 (Nat.le_of_ble_eq_true rfl) dX9_readPiece_15 (fun H locs hH hS => ?_)
    refine lv_if_eq (tgt := 27) hx hb dX9_readPiece_18 (by decide) (fun c7 => ?_) (fun c7 => ?_)
    · have hm := m_ite_t hm c7
      refine lv_iload_n hx hb dX9_readPiece_27 rfl (lv_at hl 0 rfl) ?_
      refine lv_bipush (v := (32 : Int32)) hx hb dX9_readPiece_28 (by decide) ?_
      refine lv_icmp_eq (tgt := 100) hx hb dX9_readPiece_30 (by decide) (fun c8 => ?_) (fun c8 => ?_)
      · have hm := m_ite_t hm c8
        exact k_X9s_readPiece_100 (x := x) X hr hT hk_x   S5 _ _ _ hH hS (lv_sub hl [1] rfl) hm
      · have hm := m_ite_f hm c8
        refine lv_iload_n hx hb dX9_readPiece_33 rfl (lv_at hl 0 rfl) ?_
        refine lv_bipush (v := (10 : Int32)) hx hb dX9_readPiece_34 (by decide) ?_
        refine lv_icmp_eq (tgt := 100) hx hb dX9_readPiece_36 (by decide) (fun c9 => ?_) (fun c9 => ?_)
        · have hm := m_ite_t hm c9
          exact k_X9s_readPiece_100 (x := x) X hr hT hk_x   S5 _ _ _ hH hS (lv_sub hl [1] rfl) hm
        · have hm := m_ite_f hm c9
          refine lv_iload_n hx hb dX9_readPiece_39 rfl (lv_at hl 0 rfl) ?_
          refine lv_bipush (v := (59 : Int32)) hx hb dX9_readPiece_40 (by decide) ?_
          refine lv_icmp_eq (tgt := 75) hx hb dX9_readPiece_42 (by decide) (fun c10 => ?_) (fun c10 => ?_)
          · have hm := m_ite_t hm c10
            exact k_X9s_readPiece_75 (x := x) X hr hT hk_x   S5 v1 _ _ _ hH hS (lv_sub hl [1, 0] rfl) hm
          · have hm := m_ite_f hm c10
            refine lv_iload_n hx hb dX9_readPiece_45 rfl (lv_at hl 0 rfl) ?_
            refine lv_bipush (v := (60 : Int32)) hx hb dX9_readPiece_46 (by decide) ?_
            refine lv_icmp_eq (tgt := 75) hx hb dX9_readPiece_48 (by decide) (fun c11 => ?_) (fun c11 => ?_)
            · have hm := m_ite_t hm c11
              exact k_X9s_readPiece_75 (x := x) X hr hT hk_x   S5 v1 _ _ _ hH hS (lv_sub hl [1, 0] rfl) hm
            · have hm := m_ite_f hm c11
              refine lv_iload_n hx hb dX9_readPiece_51 rfl (lv_at hl 0 rfl) ?_
              refine lv_bipush (v := (61 : Int32)) hx hb dX9_readPiece_52 (by decide) ?_
              refine lv_icmp_eq (tgt := 75) hx hb dX9_readPiece_54 (by decide) (fun c12 => ?_) (fun c12 => ?_)
              · have hm := m_ite_t hm c12
                exact k_X9s_readPiece_75 (x := x) X hr hT hk_x   S5 v1 _ _ _ hH hS (lv_sub hl [1, 0] rfl) hm
              · have hm := m_ite_f hm c12
                refine lv_iload_n hx hb dX9_readPiece_57 rfl (lv_at hl 0 rfl) ?_
                refine lv_bipush (v := (62 : Int32)) hx hb dX9_readPiece_58 (by decide) ?_
                refine lv_icmp_eq (tgt := 75) hx hb dX9_readPiece_60 (by decide) (fun c13 => ?_) (fun c13 => ?_)
                · have hm := m_ite_t hm c13
                  exact k_X9s_readPiece_75 (x := x) X hr hT hk_x   S5 v1 _ _ _ hH hS (lv_sub hl [1, 0] rfl) hm
                · have hm := m_ite_f hm c13
                  refine lv_iload_n hx hb dX9_readPiece_63 rfl (lv_at hl 0 rfl) ?_
                  refine lv_bipush (v := (40 : Int32)) hx hb dX9_readPiece_64 (by decide) ?_
                  refine lv_icmp_eq (tgt := 75) hx hb dX9_readPiece_66 (by decide) (fun c14 => ?_) (fun c14 => ?_)
                  · have hm := m_ite_t hm c14
                    exact k_X9s_readPiece_75 (x := x) X hr hT hk_x   S5 v1 _ _ _ hH hS (lv_sub hl [1, 0] rfl) hm
                  · have hm := m_ite_f hm c14
                    refine lv_iload_n hx hb dX9_readPiece_69 rfl (lv_at hl 0 rfl) ?_
                    refine lv_bipush (v := (41 : Int32)) hx hb dX9_readPiece_70 (by decide) ?_
                    refine lv_icmp_ne (tgt := 79) hx hb dX9_readPiece_72 (by decide) (fun c15 => ?_) (fun c15 => ?_)
                    · have hm := m_ite_f hm c15
                      refine lv_iconst (v := (0 : Int32)) hx hb dX9_readPiece_79 (by decide) ?_
                      exact k_X9s_readPiece_80 (x := x) X hr hT hk_x   S5 v1 (0 : Int32) _ _ _ hH hS (lv_sub hl [1, 0] rfl) hm
                    · have hm := m_ite_t hm c15
                      exact k_X9s_readPiece_75 (x := x) X hr hT hk_x   S5 v1 _ _ _ hH hS (lv_sub hl [1, 0] rfl) hm
    · have hm := m_ite_f hm c7
      exact k_X9s_readPiece_21 (x := x) X hr hT hk_x   S5 _ _ _ hH hS (lv_sub hl [1, 2] rfl) hm
def rm_X9_advance : Room := { frames := 0, cells := 0, slots := 0, locals := 0 }
def b_X9_advance_152 (x : Nat)  (S : m_M) (t1 : Int64) : Option m_M :=
    m_let (m_sj S (x + 25) 14 t1) fun S1 =>
    some S1
set_option maxHeartbeats 4000000 in
set_option maxRecDepth 100000 in
theorem k_X9_advance_152 {p : Program} {l : Launch} {e : Env} {s : State} {m : MethodId} {args : Array Value} {below : List Frame} {meth : Method} {c : Code} {G : m_G} {nx : Nat} {κ : Nat → Nat} {res : m_M} {x : Nat} (X : m_Cx p s m args meth c cX9_advance 1 RX9 G) (hr : meth.sig.returnType = none) (hT : m_Str κ) (hk_x : κ x = 12)  : ∀ (S : m_M) (t1 : Int64) (H : Heap) (locs : List Loc) (ls : Array Slot), m_H G nx κ S H → m_S G s H locs → lv_has ls 1 [] → b_X9_advance_152 x S t1 = some res → W p l e rm_X9_advance s m args below meth c H locs 0 0 (m_Qv below args s G nx κ res) (F0 m 152 ls [.long t1, .ref (x + 25)]) := by
  have hx := X.1.1
  have hb := X.1.2.1
  intro S t1 H locs ls hH hS hl hm
  rw [b_X9_advance_152] at hm
  obtain ⟨S1, e_S1, hm⟩ := m_let_of hm
  refine n_putj X hH hS tyX9 (k := 9) (a := (x + 25)) (j := 14) (m_lay_at hT hk_x (by decide) (i := 25) rfl) (by decide) rfl m_wi9 tyX9_ok nmX9 (by decide) in_2_30 rfl rfl rfl ⟨rfl, rfl⟩ e_S1 dX9_advance_152 (fun H locs hH hS => ?_)
  exact r_vret X hr hH hS hm dX9_advance_155
def b_X9_advance_125 (x : Nat)  (S : m_M) (t1 : Int32) : Option m_M :=
    m_let (m_si S (x + 25) 13 t1) fun S1 =>
    if (m_ri S1 (x + 25) 9) = (2 : Int32) then (
    (m_ldj S1 (x + 29) 901 (m_ri S1 (x + 25) 8)).bind fun v3 =>
    b_X9_advance_152 x S1 v3) else (
    b_X9_advance_152 x S1 (-1 : Int64))
set_option maxHeartbeats 4000000 in
set_option maxRecDepth 100000 in
theorem k_X9_advance_125 {p : Program} {l : Launch} {e : Env} {s : State} {m : MethodId} {args : Array Value} {below : List Frame} {meth : Method} {c : Code} {G : m_G} {nx : Nat} {κ : Nat → Nat} {res : m_M} {x : Nat} (X : m_Cx p s m args meth c cX9_advance 1 RX9 G) (hr : meth.sig.returnType = none) (hT : m_Str κ) (hk_x : κ x = 12)  : ∀ (S : m_M) (t1 : Int32) (H : Heap) (locs : List Loc) (ls : Array Slot), m_H G nx κ S H → m_S G s H locs → lv_has ls 1 [(0, .ref (x + 25))] → b_X9_advance_125 x S t1 = some res → W p l e rm_X9_advance s m args below meth c H locs 0 0 (m_Qv below args s G nx κ res) (F0 m 125 ls [.int t1, .ref (x + 25)]) := by
  have hx := X.1.1
  have hb := X.1.2.1
  intro S t1 H locs ls hH hS hl hm
  rw [b_X9_advance_125] at hm
  obtain ⟨S1, e_S1, hm⟩ := m_let_of hm
  refine n_puti X hH hS tyX9 (k := 9) (a := (x + 25)) (j := 13) (m_lay_at hT hk_x (by decide) (i := 25) rfl) (by decide) rfl m_wi9 tyX9_ok nmX9 (by decide) in_2_28 rfl rfl rfl ⟨rfl, rfl⟩ e_S1 dX9_advance_125 (fun H locs hH hS => ?_)
  refine lv_aload_n hx hb dX9_advance_128 rfl (lv_at hl 0 rfl) ?_
  refine lv_aload_n hx hb dX9_advance_129 rfl (lv_at hl 0 rfl) ?_
  refine r_geti X hH (k := 9) (a := (x + 25)) (j := 9) (m_lay_at hT hk_x (by decide) (i := 25) rfl) (by decide) rfl m_wi9 (by decide) in_2_18 rfl rfl dX9_advance_130 ?_
  refine lv_iconst (v := (2 : Int32)) hx hb dX9_advance_133 (by decide) ?_
  refine lv_icmp_ne (tgt := 149) hx hb dX9_advance_134 (by decide) (fun c2 => ?_) (fun c2 => ?_)
  · have hm := m_ite_f hm c2
    refine lv_ldc2 hx hb X.1.2.2.2.1 (m_w X in_1_192) dX9_advance_149 ?_
    exact k_X9_advance_152 (x := x) X hr hT hk_x   S1 (-1 : Int64) _ _ _ hH hS (lv_sub hl [] rfl) hm
  · have hm := m_ite_t hm c2
    refine lv_aload_n hx hb dX9_advance_137 rfl (lv_at hl 0 rfl) ?_
    refine r_getp X hH (k := 9) (a := (x + 25)) (j := 4) (b := (x + 29)) (A := 4) (B := 0) (m_lay_at hT hk_x (by decide) (i := 25) rfl) (by decide) rfl m_wi9 (by decide) in_2_13 rfl rfl rfl dX9_advance_138 ?_
    refine lv_aload_n hx hb dX9_advance_141 rfl (lv_at hl 0 rfl) ?_
    refine r_geti X hH (k := 9) (a := (x + 25)) (j := 8) (m_lay_at hT hk_x (by decide) (i := 25) rfl) (by decide) rfl m_wi9 (by decide) in_2_17 rfl rfl dX9_advance_142 ?_
    obtain ⟨v3, h_v3, e_v3, hm⟩ := n_ldj hm
    refine n_lald X hH (n := 901) (m_lay_at hT hk_x (by decide) (i := 29) rfl) h_v3 e_v3 dX9_advance_145 ?_
    refine lv_goto (tgt := 152) hx hb dX9_advance_146 (by decide) ?_
    exact k_X9_advance_152 (x := x) X hr hT hk_x   S1 v3 _ _ _ hH hS (lv_sub hl [] rfl) hm
def b_X9_advance_99 (x : Nat)  (S : m_M) (t1 : Int32) : Option m_M :=
    m_let (m_si S (x + 25) 12 t1) fun S1 =>
    if (m_ri S1 (x + 25) 9) = (5 : Int32) then (
    (m_ldj S1 (x + 29) 901 (m_ri S1 (x + 25) 8)).bind fun v3 =>
    b_X9_advance_125 x S1 v3.toInt32) else (
    b_X9_advance_125 x S1 (-1 : Int32))
set_option maxHeartbeats 4000000 in
set_option maxRecDepth 100000 in
theorem k_X9_advance_99 {p : Program} {l : Launch} {e : Env} {s : State} {m : MethodId} {args : Array Value} {below : List Frame} {meth : Method} {c : Code} {G : m_G} {nx : Nat} {κ : Nat → Nat} {res : m_M} {x : Nat} (X : m_Cx p s m args meth c cX9_advance 1 RX9 G) (hr : meth.sig.returnType = none) (hT : m_Str κ) (hk_x : κ x = 12)  : ∀ (S : m_M) (t1 : Int32) (H : Heap) (locs : List Loc) (ls : Array Slot), m_H G nx κ S H → m_S G s H locs → lv_has ls 1 [(0, .ref (x + 25))] → b_X9_advance_99 x S t1 = some res → W p l e rm_X9_advance s m args below meth c H locs 0 0 (m_Qv below args s G nx κ res) (F0 m 99 ls [.int t1, .ref (x + 25)]) := by
  have hx := X.1.1
  have hb := X.1.2.1
  intro S t1 H locs ls hH hS hl hm
  rw [b_X9_advance_99] at hm
  obtain ⟨S1, e_S1, hm⟩ := m_let_of hm
  refine n_puti X hH hS tyX9 (k := 9) (a := (x + 25)) (j := 12) (m_lay_at hT hk_x (by decide) (i := 25) rfl) (by decide) rfl m_wi9 tyX9_ok nmX9 (by decide) in_2_25 rfl rfl rfl ⟨rfl, rfl⟩ e_S1 dX9_advance_99 (fun H locs hH hS => ?_)
  refine lv_aload_n hx hb dX9_advance_102 rfl (lv_at hl 0 rfl) ?_
  refine lv_aload_n hx hb dX9_advance_103 rfl (lv_at hl 0 rfl) ?_
  refine r_geti X hH (k := 9) (a := (x + 25)) (j := 9) (m_lay_at hT hk_x (by decide) (i := 25) rfl) (by decide) rfl m_wi9 (by decide) in_2_18 rfl rfl dX9_advance_104 ?_
  refine lv_iconst (v := (5 : Int32)) hx hb dX9_advance_107 (by decide) ?_
  refine lv_icmp_ne (tgt := 124) hx hb dX9_advance_108 (by decide) (fun c2 => ?_) (fun c2 => ?_)
  · have hm := m_ite_f hm c2
    refine lv_iconst (v := (-1 : Int32)) hx hb dX9_advance_124 (by decide) ?_
    exact k_X9_advance_125 (x := x) X hr hT hk_x   S1 (-1 : Int32) _ _ _ hH hS hl hm
  · have hm := m_ite_t hm c2
    refine lv_aload_n hx hb dX9_advance_111 rfl (lv_at hl 0 rfl) ?_
    refine r_getp X hH (k := 9) (a := (x + 25)) (j := 4) (b := (x + 29)) (A := 4) (B := 0) (m_lay_at hT hk_x (by decide) (i := 25) rfl) (by decide) rfl m_wi9 (by decide) in_2_13 rfl rfl rfl dX9_advance_112 ?_
    refine lv_aload_n hx hb dX9_advance_115 rfl (lv_at hl 0 rfl) ?_
    refine r_geti X hH (k := 9) (a := (x + 25)) (j := 8) (m_lay_at hT hk_x (by decide) (i := 25) rfl) (by decide) rfl m_wi9 (by decide) in_2_17 rfl rfl dX9_advance_116 ?_
    obtain ⟨v3, h_v3, e_v3, hm⟩ := n_ldj hm
    refine n_lald X hH (n := 901) (m_lay_at hT hk_x (by decide) (i := 29) rfl) h_v3 e_v3 dX9_advance_119 ?_
    refine lv_l2i hx hb dX9_advance_120 rfl ?_
    refine lv_goto (tgt := 125) hx hb dX9_advance_121 (by decide) ?_
    exact k_X9_advance_125 (x := x) X hr hT hk_x   S1 v3.toInt32 _ _ _ hH hS hl hm
def b_X9_advance_73 (x : Nat)  (S : m_M) (t1 : Int32) : Option m_M :=
    m_let (m_si S (x + 25) 11 t1) fun S1 =>
    if (m_ri S1 (x + 25) 9) = (4 : Int32) then (
    (m_ldj S1 (x + 29) 901 (m_ri S1 (x + 25) 8)).bind fun v3 =>
    b_X9_advance_99 x S1 v3.toInt32) else (
    b_X9_advance_99 x S1 (-1 : Int32))
set_option maxHeartbeats 4000000 in
set_option maxRecDepth 100000 in
theorem k_X9_advance_73 {p : Program} {l : Launch} {e : Env} {s : State} {m : MethodId} {args : Array Value} {below : List Frame} {meth : Method} {c : Code} {G : m_G} {nx : Nat} {κ : Nat → Nat} {res : m_M} {x : Nat} (X : m_Cx p s m args meth c cX9_advance 1 RX9 G) (hr : meth.sig.returnType = none) (hT : m_Str κ) (hk_x : κ x = 12)  : ∀ (S : m_M) (t1 : Int32) (H : Heap) (locs : List Loc) (ls : Array Slot), m_H G nx κ S H → m_S G s H locs → lv_has ls 1 [(0, .ref (x + 25))] → b_X9_advance_73 x S t1 = some res → W p l e rm_X9_advance s m args below meth c H locs 0 0 (m_Qv below args s G nx κ res) (F0 m 73 ls [.int t1, .ref (x + 25)]) := by
  have hx := X.1.1
  have hb := X.1.2.1
  intro S t1 H locs ls hH hS hl hm
  rw [b_X9_advance_73] at hm
  obtain ⟨S1, e_S1, hm⟩ := m_let_of hm
  refine n_puti X hH hS tyX9 (k := 9) (a := (x + 25)) (j := 11) (m_lay_at hT hk_x (by decide) (i := 25) rfl) (by decide) rfl m_wi9 tyX9_ok nmX9 (by decide) in_2_22 rfl rfl rfl ⟨rfl, rfl⟩ e_S1 dX9_advance_73 (fun H locs hH hS => ?_)
  refine lv_aload_n hx hb dX9_advance_76 rfl (lv_at hl 0 rfl) ?_
  refine lv_aload_n hx hb dX9_advance_77 rfl (lv_at hl 0 rfl) ?_
  refine r_geti X hH (k := 9) (a := (x + 25)) (j := 9) (m_lay_at hT hk_x (by decide) (i := 25) rfl) (by decide) rfl m_wi9 (by decide) in_2_18 rfl rfl dX9_advance_78 ?_
  refine lv_iconst (v := (4 : Int32)) hx hb dX9_advance_81 (by decide) ?_
  refine lv_icmp_ne (tgt := 98) hx hb dX9_advance_82 (by decide) (fun c2 => ?_) (fun c2 => ?_)
  · have hm := m_ite_f hm c2
    refine lv_iconst (v := (-1 : Int32)) hx hb dX9_advance_98 (by decide) ?_
    exact k_X9_advance_99 (x := x) X hr hT hk_x   S1 (-1 : Int32) _ _ _ hH hS hl hm
  · have hm := m_ite_t hm c2
    refine lv_aload_n hx hb dX9_advance_85 rfl (lv_at hl 0 rfl) ?_
    refine r_getp X hH (k := 9) (a := (x + 25)) (j := 4) (b := (x + 29)) (A := 4) (B := 0) (m_lay_at hT hk_x (by decide) (i := 25) rfl) (by decide) rfl m_wi9 (by decide) in_2_13 rfl rfl rfl dX9_advance_86 ?_
    refine lv_aload_n hx hb dX9_advance_89 rfl (lv_at hl 0 rfl) ?_
    refine r_geti X hH (k := 9) (a := (x + 25)) (j := 8) (m_lay_at hT hk_x (by decide) (i := 25) rfl) (by decide) rfl m_wi9 (by decide) in_2_17 rfl rfl dX9_advance_90 ?_
    obtain ⟨v3, h_v3, e_v3, hm⟩ := n_ldj hm
    refine n_lald X hH (n := 901) (m_lay_at hT hk_x (by decide) (i := 29) rfl) h_v3 e_v3 dX9_advance_93 ?_
    refine lv_l2i hx hb dX9_advance_94 rfl ?_
    refine lv_goto (tgt := 99) hx hb dX9_advance_95 (by decide) ?_
    exact k_X9_advance_99 (x := x) X hr hT hk_x   S1 v3.toInt32 _ _ _ hH hS hl hm
def f_X9_advance (x : Nat) (S : m_M)  : Option m_M :=
    if ((m_ri S (x + 25) 8) + (1 : Int32)) < (m_ri S (x + 25) 7) then (
    m_let (m_si S (x + 25) 8 ((m_ri S (x + 25) 8) + (1 : Int32))) fun S2 =>
    (m_ldi S2 (x + 27) 901 (m_ri S2 (x + 25) 8)).bind fun v3 =>
    m_let (m_si S2 (x + 25) 9 v3) fun S4 =>
    (m_ldi S4 (x + 28) 901 (m_ri S4 (x + 25) 8)).bind fun v5 =>
    m_let (m_si S4 (x + 25) 10 v5) fun S6 =>
    if (m_ri S6 (x + 25) 9) = (3 : Int32) then (
    (m_ldj S6 (x + 29) 901 (m_ri S6 (x + 25) 8)).bind fun v8 =>
    b_X9_advance_73 x S6 v8.toInt32) else (
    b_X9_advance_73 x S6 (-1 : Int32))) else (
    some S)
set_option maxHeartbeats 4000000 in
set_option maxRecDepth 100000 in
theorem c_X9_advance {l : Launch} {G : m_G} {nx : Nat} {κ : Nat → Nat} {x : Nat} {S : m_M}  {res : m_M} (hT : m_Str κ) (hk_x : κ x = 12) (hm : f_X9_advance x S = some res) : m_Cv l yX9_advance cX9_advance 1 rm_X9_advance G nx κ [.ref (x + 25)] S res := by
  refine m_Cv.of (by decide) (Nat.le_of_ble_eq_true rfl) ?_
  intro p e s m args below meth c ls X hr hH hl
  have hx := X.1.1
  have hb := X.1.2.1
  have hS : m_S G s s.heap [] := va_S.rf
  have hl : lv_has ls 1 [(0, .ref (x + 25))] := hl
  rw [f_X9_advance] at hm
  refine lv_aload_n hx hb dX9_advance_0 rfl (lv_at hl 0 rfl) ?_
  refine r_geti X hH (k := 9) (a := (x + 25)) (j := 8) (m_lay_at hT hk_x (by decide) (i := 25) rfl) (by decide) rfl m_wi9 (by decide) in_2_17 rfl rfl dX9_advance_1 ?_
  refine lv_iconst (v := (1 : Int32)) hx hb dX9_advance_4 (by decide) ?_
  refine lv_iadd hx hb dX9_advance_5 ?_
  refine lv_aload_n hx hb dX9_advance_6 rfl (lv_at hl 0 rfl) ?_
  refine r_geti X hH (k := 9) (a := (x + 25)) (j := 7) (m_lay_at hT hk_x (by decide) (i := 25) rfl) (by decide) rfl m_wi9 (by decide) in_2_16 rfl rfl dX9_advance_7 ?_
  refine lv_icmp_lt (tgt := 14) hx hb dX9_advance_10 (by decide) (fun c1 => ?_) (fun c1 => ?_)
  · have hm := m_ite_t hm c1
    refine lv_aload_n hx hb dX9_advance_14 rfl (lv_at hl 0 rfl) ?_
    refine lv_dup hx hb dX9_advance_15 rfl ?_
    refine r_geti X hH (k := 9) (a := (x + 25)) (j := 8) (m_lay_at hT hk_x (by decide) (i := 25) rfl) (by decide) rfl m_wi9 (by decide) in_2_17 rfl rfl dX9_advance_16 ?_
    refine lv_iconst (v := (1 : Int32)) hx hb dX9_advance_19 (by decide) ?_
    refine lv_iadd hx hb dX9_advance_20 ?_
    obtain ⟨S2, e_S2, hm⟩ := m_let_of hm
    refine n_puti X hH hS tyX9 (k := 9) (a := (x + 25)) (j := 8) (m_lay_at hT hk_x (by decide) (i := 25) rfl) (by decide) rfl m_wi9 tyX9_ok nmX9 (by decide) in_2_17 rfl rfl rfl ⟨rfl, rfl⟩ e_S2 dX9_advance_21 (fun H locs hH hS => ?_)
    refine lv_aload_n hx hb dX9_advance_24 rfl (lv_at hl 0 rfl) ?_
    refine lv_aload_n hx hb dX9_advance_25 rfl (lv_at hl 0 rfl) ?_
    refine r_getp X hH (k := 9) (a := (x + 25)) (j := 2) (b := (x + 27)) (A := 2) (B := 0) (m_lay_at hT hk_x (by decide) (i := 25) rfl) (by decide) rfl m_wi9 (by decide) in_2_11 rfl rfl rfl dX9_advance_26 ?_
    refine lv_aload_n hx hb dX9_advance_29 rfl (lv_at hl 0 rfl) ?_
    refine r_geti X hH (k := 9) (a := (x + 25)) (j := 8) (m_lay_at hT hk_x (by decide) (i := 25) rfl) (by decide) rfl m_wi9 (by decide) in_2_17 rfl rfl dX9_advance_30 ?_
    obtain ⟨v3, h_v3, e_v3, hm⟩ := n_ldi hm
    refine n_iald X hH (n := 901) (m_lay_at hT hk_x (by decide) (i := 27) rfl) h_v3 e_v3 dX9_advance_33 ?_
    obtain ⟨S4, e_S4, hm⟩ := m_let_of hm
    refine n_puti X hH hS tyX9 (k := 9) (a := (x + 25)) (j := 9) (m_lay_at hT hk_x (by decide) (i := 25) rfl) (by decide) rfl m_wi9 tyX9_ok nmX9 (by decide) in_2_18 rfl rfl rfl ⟨rfl, rfl⟩ e_S4 dX9_advance_34 (fun H locs hH hS => ?_)
    refine lv_aload_n hx hb dX9_advance_37 rfl (lv_at hl 0 rfl) ?_
    refine lv_aload_n hx hb dX9_advance_38 rfl (lv_at hl 0 rfl) ?_
    refine r_getp X hH (k := 9) (a := (x + 25)) (j := 3) (b := (x + 28)) (A := 3) (B := 0) (m_lay_at hT hk_x (by decide) (i := 25) rfl) (by decide) rfl m_wi9 (by decide) in_2_12 rfl rfl rfl dX9_advance_39 ?_
    refine lv_aload_n hx hb dX9_advance_42 rfl (lv_at hl 0 rfl) ?_
    refine r_geti X hH (k := 9) (a := (x + 25)) (j := 8) (m_lay_at hT hk_x (by decide) (i := 25) rfl) (by decide) rfl m_wi9 (by decide) in_2_17 rfl rfl dX9_advance_43 ?_
    obtain ⟨v5, h_v5, e_v5, hm⟩ := n_ldi hm
    refine n_iald X hH (n := 901) (m_lay_at hT hk_x (by decide) (i := 28) rfl) h_v5 e_v5 dX9_advance_46 ?_
    obtain ⟨S6, e_S6, hm⟩ := m_let_of hm
    refine n_puti X hH hS tyX9 (k := 9) (a := (x + 25)) (j := 10) (m_lay_at hT hk_x (by decide) (i := 25) rfl) (by decide) rfl m_wi9 tyX9_ok nmX9 (by decide) in_2_21 rfl rfl rfl ⟨rfl, rfl⟩ e_S6 dX9_advance_47 (fun H locs hH hS => ?_)
    refine lv_aload_n hx hb dX9_advance_50 rfl (lv_at hl 0 rfl) ?_
    refine lv_aload_n hx hb dX9_advance_51 rfl (lv_at hl 0 rfl) ?_
    refine r_geti X hH (k := 9) (a := (x + 25)) (j := 9) (m_lay_at hT hk_x (by decide) (i := 25) rfl) (by decide) rfl m_wi9 (by decide) in_2_18 rfl rfl dX9_advance_52 ?_
    refine lv_iconst (v := (3 : Int32)) hx hb dX9_advance_55 (by decide) ?_
    refine lv_icmp_ne (tgt := 72) hx hb dX9_advance_56 (by decide) (fun c7 => ?_) (fun c7 => ?_)
    · have hm := m_ite_f hm c7
      refine lv_iconst (v := (-1 : Int32)) hx hb dX9_advance_72 (by decide) ?_
      exact k_X9_advance_73 (x := x) X hr hT hk_x   S6 (-1 : Int32) _ _ _ hH hS hl hm
    · have hm := m_ite_t hm c7
      refine lv_aload_n hx hb dX9_advance_59 rfl (lv_at hl 0 rfl) ?_
      refine r_getp X hH (k := 9) (a := (x + 25)) (j := 4) (b := (x + 29)) (A := 4) (B := 0) (m_lay_at hT hk_x (by decide) (i := 25) rfl) (by decide) rfl m_wi9 (by decide) in_2_13 rfl rfl rfl dX9_advance_60 ?_
      refine lv_aload_n hx hb dX9_advance_63 rfl (lv_at hl 0 rfl) ?_
      refine r_geti X hH (k := 9) (a := (x + 25)) (j := 8) (m_lay_at hT hk_x (by decide) (i := 25) rfl) (by decide) rfl m_wi9 (by decide) in_2_17 rfl rfl dX9_advance_64 ?_
      obtain ⟨v8, h_v8, e_v8, hm⟩ := n_ldj hm
      refine n_lald X hH (n := 901) (m_lay_at hT hk_x (by decide) (i := 29) rfl) h_v8 e_v8 dX9_advance_67 ?_
      refine lv_l2i hx hb dX9_advance_68 rfl ?_
      refine lv_goto (tgt := 73) hx hb dX9_advance_69 (by decide) ?_
      exact k_X9_advance_73 (x := x) X hr hT hk_x   S6 v8.toInt32 _ _ _ hH hS hl hm
  · have hm := m_ite_f hm c1
    exact r_vret X hr hH hS hm dX9_advance_13
def rm_X9s_advance : Room := { frames := 0, cells := 0, slots := 0, locals := 0 }
def b_X9s_advance_152 (x : Nat)  (S : m_M) (t1 : Int64) : Option m_M :=
    m_let (m_sj S (x + 37) 14 t1) fun S1 =>
    some S1
set_option maxHeartbeats 4000000 in
set_option maxRecDepth 100000 in
theorem k_X9s_advance_152 {p : Program} {l : Launch} {e : Env} {s : State} {m : MethodId} {args : Array Value} {below : List Frame} {meth : Method} {c : Code} {G : m_G} {nx : Nat} {κ : Nat → Nat} {res : m_M} {x : Nat} (X : m_Cx p s m args meth c cX9_advance 1 RX9 G) (hr : meth.sig.returnType = none) (hT : m_Str κ) (hk_x : κ x = 12)  : ∀ (S : m_M) (t1 : Int64) (H : Heap) (locs : List Loc) (ls : Array Slot), m_H G nx κ S H → m_S G s H locs → lv_has ls 1 [] → b_X9s_advance_152 x S t1 = some res → W p l e rm_X9s_advance s m args below meth c H locs 0 0 (m_Qv below args s G nx κ res) (F0 m 152 ls [.long t1, .ref (x + 37)]) := by
  have hx := X.1.1
  have hb := X.1.2.1
  intro S t1 H locs ls hH hS hl hm
  rw [b_X9s_advance_152] at hm
  obtain ⟨S1, e_S1, hm⟩ := m_let_of hm
  refine n_putj X hH hS tyX9 (k := 9) (a := (x + 37)) (j := 14) (m_lay_at hT hk_x (by decide) (i := 37) rfl) (by decide) rfl m_wi9 tyX9_ok nmX9 (by decide) in_2_30 rfl rfl rfl ⟨rfl, rfl⟩ e_S1 dX9_advance_152 (fun H locs hH hS => ?_)
  exact r_vret X hr hH hS hm dX9_advance_155
def b_X9s_advance_125 (x : Nat)  (S : m_M) (t1 : Int32) : Option m_M :=
    m_let (m_si S (x + 37) 13 t1) fun S1 =>
    if (m_ri S1 (x + 37) 9) = (2 : Int32) then (
    (m_ldj S1 (x + 41) 201 (m_ri S1 (x + 37) 8)).bind fun v3 =>
    b_X9s_advance_152 x S1 v3) else (
    b_X9s_advance_152 x S1 (-1 : Int64))
set_option maxHeartbeats 4000000 in
set_option maxRecDepth 100000 in
theorem k_X9s_advance_125 {p : Program} {l : Launch} {e : Env} {s : State} {m : MethodId} {args : Array Value} {below : List Frame} {meth : Method} {c : Code} {G : m_G} {nx : Nat} {κ : Nat → Nat} {res : m_M} {x : Nat} (X : m_Cx p s m args meth c cX9_advance 1 RX9 G) (hr : meth.sig.returnType = none) (hT : m_Str κ) (hk_x : κ x = 12)  : ∀ (S : m_M) (t1 : Int32) (H : Heap) (locs : List Loc) (ls : Array Slot), m_H G nx κ S H → m_S G s H locs → lv_has ls 1 [(0, .ref (x + 37))] → b_X9s_advance_125 x S t1 = some res → W p l e rm_X9s_advance s m args below meth c H locs 0 0 (m_Qv below args s G nx κ res) (F0 m 125 ls [.int t1, .ref (x + 37)]) := by
  have hx := X.1.1
  have hb := X.1.2.1
  intro S t1 H locs ls hH hS hl hm
  rw [b_X9s_advance_125] at hm
  obtain ⟨S1, e_S1, hm⟩ := m_let_of hm
  refine n_puti X hH hS tyX9 (k := 9) (a := (x + 37)) (j := 13) (m_lay_at hT hk_x (by decide) (i := 37) rfl) (by decide) rfl m_wi9 tyX9_ok nmX9 (by decide) in_2_28 rfl rfl rfl ⟨rfl, rfl⟩ e_S1 dX9_advance_125 (fun H locs hH hS => ?_)
  refine lv_aload_n hx hb dX9_advance_128 rfl (lv_at hl 0 rfl) ?_
  refine lv_aload_n hx hb dX9_advance_129 rfl (lv_at hl 0 rfl) ?_
  refine r_geti X hH (k := 9) (a := (x + 37)) (j := 9) (m_lay_at hT hk_x (by decide) (i := 37) rfl) (by decide) rfl m_wi9 (by decide) in_2_18 rfl rfl dX9_advance_130 ?_
  refine lv_iconst (v := (2 : Int32)) hx hb dX9_advance_133 (by decide) ?_
  refine lv_icmp_ne (tgt := 149) hx hb dX9_advance_134 (by decide) (fun c2 => ?_) (fun c2 => ?_)
  · have hm := m_ite_f hm c2
    refine lv_ldc2 hx hb X.1.2.2.2.1 (m_w X in_1_192) dX9_advance_149 ?_
    exact k_X9s_advance_152 (x := x) X hr hT hk_x   S1 (-1 : Int64) _ _ _ hH hS (lv_sub hl [] rfl) hm
  · have hm := m_ite_t hm c2
    refine lv_aload_n hx hb dX9_advance_137 rfl (lv_at hl 0 rfl) ?_
    refine r_getp X hH (k := 9) (a := (x + 37)) (j := 4) (b := (x + 41)) (A := 4) (B := 0) (m_lay_at hT hk_x (by decide) (i := 37) rfl) (by decide) rfl m_wi9 (by decide) in_2_13 rfl rfl rfl dX9_advance_138 ?_
    refine lv_aload_n hx hb dX9_advance_141 rfl (lv_at hl 0 rfl) ?_
    refine r_geti X hH (k := 9) (a := (x + 37)) (j := 8) (m_lay_at hT hk_x (by decide) (i := 37) rfl) (by decide) rfl m_wi9 (by decide) in_2_17 rfl rfl dX9_advance_142 ?_
    obtain ⟨v3, h_v3, e_v3, hm⟩ := n_ldj hm
    refine n_lald X hH (n := 201) (m_lay_at hT hk_x (by decide) (i := 41) rfl) h_v3 e_v3 dX9_advance_145 ?_
    refine lv_goto (tgt := 152) hx hb dX9_advance_146 (by decide) ?_
    exact k_X9s_advance_152 (x := x) X hr hT hk_x   S1 v3 _ _ _ hH hS (lv_sub hl [] rfl) hm
def b_X9s_advance_99 (x : Nat)  (S : m_M) (t1 : Int32) : Option m_M :=
    m_let (m_si S (x + 37) 12 t1) fun S1 =>
    if (m_ri S1 (x + 37) 9) = (5 : Int32) then (
    (m_ldj S1 (x + 41) 201 (m_ri S1 (x + 37) 8)).bind fun v3 =>
    b_X9s_advance_125 x S1 v3.toInt32) else (
    b_X9s_advance_125 x S1 (-1 : Int32))
set_option maxHeartbeats 4000000 in
set_option maxRecDepth 100000 in
theorem k_X9s_advance_99 {p : Program} {l : Launch} {e : Env} {s : State} {m : MethodId} {args : Array Value} {below : List Frame} {meth : Method} {c : Code} {G : m_G} {nx : Nat} {κ : Nat → Nat} {res : m_M} {x : Nat} (X : m_Cx p s m args meth c cX9_advance 1 RX9 G) (hr : meth.sig.returnType = none) (hT : m_Str κ) (hk_x : κ x = 12)  : ∀ (S : m_M) (t1 : Int32) (H : Heap) (locs : List Loc) (ls : Array Slot), m_H G nx κ S H → m_S G s H locs → lv_has ls 1 [(0, .ref (x + 37))] → b_X9s_advance_99 x S t1 = some res → W p l e rm_X9s_advance s m args below meth c H locs 0 0 (m_Qv below args s G nx κ res) (F0 m 99 ls [.int t1, .ref (x + 37)]) := by
  have hx := X.1.1
  have hb := X.1.2.1
  intro S t1 H locs ls hH hS hl hm
  rw [b_X9s_advance_99] at hm
  obtain ⟨S1, e_S1, hm⟩ := m_let_of hm
  refine n_puti X hH hS tyX9 (k := 9) (a := (x + 37)) (j := 12) (m_lay_at hT hk_x (by decide) (i := 37) rfl) (by decide) rfl m_wi9 tyX9_ok nmX9 (by decide) in_2_25 rfl rfl rfl ⟨rfl, rfl⟩ e_S1 dX9_advance_99 (fun H locs hH hS => ?_)
  refine lv_aload_n hx hb dX9_advance_102 rfl (lv_at hl 0 rfl) ?_
  refine lv_aload_n hx hb dX9_advance_103 rfl (lv_at hl 0 rfl) ?_
  refine r_geti X hH (k := 9) (a := (x + 37)) (j := 9) (m_lay_at hT hk_x (by decide) (i := 37) rfl) (by decide) rfl m_wi9 (by decide) in_2_18 rfl rfl dX9_advance_104 ?_
  refine lv_iconst (v := (5 : Int32)) hx hb dX9_advance_107 (by decide) ?_
  refine lv_icmp_ne (tgt := 124) hx hb dX9_advance_108 (by decide) (fun c2 => ?_) (fun c2 => ?_)
  · have hm := m_ite_f hm c2
    refine lv_iconst (v := (-1 : Int32)) hx hb dX9_advance_124 (by decide) ?_
    exact k_X9s_advance_125 (x := x) X hr hT hk_x   S1 (-1 : Int32) _ _ _ hH hS hl hm
  · have hm := m_ite_t hm c2
    refine lv_aload_n hx hb dX9_advance_111 rfl (lv_at hl 0 rfl) ?_
    refine r_getp X hH (k := 9) (a := (x + 37)) (j := 4) (b := (x + 41)) (A := 4) (B := 0) (m_lay_at hT hk_x (by decide) (i := 37) rfl) (by decide) rfl m_wi9 (by decide) in_2_13 rfl rfl rfl dX9_advance_112 ?_
    refine lv_aload_n hx hb dX9_advance_115 rfl (lv_at hl 0 rfl) ?_
    refine r_geti X hH (k := 9) (a := (x + 37)) (j := 8) (m_lay_at hT hk_x (by decide) (i := 37) rfl) (by decide) rfl m_wi9 (by decide) in_2_17 rfl rfl dX9_advance_116 ?_
    obtain ⟨v3, h_v3, e_v3, hm⟩ := n_ldj hm
    refine n_lald X hH (n := 201) (m_lay_at hT hk_x (by decide) (i := 41) rfl) h_v3 e_v3 dX9_advance_119 ?_
    refine lv_l2i hx hb dX9_advance_120 rfl ?_
    refine lv_goto (tgt := 125) hx hb dX9_advance_121 (by decide) ?_
    exact k_X9s_advance_125 (x := x) X hr hT hk_x   S1 v3.toInt32 _ _ _ hH hS hl hm
def b_X9s_advance_73 (x : Nat)  (S : m_M) (t1 : Int32) : Option m_M :=
    m_let (m_si S (x + 37) 11 t1) fun S1 =>
    if (m_ri S1 (x + 37) 9) = (4 : Int32) then (
    (m_ldj S1 (x + 41) 201 (m_ri S1 (x + 37) 8)).bind fun v3 =>
    b_X9s_advance_99 x S1 v3.toInt32) else (
    b_X9s_advance_99 x S1 (-1 : Int32))
set_option maxHeartbeats 4000000 in
set_option maxRecDepth 100000 in
theorem k_X9s_advance_73 {p : Program} {l : Launch} {e : Env} {s : State} {m : MethodId} {args : Array Value} {below : List Frame} {meth : Method} {c : Code} {G : m_G} {nx : Nat} {κ : Nat → Nat} {res : m_M} {x : Nat} (X : m_Cx p s m args meth c cX9_advance 1 RX9 G) (hr : meth.sig.returnType = none) (hT : m_Str κ) (hk_x : κ x = 12)  : ∀ (S : m_M) (t1 : Int32) (H : Heap) (locs : List Loc) (ls : Array Slot), m_H G nx κ S H → m_S G s H locs → lv_has ls 1 [(0, .ref (x + 37))] → b_X9s_advance_73 x S t1 = some res → W p l e rm_X9s_advance s m args below meth c H locs 0 0 (m_Qv below args s G nx κ res) (F0 m 73 ls [.int t1, .ref (x + 37)]) := by
  have hx := X.1.1
  have hb := X.1.2.1
  intro S t1 H locs ls hH hS hl hm
  rw [b_X9s_advance_73] at hm
  obtain ⟨S1, e_S1, hm⟩ := m_let_of hm
  refine n_puti X hH hS tyX9 (k := 9) (a := (x + 37)) (j := 11) (m_lay_at hT hk_x (by decide) (i := 37) rfl) (by decide) rfl m_wi9 tyX9_ok nmX9 (by decide) in_2_22 rfl rfl rfl ⟨rfl, rfl⟩ e_S1 dX9_advance_73 (fun H locs hH hS => ?_)
  refine lv_aload_n hx hb dX9_advance_76 rfl (lv_at hl 0 rfl) ?_
  refine lv_aload_n hx hb dX9_advance_77 rfl (lv_at hl 0 rfl) ?_
  refine r_geti X hH (k := 9) (a := (x + 37)) (j := 9) (m_lay_at hT hk_x (by decide) (i := 37) rfl) (by decide) rfl m_wi9 (by decide) in_2_18 rfl rfl dX9_advance_78 ?_
  refine lv_iconst (v := (4 : Int32)) hx hb dX9_advance_81 (by decide) ?_
  refine lv_icmp_ne (tgt := 98) hx hb dX9_advance_82 (by decide) (fun c2 => ?_) (fun c2 => ?_)
  · have hm := m_ite_f hm c2
    refine lv_iconst (v := (-1 : Int32)) hx hb dX9_advance_98 (by decide) ?_
    exact k_X9s_advance_99 (x := x) X hr hT hk_x   S1 (-1 : Int32) _ _ _ hH hS hl hm
  · have hm := m_ite_t hm c2
    refine lv_aload_n hx hb dX9_advance_85 rfl (lv_at hl 0 rfl) ?_
    refine r_getp X hH (k := 9) (a := (x + 37)) (j := 4) (b := (x + 41)) (A := 4) (B := 0) (m_lay_at hT hk_x (by decide) (i := 37) rfl) (by decide) rfl m_wi9 (by decide) in_2_13 rfl rfl rfl dX9_advance_86 ?_
    refine lv_aload_n hx hb dX9_advance_89 rfl (lv_at hl 0 rfl) ?_
    refine r_geti X hH (k := 9) (a := (x + 37)) (j := 8) (m_lay_at hT hk_x (by decide) (i := 37) rfl) (by decide) rfl m_wi9 (by decide) in_2_17 rfl rfl dX9_advance_90 ?_
    obtain ⟨v3, h_v3, e_v3, hm⟩ := n_ldj hm
    refine n_lald X hH (n := 201) (m_lay_at hT hk_x (by decide) (i := 41) rfl) h_v3 e_v3 dX9_advance_93 ?_
    refine lv_l2i hx hb dX9_advance_94 rfl ?_
    refine lv_goto (tgt := 99) hx hb dX9_advance_95 (by decide) ?_
    exact k_X9s_advance_99 (x := x) X hr hT hk_x   S1 v3.toInt32 _ _ _ hH hS hl hm
def f_X9s_advance (x : Nat) (S : m_M)  : Option m_M :=
    if ((m_ri S (x + 37) 8) + (1 : Int32)) < (m_ri S (x + 37) 7) then (
    m_let (m_si S (x + 37) 8 ((m_ri S (x + 37) 8) + (1 : Int32))) fun S2 =>
    (m_ldi S2 (x + 39) 201 (m_ri S2 (x + 37) 8)).bind fun v3 =>
    m_let (m_si S2 (x + 37) 9 v3) fun S4 =>
    (m_ldi S4 (x + 40) 201 (m_ri S4 (x + 37) 8)).bind fun v5 =>
    m_let (m_si S4 (x + 37) 10 v5) fun S6 =>
    if (m_ri S6 (x + 37) 9) = (3 : Int32) then (
    (m_ldj S6 (x + 41) 201 (m_ri S6 (x + 37) 8)).bind fun v8 =>
    b_X9s_advance_73 x S6 v8.toInt32) else (
    b_X9s_advance_73 x S6 (-1 : Int32))) else (
    some S)
set_option maxHeartbeats 4000000 in
set_option maxRecDepth 100000 in
theorem c_X9s_advance {l : Launch} {G : m_G} {nx : Nat} {κ : Nat → Nat} {x : Nat} {S : m_M}  {res : m_M} (hT : m_Str κ) (hk_x : κ x = 12) (hm : f_X9s_advance x S = some res) : m_Cv l yX9_advance cX9_advance 1 rm_X9s_advance G nx κ [.ref (x + 37)] S res := by
  refine m_Cv.of (by decide) (Nat.le_of_ble_eq_true rfl) ?_
  intro p e s m args below meth c ls X hr hH hl
  have hx := X.1.1
  have hb := X.1.2.1
  have hS : m_S G s s.heap [] := va_S.rf
  have hl : lv_has ls 1 [(0, .ref (x + 37))] := hl
  rw [f_X9s_advance] at hm
  refine lv_aload_n hx hb dX9_advance_0 rfl (lv_at hl 0 rfl) ?_
  refine r_geti X hH (k := 9) (a := (x + 37)) (j := 8) (m_lay_at hT hk_x (by decide) (i := 37) rfl) (by decide) rfl m_wi9 (by decide) in_2_17 rfl rfl dX9_advance_1 ?_
  refine lv_iconst (v := (1 : Int32)) hx hb dX9_advance_4 (by decide) ?_
  refine lv_iadd hx hb dX9_advance_5 ?_
  refine lv_aload_n hx hb dX9_advance_6 rfl (lv_at hl 0 rfl) ?_
  refine r_geti X hH (k := 9) (a := (x + 37)) (j := 7) (m_lay_at hT hk_x (by decide) (i := 37) rfl) (by decide) rfl m_wi9 (by decide) in_2_16 rfl rfl dX9_advance_7 ?_
  refine lv_icmp_lt (tgt := 14) hx hb dX9_advance_10 (by decide) (fun c1 => ?_) (fun c1 => ?_)
  · have hm := m_ite_t hm c1
    refine lv_aload_n hx hb dX9_advance_14 rfl (lv_at hl 0 rfl) ?_
    refine lv_dup hx hb dX9_advance_15 rfl ?_
    refine r_geti X hH (k := 9) (a := (x + 37)) (j := 8) (m_lay_at hT hk_x (by decide) (i := 37) rfl) (by decide) rfl m_wi9 (by decide) in_2_17 rfl rfl dX9_advance_16 ?_
    refine lv_iconst (v := (1 : Int32)) hx hb dX9_advance_19 (by decide) ?_
    refine lv_iadd hx hb dX9_advance_20 ?_
    obtain ⟨S2, e_S2, hm⟩ := m_let_of hm
    refine n_puti X hH hS tyX9 (k := 9) (a := (x + 37)) (j := 8) (m_lay_at hT hk_x (by decide) (i := 37) rfl) (by decide) rfl m_wi9 tyX9_ok nmX9 (by decide) in_2_17 rfl rfl rfl ⟨rfl, rfl⟩ e_S2 dX9_advance_21 (fun H locs hH hS => ?_)
    refine lv_aload_n hx hb dX9_advance_24 rfl (lv_at hl 0 rfl) ?_
    refine lv_aload_n hx hb dX9_advance_25 rfl (lv_at hl 0 rfl) ?_
    refine r_getp X hH (k := 9) (a := (x + 37)) (j := 2) (b := (x + 39)) (A := 2) (B := 0) (m_lay_at hT hk_x (by decide) (i := 37) rfl) (by decide) rfl m_wi9 (by decide) in_2_11 rfl rfl rfl dX9_advance_26 ?_
    refine lv_aload_n hx hb dX9_advance_29 rfl (lv_at hl 0 rfl) ?_
    refine r_geti X hH (k := 9) (a := (x + 37)) (j := 8) (m_lay_at hT hk_x (by decide) (i := 37) rfl) (by decide) rfl m_wi9 (by decide) in_2_17 rfl rfl dX9_advance_30 ?_
    obtain ⟨v3, h_v3, e_v3, hm⟩ := n_ldi hm
    refine n_iald X hH (n := 201) (m_lay_at hT hk_x (by decide) (i := 39) rfl) h_v3 e_v3 dX9_advance_33 ?_
    obtain ⟨S4, e_S4, hm⟩ := m_let_of hm
    refine n_puti X hH hS tyX9 (k := 9) (a := (x + 37)) (j := 9) (m_lay_at hT hk_x (by decide) (i := 37) rfl) (by decide) rfl m_wi9 tyX9_ok nmX9 (by decide) in_2_18 rfl rfl rfl ⟨rfl, rfl⟩ e_S4 dX9_advance_34 (fun H locs hH hS => ?_)
    refine lv_aload_n hx hb dX9_advance_37 rfl (lv_at hl 0 rfl) ?_
    refine lv_aload_n hx hb dX9_advance_38 rfl (lv_at hl 0 rfl) ?_
    refine r_getp X hH (k := 9) (a := (x + 37)) (j := 3) (b := (x + 40)) (A := 3) (B := 0) (m_lay_at hT hk_x (by decide) (i := 37) rfl) (by decide) rfl m_wi9 (by decide) in_2_12 rfl rfl rfl dX9_advance_39 ?_
    refine lv_aload_n hx hb dX9_advance_42 rfl (lv_at hl 0 rfl) ?_
    refine r_geti X hH (k := 9) (a := (x + 37)) (j := 8) (m_lay_at hT hk_x (by decide) (i := 37) rfl) (by decide) rfl m_wi9 (by decide) in_2_17 rfl rfl dX9_advance_43 ?_
    obtain ⟨v5, h_v5, e_v5, hm⟩ := n_ldi hm
    refine n_iald X hH (n := 201) (m_lay_at hT hk_x (by decide) (i := 40) rfl) h_v5 e_v5 dX9_advance_46 ?_
    obtain ⟨S6, e_S6, hm⟩ := m_let_of hm
    refine n_puti X hH hS tyX9 (k := 9) (a := (x + 37)) (j := 10) (m_lay_at hT hk_x (by decide) (i := 37) rfl) (by decide) rfl m_wi9 tyX9_ok nmX9 (by decide) in_2_21 rfl rfl rfl ⟨rfl, rfl⟩ e_S6 dX9_advance_47 (fun H locs hH hS => ?_)
    refine lv_aload_n hx hb dX9_advance_50 rfl (lv_at hl 0 rfl) ?_
    refine lv_aload_n hx hb dX9_advance_51 rfl (lv_at hl 0 rfl) ?_
    refine r_geti X hH (k := 9) (a := (x + 37)) (j := 9) (m_lay_at hT hk_x (by decide) (i := 37) rfl) (by decide) rfl m_wi9 (by decide) in_2_18 rfl rfl dX9_advance_52 ?_
    refine lv_iconst (v := (3 : Int32)) hx hb dX9_advance_55 (by decide) ?_
    refine lv_icmp_ne (tgt := 72) hx hb dX9_advance_56 (by decide) (fun c7 => ?_) (fun c7 => ?_)
    · have hm := m_ite_f hm c7
      refine lv_iconst (v := (-1 : Int32)) hx hb dX9_advance_72 (by decide) ?_
      exact k_X9s_advance_73 (x := x) X hr hT hk_x   S6 (-1 : Int32) _ _ _ hH hS hl hm
    · have hm := m_ite_t hm c7
      refine lv_aload_n hx hb dX9_advance_59 rfl (lv_at hl 0 rfl) ?_
      refine r_getp X hH (k := 9) (a := (x + 37)) (j := 4) (b := (x + 41)) (A := 4) (B := 0) (m_lay_at hT hk_x (by decide) (i := 37) rfl) (by decide) rfl m_wi9 (by decide) in_2_13 rfl rfl rfl dX9_advance_60 ?_
      refine lv_aload_n hx hb dX9_advance_63 rfl (lv_at hl 0 rfl) ?_
      refine r_geti X hH (k := 9) (a := (x + 37)) (j := 8) (m_lay_at hT hk_x (by decide) (i := 37) rfl) (by decide) rfl m_wi9 (by decide) in_2_17 rfl rfl dX9_advance_64 ?_
      obtain ⟨v8, h_v8, e_v8, hm⟩ := n_ldj hm
      refine n_lald X hH (n := 201) (m_lay_at hT hk_x (by decide) (i := 41) rfl) h_v8 e_v8 dX9_advance_67 ?_
      refine lv_l2i hx hb dX9_advance_68 rfl ?_
      refine lv_goto (tgt := 73) hx hb dX9_advance_69 (by decide) ?_
      exact k_X9s_advance_73 (x := x) X hr hT hk_x   S6 v8.toInt32 _ _ _ hH hS hl hm
  · have hm := m_ite_f hm c1
    exact r_vret X hr hH hS hm dX9_advance_13
def rm_X9_open : Room := { frames := 3, cells := 0, slots := 0, locals := 74 }
def b_X9_open_84 (x : Nat)  (S : m_M) (l3 : Int32) (t1 : Int32) : Option m_M :=
    m_cal0 (f_X9_put x S t1 l3 (-1 : Int64)) fun S1 =>
    m_let (m_si S1 (x + 25) 8 (-1 : Int32)) fun S2 =>
    m_cal0 (f_X9_advance x S2) fun S3 =>
    some S3
set_option maxHeartbeats 4000000 in
set_option maxRecDepth 100000 in
theorem k_X9_open_84 {p : Program} {l : Launch} {e : Env} {s : State} {m : MethodId} {args : Array Value} {below : List Frame} {meth : Method} {c : Code} {G : m_G} {nx : Nat} {κ : Nat → Nat} {res : m_M} {x : Nat} (X : m_Cx p s m args meth c cX9_open 5 RX9 G) (hr : meth.sig.returnType = none) (hT : m_Str κ) (hk_x : κ x = 12)  : ∀ (S : m_M) (l3 : Int32) (t1 : Int32) (H : Heap) (locs : List Loc) (ls : Array Slot), m_H G nx κ S H → m_S G s H locs → lv_has ls 5 [(0, .ref (x + 25)), (3, .int l3)] → b_X9_open_84 x S l3 t1 = some res → W p l e rm_X9_open s m args below meth c H locs 0 0 (m_Qv below args s G nx κ res) (F0 m 84 ls [.int t1, .ref (x + 25)]) := by
  have hx := X.1.1
  have hb := X.1.2.1
  intro S l3 t1 H locs ls hH hS hl hm
  rw [b_X9_open_84] at hm
  refine lv_iload_n hx hb dX9_open_84 rfl (lv_at hl 1 rfl) ?_
  refine lv_ldc2 hx hb X.1.2.2.2.1 (m_w X in_1_192) dX9_open_85 ?_
  obtain ⟨S1, e_S1, hm⟩ := m_cal0_of hm
  refine r_cVv X hH hS (k := 9) (c_X9_put (x := x) hT hk_x e_S1) mw_X9_put in_3_166 (m_lay_at hT hk_x (by decide) (i := 25) rfl) (by decide) rfl rfl rfl ⟨rfl, rfl⟩ ⟨Nat.le_of_ble_eq_true rfl, Nat.le_of_ble_eq_true rfl⟩ ⟨Nat.zero_le _, Nat.zero_le _⟩ hl.1 (Nat.le_of_ble_eq_true rfl) dX9_open_88 (fun H locs hH hS => ?_)
  refine lv_aload_n hx hb dX9_open_91 rfl (lv_at hl 0 rfl) ?_
  refine lv_iconst (v := (-1 : Int32)) hx hb dX9_open_92 (by decide) ?_
  obtain ⟨S2, e_S2, hm⟩ := m_let_of hm
  refine n_puti X hH hS tyX9 (k := 9) (a := (x + 25)) (j := 8) (m_lay_at hT hk_x (by decide) (i := 25) rfl) (by decide) rfl m_wi9 tyX9_ok nmX9 (by decide) in_2_17 rfl rfl rfl ⟨rfl, rfl⟩ e_S2 dX9_open_93 (fun H locs hH hS => ?_)
  refine lv_aload_n hx hb dX9_open_96 rfl (lv_at hl 0 rfl) ?_
  obtain ⟨S3, e_S3, hm⟩ := m_cal0_of hm
  refine r_cVv X hH hS (k := 9) (c_X9_advance (x := x) hT hk_x e_S3) mw_X9_advance in_3_170 (m_lay_at hT hk_x (by decide) (i := 25) rfl) (by decide) rfl rfl rfl ⟨rfl, rfl⟩ ⟨Nat.le_of_ble_eq_true rfl, Nat.le_of_ble_eq_true rfl⟩ ⟨Nat.zero_le _, Nat.zero_le _⟩ hl.1 (Nat.le_of_ble_eq_true rfl) dX9_open_97 (fun H locs hH hS => ?_)
  exact r_vret X hr hH hS hm dX9_open_100
def b_X9_open_70 (x : Nat)  (S : m_M) (l3 : Int32) : Option m_M :=
    if (m_ri S (x + 25) 5) ≤ l3 then (
    b_X9_open_84 x S l3 (0 : Int32)) else (
    b_X9_open_84 x S l3 (1 : Int32))
set_option maxHeartbeats 4000000 in
set_option maxRecDepth 100000 in
theorem k_X9_open_70 {p : Program} {l : Launch} {e : Env} {s : State} {m : MethodId} {args : Array Value} {below : List Frame} {meth : Method} {c : Code} {G : m_G} {nx : Nat} {κ : Nat → Nat} {res : m_M} {x : Nat} (X : m_Cx p s m args meth c cX9_open 5 RX9 G) (hr : meth.sig.returnType = none) (hT : m_Str κ) (hk_x : κ x = 12)  : ∀ (S : m_M) (l3 : Int32) (H : Heap) (locs : List Loc) (ls : Array Slot), m_H G nx κ S H → m_S G s H locs → lv_has ls 5 [(0, .ref (x + 25)), (3, .int l3)] → b_X9_open_70 x S l3 = some res → W p l e rm_X9_open s m args below meth c H locs 0 0 (m_Qv below args s G nx κ res) (F0 m 70 ls []) := by
  have hx := X.1.1
  have hb := X.1.2.1
  intro S l3 H locs ls hH hS hl hm
  rw [b_X9_open_70] at hm
  refine lv_aload_n hx hb dX9_open_70 rfl (lv_at hl 0 rfl) ?_
  refine lv_aload_n hx hb dX9_open_71 rfl (lv_at hl 0 rfl) ?_
  refine r_geti X hH (k := 9) (a := (x + 25)) (j := 5) (m_lay_at hT hk_x (by decide) (i := 25) rfl) (by decide) rfl m_wi9 (by decide) in_2_14 rfl rfl dX9_open_72 ?_
  refine lv_iload_n hx hb dX9_open_75 rfl (lv_at hl 1 rfl) ?_
  refine lv_icmp_le (tgt := 83) hx hb dX9_open_76 (by decide) (fun c1 => ?_) (fun c1 => ?_)
  · have hm := m_ite_t hm c1
    refine lv_iconst (v := (0 : Int32)) hx hb dX9_open_83 (by decide) ?_
    exact k_X9_open_84 (x := x) X hr hT hk_x   S l3 (0 : Int32) _ _ _ hH hS hl hm
  · have hm := m_ite_f hm c1
    refine lv_iconst (v := (1 : Int32)) hx hb dX9_open_79 (by decide) ?_
    refine lv_goto (tgt := 84) hx hb dX9_open_80 (by decide) ?_
    exact k_X9_open_84 (x := x) X hr hT hk_x   S l3 (1 : Int32) _ _ _ hH hS hl hm
def b_X9_open_45 (x : Nat)  : Nat → m_M → Int32 → Int32 → Option m_M
  | 0, _, _, _ => none
  | n + 1, S, l3, l4 =>
    if l3 ≤ l4 then (
    b_X9_open_70 x S l3) else (
    if l3 ≤ (m_ri S (x + 25) 6) then (
    b_X9_open_70 x S l3) else (
    m_cal0 (f_X9_readPiece x S) fun S3 =>
    m_let (l4 + (1 : Int32)) fun v4 =>
    b_X9_open_45 x n S3 l3 v4))
set_option maxHeartbeats 4000000 in
set_option maxRecDepth 100000 in
theorem k_X9_open_45 {p : Program} {l : Launch} {e : Env} {s : State} {m : MethodId} {args : Array Value} {below : List Frame} {meth : Method} {c : Code} {G : m_G} {nx : Nat} {κ : Nat → Nat} {res : m_M} {x : Nat} (X : m_Cx p s m args meth c cX9_open 5 RX9 G) (hr : meth.sig.returnType = none) (hT : m_Str κ) (hk_x : κ x = 12)  (n : Nat) : ∀ (S : m_M) (l3 : Int32) (l4 : Int32) (H : Heap) (locs : List Loc) (ls : Array Slot), m_H G nx κ S H → m_S G s H locs → lv_has ls 5 [(0, .ref (x + 25)), (1, .ref (x + 1)), (3, .int l3), (4, .int l4)] → b_X9_open_45 x n S l3 l4 = some res → W p l e rm_X9_open s m args below meth c H locs 0 0 (m_Qv below args s G nx κ res) (F0 m 45 ls []) := by
  have hx := X.1.1
  have hb := X.1.2.1
  induction n with
  | zero => intro S l3 l4 H locs ls hH hS hl hm; have hm : (none : Option m_M) = some res := hm; cases hm
  | succ n ih =>
    intro S l3 l4 H locs ls hH hS hl hm
    rw [b_X9_open_45] at hm
    refine lv_iload hx hb dX9_open_45 (lv_at hl 3 rfl) ?_
    refine lv_iload_n hx hb dX9_open_47 rfl (lv_at hl 2 rfl) ?_
    refine lv_icmp_ge (tgt := 70) hx hb dX9_open_48 (by decide) (fun c1 => ?_) (fun c1 => ?_)
    · have hm := m_ite_t hm c1
      exact k_X9_open_70 (x := x) X hr hT hk_x   S l3 _ _ _ hH hS (lv_sub hl [0, 2] rfl) hm
    · have hm := m_ite_f hm c1
      refine lv_aload_n hx hb dX9_open_51 rfl (lv_at hl 0 rfl) ?_
      refine r_geti X hH (k := 9) (a := (x + 25)) (j := 6) (m_lay_at hT hk_x (by decide) (i := 25) rfl) (by decide) rfl m_wi9 (by decide) in_2_15 rfl rfl dX9_open_52 ?_
      refine lv_iload_n hx hb dX9_open_55 rfl (lv_at hl 2 rfl) ?_
      refine lv_icmp_ge (tgt := 70) hx hb dX9_open_56 (by decide) (fun c2 => ?_) (fun c2 => ?_)
      · have hm := m_ite_t hm c2
        exact k_X9_open_70 (x := x) X hr hT hk_x   S l3 _ _ _ hH hS (lv_sub hl [0, 2] rfl) hm
      · have hm := m_ite_f hm c2
        refine lv_aload_n hx hb dX9_open_59 rfl (lv_at hl 0 rfl) ?_
        refine lv_aload_n hx hb dX9_open_60 rfl (lv_at hl 1 rfl) ?_
        obtain ⟨S3, e_S3, hm⟩ := m_cal0_of hm
        refine r_cVv X hH hS (k := 9) (c_X9_readPiece (x := x) hT hk_x e_S3) mw_X9_readPiece in_3_148 (m_lay_at hT hk_x (by decide) (i := 25) rfl) (by decide) rfl rfl rfl ⟨rfl, rfl⟩ ⟨Nat.le_of_ble_eq_true rfl, Nat.le_of_ble_eq_true rfl⟩ ⟨Nat.zero_le _, Nat.zero_le _⟩ hl.1 (Nat.le_of_ble_eq_true rfl) dX9_open_61 (fun H locs hH hS => ?_)
        obtain ⟨v4, e_v4, hm⟩ := m_let_of hm
        refine lv_iinc (v := v4) (lv' := [(4, .int v4), (0, .ref (x + 25)), (1, .ref (x + 1)), (3, .int l3)]) hx hb dX9_open_64 hl (k := 3) rfl (by rw [← e_v4]; rfl) (by decide) rfl (fun ls hl => ?_)
        refine lv_goto (tgt := 45) hx hb dX9_open_67 (by decide) ?_
        exact ih S3 l3 v4 _ _ _ hH hS (lv_sub hl [1, 2, 3, 0] rfl) hm
def f_X9_open (x : Nat) (S : m_M) (i2 : Int32) : Option m_M :=
    m_let (m_si S (x + 25) 5 (if (940 : Int32) < i2 then (940 : Int32) else i2)) fun S1 =>
    m_let (if (m_ri S1 (x + 25) 0) < (m_ri S1 (x + 25) 5) then (m_ri S1 (x + 25) 0) else (m_ri S1 (x + 25) 5)) fun v2 =>
    m_let (m_si S1 (x + 25) 15 (0 : Int32)) fun S3 =>
    m_let (m_si S3 (x + 25) 16 (0 : Int32)) fun S4 =>
    m_let (m_si S4 (x + 25) 7 (0 : Int32)) fun S5 =>
    m_let (m_si S5 (x + 25) 6 (0 : Int32)) fun S6 =>
    b_X9_open_45 x m_fu S6 v2 (0 : Int32)
set_option maxHeartbeats 4000000 in
set_option maxRecDepth 100000 in
theorem c_X9_open {l : Launch} {G : m_G} {nx : Nat} {κ : Nat → Nat} {x : Nat} {S : m_M} {i2 : Int32} {res : m_M} (hT : m_Str κ) (hk_x : κ x = 12) (hm : f_X9_open x S i2 = some res) : m_Cv l yX9_open cX9_open 5 rm_X9_open G nx κ [.ref (x + 25), .ref (x + 1), .int i2] S res := by
  refine m_Cv.of (by decide) (Nat.le_of_ble_eq_true rfl) ?_
  intro p e s m args below meth c ls X hr hH hl
  have hx := X.1.1
  have hb := X.1.2.1
  have hS : m_S G s s.heap [] := va_S.rf
  have hl : lv_has ls 5 [(0, .ref (x + 25)), (1, .ref (x + 1)), (2, .int i2)] := hl
  rw [f_X9_open] at hm
  refine lv_aload_n hx hb dX9_open_0 rfl (lv_at hl 0 rfl) ?_
  refine lv_iload_n hx hb dX9_open_1 rfl (lv_at hl 2 rfl) ?_
  refine lv_aload_n hx hb dX9_open_2 rfl (lv_at hl 1 rfl) ?_
  refine r_alen X hH (t := 0) (n := 940) (v := (940 : Int32)) (m_lay_at hT hk_x (by decide) (i := 1) rfl) (by decide) rfl dX9_open_3 ?_
  refine va_mmin hx hb (X.1.2.2.1.trans hl.1.symm) X.1.2.2.2.1 (m_w X in_3_145) (m_w X in_3_146) (m_w X in_1_6) (m_w X in_3_147) (Nat.le_of_ble_eq_true rfl) (Nat.le_of_ble_eq_true rfl) (Nat.zero_le _) (Nat.zero_le _) dX9_open_4 ?_
  obtain ⟨S1, e_S1, hm⟩ := m_let_of hm
  refine n_puti X hH hS tyX9 (k := 9) (a := (x + 25)) (j := 5) (m_lay_at hT hk_x (by decide) (i := 25) rfl) (by decide) rfl m_wi9 tyX9_ok nmX9 (by decide) in_2_14 rfl rfl rfl ⟨rfl, rfl⟩ e_S1 dX9_open_7 (fun H locs hH hS => ?_)
  refine lv_aload_n hx hb dX9_open_10 rfl (lv_at hl 0 rfl) ?_
  refine r_geti X hH (k := 9) (a := (x + 25)) (j := 5) (m_lay_at hT hk_x (by decide) (i := 25) rfl) (by decide) rfl m_wi9 (by decide) in_2_14 rfl rfl dX9_open_11 ?_
  refine lv_aload_n hx hb dX9_open_14 rfl (lv_at hl 0 rfl) ?_
  refine r_geti X hH (k := 9) (a := (x + 25)) (j := 0) (m_lay_at hT hk_x (by decide) (i := 25) rfl) (by decide) rfl m_wi9 (by decide) in_2_9 rfl rfl dX9_open_15 ?_
  refine va_mmin hx hb (X.1.2.2.1.trans hl.1.symm) X.1.2.2.2.1 (m_w X in_3_145) (m_w X in_3_146) (m_w X in_1_6) (m_w X in_3_147) (Nat.le_of_ble_eq_true rfl) (Nat.le_of_ble_eq_true rfl) (Nat.zero_le _) (Nat.zero_le _) dX9_open_18 ?_
  obtain ⟨v2, e_v2, hm⟩ := m_let_of hm
  refine n_topi e_v2 ?_
  refine lv_istore_n (lv' := [(3, .int v2), (0, .ref (x + 25)), (1, .ref (x + 1)), (2, .int i2)]) hx hb dX9_open_21 rfl hl (by decide) rfl (fun ls hl => ?_)
  refine lv_aload_n hx hb dX9_open_22 rfl (lv_at hl 1 rfl) ?_
  refine lv_iconst (v := (0 : Int32)) hx hb dX9_open_23 (by decide) ?_
  obtain ⟨S3, e_S3, hm⟩ := m_let_of hm
  refine n_puti X hH hS tyX9 (k := 9) (a := (x + 25)) (j := 15) (m_lay_at hT hk_x (by decide) (i := 25) rfl) (by decide) rfl m_wi9 tyX9_ok nmX9 (by decide) in_2_33 rfl rfl rfl ⟨rfl, rfl⟩ e_S3 dX9_open_24 (fun H locs hH hS => ?_)
  refine lv_aload_n hx hb dX9_open_27 rfl (lv_at hl 1 rfl) ?_
  refine lv_iconst (v := (0 : Int32)) hx hb dX9_open_28 (by decide) ?_
  obtain ⟨S4, e_S4, hm⟩ := m_let_of hm
  refine n_puti X hH hS tyX9 (k := 9) (a := (x + 25)) (j := 16) (m_lay_at hT hk_x (by decide) (i := 25) rfl) (by decide) rfl m_wi9 tyX9_ok nmX9 (by decide) in_2_35 rfl rfl rfl ⟨rfl, rfl⟩ e_S4 dX9_open_29 (fun H locs hH hS => ?_)
  refine lv_aload_n hx hb dX9_open_32 rfl (lv_at hl 1 rfl) ?_
  refine lv_iconst (v := (0 : Int32)) hx hb dX9_open_33 (by decide) ?_
  obtain ⟨S5, e_S5, hm⟩ := m_let_of hm
  refine n_puti X hH hS tyX9 (k := 9) (a := (x + 25)) (j := 7) (m_lay_at hT hk_x (by decide) (i := 25) rfl) (by decide) rfl m_wi9 tyX9_ok nmX9 (by decide) in_2_16 rfl rfl rfl ⟨rfl, rfl⟩ e_S5 dX9_open_34 (fun H locs hH hS => ?_)
  refine lv_aload_n hx hb dX9_open_37 rfl (lv_at hl 1 rfl) ?_
  refine lv_iconst (v := (0 : Int32)) hx hb dX9_open_38 (by decide) ?_
  obtain ⟨S6, e_S6, hm⟩ := m_let_of hm
  refine n_puti X hH hS tyX9 (k := 9) (a := (x + 25)) (j := 6) (m_lay_at hT hk_x (by decide) (i := 25) rfl) (by decide) rfl m_wi9 tyX9_ok nmX9 (by decide) in_2_15 rfl rfl rfl ⟨rfl, rfl⟩ e_S6 dX9_open_39 (fun H locs hH hS => ?_)
  refine lv_iconst (v := (0 : Int32)) hx hb dX9_open_42 (by decide) ?_
  refine lv_istore (lv' := [(4, .int (0 : Int32)), (3, .int v2), (0, .ref (x + 25)), (1, .ref (x + 1)), (2, .int i2)]) hx hb dX9_open_43 hl (by decide) rfl (fun ls hl => ?_)
  exact k_X9_open_45 (x := x) X hr hT hk_x  m_fu S6 v2 (0 : Int32) _ _ _ hH hS (lv_sub hl [2, 3, 1, 0] rfl) hm
def rm_X9s_open : Room := { frames := 3, cells := 0, slots := 0, locals := 74 }
def b_X9s_open_84 (x : Nat)  (S : m_M) (l3 : Int32) (t1 : Int32) : Option m_M :=
    m_cal0 (f_X9s_put x S t1 l3 (-1 : Int64)) fun S1 =>
    m_let (m_si S1 (x + 37) 8 (-1 : Int32)) fun S2 =>
    m_cal0 (f_X9s_advance x S2) fun S3 =>
    some S3
set_option maxHeartbeats 4000000 in
set_option maxRecDepth 100000 in
theorem k_X9s_open_84 {p : Program} {l : Launch} {e : Env} {s : State} {m : MethodId} {args : Array Value} {below : List Frame} {meth : Method} {c : Code} {G : m_G} {nx : Nat} {κ : Nat → Nat} {res : m_M} {x : Nat} (X : m_Cx p s m args meth c cX9_open 5 RX9 G) (hr : meth.sig.returnType = none) (hT : m_Str κ) (hk_x : κ x = 12)  : ∀ (S : m_M) (l3 : Int32) (t1 : Int32) (H : Heap) (locs : List Loc) (ls : Array Slot), m_H G nx κ S H → m_S G s H locs → lv_has ls 5 [(0, .ref (x + 37)), (3, .int l3)] → b_X9s_open_84 x S l3 t1 = some res → W p l e rm_X9s_open s m args below meth c H locs 0 0 (m_Qv below args s G nx κ res) (F0 m 84 ls [.int t1, .ref (x + 37)]) := by
  have hx := X.1.1
  have hb := X.1.2.1
  intro S l3 t1 H locs ls hH hS hl hm
  rw [b_X9s_open_84] at hm
  refine lv_iload_n hx hb dX9_open_84 rfl (lv_at hl 1 rfl) ?_
  refine lv_ldc2 hx hb X.1.2.2.2.1 (m_w X in_1_192) dX9_open_85 ?_
  obtain ⟨S1, e_S1, hm⟩ := m_cal0_of hm
  refine r_cVv X hH hS (k := 9) (c_X9s_put (x := x) hT hk_x e_S1) mw_X9_put in_3_166 (m_lay_at hT hk_x (by decide) (i := 37) rfl) (by decide) rfl rfl rfl ⟨rfl, rfl⟩ ⟨Nat.le_of_ble_eq_true rfl, Nat.le_of_ble_eq_true rfl⟩ ⟨Nat.zero_le _, Nat.zero_le _⟩ hl.1 (Nat.le_of_ble_eq_true rfl) dX9_open_88 (fun H locs hH hS => ?_)
  refine lv_aload_n hx hb dX9_open_91 rfl (lv_at hl 0 rfl) ?_
  refine lv_iconst (v := (-1 : Int32)) hx hb dX9_open_92 (by decide) ?_
  obtain ⟨S2, e_S2, hm⟩ := m_let_of hm
  refine n_puti X hH hS tyX9 (k := 9) (a := (x + 37)) (j := 8) (m_lay_at hT hk_x (by decide) (i := 37) rfl) (by decide) rfl m_wi9 tyX9_ok nmX9 (by decide) in_2_17 rfl rfl rfl ⟨rfl, rfl⟩ e_S2 dX9_open_93 (fun H locs hH hS => ?_)
  refine lv_aload_n hx hb dX9_open_96 rfl (lv_at hl 0 rfl) ?_
  obtain ⟨S3, e_S3, hm⟩ := m_cal0_of hm
  refine r_cVv X hH hS (k := 9) (c_X9s_advance (x := x) hT hk_x e_S3) mw_X9_advance in_3_170 (m_lay_at hT hk_x (by decide) (i := 37) rfl) (by decide) rfl rfl rfl ⟨rfl, rfl⟩ ⟨Nat.le_of_ble_eq_true rfl, Nat.le_of_ble_eq_true rfl⟩ ⟨Nat.zero_le _, Nat.zero_le _⟩ hl.1 (Nat.le_of_ble_eq_true rfl) dX9_open_97 (fun H locs hH hS => ?_)
  exact r_vret X hr hH hS hm dX9_open_100
def b_X9s_open_70 (x : Nat)  (S : m_M) (l3 : Int32) : Option m_M :=
    if (m_ri S (x + 37) 5) ≤ l3 then (
    b_X9s_open_84 x S l3 (0 : Int32)) else (
    b_X9s_open_84 x S l3 (1 : Int32))
set_option maxHeartbeats 4000000 in
set_option maxRecDepth 100000 in
theorem k_X9s_open_70 {p : Program} {l : Launch} {e : Env} {s : State} {m : MethodId} {args : Array Value} {below : List Frame} {meth : Method} {c : Code} {G : m_G} {nx : Nat} {κ : Nat → Nat} {res : m_M} {x : Nat} (X : m_Cx p s m args meth c cX9_open 5 RX9 G) (hr : meth.sig.returnType = none) (hT : m_Str κ) (hk_x : κ x = 12)  : ∀ (S : m_M) (l3 : Int32) (H : Heap) (locs : List Loc) (ls : Array Slot), m_H G nx κ S H → m_S G s H locs → lv_has ls 5 [(0, .ref (x + 37)), (3, .int l3)] → b_X9s_open_70 x S l3 = some res → W p l e rm_X9s_open s m args below meth c H locs 0 0 (m_Qv below args s G nx κ res) (F0 m 70 ls []) := by
  have hx := X.1.1
  have hb := X.1.2.1
  intro S l3 H locs ls hH hS hl hm
  rw [b_X9s_open_70] at hm
  refine lv_aload_n hx hb dX9_open_70 rfl (lv_at hl 0 rfl) ?_
  refine lv_aload_n hx hb dX9_open_71 rfl (lv_at hl 0 rfl) ?_
  refine r_geti X hH (k := 9) (a := (x + 37)) (j := 5) (m_lay_at hT hk_x (by decide) (i := 37) rfl) (by decide) rfl m_wi9 (by decide) in_2_14 rfl rfl dX9_open_72 ?_
  refine lv_iload_n hx hb dX9_open_75 rfl (lv_at hl 1 rfl) ?_
  refine lv_icmp_le (tgt := 83) hx hb dX9_open_76 (by decide) (fun c1 => ?_) (fun c1 => ?_)
  · have hm := m_ite_t hm c1
    refine lv_iconst (v := (0 : Int32)) hx hb dX9_open_83 (by decide) ?_
    exact k_X9s_open_84 (x := x) X hr hT hk_x   S l3 (0 : Int32) _ _ _ hH hS hl hm
  · have hm := m_ite_f hm c1
    refine lv_iconst (v := (1 : Int32)) hx hb dX9_open_79 (by decide) ?_
    refine lv_goto (tgt := 84) hx hb dX9_open_80 (by decide) ?_
    exact k_X9s_open_84 (x := x) X hr hT hk_x   S l3 (1 : Int32) _ _ _ hH hS hl hm
def b_X9s_open_45 (x : Nat)  : Nat → m_M → Int32 → Int32 → Option m_M
  | 0, _, _, _ => none
  | n + 1, S, l3, l4 =>
    if l3 ≤ l4 then (
    b_X9s_open_70 x S l3) else (
    if l3 ≤ (m_ri S (x + 37) 6) then (
    b_X9s_open_70 x S l3) else (
    m_cal0 (f_X9s_readPiece x S) fun S3 =>
    m_let (l4 + (1 : Int32)) fun v4 =>
    b_X9s_open_45 x n S3 l3 v4))
set_option maxHeartbeats 4000000 in
set_option maxRecDepth 100000 in
theorem k_X9s_open_45 {p : Program} {l : Launch} {e : Env} {s : State} {m : MethodId} {args : Array Value} {below : List Frame} {meth : Method} {c : Code} {G : m_G} {nx : Nat} {κ : Nat → Nat} {res : m_M} {x : Nat} (X : m_Cx p s m args meth c cX9_open 5 RX9 G) (hr : meth.sig.returnType = none) (hT : m_Str κ) (hk_x : κ x = 12)  (n : Nat) : ∀ (S : m_M) (l3 : Int32) (l4 : Int32) (H : Heap) (locs : List Loc) (ls : Array Slot), m_H G nx κ S H → m_S G s H locs → lv_has ls 5 [(0, .ref (x + 37)), (1, .ref (x + 1)), (3, .int l3), (4, .int l4)] → b_X9s_open_45 x n S l3 l4 = some res → W p l e rm_X9s_open s m args below meth c H locs 0 0 (m_Qv below args s G nx κ res) (F0 m 45 ls []) := by
  have hx := X.1.1
  have hb := X.1.2.1
  induction n with
  | zero => intro S l3 l4 H locs ls hH hS hl hm; have hm : (none : Option m_M) = some res := hm; cases hm
  | succ n ih =>
    intro S l3 l4 H locs ls hH hS hl hm
    rw [b_X9s_open_45] at hm
    refine lv_iload hx hb dX9_open_45 (lv_at hl 3 rfl) ?_
    refine lv_iload_n hx hb dX9_open_47 rfl (lv_at hl 2 rfl) ?_
    refine lv_icmp_ge (tgt := 70) hx hb dX9_open_48 (by decide) (fun c1 => ?_) (fun c1 => ?_)
    · have hm := m_ite_t hm c1
      exact k_X9s_open_70 (x := x) X hr hT hk_x   S l3 _ _ _ hH hS (lv_sub hl [0, 2] rfl) hm
    · have hm := m_ite_f hm c1
      refine lv_aload_n hx hb dX9_open_51 rfl (lv_at hl 0 rfl) ?_
      refine r_geti X hH (k := 9) (a := (x + 37)) (j := 6) (m_lay_at hT hk_x (by decide) (i := 37) rfl) (by decide) rfl m_wi9 (by decide) in_2_15 rfl rfl dX9_open_52 ?_
      refine lv_iload_n hx hb dX9_open_55 rfl (lv_at hl 2 rfl) ?_
      refine lv_icmp_ge (tgt := 70) hx hb dX9_open_56 (by decide) (fun c2 => ?_) (fun c2 => ?_)
      · have hm := m_ite_t hm c2
        exact k_X9s_open_70 (x := x) X hr hT hk_x   S l3 _ _ _ hH hS (lv_sub hl [0, 2] rfl) hm
      · have hm := m_ite_f hm c2
        refine lv_aload_n hx hb dX9_open_59 rfl (lv_at hl 0 rfl) ?_
        refine lv_aload_n hx hb dX9_open_60 rfl (lv_at hl 1 rfl) ?_
        obtain ⟨S3, e_S3, hm⟩ := m_cal0_of hm
        refine r_cVv X hH hS (k := 9) (c_X9s_readPiece (x := x) hT hk_x e_S3) mw_X9_readPiece in_3_148 (m_lay_at hT hk_x (by decide) (i := 37) rfl) (by decide) rfl rfl rfl ⟨rfl, rfl⟩ ⟨Nat.le_of_ble_eq_true rfl, Nat.le_of_ble_eq_true rfl⟩ ⟨Nat.zero_le _, Nat.zero_le _⟩ hl.1 (Nat.le_of_ble_eq_true rfl) dX9_open_61 (fun H locs hH hS => ?_)
        obtain ⟨v4, e_v4, hm⟩ := m_let_of hm
        refine lv_iinc (v := v4) (lv' := [(4, .int v4), (0, .ref (x + 37)), (1, .ref (x + 1)), (3, .int l3)]) hx hb dX9_open_64 hl (k := 3) rfl (by rw [← e_v4]; rfl) (by decide) rfl (fun ls hl => ?_)
        refine lv_goto (tgt := 45) hx hb dX9_open_67 (by decide) ?_
        exact ih S3 l3 v4 _ _ _ hH hS (lv_sub hl [1, 2, 3, 0] rfl) hm
def f_X9s_open (x : Nat) (S : m_M) (i2 : Int32) : Option m_M :=
    m_let (m_si S (x + 37) 5 (if (940 : Int32) < i2 then (940 : Int32) else i2)) fun S1 =>
    m_let (if (m_ri S1 (x + 37) 0) < (m_ri S1 (x + 37) 5) then (m_ri S1 (x + 37) 0) else (m_ri S1 (x + 37) 5)) fun v2 =>
    m_let (m_si S1 (x + 37) 15 (0 : Int32)) fun S3 =>
    m_let (m_si S3 (x + 37) 16 (0 : Int32)) fun S4 =>
    m_let (m_si S4 (x + 37) 7 (0 : Int32)) fun S5 =>
    m_let (m_si S5 (x + 37) 6 (0 : Int32)) fun S6 =>
    b_X9s_open_45 x m_fu S6 v2 (0 : Int32)
set_option maxHeartbeats 4000000 in
set_option maxRecDepth 100000 in
theorem c_X9s_open {l : Launch} {G : m_G} {nx : Nat} {κ : Nat → Nat} {x : Nat} {S : m_M} {i2 : Int32} {res : m_M} (hT : m_Str κ) (hk_x : κ x = 12) (hm : f_X9s_open x S i2 = some res) : m_Cv l yX9_open cX9_open 5 rm_X9s_open G nx κ [.ref (x + 37), .ref (x + 1), .int i2] S res := by
  refine m_Cv.of (by decide) (Nat.le_of_ble_eq_true rfl) ?_
  intro p e s m args below meth c ls X hr hH hl
  have hx := X.1.1
  have hb := X.1.2.1
  have hS : m_S G s s.heap [] := va_S.rf
  have hl : lv_has ls 5 [(0, .ref (x + 37)), (1, .ref (x + 1)), (2, .int i2)] := hl
  rw [f_X9s_open] at hm
  refine lv_aload_n hx hb dX9_open_0 rfl (lv_at hl 0 rfl) ?_
  refine lv_iload_n hx hb dX9_open_1 rfl (lv_at hl 2 rfl) ?_
  refine lv_aload_n hx hb dX9_open_2 rfl (lv_at hl 1 rfl) ?_
  refine r_alen X hH (t := 0) (n := 940) (v := (940 : Int32)) (m_lay_at hT hk_x (by decide) (i := 1) rfl) (by decide) rfl dX9_open_3 ?_
  refine va_mmin hx hb (X.1.2.2.1.trans hl.1.symm) X.1.2.2.2.1 (m_w X in_3_145) (m_w X in_3_146) (m_w X in_1_6) (m_w X in_3_147) (Nat.le_of_ble_eq_true rfl) (Nat.le_of_ble_eq_true rfl) (Nat.zero_le _) (Nat.zero_le _) dX9_open_4 ?_
  obtain ⟨S1, e_S1, hm⟩ := m_let_of hm
  refine n_puti X hH hS tyX9 (k := 9) (a := (x + 37)) (j := 5) (m_lay_at hT hk_x (by decide) (i := 37) rfl) (by decide) rfl m_wi9 tyX9_ok nmX9 (by decide) in_2_14 rfl rfl rfl ⟨rfl, rfl⟩ e_S1 dX9_open_7 (fun H locs hH hS => ?_)
  refine lv_aload_n hx hb dX9_open_10 rfl (lv_at hl 0 rfl) ?_
  refine r_geti X hH (k := 9) (a := (x + 37)) (j := 5) (m_lay_at hT hk_x (by decide) (i := 37) rfl) (by decide) rfl m_wi9 (by decide) in_2_14 rfl rfl dX9_open_11 ?_
  refine lv_aload_n hx hb dX9_open_14 rfl (lv_at hl 0 rfl) ?_
  refine r_geti X hH (k := 9) (a := (x + 37)) (j := 0) (m_lay_at hT hk_x (by decide) (i := 37) rfl) (by decide) rfl m_wi9 (by decide) in_2_9 rfl rfl dX9_open_15 ?_
  refine va_mmin hx hb (X.1.2.2.1.trans hl.1.symm) X.1.2.2.2.1 (m_w X in_3_145) (m_w X in_3_146) (m_w X in_1_6) (m_w X in_3_147) (Nat.le_of_ble_eq_true rfl) (Nat.le_of_ble_eq_true rfl) (Nat.zero_le _) (Nat.zero_le _) dX9_open_18 ?_
  obtain ⟨v2, e_v2, hm⟩ := m_let_of hm
  refine n_topi e_v2 ?_
  refine lv_istore_n (lv' := [(3, .int v2), (0, .ref (x + 37)), (1, .ref (x + 1)), (2, .int i2)]) hx hb dX9_open_21 rfl hl (by decide) rfl (fun ls hl => ?_)
  refine lv_aload_n hx hb dX9_open_22 rfl (lv_at hl 1 rfl) ?_
  refine lv_iconst (v := (0 : Int32)) hx hb dX9_open_23 (by decide) ?_
  obtain ⟨S3, e_S3, hm⟩ := m_let_of hm
  refine n_puti X hH hS tyX9 (k := 9) (a := (x + 37)) (j := 15) (m_lay_at hT hk_x (by decide) (i := 37) rfl) (by decide) rfl m_wi9 tyX9_ok nmX9 (by decide) in_2_33 rfl rfl rfl ⟨rfl, rfl⟩ e_S3 dX9_open_24 (fun H locs hH hS => ?_)
  refine lv_aload_n hx hb dX9_open_27 rfl (lv_at hl 1 rfl) ?_
  refine lv_iconst (v := (0 : Int32)) hx hb dX9_open_28 (by decide) ?_
  obtain ⟨S4, e_S4, hm⟩ := m_let_of hm
  refine n_puti X hH hS tyX9 (k := 9) (a := (x + 37)) (j := 16) (m_lay_at hT hk_x (by decide) (i := 37) rfl) (by decide) rfl m_wi9 tyX9_ok nmX9 (by decide) in_2_35 rfl rfl rfl ⟨rfl, rfl⟩ e_S4 dX9_open_29 (fun H locs hH hS => ?_)
  refine lv_aload_n hx hb dX9_open_32 rfl (lv_at hl 1 rfl) ?_
  refine lv_iconst (v := (0 : Int32)) hx hb dX9_open_33 (by decide) ?_
  obtain ⟨S5, e_S5, hm⟩ := m_let_of hm
  refine n_puti X hH hS tyX9 (k := 9) (a := (x + 37)) (j := 7) (m_lay_at hT hk_x (by decide) (i := 37) rfl) (by decide) rfl m_wi9 tyX9_ok nmX9 (by decide) in_2_16 rfl rfl rfl ⟨rfl, rfl⟩ e_S5 dX9_open_34 (fun H locs hH hS => ?_)
  refine lv_aload_n hx hb dX9_open_37 rfl (lv_at hl 1 rfl) ?_
  refine lv_iconst (v := (0 : Int32)) hx hb dX9_open_38 (by decide) ?_
  obtain ⟨S6, e_S6, hm⟩ := m_let_of hm
  refine n_puti X hH hS tyX9 (k := 9) (a := (x + 37)) (j := 6) (m_lay_at hT hk_x (by decide) (i := 37) rfl) (by decide) rfl m_wi9 tyX9_ok nmX9 (by decide) in_2_15 rfl rfl rfl ⟨rfl, rfl⟩ e_S6 dX9_open_39 (fun H locs hH hS => ?_)
  refine lv_iconst (v := (0 : Int32)) hx hb dX9_open_42 (by decide) ?_
  refine lv_istore (lv' := [(4, .int (0 : Int32)), (3, .int v2), (0, .ref (x + 37)), (1, .ref (x + 1)), (2, .int i2)]) hx hb dX9_open_43 hl (by decide) rfl (fun ls hl => ?_)
  exact k_X9s_open_45 (x := x) X hr hT hk_x  m_fu S6 v2 (0 : Int32) _ _ _ hH hS (lv_sub hl [2, 3, 1, 0] rfl) hm
def rm_X4_latestFunIsBare : Room := { frames := 0, cells := 0, slots := 0, locals := 0 }
def b_X4_latestFunIsBare_35 (x : Nat)  (S : m_M) (t0 : Int32) : Option (Int32 × m_M) :=
    if t0 = 0 ∨ t0 = 1 then some (t0, S) else none
set_option maxHeartbeats 4000000 in
set_option maxRecDepth 100000 in
theorem k_X4_latestFunIsBare_35 {p : Program} {l : Launch} {e : Env} {s : State} {m : MethodId} {args : Array Value} {below : List Frame} {meth : Method} {c : Code} {G : m_G} {nx : Nat} {κ : Nat → Nat} {res : (Int32 × m_M)} {x : Nat} (X : m_Cx p s m args meth c cX4_latestFunIsBare 1 RX4 G) (hr : meth.sig.returnType = (some .boolean)) (hT : m_Str κ) (hk_x : κ x = 12)  : ∀ (S : m_M) (t0 : Int32) (H : Heap) (locs : List Loc) (ls : Array Slot), m_H G nx κ S H → m_S G s H locs → lv_has ls 1 [] → b_X4_latestFunIsBare_35 x S t0 = some res → W p l e rm_X4_latestFunIsBare s m args below meth c H locs 0 0 (m_Qi below args s G nx κ res) (F0 m 35 ls [.int t0]) := by
  have hx := X.1.1
  have hb := X.1.2.1
  intro S t0 H locs ls hH hS hl hm
  rw [b_X4_latestFunIsBare_35] at hm
  exact r_zret X hr hH hS hm dX4_latestFunIsBare_35
def b_X4_latestFunIsBare_34 (x : Nat)  (S : m_M)  : Option (Int32 × m_M) :=
    b_X4_latestFunIsBare_35 x S (0 : Int32)
set_option maxHeartbeats 4000000 in
set_option maxRecDepth 100000 in
theorem k_X4_latestFunIsBare_34 {p : Program} {l : Launch} {e : Env} {s : State} {m : MethodId} {args : Array Value} {below : List Frame} {meth : Method} {c : Code} {G : m_G} {nx : Nat} {κ : Nat → Nat} {res : (Int32 × m_M)} {x : Nat} (X : m_Cx p s m args meth c cX4_latestFunIsBare 1 RX4 G) (hr : meth.sig.returnType = (some .boolean)) (hT : m_Str κ) (hk_x : κ x = 12)  : ∀ (S : m_M)  (H : Heap) (locs : List Loc) (ls : Array Slot), m_H G nx κ S H → m_S G s H locs → lv_has ls 1 [] → b_X4_latestFunIsBare_34 x S  = some res → W p l e rm_X4_latestFunIsBare s m args below meth c H locs 0 0 (m_Qi below args s G nx κ res) (F0 m 34 ls []) := by
  have hx := X.1.1
  have hb := X.1.2.1
  intro S H locs ls hH hS hl hm
  rw [b_X4_latestFunIsBare_34] at hm
  refine lv_iconst (v := (0 : Int32)) hx hb dX4_latestFunIsBare_34 (by decide) ?_
  exact k_X4_latestFunIsBare_35 (x := x) X hr hT hk_x   S (0 : Int32) _ _ _ hH hS hl hm
def f_X4_latestFunIsBare (x : Nat) (S : m_M)  : Option (Int32 × m_M) :=
    if (m_ri S (x + 3) 0) ≤ 0 then (
    b_X4_latestFunIsBare_34 x S) else (
    (m_ldi S (x + 7) 5 ((m_ri S (x + 3) 0) - (1 : Int32))).bind fun v2 =>
    if v2 = 0 then (
    b_X4_latestFunIsBare_35 x S (1 : Int32)) else (
    b_X4_latestFunIsBare_34 x S))
set_option maxHeartbeats 4000000 in
set_option maxRecDepth 100000 in
theorem c_X4_latestFunIsBare {l : Launch} {G : m_G} {nx : Nat} {κ : Nat → Nat} {x : Nat} {S : m_M}  {res : (Int32 × m_M)} (hT : m_Str κ) (hk_x : κ x = 12) (hm : f_X4_latestFunIsBare x S = some res) : m_Ci l yX4_latestFunIsBare cX4_latestFunIsBare 1 (some .boolean) rm_X4_latestFunIsBare G nx κ [.ref (x + 2)] S res := by
  refine m_Ci.of (by decide) (Nat.le_of_ble_eq_true rfl) ?_
  intro p e s m args below meth c ls X hr hH hl
  have hx := X.1.1
  have hb := X.1.2.1
  have hS : m_S G s s.heap [] := va_S.rf
  have hl : lv_has ls 1 [(0, .ref (x + 2))] := hl
  rw [f_X4_latestFunIsBare] at hm
  refine lv_aload_n hx hb dX4_latestFunIsBare_0 rfl (lv_at hl 0 rfl) ?_
  refine r_getp X hH (k := 4) (a := (x + 2)) (j := 0) (b := (x + 3)) (A := 1) (B := 0) (m_lay_at hT hk_x (by decide) (i := 2) rfl) (by decide) rfl m_wi4 (by decide) in_2_72 rfl rfl rfl dX4_latestFunIsBare_1 ?_
  refine r_geti X hH (k := 3) (a := (x + 3)) (j := 0) (m_lay_at hT hk_x (by decide) (i := 3) rfl) (by decide) rfl m_wi3 (by decide) in_1_124 rfl rfl dX4_latestFunIsBare_4 ?_
  refine lv_if_le (tgt := 34) hx hb dX4_latestFunIsBare_7 (by decide) (fun c1 => ?_) (fun c1 => ?_)
  · have hm := m_ite_t hm c1
    exact k_X4_latestFunIsBare_34 (x := x) X hr hT hk_x   S _ _ _ hH hS (lv_sub hl [] rfl) hm
  · have hm := m_ite_f hm c1
    refine lv_aload_n hx hb dX4_latestFunIsBare_10 rfl (lv_at hl 0 rfl) ?_
    refine r_getp X hH (k := 4) (a := (x + 2)) (j := 0) (b := (x + 3)) (A := 1) (B := 0) (m_lay_at hT hk_x (by decide) (i := 2) rfl) (by decide) rfl m_wi4 (by decide) in_2_72 rfl rfl rfl dX4_latestFunIsBare_11 ?_
    refine r_getp X hH (k := 3) (a := (x + 3)) (j := 5) (b := (x + 7)) (A := 4) (B := 0) (m_lay_at hT hk_x (by decide) (i := 3) rfl) (by decide) rfl m_wi3 (by decide) in_1_145 rfl rfl rfl dX4_latestFunIsBare_14 ?_
    refine lv_aload_n hx hb dX4_latestFunIsBare_17 rfl (lv_at hl 0 rfl) ?_
    refine r_getp X hH (k := 4) (a := (x + 2)) (j := 0) (b := (x + 3)) (A := 1) (B := 0) (m_lay_at hT hk_x (by decide) (i := 2) rfl) (by decide) rfl m_wi4 (by decide) in_2_72 rfl rfl rfl dX4_latestFunIsBare_18 ?_
    refine r_geti X hH (k := 3) (a := (x + 3)) (j := 0) (m_lay_at hT hk_x (by decide) (i := 3) rfl) (by decide) rfl m_wi3 (by decide) in_1_124 rfl rfl dX4_latestFunIsBare_21 ?_
    refine lv_iconst (v := (1 : Int32)) hx hb dX4_latestFunIsBare_24 (by decide) ?_
    refine lv_isub hx hb dX4_latestFunIsBare_25 ?_
    obtain ⟨v2, h_v2, e_v2, hm⟩ := n_ldi hm
    refine n_iald X hH (n := 5) (m_lay_at hT hk_x (by decide) (i := 7) rfl) h_v2 e_v2 dX4_latestFunIsBare_26 ?_
    refine lv_if_ne (tgt := 34) hx hb dX4_latestFunIsBare_27 (by decide) (fun c3 => ?_) (fun c3 => ?_)
    · have hm := m_ite_f hm c3
      exact k_X4_latestFunIsBare_34 (x := x) X hr hT hk_x   S _ _ _ hH hS (lv_sub hl [] rfl) hm
    · have hm := m_ite_t hm c3
      refine lv_iconst (v := (1 : Int32)) hx hb dX4_latestFunIsBare_30 (by decide) ?_
      refine lv_goto (tgt := 35) hx hb dX4_latestFunIsBare_31 (by decide) ?_
      exact k_X4_latestFunIsBare_35 (x := x) X hr hT hk_x   S (1 : Int32) _ _ _ hH hS (lv_sub hl [] rfl) hm
def rm_X9_failsBy : Room := { frames := 0, cells := 0, slots := 0, locals := 0 }
def f_X9_failsBy (x : Nat) (S : m_M) (i1 : Int32) : Option (Int32 × m_M) :=
    m_let (m_si S (x + 25) 15 i1) fun S1 =>
    m_let (m_si S1 (x + 25) 16 (m_ri S1 (x + 25) 10)) fun S2 =>
    if (0 : Int32) = 0 ∨ (0 : Int32) = 1 then some ((0 : Int32), S2) else none
set_option maxHeartbeats 4000000 in
set_option maxRecDepth 100000 in
theorem c_X9_failsBy {l : Launch} {G : m_G} {nx : Nat} {κ : Nat → Nat} {x : Nat} {S : m_M} {i1 : Int32} {res : (Int32 × m_M)} (hT : m_Str κ) (hk_x : κ x = 12) (hm : f_X9_failsBy x S i1 = some res) : m_Ci l yX9_failsBy cX9_failsBy 2 (some .boolean) rm_X9_failsBy G nx κ [.ref (x + 25), .int i1] S res := by
  refine m_Ci.of (by decide) (Nat.le_of_ble_eq_true rfl) ?_
  intro p e s m args below meth c ls X hr hH hl
  have hx := X.1.1
  have hb := X.1.2.1
  have hS : m_S G s s.heap [] := va_S.rf
  have hl : lv_has ls 2 [(0, .ref (x + 25)), (1, .int i1)] := hl
  rw [f_X9_failsBy] at hm
  refine lv_aload_n hx hb dX9_failsBy_0 rfl (lv_at hl 0 rfl) ?_
  refine lv_iload_n hx hb dX9_failsBy_1 rfl (lv_at hl 1 rfl) ?_
  obtain ⟨S1, e_S1, hm⟩ := m_let_of hm
  refine n_puti X hH hS tyX9 (k := 9) (a := (x + 25)) (j := 15) (m_lay_at hT hk_x (by decide) (i := 25) rfl) (by decide) rfl m_wi9 tyX9_ok nmX9 (by decide) in_2_33 rfl rfl rfl ⟨rfl, rfl⟩ e_S1 dX9_failsBy_2 (fun H locs hH hS => ?_)
  refine lv_aload_n hx hb dX9_failsBy_5 rfl (lv_at hl 0 rfl) ?_
  refine lv_aload_n hx hb dX9_failsBy_6 rfl (lv_at hl 0 rfl) ?_
  refine r_geti X hH (k := 9) (a := (x + 25)) (j := 10) (m_lay_at hT hk_x (by decide) (i := 25) rfl) (by decide) rfl m_wi9 (by decide) in_2_21 rfl rfl dX9_failsBy_7 ?_
  obtain ⟨S2, e_S2, hm⟩ := m_let_of hm
  refine n_puti X hH hS tyX9 (k := 9) (a := (x + 25)) (j := 16) (m_lay_at hT hk_x (by decide) (i := 25) rfl) (by decide) rfl m_wi9 tyX9_ok nmX9 (by decide) in_2_35 rfl rfl rfl ⟨rfl, rfl⟩ e_S2 dX9_failsBy_10 (fun H locs hH hS => ?_)
  refine lv_iconst (v := (0 : Int32)) hx hb dX9_failsBy_13 (by decide) ?_
  exact r_zret X hr hH hS hm dX9_failsBy_14
def rm_X9s_failsBy : Room := { frames := 0, cells := 0, slots := 0, locals := 0 }
def f_X9s_failsBy (x : Nat) (S : m_M) (i1 : Int32) : Option (Int32 × m_M) :=
    m_let (m_si S (x + 37) 15 i1) fun S1 =>
    m_let (m_si S1 (x + 37) 16 (m_ri S1 (x + 37) 10)) fun S2 =>
    if (0 : Int32) = 0 ∨ (0 : Int32) = 1 then some ((0 : Int32), S2) else none
set_option maxHeartbeats 4000000 in
set_option maxRecDepth 100000 in
theorem c_X9s_failsBy {l : Launch} {G : m_G} {nx : Nat} {κ : Nat → Nat} {x : Nat} {S : m_M} {i1 : Int32} {res : (Int32 × m_M)} (hT : m_Str κ) (hk_x : κ x = 12) (hm : f_X9s_failsBy x S i1 = some res) : m_Ci l yX9_failsBy cX9_failsBy 2 (some .boolean) rm_X9s_failsBy G nx κ [.ref (x + 37), .int i1] S res := by
  refine m_Ci.of (by decide) (Nat.le_of_ble_eq_true rfl) ?_
  intro p e s m args below meth c ls X hr hH hl
  have hx := X.1.1
  have hb := X.1.2.1
  have hS : m_S G s s.heap [] := va_S.rf
  have hl : lv_has ls 2 [(0, .ref (x + 37)), (1, .int i1)] := hl
  rw [f_X9s_failsBy] at hm
  refine lv_aload_n hx hb dX9_failsBy_0 rfl (lv_at hl 0 rfl) ?_
  refine lv_iload_n hx hb dX9_failsBy_1 rfl (lv_at hl 1 rfl) ?_
  obtain ⟨S1, e_S1, hm⟩ := m_let_of hm
  refine n_puti X hH hS tyX9 (k := 9) (a := (x + 37)) (j := 15) (m_lay_at hT hk_x (by decide) (i := 37) rfl) (by decide) rfl m_wi9 tyX9_ok nmX9 (by decide) in_2_33 rfl rfl rfl ⟨rfl, rfl⟩ e_S1 dX9_failsBy_2 (fun H locs hH hS => ?_)
  refine lv_aload_n hx hb dX9_failsBy_5 rfl (lv_at hl 0 rfl) ?_
  refine lv_aload_n hx hb dX9_failsBy_6 rfl (lv_at hl 0 rfl) ?_
  refine r_geti X hH (k := 9) (a := (x + 37)) (j := 10) (m_lay_at hT hk_x (by decide) (i := 37) rfl) (by decide) rfl m_wi9 (by decide) in_2_21 rfl rfl dX9_failsBy_7 ?_
  obtain ⟨S2, e_S2, hm⟩ := m_let_of hm
  refine n_puti X hH hS tyX9 (k := 9) (a := (x + 37)) (j := 16) (m_lay_at hT hk_x (by decide) (i := 37) rfl) (by decide) rfl m_wi9 tyX9_ok nmX9 (by decide) in_2_35 rfl rfl rfl ⟨rfl, rfl⟩ e_S2 dX9_failsBy_10 (fun H locs hH hS => ?_)
  refine lv_iconst (v := (0 : Int32)) hx hb dX9_failsBy_13 (by decide) ?_
  exact r_zret X hr hH hS hm dX9_failsBy_14
def rm_X4_varOf : Room := { frames := 0, cells := 0, slots := 0, locals := 0 }
def b_X4_varOf_2 (x : Nat)  : Nat → m_M → Int64 → Int32 → Option (Int32 × m_M)
  | 0, _, _, _ => none
  | n + 1, S, l1, l3 =>
    if (m_ri S (x + 2) 3) ≤ l3 then (
    some ((-1 : Int32), S)) else (
    (m_ldj S (x + 30) 27 l3).bind fun v2 =>
    if (lg_cmp v2 l1) = 0 then (
    some (l3, S)) else (
    m_let (l3 + (1 : Int32)) fun v4 =>
    b_X4_varOf_2 x n S l1 v4))
set_option maxHeartbeats 4000000 in
set_option maxRecDepth 100000 in
theorem k_X4_varOf_2 {p : Program} {l : Launch} {e : Env} {s : State} {m : MethodId} {args : Array Value} {below : List Frame} {meth : Method} {c : Code} {G : m_G} {nx : Nat} {κ : Nat → Nat} {res : (Int32 × m_M)} {x : Nat} (X : m_Cx p s m args meth c cX4_varOf 4 RX4 G) (hr : meth.sig.returnType = (some .int)) (hT : m_Str κ) (hk_x : κ x = 12)  (n : Nat) : ∀ (S : m_M) (l1 : Int64) (l3 : Int32) (H : Heap) (locs : List Loc) (ls : Array Slot), m_H G nx κ S H → m_S G s H locs → lv_has ls 4 [(0, .ref (x + 2)), (1, .long l1), (3, .int l3)] → b_X4_varOf_2 x n S l1 l3 = some res → W p l e rm_X4_varOf s m args below meth c H locs 0 0 (m_Qi below args s G nx κ res) (F0 m 2 ls []) := by
  have hx := X.1.1
  have hb := X.1.2.1
  induction n with
  | zero => intro S l1 l3 H locs ls hH hS hl hm; have hm : (none : Option (Int32 × m_M)) = some res := hm; cases hm
  | succ n ih =>
    intro S l1 l3 H locs ls hH hS hl hm
    rw [b_X4_varOf_2] at hm
    refine lv_iload_n hx hb dX4_varOf_2 rfl (lv_at hl 2 rfl) ?_
    refine lv_aload_n hx hb dX4_varOf_3 rfl (lv_at hl 0 rfl) ?_
    refine r_geti X hH (k := 4) (a := (x + 2)) (j := 3) (m_lay_at hT hk_x (by decide) (i := 2) rfl) (by decide) rfl m_wi4 (by decide) in_2_77 rfl rfl dX4_varOf_4 ?_
    refine lv_icmp_ge (tgt := 29) hx hb dX4_varOf_7 (by decide) (fun c1 => ?_) (fun c1 => ?_)
    · have hm := m_ite_t hm c1
      refine lv_iconst (v := (-1 : Int32)) hx hb dX4_varOf_29 (by decide) ?_
      exact r_iret X hr hH hS hm dX4_varOf_30
    · have hm := m_ite_f hm c1
      refine lv_aload_n hx hb dX4_varOf_10 rfl (lv_at hl 0 rfl) ?_
      refine r_getp X hH (k := 4) (a := (x + 2)) (j := 2) (b := (x + 30)) (A := 28) (B := 0) (m_lay_at hT hk_x (by decide) (i := 2) rfl) (by decide) rfl m_wi4 (by decide) in_2_76 rfl rfl rfl dX4_varOf_11 ?_
      refine lv_iload_n hx hb dX4_varOf_14 rfl (lv_at hl 2 rfl) ?_
      obtain ⟨v2, h_v2, e_v2, hm⟩ := n_ldj hm
      refine n_lald X hH (n := 27) (m_lay_at hT hk_x (by decide) (i := 30) rfl) h_v2 e_v2 dX4_varOf_15 ?_
      refine lv_lload_n hx hb dX4_varOf_16 rfl (lv_at hl 1 rfl) ?_
      refine W.lcmp hx hb dX4_varOf_17 ?_
      refine lv_if_ne (tgt := 23) hx hb dX4_varOf_18 (by decide) (fun c3 => ?_) (fun c3 => ?_)
      · have hm := m_ite_f hm c3
        obtain ⟨v4, e_v4, hm⟩ := m_let_of hm
        refine lv_iinc (v := v4) (lv' := [(3, .int v4), (0, .ref (x + 2)), (1, .long l1)]) hx hb dX4_varOf_23 hl (k := 2) rfl (by rw [← e_v4]; rfl) (by decide) rfl (fun ls hl => ?_)
        refine lv_goto (tgt := 2) hx hb dX4_varOf_26 (by decide) ?_
        exact ih S l1 v4 _ _ _ hH hS (lv_sub hl [1, 2, 0] rfl) hm
      · have hm := m_ite_t hm c3
        refine lv_iload_n hx hb dX4_varOf_21 rfl (lv_at hl 2 rfl) ?_
        exact r_iret X hr hH hS hm dX4_varOf_22
def f_X4_varOf (x : Nat) (S : m_M) (j1 : Int64) : Option (Int32 × m_M) :=
    b_X4_varOf_2 x m_fu S j1 (0 : Int32)
set_option maxHeartbeats 4000000 in
set_option maxRecDepth 100000 in
theorem c_X4_varOf {l : Launch} {G : m_G} {nx : Nat} {κ : Nat → Nat} {x : Nat} {S : m_M} {j1 : Int64} {res : (Int32 × m_M)} (hT : m_Str κ) (hk_x : κ x = 12) (hm : f_X4_varOf x S j1 = some res) : m_Ci l yX4_varOf cX4_varOf 4 (some .int) rm_X4_varOf G nx κ [.ref (x + 2), .long j1] S res := by
  refine m_Ci.of (by decide) (Nat.le_of_ble_eq_true rfl) ?_
  intro p e s m args below meth c ls X hr hH hl
  have hx := X.1.1
  have hb := X.1.2.1
  have hS : m_S G s s.heap [] := va_S.rf
  have hl : lv_has ls 4 [(0, .ref (x + 2)), (1, .long j1)] := hl
  rw [f_X4_varOf] at hm
  refine lv_iconst (v := (0 : Int32)) hx hb dX4_varOf_0 (by decide) ?_
  refine lv_istore_n (lv' := [(3, .int (0 : Int32)), (0, .ref (x + 2)), (1, .long j1)]) hx hb dX4_varOf_1 rfl hl (by decide) rfl (fun ls hl => ?_)
  exact k_X4_varOf_2 (x := x) X hr hT hk_x  m_fu S j1 (0 : Int32) _ _ _ hH hS (lv_sub hl [1, 2, 0] rfl) hm
def rm_X4_addVar : Room := { frames := 0, cells := 0, slots := 0, locals := 0 }
def b_X4_addVar_29 (x : Nat)  (S : m_M)  : Option m_M :=
    some S
set_option maxHeartbeats 4000000 in
set_option maxRecDepth 100000 in
theorem k_X4_addVar_29 {p : Program} {l : Launch} {e : Env} {s : State} {m : MethodId} {args : Array Value} {below : List Frame} {meth : Method} {c : Code} {G : m_G} {nx : Nat} {κ : Nat → Nat} {res : m_M} {x : Nat} (X : m_Cx p s m args meth c cX4_addVar 3 RX4 G) (hr : meth.sig.returnType = none) (hT : m_Str κ) (hk_x : κ x = 12)  : ∀ (S : m_M)  (H : Heap) (locs : List Loc) (ls : Array Slot), m_H G nx κ S H → m_S G s H locs → lv_has ls 3 [] → b_X4_addVar_29 x S  = some res → W p l e rm_X4_addVar s m args below meth c H locs 0 0 (m_Qv below args s G nx κ res) (F0 m 29 ls []) := by
  have hx := X.1.1
  have hb := X.1.2.1
  intro S H locs ls hH hS hl hm
  rw [b_X4_addVar_29] at hm
  exact r_vret X hr hH hS hm dX4_addVar_29
def f_X4_addVar (x : Nat) (S : m_M) (j1 : Int64) : Option m_M :=
    if (27 : Int32) ≤ (m_ri S (x + 2) 3) then (
    b_X4_addVar_29 x S) else (
    (m_stj S (x + 30) 27 (m_ri S (x + 2) 3) j1).bind fun S2 =>
    m_let (m_si S2 (x + 2) 3 ((m_ri S2 (x + 2) 3) + (1 : Int32))) fun S3 =>
    b_X4_addVar_29 x S3)
set_option maxHeartbeats 4000000 in
set_option maxRecDepth 100000 in
theorem c_X4_addVar {l : Launch} {G : m_G} {nx : Nat} {κ : Nat → Nat} {x : Nat} {S : m_M} {j1 : Int64} {res : m_M} (hT : m_Str κ) (hk_x : κ x = 12) (hm : f_X4_addVar x S j1 = some res) : m_Cv l yX4_addVar cX4_addVar 3 rm_X4_addVar G nx κ [.ref (x + 2), .long j1] S res := by
  refine m_Cv.of (by decide) (Nat.le_of_ble_eq_true rfl) ?_
  intro p e s m args below meth c ls X hr hH hl
  have hx := X.1.1
  have hb := X.1.2.1
  have hS : m_S G s s.heap [] := va_S.rf
  have hl : lv_has ls 3 [(0, .ref (x + 2)), (1, .long j1)] := hl
  rw [f_X4_addVar] at hm
  refine lv_aload_n hx hb dX4_addVar_0 rfl (lv_at hl 0 rfl) ?_
  refine r_geti X hH (k := 4) (a := (x + 2)) (j := 3) (m_lay_at hT hk_x (by decide) (i := 2) rfl) (by decide) rfl m_wi4 (by decide) in_2_77 rfl rfl dX4_addVar_1 ?_
  refine lv_bipush (v := (27 : Int32)) hx hb dX4_addVar_4 (by decide) ?_
  refine lv_icmp_ge (tgt := 29) hx hb dX4_addVar_6 (by decide) (fun c1 => ?_) (fun c1 => ?_)
  · have hm := m_ite_t hm c1
    exact k_X4_addVar_29 (x := x) X hr hT hk_x   S _ _ _ hH hS (lv_sub hl [] rfl) hm
  · have hm := m_ite_f hm c1
    refine lv_aload_n hx hb dX4_addVar_9 rfl (lv_at hl 0 rfl) ?_
    refine r_getp X hH (k := 4) (a := (x + 2)) (j := 2) (b := (x + 30)) (A := 28) (B := 0) (m_lay_at hT hk_x (by decide) (i := 2) rfl) (by decide) rfl m_wi4 (by decide) in_2_76 rfl rfl rfl dX4_addVar_10 ?_
    refine lv_aload_n hx hb dX4_addVar_13 rfl (lv_at hl 0 rfl) ?_
    refine r_geti X hH (k := 4) (a := (x + 2)) (j := 3) (m_lay_at hT hk_x (by decide) (i := 2) rfl) (by decide) rfl m_wi4 (by decide) in_2_77 rfl rfl dX4_addVar_14 ?_
    refine lv_lload_n hx hb dX4_addVar_17 rfl (lv_at hl 1 rfl) ?_
    obtain ⟨S2, h_S2, e_S2, hm⟩ := n_stj hm
    refine n_last X hH hS (n := 27) (m_lay_at hT hk_x (by decide) (i := 30) rfl) h_S2 e_S2 dX4_addVar_18 (fun H locs hH hS => ?_)
    refine lv_aload_n hx hb dX4_addVar_19 rfl (lv_at hl 0 rfl) ?_
    refine lv_dup hx hb dX4_addVar_20 rfl ?_
    refine r_geti X hH (k := 4) (a := (x + 2)) (j := 3) (m_lay_at hT hk_x (by decide) (i := 2) rfl) (by decide) rfl m_wi4 (by decide) in_2_77 rfl rfl dX4_addVar_21 ?_
    refine lv_iconst (v := (1 : Int32)) hx hb dX4_addVar_24 (by decide) ?_
    refine lv_iadd hx hb dX4_addVar_25 ?_
    obtain ⟨S3, e_S3, hm⟩ := m_let_of hm
    refine n_puti X hH hS tyX4 (k := 4) (a := (x + 2)) (j := 3) (m_lay_at hT hk_x (by decide) (i := 2) rfl) (by decide) rfl m_wi4 tyX4_ok nmX4 (by decide) in_2_77 rfl rfl rfl ⟨rfl, rfl⟩ e_S3 dX4_addVar_26 (fun H locs hH hS => ?_)
    exact k_X4_addVar_29 (x := x) X hr hT hk_x   S3 _ _ _ hH hS (lv_sub hl [] rfl) hm
def rm_X4_readsParameters : Room := { frames := 1, cells := 0, slots := 0, locals := 23 }
def b_X4_readsParameters_101 (x : Nat)  (S : m_M)  : Option (Int32 × m_M) :=
    if (1 : Int32) = 0 ∨ (1 : Int32) = 1 then some ((1 : Int32), S) else none
set_option maxHeartbeats 4000000 in
set_option maxRecDepth 100000 in
theorem k_X4_readsParameters_101 {p : Program} {l : Launch} {e : Env} {s : State} {m : MethodId} {args : Array Value} {below : List Frame} {meth : Method} {c : Code} {G : m_G} {nx : Nat} {κ : Nat → Nat} {res : (Int32 × m_M)} {x : Nat} (X : m_Cx p s m args meth c cX4_readsParameters 2 RX4 G) (hr : meth.sig.returnType = (some .boolean)) (hT : m_Str κ) (hk_x : κ x = 12)  : ∀ (S : m_M)  (H : Heap) (locs : List Loc) (ls : Array Slot), m_H G nx κ S H → m_S G s H locs → lv_has ls 2 [] → b_X4_readsParameters_101 x S  = some res → W p l e rm_X4_readsParameters s m args below meth c H locs 0 0 (m_Qi below args s G nx κ res) (F0 m 101 ls []) := by
  have hx := X.1.1
  have hb := X.1.2.1
  intro S H locs ls hH hS hl hm
  rw [b_X4_readsParameters_101] at hm
  refine lv_iconst (v := (1 : Int32)) hx hb dX4_readsParameters_101 (by decide) ?_
  exact r_zret X hr hH hS hm dX4_readsParameters_102
def b_X4_readsParameters_2 (x : Nat)  : Nat → m_M → Int32 → Option (Int32 × m_M)
  | 0, _, _ => none
  | n + 1, S, l1 =>
    if (3 : Int32) < l1 then (
    b_X4_readsParameters_101 x S) else (
    if (m_ri S (x + 25) 9) = (2 : Int32) then (
    m_call (f_X4_varOf x S (m_rj S (x + 25) 14)) fun v4 S3 =>
    if v4 = (-1 : Int32) then (
    if l1 = (3 : Int32) then (
    m_call (f_X9_failsBy x S3 (4 : Int32)) fun v13 S12 =>
    if v13 = 0 ∨ v13 = 1 then some (v13, S12) else none) else (
    m_cal0 (f_X4_addVar x S3 (m_rj S3 (x + 25) 14)) fun S7 =>
    (m_ldi S7 (x + 5) 5 ((m_ri S7 (x + 3) 0) - (1 : Int32))).bind fun v8 =>
    (m_sti S7 (x + 5) 5 ((m_ri S7 (x + 3) 0) - (1 : Int32)) (v8 + (1 : Int32))).bind fun S9 =>
    m_cal0 (f_X9_advance x S9) fun S10 =>
    m_let (l1 + (1 : Int32)) fun v11 =>
    b_X4_readsParameters_2 x n S10 v11)) else (
    m_call (f_X9_failsBy x S3 (3 : Int32)) fun v15 S14 =>
    if v15 = 0 ∨ v15 = 1 then some (v15, S14) else none)) else (
    b_X4_readsParameters_101 x S))
set_option maxHeartbeats 4000000 in
set_option maxRecDepth 100000 in
theorem k_X4_readsParameters_2 {p : Program} {l : Launch} {e : Env} {s : State} {m : MethodId} {args : Array Value} {below : List Frame} {meth : Method} {c : Code} {G : m_G} {nx : Nat} {κ : Nat → Nat} {res : (Int32 × m_M)} {x : Nat} (X : m_Cx p s m args meth c cX4_readsParameters 2 RX4 G) (hr : meth.sig.returnType = (some .boolean)) (hT : m_Str κ) (hk_x : κ x = 12)  (n : Nat) : ∀ (S : m_M) (l1 : Int32) (H : Heap) (locs : List Loc) (ls : Array Slot), m_H G nx κ S H → m_S G s H locs → lv_has ls 2 [(0, .ref (x + 2)), (1, .int l1)] → b_X4_readsParameters_2 x n S l1 = some res → W p l e rm_X4_readsParameters s m args below meth c H locs 0 0 (m_Qi below args s G nx κ res) (F0 m 2 ls []) := by
  have hx := X.1.1
  have hb := X.1.2.1
  induction n with
  | zero => intro S l1 H locs ls hH hS hl hm; have hm : (none : Option (Int32 × m_M)) = some res := hm; cases hm
  | succ n ih =>
    intro S l1 H locs ls hH hS hl hm
    rw [b_X4_readsParameters_2] at hm
    refine lv_iload_n hx hb dX4_readsParameters_2 rfl (lv_at hl 1 rfl) ?_
    refine lv_iconst (v := (3 : Int32)) hx hb dX4_readsParameters_3 (by decide) ?_
    refine lv_icmp_gt (tgt := 101) hx hb dX4_readsParameters_4 (by decide) (fun c1 => ?_) (fun c1 => ?_)
    · have hm := m_ite_t hm c1
      exact k_X4_readsParameters_101 (x := x) X hr hT hk_x   S _ _ _ hH hS (lv_sub hl [] rfl) hm
    · have hm := m_ite_f hm c1
      refine lv_aload_n hx hb dX4_readsParameters_7 rfl (lv_at hl 0 rfl) ?_
      refine r_getp X hH (k := 4) (a := (x + 2)) (j := 1) (b := (x + 25)) (A := 23) (B := 0) (m_lay_at hT hk_x (by decide) (i := 2) rfl) (by decide) rfl m_wi4 (by decide) in_2_74 rfl rfl rfl dX4_readsParameters_8 ?_
      refine r_geti X hH (k := 9) (a := (x + 25)) (j := 9) (m_lay_at hT hk_x (by decide) (i := 25) rfl) (by decide) rfl m_wi9 (by decide) in_2_19 rfl rfl dX4_readsParameters_11 ?_
      refine lv_iconst (v := (2 : Int32)) hx hb dX4_readsParameters_14 (by decide) ?_
      refine lv_icmp_ne (tgt := 101) hx hb dX4_readsParameters_15 (by decide) (fun c2 => ?_) (fun c2 => ?_)
      · have hm := m_ite_f hm c2
        exact k_X4_readsParameters_101 (x := x) X hr hT hk_x   S _ _ _ hH hS (lv_sub hl [] rfl) hm
      · have hm := m_ite_t hm c2
        refine lv_aload_n hx hb dX4_readsParameters_18 rfl (lv_at hl 0 rfl) ?_
        refine lv_aload_n hx hb dX4_readsParameters_19 rfl (lv_at hl 0 rfl) ?_
        refine r_getp X hH (k := 4) (a := (x + 2)) (j := 1) (b := (x + 25)) (A := 23) (B := 0) (m_lay_at hT hk_x (by decide) (i := 2) rfl) (by decide) rfl m_wi4 (by decide) in_2_74 rfl rfl rfl dX4_readsParameters_20 ?_
        refine r_getj X hH (k := 9) (a := (x + 25)) (j := 14) (m_lay_at hT hk_x (by decide) (i := 25) rfl) (by decide) rfl m_wi9 (by decide) in_2_31 rfl rfl dX4_readsParameters_23 ?_
        obtain ⟨v4, S3, e_S3, hm⟩ := m_call_of hm
        refine n_cVi X hH hS (k := 4) (c_X4_varOf (x := x) hT hk_x e_S3) mw_X4_varOf in_3_199 (m_lay_at hT hk_x (by decide) (i := 2) rfl) (by decide) rfl rfl rfl ⟨rfl, rfl⟩ ⟨Nat.le_of_ble_eq_true rfl, Nat.le_of_ble_eq_true rfl⟩ ⟨Nat.zero_le _, Nat.zero_le _⟩ hl.1 (Nat.le_of_ble_eq_true rfl) dX4_readsParameters_26 (fun H locs hH hS => ?_)
        refine lv_iconst (v := (-1 : Int32)) hx hb dX4_readsParameters_29 (by decide) ?_
        refine lv_icmp_eq (tgt := 42) hx hb dX4_readsParameters_30 (by decide) (fun c5 => ?_) (fun c5 => ?_)
        · have hm := m_ite_t hm c5
          refine lv_iload_n hx hb dX4_readsParameters_42 rfl (lv_at hl 1 rfl) ?_
          refine lv_iconst (v := (3 : Int32)) hx hb dX4_readsParameters_43 (by decide) ?_
          refine lv_icmp_ne (tgt := 56) hx hb dX4_readsParameters_44 (by decide) (fun c6 => ?_) (fun c6 => ?_)
          · have hm := m_ite_f hm c6
            refine lv_aload_n hx hb dX4_readsParameters_56 rfl (lv_at hl 0 rfl) ?_
            refine lv_aload_n hx hb dX4_readsParameters_57 rfl (lv_at hl 0 rfl) ?_
            refine r_getp X hH (k := 4) (a := (x + 2)) (j := 1) (b := (x + 25)) (A := 23) (B := 0) (m_lay_at hT hk_x (by decide) (i := 2) rfl) (by decide) rfl m_wi4 (by decide) in_2_74 rfl rfl rfl dX4_readsParameters_58 ?_
            refine r_getj X hH (k := 9) (a := (x + 25)) (j := 14) (m_lay_at hT hk_x (by decide) (i := 25) rfl) (by decide) rfl m_wi9 (by decide) in_2_31 rfl rfl dX4_readsParameters_61 ?_
            obtain ⟨S7, e_S7, hm⟩ := m_cal0_of hm
            refine r_cVv X hH hS (k := 4) (c_X4_addVar (x := x) hT hk_x e_S7) mw_X4_addVar in_3_203 (m_lay_at hT hk_x (by decide) (i := 2) rfl) (by decide) rfl rfl rfl ⟨rfl, rfl⟩ ⟨Nat.le_of_ble_eq_true rfl, Nat.le_of_ble_eq_true rfl⟩ ⟨Nat.zero_le _, Nat.zero_le _⟩ hl.1 (Nat.le_of_ble_eq_true rfl) dX4_readsParameters_64 (fun H locs hH hS => ?_)
            refine lv_aload_n hx hb dX4_readsParameters_67 rfl (lv_at hl 0 rfl) ?_
            refine r_getp X hH (k := 4) (a := (x + 2)) (j := 0) (b := (x + 3)) (A := 1) (B := 0) (m_lay_at hT hk_x (by decide) (i := 2) rfl) (by decide) rfl m_wi4 (by decide) in_2_72 rfl rfl rfl dX4_readsParameters_68 ?_
            refine r_getp X hH (k := 3) (a := (x + 3)) (j := 3) (b := (x + 5)) (A := 2) (B := 0) (m_lay_at hT hk_x (by decide) (i := 3) rfl) (by decide) rfl m_wi3 (by decide) in_1_134 rfl rfl rfl dX4_readsParameters_71 ?_
            refine lv_aload_n hx hb dX4_readsParameters_74 rfl (lv_at hl 0 rfl) ?_
            refine r_getp X hH (k := 4) (a := (x + 2)) (j := 0) (b := (x + 3)) (A := 1) (B := 0) (m_lay_at hT hk_x (by decide) (i := 2) rfl) (by decide) rfl m_wi4 (by decide) in_2_72 rfl rfl rfl dX4_readsParameters_75 ?_
            refine r_geti X hH (k := 3) (a := (x + 3)) (j := 0) (m_lay_at hT hk_x (by decide) (i := 3) rfl) (by decide) rfl m_wi3 (by decide) in_1_124 rfl rfl dX4_readsParameters_78 ?_
            refine lv_iconst (v := (1 : Int32)) hx hb dX4_readsParameters_81 (by decide) ?_
            refine lv_isub hx hb dX4_readsParameters_82 ?_
            refine lv_dup2_11 hx hb dX4_readsParameters_83 rfl rfl ?_
            obtain ⟨v8, h_v8, e_v8, hm⟩ := n_ldi hm
            refine n_iald X hH (n := 5) (m_lay_at hT hk_x (by decide) (i := 5) rfl) h_v8 e_v8 dX4_readsParameters_84 ?_
            refine lv_iconst (v := (1 : Int32)) hx hb dX4_readsParameters_85 (by decide) ?_
            refine lv_iadd hx hb dX4_readsParameters_86 ?_
            obtain ⟨S9, h_S9, e_S9, hm⟩ := n_sti hm
            refine n_iast X hH hS (n := 5) (m_lay_at hT hk_x (by decide) (i := 5) rfl) h_S9 e_S9 dX4_readsParameters_87 (fun H locs hH hS => ?_)
            refine lv_aload_n hx hb dX4_readsParameters_88 rfl (lv_at hl 0 rfl) ?_
            refine r_getp X hH (k := 4) (a := (x + 2)) (j := 1) (b := (x + 25)) (A := 23) (B := 0) (m_lay_at hT hk_x (by decide) (i := 2) rfl) (by decide) rfl m_wi4 (by decide) in_2_74 rfl rfl rfl dX4_readsParameters_89 ?_
            obtain ⟨S10, e_S10, hm⟩ := m_cal0_of hm
            refine r_cVv X hH hS (k := 9) (c_X9_advance (x := x) hT hk_x e_S10) mw_X9_advance in_3_186 (m_lay_at hT hk_x (by decide) (i := 25) rfl) (by decide) rfl rfl rfl ⟨rfl, rfl⟩ ⟨Nat.le_of_ble_eq_true rfl, Nat.le_of_ble_eq_true rfl⟩ ⟨Nat.zero_le _, Nat.zero_le _⟩ hl.1 (Nat.le_of_ble_eq_true rfl) dX4_readsParameters_92 (fun H locs hH hS => ?_)
            obtain ⟨v11, e_v11, hm⟩ := m_let_of hm
            refine lv_iinc (v := v11) (lv' := [(1, .int v11), (0, .ref (x + 2))]) hx hb dX4_readsParameters_95 hl (k := 1) rfl (by rw [← e_v11]; rfl) (by decide) rfl (fun ls hl => ?_)
            refine lv_goto (tgt := 2) hx hb dX4_readsParameters_98 (by decide) ?_
            exact ih S10 v11 _ _ _ hH hS (lv_sub hl [1, 0] rfl) hm
          · have hm := m_ite_t hm c6
            refine lv_aload_n hx hb dX4_readsParameters_47 rfl (lv_at hl 0 rfl) ?_
            refine r_getp X hH (k := 4) (a := (x + 2)) (j := 1) (b := (x + 25)) (A := 23) (B := 0) (m_lay_at hT hk_x (by decide) (i := 2) rfl) (by decide) rfl m_wi4 (by decide) in_2_74 rfl rfl rfl dX4_readsParameters_48 ?_
            refine lv_iconst (v := (4 : Int32)) hx hb dX4_readsParameters_51 (by decide) ?_
            obtain ⟨v13, S12, e_S12, hm⟩ := m_call_of hm
            refine n_cVi X hH hS (k := 9) (c_X9_failsBy (x := x) hT hk_x e_S12) mw_X9_failsBy in_3_182 (m_lay_at hT hk_x (by decide) (i := 25) rfl) (by decide) rfl rfl rfl ⟨rfl, rfl⟩ ⟨Nat.le_of_ble_eq_true rfl, Nat.le_of_ble_eq_true rfl⟩ ⟨Nat.zero_le _, Nat.zero_le _⟩ hl.1 (Nat.le_of_ble_eq_true rfl) dX4_readsParameters_52 (fun H locs hH hS => ?_)
            exact r_zret X hr hH hS hm dX4_readsParameters_55
        · have hm := m_ite_f hm c5
          refine lv_aload_n hx hb dX4_readsParameters_33 rfl (lv_at hl 0 rfl) ?_
          refine r_getp X hH (k := 4) (a := (x + 2)) (j := 1) (b := (x + 25)) (A := 23) (B := 0) (m_lay_at hT hk_x (by decide) (i := 2) rfl) (by decide) rfl m_wi4 (by decide) in_2_74 rfl rfl rfl dX4_readsParameters_34 ?_
          refine lv_iconst (v := (3 : Int32)) hx hb dX4_readsParameters_37 (by decide) ?_
          obtain ⟨v15, S14, e_S14, hm⟩ := m_call_of hm
          refine n_cVi X hH hS (k := 9) (c_X9_failsBy (x := x) hT hk_x e_S14) mw_X9_failsBy in_3_182 (m_lay_at hT hk_x (by decide) (i := 25) rfl) (by decide) rfl rfl rfl ⟨rfl, rfl⟩ ⟨Nat.le_of_ble_eq_true rfl, Nat.le_of_ble_eq_true rfl⟩ ⟨Nat.zero_le _, Nat.zero_le _⟩ hl.1 (Nat.le_of_ble_eq_true rfl) dX4_readsParameters_38 (fun H locs hH hS => ?_)
          exact r_zret X hr hH hS hm dX4_readsParameters_41
def f_X4_readsParameters (x : Nat) (S : m_M)  : Option (Int32 × m_M) :=
    b_X4_readsParameters_2 x m_fu S (0 : Int32)
set_option maxHeartbeats 4000000 in
set_option maxRecDepth 100000 in
theorem c_X4_readsParameters {l : Launch} {G : m_G} {nx : Nat} {κ : Nat → Nat} {x : Nat} {S : m_M}  {res : (Int32 × m_M)} (hT : m_Str κ) (hk_x : κ x = 12) (hm : f_X4_readsParameters x S = some res) : m_Ci l yX4_readsParameters cX4_readsParameters 2 (some .boolean) rm_X4_readsParameters G nx κ [.ref (x + 2)] S res := by
  refine m_Ci.of (by decide) (Nat.le_of_ble_eq_true rfl) ?_
  intro p e s m args below meth c ls X hr hH hl
  have hx := X.1.1
  have hb := X.1.2.1
  have hS : m_S G s s.heap [] := va_S.rf
  have hl : lv_has ls 2 [(0, .ref (x + 2))] := hl
  rw [f_X4_readsParameters] at hm
  refine lv_iconst (v := (0 : Int32)) hx hb dX4_readsParameters_0 (by decide) ?_
  refine lv_istore_n (lv' := [(1, .int (0 : Int32)), (0, .ref (x + 2))]) hx hb dX4_readsParameters_1 rfl hl (by decide) rfl (fun ls hl => ?_)
  exact k_X4_readsParameters_2 (x := x) X hr hT hk_x  m_fu S (0 : Int32) _ _ _ hH hS (lv_sub hl [1, 0] rfl) hm
def rm_X4_readsFun : Room := { frames := 2, cells := 0, slots := 0, locals := 44 }
def f_X4_readsFun (x : Nat) (S : m_M)  : Option (Int32 × m_M) :=
    m_call (f_X4_latestFunIsBare x S) fun v2 S1 =>
    if v2 = 0 then (
    if (m_ri S1 (x + 3) 0) < (5 : Int32) then (
    m_cal0 (f_X9_advance x S1) fun S5 =>
    if (m_ri S5 (x + 25) 9) = (2 : Int32) then (
    m_call (f_X3_funOf (x + 3) S5 (m_rj S5 (x + 25) 14)) fun v8 S7 =>
    if v8 = (-1 : Int32) then (
    m_cal0 (f_X3_openFun (x + 3) S7 (m_rj S7 (x + 25) 14)) fun S10 =>
    m_let (m_si S10 (x + 2) 3 (0 : Int32)) fun S11 =>
    m_cal0 (f_X9_advance x S11) fun S12 =>
    m_call (f_X4_readsParameters x S12) fun v14 S13 =>
    if v14 = 0 ∨ v14 = 1 then some (v14, S13) else none) else (
    m_call (f_X9_failsBy x S7 (3 : Int32)) fun v16 S15 =>
    if v16 = 0 ∨ v16 = 1 then some (v16, S15) else none)) else (
    m_call (f_X9_failsBy x S5 (1 : Int32)) fun v18 S17 =>
    if v18 = 0 ∨ v18 = 1 then some (v18, S17) else none)) else (
    m_call (f_X9_failsBy x S1 (4 : Int32)) fun v20 S19 =>
    if v20 = 0 ∨ v20 = 1 then some (v20, S19) else none)) else (
    m_call (f_X9_failsBy x S1 (3 : Int32)) fun v22 S21 =>
    if v22 = 0 ∨ v22 = 1 then some (v22, S21) else none)
set_option maxHeartbeats 4000000 in
set_option maxRecDepth 100000 in
theorem c_X4_readsFun {l : Launch} {G : m_G} {nx : Nat} {κ : Nat → Nat} {x : Nat} {S : m_M}  {res : (Int32 × m_M)} (hT : m_Str κ) (hk_x : κ x = 12) (hm : f_X4_readsFun x S = some res) : m_Ci l yX4_readsFun cX4_readsFun 1 (some .boolean) rm_X4_readsFun G nx κ [.ref (x + 2)] S res := by
  refine m_Ci.of (by decide) (Nat.le_of_ble_eq_true rfl) ?_
  intro p e s m args below meth c ls X hr hH hl
  have hx := X.1.1
  have hb := X.1.2.1
  have hS : m_S G s s.heap [] := va_S.rf
  have hl : lv_has ls 1 [(0, .ref (x + 2))] := hl
  rw [f_X4_readsFun] at hm
  refine lv_aload_n hx hb dX4_readsFun_0 rfl (lv_at hl 0 rfl) ?_
  obtain ⟨v2, S1, e_S1, hm⟩ := m_call_of hm
  refine n_cVi X hH hS (k := 4) (c_X4_latestFunIsBare (x := x) hT hk_x e_S1) mw_X4_latestFunIsBare in_3_178 (m_lay_at hT hk_x (by decide) (i := 2) rfl) (by decide) rfl rfl rfl ⟨rfl, rfl⟩ ⟨Nat.le_of_ble_eq_true rfl, Nat.le_of_ble_eq_true rfl⟩ ⟨Nat.zero_le _, Nat.zero_le _⟩ hl.1 (Nat.le_of_ble_eq_true rfl) dX4_readsFun_1 (fun H locs hH hS => ?_)
  refine lv_if_eq (tgt := 16) hx hb dX4_readsFun_4 (by decide) (fun c3 => ?_) (fun c3 => ?_)
  · have hm := m_ite_t hm c3
    refine lv_aload_n hx hb dX4_readsFun_16 rfl (lv_at hl 0 rfl) ?_
    refine r_getp X hH (k := 4) (a := (x + 2)) (j := 0) (b := (x + 3)) (A := 1) (B := 0) (m_lay_at hT hk_x (by decide) (i := 2) rfl) (by decide) rfl m_wi4 (by decide) in_2_72 rfl rfl rfl dX4_readsFun_17 ?_
    refine r_geti X hH (k := 3) (a := (x + 3)) (j := 0) (m_lay_at hT hk_x (by decide) (i := 3) rfl) (by decide) rfl m_wi3 (by decide) in_1_124 rfl rfl dX4_readsFun_20 ?_
    refine lv_iconst (v := (5 : Int32)) hx hb dX4_readsFun_23 (by decide) ?_
    refine lv_icmp_lt (tgt := 36) hx hb dX4_readsFun_24 (by decide) (fun c4 => ?_) (fun c4 => ?_)
    · have hm := m_ite_t hm c4
      refine lv_aload_n hx hb dX4_readsFun_36 rfl (lv_at hl 0 rfl) ?_
      refine r_getp X hH (k := 4) (a := (x + 2)) (j := 1) (b := (x + 25)) (A := 23) (B := 0) (m_lay_at hT hk_x (by decide) (i := 2) rfl) (by decide) rfl m_wi4 (by decide) in_2_74 rfl rfl rfl dX4_readsFun_37 ?_
      obtain ⟨S5, e_S5, hm⟩ := m_cal0_of hm
      refine r_cVv X hH hS (k := 9) (c_X9_advance (x := x) hT hk_x e_S5) mw_X9_advance in_3_186 (m_lay_at hT hk_x (by decide) (i := 25) rfl) (by decide) rfl rfl rfl ⟨rfl, rfl⟩ ⟨Nat.le_of_ble_eq_true rfl, Nat.le_of_ble_eq_true rfl⟩ ⟨Nat.zero_le _, Nat.zero_le _⟩ hl.1 (Nat.le_of_ble_eq_true rfl) dX4_readsFun_40 (fun H locs hH hS => ?_)
      refine lv_aload_n hx hb dX4_readsFun_43 rfl (lv_at hl 0 rfl) ?_
      refine r_getp X hH (k := 4) (a := (x + 2)) (j := 1) (b := (x + 25)) (A := 23) (B := 0) (m_lay_at hT hk_x (by decide) (i := 2) rfl) (by decide) rfl m_wi4 (by decide) in_2_74 rfl rfl rfl dX4_readsFun_44 ?_
      refine r_geti X hH (k := 9) (a := (x + 25)) (j := 9) (m_lay_at hT hk_x (by decide) (i := 25) rfl) (by decide) rfl m_wi9 (by decide) in_2_19 rfl rfl dX4_readsFun_47 ?_
      refine lv_iconst (v := (2 : Int32)) hx hb dX4_readsFun_50 (by decide) ?_
      refine lv_icmp_eq (tgt := 63) hx hb dX4_readsFun_51 (by decide) (fun c6 => ?_) (fun c6 => ?_)
      · have hm := m_ite_t hm c6
        refine lv_aload_n hx hb dX4_readsFun_63 rfl (lv_at hl 0 rfl) ?_
        refine r_getp X hH (k := 4) (a := (x + 2)) (j := 0) (b := (x + 3)) (A := 1) (B := 0) (m_lay_at hT hk_x (by decide) (i := 2) rfl) (by decide) rfl m_wi4 (by decide) in_2_72 rfl rfl rfl dX4_readsFun_64 ?_
        refine lv_aload_n hx hb dX4_readsFun_67 rfl (lv_at hl 0 rfl) ?_
        refine r_getp X hH (k := 4) (a := (x + 2)) (j := 1) (b := (x + 25)) (A := 23) (B := 0) (m_lay_at hT hk_x (by decide) (i := 2) rfl) (by decide) rfl m_wi4 (by decide) in_2_74 rfl rfl rfl dX4_readsFun_68 ?_
        refine r_getj X hH (k := 9) (a := (x + 25)) (j := 14) (m_lay_at hT hk_x (by decide) (i := 25) rfl) (by decide) rfl m_wi9 (by decide) in_2_31 rfl rfl dX4_readsFun_71 ?_
        obtain ⟨v8, S7, e_S7, hm⟩ := m_call_of hm
        refine n_cVi X hH hS (k := 3) (c_X3_funOf (a := (x + 3)) hT (m_lay_at hT hk_x (by decide) (i := 3) rfl) e_S7) mw_X3_funOf in_3_187 (m_lay_at hT hk_x (by decide) (i := 3) rfl) (by decide) rfl rfl rfl ⟨rfl, rfl⟩ ⟨Nat.le_of_ble_eq_true rfl, Nat.le_of_ble_eq_true rfl⟩ ⟨Nat.zero_le _, Nat.zero_le _⟩ hl.1 (Nat.le_of_ble_eq_true rfl) dX4_readsFun_74 (fun H locs hH hS => ?_)
        refine lv_iconst (v := (-1 : Int32)) hx hb dX4_readsFun_77 (by decide) ?_
        refine lv_icmp_eq (tgt := 90) hx hb dX4_readsFun_78 (by decide) (fun c9 => ?_) (fun c9 => ?_)
        · have hm := m_ite_t hm c9
          refine lv_aload_n hx hb dX4_readsFun_90 rfl (lv_at hl 0 rfl) ?_
          refine r_getp X hH (k := 4) (a := (x + 2)) (j := 0) (b := (x + 3)) (A := 1) (B := 0) (m_lay_at hT hk_x (by decide) (i := 2) rfl) (by decide) rfl m_wi4 (by decide) in_2_72 rfl rfl rfl dX4_readsFun_91 ?_
          refine lv_aload_n hx hb dX4_readsFun_94 rfl (lv_at hl 0 rfl) ?_
          refine r_getp X hH (k := 4) (a := (x + 2)) (j := 1) (b := (x + 25)) (A := 23) (B := 0) (m_lay_at hT hk_x (by decide) (i := 2) rfl) (by decide) rfl m_wi4 (by decide) in_2_74 rfl rfl rfl dX4_readsFun_95 ?_
          refine r_getj X hH (k := 9) (a := (x + 25)) (j := 14) (m_lay_at hT hk_x (by decide) (i := 25) rfl) (by decide) rfl m_wi9 (by decide) in_2_31 rfl rfl dX4_readsFun_98 ?_
          obtain ⟨S10, e_S10, hm⟩ := m_cal0_of hm
          refine r_cVv X hH hS (k := 3) (c_X3_openFun (a := (x + 3)) hT (m_lay_at hT hk_x (by decide) (i := 3) rfl) e_S10) mw_X3_openFun in_3_191 (m_lay_at hT hk_x (by decide) (i := 3) rfl) (by decide) rfl rfl rfl ⟨rfl, rfl⟩ ⟨Nat.le_of_ble_eq_true rfl, Nat.le_of_ble_eq_true rfl⟩ ⟨Nat.zero_le _, Nat.zero_le _⟩ hl.1 (Nat.le_of_ble_eq_true rfl) dX4_readsFun_101 (fun H locs hH hS => ?_)
          refine lv_aload_n hx hb dX4_readsFun_104 rfl (lv_at hl 0 rfl) ?_
          refine lv_iconst (v := (0 : Int32)) hx hb dX4_readsFun_105 (by decide) ?_
          obtain ⟨S11, e_S11, hm⟩ := m_let_of hm
          refine n_puti X hH hS tyX4 (k := 4) (a := (x + 2)) (j := 3) (m_lay_at hT hk_x (by decide) (i := 2) rfl) (by decide) rfl m_wi4 tyX4_ok nmX4 (by decide) in_2_77 rfl rfl rfl ⟨rfl, rfl⟩ e_S11 dX4_readsFun_106 (fun H locs hH hS => ?_)
          refine lv_aload_n hx hb dX4_readsFun_109 rfl (lv_at hl 0 rfl) ?_
          refine r_getp X hH (k := 4) (a := (x + 2)) (j := 1) (b := (x + 25)) (A := 23) (B := 0) (m_lay_at hT hk_x (by decide) (i := 2) rfl) (by decide) rfl m_wi4 (by decide) in_2_74 rfl rfl rfl dX4_readsFun_110 ?_
          obtain ⟨S12, e_S12, hm⟩ := m_cal0_of hm
          refine r_cVv X hH hS (k := 9) (c_X9_advance (x := x) hT hk_x e_S12) mw_X9_advance in_3_186 (m_lay_at hT hk_x (by decide) (i := 25) rfl) (by decide) rfl rfl rfl ⟨rfl, rfl⟩ ⟨Nat.le_of_ble_eq_true rfl, Nat.le_of_ble_eq_true rfl⟩ ⟨Nat.zero_le _, Nat.zero_le _⟩ hl.1 (Nat.le_of_ble_eq_true rfl) dX4_readsFun_113 (fun H locs hH hS => ?_)
          refine lv_aload_n hx hb dX4_readsFun_116 rfl (lv_at hl 0 rfl) ?_
          obtain ⟨v14, S13, e_S13, hm⟩ := m_call_of hm
          refine n_cVi X hH hS (k := 4) (c_X4_readsParameters (x := x) hT hk_x e_S13) mw_X4_readsParameters in_3_195 (m_lay_at hT hk_x (by decide) (i := 2) rfl) (by decide) rfl rfl rfl ⟨rfl, rfl⟩ ⟨Nat.le_of_ble_eq_true rfl, Nat.le_of_ble_eq_true rfl⟩ ⟨Nat.zero_le _, Nat.zero_le _⟩ hl.1 (Nat.le_of_ble_eq_true rfl) dX4_readsFun_117 (fun H locs hH hS => ?_)
          exact r_zret X hr hH hS hm dX4_readsFun_120
        · have hm := m_ite_f hm c9
          refine lv_aload_n hx hb dX4_readsFun_81 rfl (lv_at hl 0 rfl) ?_
          refine r_getp X hH (k := 4) (a := (x + 2)) (j := 1) (b := (x + 25)) (A := 23) (B := 0) (m_lay_at hT hk_x (by decide) (i := 2) rfl) (by decide) rfl m_wi4 (by decide) in_2_74 rfl rfl rfl dX4_readsFun_82 ?_
          refine lv_iconst (v := (3 : Int32)) hx hb dX4_readsFun_85 (by decide) ?_
          obtain ⟨v16, S15, e_S15, hm⟩ := m_call_of hm
          refine n_cVi X hH hS (k := 9) (c_X9_failsBy (x := x) hT hk_x e_S15) mw_X9_failsBy in_3_182 (m_lay_at hT hk_x (by decide) (i := 25) rfl) (by decide) rfl rfl rfl ⟨rfl, rfl⟩ ⟨Nat.le_of_ble_eq_true rfl, Nat.le_of_ble_eq_true rfl⟩ ⟨Nat.zero_le _, Nat.zero_le _⟩ hl.1 (Nat.le_of_ble_eq_true rfl) dX4_readsFun_86 (fun H locs hH hS => ?_)
          exact r_zret X hr hH hS hm dX4_readsFun_89
      · have hm := m_ite_f hm c6
        refine lv_aload_n hx hb dX4_readsFun_54 rfl (lv_at hl 0 rfl) ?_
        refine r_getp X hH (k := 4) (a := (x + 2)) (j := 1) (b := (x + 25)) (A := 23) (B := 0) (m_lay_at hT hk_x (by decide) (i := 2) rfl) (by decide) rfl m_wi4 (by decide) in_2_74 rfl rfl rfl dX4_readsFun_55 ?_
        refine lv_iconst (v := (1 : Int32)) hx hb dX4_readsFun_58 (by decide) ?_
        obtain ⟨v18, S17, e_S17, hm⟩ := m_call_of hm
        refine n_cVi X hH hS (k := 9) (c_X9_failsBy (x := x) hT hk_x e_S17) mw_X9_failsBy in_3_182 (m_lay_at hT hk_x (by decide) (i := 25) rfl) (by decide) rfl rfl rfl ⟨rfl, rfl⟩ ⟨Nat.le_of_ble_eq_true rfl, Nat.le_of_ble_eq_true rfl⟩ ⟨Nat.zero_le _, Nat.zero_le _⟩ hl.1 (Nat.le_of_ble_eq_true rfl) dX4_readsFun_59 (fun H locs hH hS => ?_)
        exact r_zret X hr hH hS hm dX4_readsFun_62
    · have hm := m_ite_f hm c4
      refine lv_aload_n hx hb dX4_readsFun_27 rfl (lv_at hl 0 rfl) ?_
      refine r_getp X hH (k := 4) (a := (x + 2)) (j := 1) (b := (x + 25)) (A := 23) (B := 0) (m_lay_at hT hk_x (by decide) (i := 2) rfl) (by decide) rfl m_wi4 (by decide) in_2_74 rfl rfl rfl dX4_readsFun_28 ?_
      refine lv_iconst (v := (4 : Int32)) hx hb dX4_readsFun_31 (by decide) ?_
      obtain ⟨v20, S19, e_S19, hm⟩ := m_call_of hm
      refine n_cVi X hH hS (k := 9) (c_X9_failsBy (x := x) hT hk_x e_S19) mw_X9_failsBy in_3_182 (m_lay_at hT hk_x (by decide) (i := 25) rfl) (by decide) rfl rfl rfl ⟨rfl, rfl⟩ ⟨Nat.le_of_ble_eq_true rfl, Nat.le_of_ble_eq_true rfl⟩ ⟨Nat.zero_le _, Nat.zero_le _⟩ hl.1 (Nat.le_of_ble_eq_true rfl) dX4_readsFun_32 (fun H locs hH hS => ?_)
      exact r_zret X hr hH hS hm dX4_readsFun_35
  · have hm := m_ite_f hm c3
    refine lv_aload_n hx hb dX4_readsFun_7 rfl (lv_at hl 0 rfl) ?_
    refine r_getp X hH (k := 4) (a := (x + 2)) (j := 1) (b := (x + 25)) (A := 23) (B := 0) (m_lay_at hT hk_x (by decide) (i := 2) rfl) (by decide) rfl m_wi4 (by decide) in_2_74 rfl rfl rfl dX4_readsFun_8 ?_
    refine lv_iconst (v := (3 : Int32)) hx hb dX4_readsFun_11 (by decide) ?_
    obtain ⟨v22, S21, e_S21, hm⟩ := m_call_of hm
    refine n_cVi X hH hS (k := 9) (c_X9_failsBy (x := x) hT hk_x e_S21) mw_X9_failsBy in_3_182 (m_lay_at hT hk_x (by decide) (i := 25) rfl) (by decide) rfl rfl rfl ⟨rfl, rfl⟩ ⟨Nat.le_of_ble_eq_true rfl, Nat.le_of_ble_eq_true rfl⟩ ⟨Nat.zero_le _, Nat.zero_le _⟩ hl.1 (Nat.le_of_ble_eq_true rfl) dX4_readsFun_12 (fun H locs hH hS => ?_)
    exact r_zret X hr hH hS hm dX4_readsFun_15
def rm_X9_takesKeyword : Room := { frames := 1, cells := 0, slots := 0, locals := 21 }
def f_X9_takesKeyword (x : Nat) (S : m_M) (i1 : Int32) : Option (Int32 × m_M) :=
    if (m_ri S (x + 25) 11) = i1 then (
    m_cal0 (f_X9_advance x S) fun S2 =>
    if (1 : Int32) = 0 ∨ (1 : Int32) = 1 then some ((1 : Int32), S2) else none) else (
    m_call (f_X9_failsBy x S (1 : Int32)) fun v4 S3 =>
    if v4 = 0 ∨ v4 = 1 then some (v4, S3) else none)
set_option maxHeartbeats 4000000 in
set_option maxRecDepth 100000 in
theorem c_X9_takesKeyword {l : Launch} {G : m_G} {nx : Nat} {κ : Nat → Nat} {x : Nat} {S : m_M} {i1 : Int32} {res : (Int32 × m_M)} (hT : m_Str κ) (hk_x : κ x = 12) (hm : f_X9_takesKeyword x S i1 = some res) : m_Ci l yX9_takesKeyword cX9_takesKeyword 2 (some .boolean) rm_X9_takesKeyword G nx κ [.ref (x + 25), .int i1] S res := by
  refine m_Ci.of (by decide) (Nat.le_of_ble_eq_true rfl) ?_
  intro p e s m args below meth c ls X hr hH hl
  have hx := X.1.1
  have hb := X.1.2.1
  have hS : m_S G s s.heap [] := va_S.rf
  have hl : lv_has ls 2 [(0, .ref (x + 25)), (1, .int i1)] := hl
  rw [f_X9_takesKeyword] at hm
  refine lv_aload_n hx hb dX9_takesKeyword_0 rfl (lv_at hl 0 rfl) ?_
  refine r_geti X hH (k := 9) (a := (x + 25)) (j := 11) (m_lay_at hT hk_x (by decide) (i := 25) rfl) (by decide) rfl m_wi9 (by decide) in_2_22 rfl rfl dX9_takesKeyword_1 ?_
  refine lv_iload_n hx hb dX9_takesKeyword_4 rfl (lv_at hl 1 rfl) ?_
  refine lv_icmp_eq (tgt := 14) hx hb dX9_takesKeyword_5 (by decide) (fun c1 => ?_) (fun c1 => ?_)
  · have hm := m_ite_t hm c1
    refine lv_aload_n hx hb dX9_takesKeyword_14 rfl (lv_at hl 0 rfl) ?_
    obtain ⟨S2, e_S2, hm⟩ := m_cal0_of hm
    refine r_cVv X hH hS (k := 9) (c_X9_advance (x := x) hT hk_x e_S2) mw_X9_advance in_3_170 (m_lay_at hT hk_x (by decide) (i := 25) rfl) (by decide) rfl rfl rfl ⟨rfl, rfl⟩ ⟨Nat.le_of_ble_eq_true rfl, Nat.le_of_ble_eq_true rfl⟩ ⟨Nat.zero_le _, Nat.zero_le _⟩ hl.1 (Nat.le_of_ble_eq_true rfl) dX9_takesKeyword_15 (fun H locs hH hS => ?_)
    refine lv_iconst (v := (1 : Int32)) hx hb dX9_takesKeyword_18 (by decide) ?_
    exact r_zret X hr hH hS hm dX9_takesKeyword_19
  · have hm := m_ite_f hm c1
    refine lv_aload_n hx hb dX9_takesKeyword_8 rfl (lv_at hl 0 rfl) ?_
    refine lv_iconst (v := (1 : Int32)) hx hb dX9_takesKeyword_9 (by decide) ?_
    obtain ⟨v4, S3, e_S3, hm⟩ := m_call_of hm
    refine n_cVi X hH hS (k := 9) (c_X9_failsBy (x := x) hT hk_x e_S3) mw_X9_failsBy in_3_215 (m_lay_at hT hk_x (by decide) (i := 25) rfl) (by decide) rfl rfl rfl ⟨rfl, rfl⟩ ⟨Nat.le_of_ble_eq_true rfl, Nat.le_of_ble_eq_true rfl⟩ ⟨Nat.zero_le _, Nat.zero_le _⟩ hl.1 (Nat.le_of_ble_eq_true rfl) dX9_takesKeyword_10 (fun H locs hH hS => ?_)
    exact r_zret X hr hH hS hm dX9_takesKeyword_13
def rm_X9s_takesKeyword : Room := { frames := 1, cells := 0, slots := 0, locals := 21 }
def f_X9s_takesKeyword (x : Nat) (S : m_M) (i1 : Int32) : Option (Int32 × m_M) :=
    if (m_ri S (x + 37) 11) = i1 then (
    m_cal0 (f_X9s_advance x S) fun S2 =>
    if (1 : Int32) = 0 ∨ (1 : Int32) = 1 then some ((1 : Int32), S2) else none) else (
    m_call (f_X9s_failsBy x S (1 : Int32)) fun v4 S3 =>
    if v4 = 0 ∨ v4 = 1 then some (v4, S3) else none)
set_option maxHeartbeats 4000000 in
set_option maxRecDepth 100000 in
theorem c_X9s_takesKeyword {l : Launch} {G : m_G} {nx : Nat} {κ : Nat → Nat} {x : Nat} {S : m_M} {i1 : Int32} {res : (Int32 × m_M)} (hT : m_Str κ) (hk_x : κ x = 12) (hm : f_X9s_takesKeyword x S i1 = some res) : m_Ci l yX9_takesKeyword cX9_takesKeyword 2 (some .boolean) rm_X9s_takesKeyword G nx κ [.ref (x + 37), .int i1] S res := by
  refine m_Ci.of (by decide) (Nat.le_of_ble_eq_true rfl) ?_
  intro p e s m args below meth c ls X hr hH hl
  have hx := X.1.1
  have hb := X.1.2.1
  have hS : m_S G s s.heap [] := va_S.rf
  have hl : lv_has ls 2 [(0, .ref (x + 37)), (1, .int i1)] := hl
  rw [f_X9s_takesKeyword] at hm
  refine lv_aload_n hx hb dX9_takesKeyword_0 rfl (lv_at hl 0 rfl) ?_
  refine r_geti X hH (k := 9) (a := (x + 37)) (j := 11) (m_lay_at hT hk_x (by decide) (i := 37) rfl) (by decide) rfl m_wi9 (by decide) in_2_22 rfl rfl dX9_takesKeyword_1 ?_
  refine lv_iload_n hx hb dX9_takesKeyword_4 rfl (lv_at hl 1 rfl) ?_
  refine lv_icmp_eq (tgt := 14) hx hb dX9_takesKeyword_5 (by decide) (fun c1 => ?_) (fun c1 => ?_)
  · have hm := m_ite_t hm c1
    refine lv_aload_n hx hb dX9_takesKeyword_14 rfl (lv_at hl 0 rfl) ?_
    obtain ⟨S2, e_S2, hm⟩ := m_cal0_of hm
    refine r_cVv X hH hS (k := 9) (c_X9s_advance (x := x) hT hk_x e_S2) mw_X9_advance in_3_170 (m_lay_at hT hk_x (by decide) (i := 37) rfl) (by decide) rfl rfl rfl ⟨rfl, rfl⟩ ⟨Nat.le_of_ble_eq_true rfl, Nat.le_of_ble_eq_true rfl⟩ ⟨Nat.zero_le _, Nat.zero_le _⟩ hl.1 (Nat.le_of_ble_eq_true rfl) dX9_takesKeyword_15 (fun H locs hH hS => ?_)
    refine lv_iconst (v := (1 : Int32)) hx hb dX9_takesKeyword_18 (by decide) ?_
    exact r_zret X hr hH hS hm dX9_takesKeyword_19
  · have hm := m_ite_f hm c1
    refine lv_aload_n hx hb dX9_takesKeyword_8 rfl (lv_at hl 0 rfl) ?_
    refine lv_iconst (v := (1 : Int32)) hx hb dX9_takesKeyword_9 (by decide) ?_
    obtain ⟨v4, S3, e_S3, hm⟩ := m_call_of hm
    refine n_cVi X hH hS (k := 9) (c_X9s_failsBy (x := x) hT hk_x e_S3) mw_X9_failsBy in_3_215 (m_lay_at hT hk_x (by decide) (i := 37) rfl) (by decide) rfl rfl rfl ⟨rfl, rfl⟩ ⟨Nat.le_of_ble_eq_true rfl, Nat.le_of_ble_eq_true rfl⟩ ⟨Nat.zero_le _, Nat.zero_le _⟩ hl.1 (Nat.le_of_ble_eq_true rfl) dX9_takesKeyword_10 (fun H locs hH hS => ?_)
    exact r_zret X hr hH hS hm dX9_takesKeyword_13
def rm_X4_takesVars : Room := { frames := 1, cells := 0, slots := 0, locals := 23 }
def b_X4_takesVars_3 (x : Nat)  : Nat → m_M → Int32 → Int32 → Int32 → Int32 → Option (Int32 × m_M)
  | 0, _, _, _, _, _ => none
  | n + 1, S, l1, l2, l3, l4 =>
    if (l2 + l3) ≤ l4 then (
    if (1 : Int32) = 0 ∨ (1 : Int32) = 1 then some ((1 : Int32), S) else none) else (
    if (m_ri S (x + 25) 9) = (2 : Int32) then (
    m_call (f_X4_varOf x S (m_rj S (x + 25) 14)) fun v4 S3 =>
    if v4 = (-1 : Int32) then (
    m_call (f_X9_failsBy x S3 (3 : Int32)) fun v10 S9 =>
    if v10 = 0 ∨ v10 = 1 then some (v10, S9) else none) else (
    (m_sti S3 (x + 10) 120 ((l1 * (5 : Int32)) + l4) v4).bind fun S6 =>
    m_cal0 (f_X9_advance x S6) fun S7 =>
    m_let (l4 + (1 : Int32)) fun v8 =>
    b_X4_takesVars_3 x n S7 l1 l2 l3 v8)) else (
    m_call (f_X9_failsBy x S (1 : Int32)) fun v12 S11 =>
    if v12 = 0 ∨ v12 = 1 then some (v12, S11) else none))
set_option maxHeartbeats 4000000 in
set_option maxRecDepth 100000 in
theorem k_X4_takesVars_3 {p : Program} {l : Launch} {e : Env} {s : State} {m : MethodId} {args : Array Value} {below : List Frame} {meth : Method} {c : Code} {G : m_G} {nx : Nat} {κ : Nat → Nat} {res : (Int32 × m_M)} {x : Nat} (X : m_Cx p s m args meth c cX4_takesVars 6 RX4 G) (hr : meth.sig.returnType = (some .boolean)) (hT : m_Str κ) (hk_x : κ x = 12)  (n : Nat) : ∀ (S : m_M) (l1 : Int32) (l2 : Int32) (l3 : Int32) (l4 : Int32) (H : Heap) (locs : List Loc) (ls : Array Slot), m_H G nx κ S H → m_S G s H locs → lv_has ls 6 [(0, .ref (x + 2)), (1, .int l1), (2, .int l2), (3, .int l3), (4, .int l4)] → b_X4_takesVars_3 x n S l1 l2 l3 l4 = some res → W p l e rm_X4_takesVars s m args below meth c H locs 0 0 (m_Qi below args s G nx κ res) (F0 m 3 ls []) := by
  have hx := X.1.1
  have hb := X.1.2.1
  induction n with
  | zero => intro S l1 l2 l3 l4 H locs ls hH hS hl hm; have hm : (none : Option (Int32 × m_M)) = some res := hm; cases hm
  | succ n ih =>
    intro S l1 l2 l3 l4 H locs ls hH hS hl hm
    rw [b_X4_takesVars_3] at hm
    refine lv_iload hx hb dX4_takesVars_3 (lv_at hl 4 rfl) ?_
    refine lv_iload_n hx hb dX4_takesVars_5 rfl (lv_at hl 2 rfl) ?_
    refine lv_iload_n hx hb dX4_takesVars_6 rfl (lv_at hl 3 rfl) ?_
    refine lv_iadd hx hb dX4_takesVars_7 ?_
    refine lv_icmp_ge (tgt := 88) hx hb dX4_takesVars_8 (by decide) (fun c1 => ?_) (fun c1 => ?_)
    · have hm := m_ite_t hm c1
      refine lv_iconst (v := (1 : Int32)) hx hb dX4_takesVars_88 (by decide) ?_
      exact r_zret X hr hH hS hm dX4_takesVars_89
    · have hm := m_ite_f hm c1
      refine lv_aload_n hx hb dX4_takesVars_11 rfl (lv_at hl 0 rfl) ?_
      refine r_getp X hH (k := 4) (a := (x + 2)) (j := 1) (b := (x + 25)) (A := 23) (B := 0) (m_lay_at hT hk_x (by decide) (i := 2) rfl) (by decide) rfl m_wi4 (by decide) in_2_74 rfl rfl rfl dX4_takesVars_12 ?_
      refine r_geti X hH (k := 9) (a := (x + 25)) (j := 9) (m_lay_at hT hk_x (by decide) (i := 25) rfl) (by decide) rfl m_wi9 (by decide) in_2_19 rfl rfl dX4_takesVars_15 ?_
      refine lv_iconst (v := (2 : Int32)) hx hb dX4_takesVars_18 (by decide) ?_
      refine lv_icmp_eq (tgt := 31) hx hb dX4_takesVars_19 (by decide) (fun c2 => ?_) (fun c2 => ?_)
      · have hm := m_ite_t hm c2
        refine lv_aload_n hx hb dX4_takesVars_31 rfl (lv_at hl 0 rfl) ?_
        refine lv_aload_n hx hb dX4_takesVars_32 rfl (lv_at hl 0 rfl) ?_
        refine r_getp X hH (k := 4) (a := (x + 2)) (j := 1) (b := (x + 25)) (A := 23) (B := 0) (m_lay_at hT hk_x (by decide) (i := 2) rfl) (by decide) rfl m_wi4 (by decide) in_2_74 rfl rfl rfl dX4_takesVars_33 ?_
        refine r_getj X hH (k := 9) (a := (x + 25)) (j := 14) (m_lay_at hT hk_x (by decide) (i := 25) rfl) (by decide) rfl m_wi9 (by decide) in_2_31 rfl rfl dX4_takesVars_36 ?_
        obtain ⟨v4, S3, e_S3, hm⟩ := m_call_of hm
        refine n_cVi X hH hS (k := 4) (c_X4_varOf (x := x) hT hk_x e_S3) mw_X4_varOf in_3_199 (m_lay_at hT hk_x (by decide) (i := 2) rfl) (by decide) rfl rfl rfl ⟨rfl, rfl⟩ ⟨Nat.le_of_ble_eq_true rfl, Nat.le_of_ble_eq_true rfl⟩ ⟨Nat.zero_le _, Nat.zero_le _⟩ hl.1 (Nat.le_of_ble_eq_true rfl) dX4_takesVars_39 (fun H locs hH hS => ?_)
        refine lv_istore (lv' := [(5, .int v4), (0, .ref (x + 2)), (1, .int l1), (2, .int l2), (3, .int l3), (4, .int l4)]) hx hb dX4_takesVars_42 hl (by decide) rfl (fun ls hl => ?_)
        refine lv_iload hx hb dX4_takesVars_44 (lv_at hl 0 rfl) ?_
        refine lv_iconst (v := (-1 : Int32)) hx hb dX4_takesVars_46 (by decide) ?_
        refine lv_icmp_ne (tgt := 59) hx hb dX4_takesVars_47 (by decide) (fun c5 => ?_) (fun c5 => ?_)
        · have hm := m_ite_f hm c5
          refine lv_aload_n hx hb dX4_takesVars_59 rfl (lv_at hl 1 rfl) ?_
          refine r_getp X hH (k := 4) (a := (x + 2)) (j := 0) (b := (x + 3)) (A := 1) (B := 0) (m_lay_at hT hk_x (by decide) (i := 2) rfl) (by decide) rfl m_wi4 (by decide) in_2_72 rfl rfl rfl dX4_takesVars_60 ?_
          refine r_getp X hH (k := 3) (a := (x + 3)) (j := 8) (b := (x + 10)) (A := 7) (B := 0) (m_lay_at hT hk_x (by decide) (i := 3) rfl) (by decide) rfl m_wi3 (by decide) in_1_159 rfl rfl rfl dX4_takesVars_63 ?_
          refine lv_iload_n hx hb dX4_takesVars_66 rfl (lv_at hl 2 rfl) ?_
          refine lv_iconst (v := (5 : Int32)) hx hb dX4_takesVars_67 (by decide) ?_
          refine lv_imul hx hb dX4_takesVars_68 ?_
          refine lv_iload hx hb dX4_takesVars_69 (lv_at hl 5 rfl) ?_
          refine lv_iadd hx hb dX4_takesVars_71 ?_
          refine lv_iload hx hb dX4_takesVars_72 (lv_at hl 0 rfl) ?_
          obtain ⟨S6, h_S6, e_S6, hm⟩ := n_sti hm
          refine n_iast X hH hS (n := 120) (m_lay_at hT hk_x (by decide) (i := 10) rfl) h_S6 e_S6 dX4_takesVars_74 (fun H locs hH hS => ?_)
          refine lv_aload_n hx hb dX4_takesVars_75 rfl (lv_at hl 1 rfl) ?_
          refine r_getp X hH (k := 4) (a := (x + 2)) (j := 1) (b := (x + 25)) (A := 23) (B := 0) (m_lay_at hT hk_x (by decide) (i := 2) rfl) (by decide) rfl m_wi4 (by decide) in_2_74 rfl rfl rfl dX4_takesVars_76 ?_
          obtain ⟨S7, e_S7, hm⟩ := m_cal0_of hm
          refine r_cVv X hH hS (k := 9) (c_X9_advance (x := x) hT hk_x e_S7) mw_X9_advance in_3_186 (m_lay_at hT hk_x (by decide) (i := 25) rfl) (by decide) rfl rfl rfl ⟨rfl, rfl⟩ ⟨Nat.le_of_ble_eq_true rfl, Nat.le_of_ble_eq_true rfl⟩ ⟨Nat.zero_le _, Nat.zero_le _⟩ hl.1 (Nat.le_of_ble_eq_true rfl) dX4_takesVars_79 (fun H locs hH hS => ?_)
          obtain ⟨v8, e_v8, hm⟩ := m_let_of hm
          refine lv_iinc (v := v8) (lv' := [(4, .int v8), (5, .int v4), (0, .ref (x + 2)), (1, .int l1), (2, .int l2), (3, .int l3)]) hx hb dX4_takesVars_82 hl (k := 5) rfl (by rw [← e_v8]; rfl) (by decide) rfl (fun ls hl => ?_)
          refine lv_goto (tgt := 3) hx hb dX4_takesVars_85 (by decide) ?_
          exact ih S7 l1 l2 l3 v8 _ _ _ hH hS (lv_sub hl [2, 3, 4, 5, 0] rfl) hm
        · have hm := m_ite_t hm c5
          refine lv_aload_n hx hb dX4_takesVars_50 rfl (lv_at hl 1 rfl) ?_
          refine r_getp X hH (k := 4) (a := (x + 2)) (j := 1) (b := (x + 25)) (A := 23) (B := 0) (m_lay_at hT hk_x (by decide) (i := 2) rfl) (by decide) rfl m_wi4 (by decide) in_2_74 rfl rfl rfl dX4_takesVars_51 ?_
          refine lv_iconst (v := (3 : Int32)) hx hb dX4_takesVars_54 (by decide) ?_
          obtain ⟨v10, S9, e_S9, hm⟩ := m_call_of hm
          refine n_cVi X hH hS (k := 9) (c_X9_failsBy (x := x) hT hk_x e_S9) mw_X9_failsBy in_3_182 (m_lay_at hT hk_x (by decide) (i := 25) rfl) (by decide) rfl rfl rfl ⟨rfl, rfl⟩ ⟨Nat.le_of_ble_eq_true rfl, Nat.le_of_ble_eq_true rfl⟩ ⟨Nat.zero_le _, Nat.zero_le _⟩ hl.1 (Nat.le_of_ble_eq_true rfl) dX4_takesVars_55 (fun H locs hH hS => ?_)
          exact r_zret X hr hH hS hm dX4_takesVars_58
      · have hm := m_ite_f hm c2
        refine lv_aload_n hx hb dX4_takesVars_22 rfl (lv_at hl 0 rfl) ?_
        refine r_getp X hH (k := 4) (a := (x + 2)) (j := 1) (b := (x + 25)) (A := 23) (B := 0) (m_lay_at hT hk_x (by decide) (i := 2) rfl) (by decide) rfl m_wi4 (by decide) in_2_74 rfl rfl rfl dX4_takesVars_23 ?_
        refine lv_iconst (v := (1 : Int32)) hx hb dX4_takesVars_26 (by decide) ?_
        obtain ⟨v12, S11, e_S11, hm⟩ := m_call_of hm
        refine n_cVi X hH hS (k := 9) (c_X9_failsBy (x := x) hT hk_x e_S11) mw_X9_failsBy in_3_182 (m_lay_at hT hk_x (by decide) (i := 25) rfl) (by decide) rfl rfl rfl ⟨rfl, rfl⟩ ⟨Nat.le_of_ble_eq_true rfl, Nat.le_of_ble_eq_true rfl⟩ ⟨Nat.zero_le _, Nat.zero_le _⟩ hl.1 (Nat.le_of_ble_eq_true rfl) dX4_takesVars_27 (fun H locs hH hS => ?_)
        exact r_zret X hr hH hS hm dX4_takesVars_30
def f_X4_takesVars (x : Nat) (S : m_M) (i1 : Int32) (i2 : Int32) (i3 : Int32) : Option (Int32 × m_M) :=
    b_X4_takesVars_3 x m_fu S i1 i2 i3 i2
set_option maxHeartbeats 4000000 in
set_option maxRecDepth 100000 in
theorem c_X4_takesVars {l : Launch} {G : m_G} {nx : Nat} {κ : Nat → Nat} {x : Nat} {S : m_M} {i1 : Int32} {i2 : Int32} {i3 : Int32} {res : (Int32 × m_M)} (hT : m_Str κ) (hk_x : κ x = 12) (hm : f_X4_takesVars x S i1 i2 i3 = some res) : m_Ci l yX4_takesVars cX4_takesVars 6 (some .boolean) rm_X4_takesVars G nx κ [.ref (x + 2), .int i1, .int i2, .int i3] S res := by
  refine m_Ci.of (by decide) (Nat.le_of_ble_eq_true rfl) ?_
  intro p e s m args below meth c ls X hr hH hl
  have hx := X.1.1
  have hb := X.1.2.1
  have hS : m_S G s s.heap [] := va_S.rf
  have hl : lv_has ls 6 [(0, .ref (x + 2)), (1, .int i1), (2, .int i2), (3, .int i3)] := hl
  rw [f_X4_takesVars] at hm
  refine lv_iload_n hx hb dX4_takesVars_0 rfl (lv_at hl 2 rfl) ?_
  refine lv_istore (lv' := [(4, .int i2), (0, .ref (x + 2)), (1, .int i1), (2, .int i2), (3, .int i3)]) hx hb dX4_takesVars_1 hl (by decide) rfl (fun ls hl => ?_)
  exact k_X4_takesVars_3 (x := x) X hr hT hk_x  m_fu S i1 i2 i3 i2 _ _ _ hH hS (lv_sub hl [1, 2, 3, 4, 0] rfl) hm
def rm_X4_takesFun : Room := { frames := 1, cells := 0, slots := 0, locals := 23 }
def f_X4_takesFun (x : Nat) (S : m_M) (i1 : Int32) : Option (Int32 × m_M) :=
    if (m_ri S (x + 25) 9) = (2 : Int32) then (
    m_call (f_X3_funOf (x + 3) S (m_rj S (x + 25) 14)) fun v3 S2 =>
    if v3 = (-1 : Int32) then (
    m_call (f_X9_failsBy x S2 (3 : Int32)) fun v8 S7 =>
    if v8 = 0 ∨ v8 = 1 then some (v8, S7) else none) else (
    (m_sti S2 (x + 9) 24 i1 v3).bind fun S5 =>
    m_cal0 (f_X9_advance x S5) fun S6 =>
    if (1 : Int32) = 0 ∨ (1 : Int32) = 1 then some ((1 : Int32), S6) else none)) else (
    m_call (f_X9_failsBy x S (1 : Int32)) fun v10 S9 =>
    if v10 = 0 ∨ v10 = 1 then some (v10, S9) else none)
set_option maxHeartbeats 4000000 in
set_option maxRecDepth 100000 in
theorem c_X4_takesFun {l : Launch} {G : m_G} {nx : Nat} {κ : Nat → Nat} {x : Nat} {S : m_M} {i1 : Int32} {res : (Int32 × m_M)} (hT : m_Str κ) (hk_x : κ x = 12) (hm : f_X4_takesFun x S i1 = some res) : m_Ci l yX4_takesFun cX4_takesFun 3 (some .boolean) rm_X4_takesFun G nx κ [.ref (x + 2), .int i1] S res := by
  refine m_Ci.of (by decide) (Nat.le_of_ble_eq_true rfl) ?_
  intro p e s m args below meth c ls X hr hH hl
  have hx := X.1.1
  have hb := X.1.2.1
  have hS : m_S G s s.heap [] := va_S.rf
  have hl : lv_has ls 3 [(0, .ref (x + 2)), (1, .int i1)] := hl
  rw [f_X4_takesFun] at hm
  refine lv_aload_n hx hb dX4_takesFun_0 rfl (lv_at hl 0 rfl) ?_
  refine r_getp X hH (k := 4) (a := (x + 2)) (j := 1) (b := (x + 25)) (A := 23) (B := 0) (m_lay_at hT hk_x (by decide) (i := 2) rfl) (by decide) rfl m_wi4 (by decide) in_2_74 rfl rfl rfl dX4_takesFun_1 ?_
  refine r_geti X hH (k := 9) (a := (x + 25)) (j := 9) (m_lay_at hT hk_x (by decide) (i := 25) rfl) (by decide) rfl m_wi9 (by decide) in_2_19 rfl rfl dX4_takesFun_4 ?_
  refine lv_iconst (v := (2 : Int32)) hx hb dX4_takesFun_7 (by decide) ?_
  refine lv_icmp_eq (tgt := 20) hx hb dX4_takesFun_8 (by decide) (fun c1 => ?_) (fun c1 => ?_)
  · have hm := m_ite_t hm c1
    refine lv_aload_n hx hb dX4_takesFun_20 rfl (lv_at hl 0 rfl) ?_
    refine r_getp X hH (k := 4) (a := (x + 2)) (j := 0) (b := (x + 3)) (A := 1) (B := 0) (m_lay_at hT hk_x (by decide) (i := 2) rfl) (by decide) rfl m_wi4 (by decide) in_2_72 rfl rfl rfl dX4_takesFun_21 ?_
    refine lv_aload_n hx hb dX4_takesFun_24 rfl (lv_at hl 0 rfl) ?_
    refine r_getp X hH (k := 4) (a := (x + 2)) (j := 1) (b := (x + 25)) (A := 23) (B := 0) (m_lay_at hT hk_x (by decide) (i := 2) rfl) (by decide) rfl m_wi4 (by decide) in_2_74 rfl rfl rfl dX4_takesFun_25 ?_
    refine r_getj X hH (k := 9) (a := (x + 25)) (j := 14) (m_lay_at hT hk_x (by decide) (i := 25) rfl) (by decide) rfl m_wi9 (by decide) in_2_31 rfl rfl dX4_takesFun_28 ?_
    obtain ⟨v3, S2, e_S2, hm⟩ := m_call_of hm
    refine n_cVi X hH hS (k := 3) (c_X3_funOf (a := (x + 3)) hT (m_lay_at hT hk_x (by decide) (i := 3) rfl) e_S2) mw_X3_funOf in_3_187 (m_lay_at hT hk_x (by decide) (i := 3) rfl) (by decide) rfl rfl rfl ⟨rfl, rfl⟩ ⟨Nat.le_of_ble_eq_true rfl, Nat.le_of_ble_eq_true rfl⟩ ⟨Nat.zero_le _, Nat.zero_le _⟩ hl.1 (Nat.le_of_ble_eq_true rfl) dX4_takesFun_31 (fun H locs hH hS => ?_)
    refine lv_istore_n (lv' := [(2, .int v3), (0, .ref (x + 2)), (1, .int i1)]) hx hb dX4_takesFun_34 rfl hl (by decide) rfl (fun ls hl => ?_)
    refine lv_iload_n hx hb dX4_takesFun_35 rfl (lv_at hl 0 rfl) ?_
    refine lv_iconst (v := (-1 : Int32)) hx hb dX4_takesFun_36 (by decide) ?_
    refine lv_icmp_ne (tgt := 49) hx hb dX4_takesFun_37 (by decide) (fun c4 => ?_) (fun c4 => ?_)
    · have hm := m_ite_f hm c4
      refine lv_aload_n hx hb dX4_takesFun_49 rfl (lv_at hl 1 rfl) ?_
      refine r_getp X hH (k := 4) (a := (x + 2)) (j := 0) (b := (x + 3)) (A := 1) (B := 0) (m_lay_at hT hk_x (by decide) (i := 2) rfl) (by decide) rfl m_wi4 (by decide) in_2_72 rfl rfl rfl dX4_takesFun_50 ?_
      refine r_getp X hH (k := 3) (a := (x + 3)) (j := 7) (b := (x + 9)) (A := 6) (B := 0) (m_lay_at hT hk_x (by decide) (i := 3) rfl) (by decide) rfl m_wi3 (by decide) in_1_156 rfl rfl rfl dX4_takesFun_53 ?_
      refine lv_iload_n hx hb dX4_takesFun_56 rfl (lv_at hl 2 rfl) ?_
      refine lv_iload_n hx hb dX4_takesFun_57 rfl (lv_at hl 0 rfl) ?_
      obtain ⟨S5, h_S5, e_S5, hm⟩ := n_sti hm
      refine n_iast X hH hS (n := 24) (m_lay_at hT hk_x (by decide) (i := 9) rfl) h_S5 e_S5 dX4_takesFun_58 (fun H locs hH hS => ?_)
      refine lv_aload_n hx hb dX4_takesFun_59 rfl (lv_at hl 1 rfl) ?_
      refine r_getp X hH (k := 4) (a := (x + 2)) (j := 1) (b := (x + 25)) (A := 23) (B := 0) (m_lay_at hT hk_x (by decide) (i := 2) rfl) (by decide) rfl m_wi4 (by decide) in_2_74 rfl rfl rfl dX4_takesFun_60 ?_
      obtain ⟨S6, e_S6, hm⟩ := m_cal0_of hm
      refine r_cVv X hH hS (k := 9) (c_X9_advance (x := x) hT hk_x e_S6) mw_X9_advance in_3_186 (m_lay_at hT hk_x (by decide) (i := 25) rfl) (by decide) rfl rfl rfl ⟨rfl, rfl⟩ ⟨Nat.le_of_ble_eq_true rfl, Nat.le_of_ble_eq_true rfl⟩ ⟨Nat.zero_le _, Nat.zero_le _⟩ hl.1 (Nat.le_of_ble_eq_true rfl) dX4_takesFun_63 (fun H locs hH hS => ?_)
      refine lv_iconst (v := (1 : Int32)) hx hb dX4_takesFun_66 (by decide) ?_
      exact r_zret X hr hH hS hm dX4_takesFun_67
    · have hm := m_ite_t hm c4
      refine lv_aload_n hx hb dX4_takesFun_40 rfl (lv_at hl 1 rfl) ?_
      refine r_getp X hH (k := 4) (a := (x + 2)) (j := 1) (b := (x + 25)) (A := 23) (B := 0) (m_lay_at hT hk_x (by decide) (i := 2) rfl) (by decide) rfl m_wi4 (by decide) in_2_74 rfl rfl rfl dX4_takesFun_41 ?_
      refine lv_iconst (v := (3 : Int32)) hx hb dX4_takesFun_44 (by decide) ?_
      obtain ⟨v8, S7, e_S7, hm⟩ := m_call_of hm
      refine n_cVi X hH hS (k := 9) (c_X9_failsBy (x := x) hT hk_x e_S7) mw_X9_failsBy in_3_182 (m_lay_at hT hk_x (by decide) (i := 25) rfl) (by decide) rfl rfl rfl ⟨rfl, rfl⟩ ⟨Nat.le_of_ble_eq_true rfl, Nat.le_of_ble_eq_true rfl⟩ ⟨Nat.zero_le _, Nat.zero_le _⟩ hl.1 (Nat.le_of_ble_eq_true rfl) dX4_takesFun_45 (fun H locs hH hS => ?_)
      exact r_zret X hr hH hS hm dX4_takesFun_48
  · have hm := m_ite_f hm c1
    refine lv_aload_n hx hb dX4_takesFun_11 rfl (lv_at hl 0 rfl) ?_
    refine r_getp X hH (k := 4) (a := (x + 2)) (j := 1) (b := (x + 25)) (A := 23) (B := 0) (m_lay_at hT hk_x (by decide) (i := 2) rfl) (by decide) rfl m_wi4 (by decide) in_2_74 rfl rfl rfl dX4_takesFun_12 ?_
    refine lv_iconst (v := (1 : Int32)) hx hb dX4_takesFun_15 (by decide) ?_
    obtain ⟨v10, S9, e_S9, hm⟩ := m_call_of hm
    refine n_cVi X hH hS (k := 9) (c_X9_failsBy (x := x) hT hk_x e_S9) mw_X9_failsBy in_3_182 (m_lay_at hT hk_x (by decide) (i := 25) rfl) (by decide) rfl rfl rfl ⟨rfl, rfl⟩ ⟨Nat.le_of_ble_eq_true rfl, Nat.le_of_ble_eq_true rfl⟩ ⟨Nat.zero_le _, Nat.zero_le _⟩ hl.1 (Nat.le_of_ble_eq_true rfl) dX4_takesFun_16 (fun H locs hH hS => ?_)
    exact r_zret X hr hH hS hm dX4_takesFun_19
def rm_X4_readsWhen : Room := { frames := 2, cells := 0, slots := 0, locals := 48 }
def b_X4_readsWhen_79 (x : Nat)  (S : m_M)  : Option (Int32 × m_M) :=
    if (0 : Int32) = 0 ∨ (0 : Int32) = 1 then some ((0 : Int32), S) else none
set_option maxHeartbeats 4000000 in
set_option maxRecDepth 100000 in
theorem k_X4_readsWhen_79 {p : Program} {l : Launch} {e : Env} {s : State} {m : MethodId} {args : Array Value} {below : List Frame} {meth : Method} {c : Code} {G : m_G} {nx : Nat} {κ : Nat → Nat} {res : (Int32 × m_M)} {x : Nat} (X : m_Cx p s m args meth c cX4_readsWhen 4 RX4 G) (hr : meth.sig.returnType = (some .boolean)) (hT : m_Str κ) (hk_x : κ x = 12)  : ∀ (S : m_M)  (H : Heap) (locs : List Loc) (ls : Array Slot), m_H G nx κ S H → m_S G s H locs → lv_has ls 4 [] → b_X4_readsWhen_79 x S  = some res → W p l e rm_X4_readsWhen s m args below meth c H locs 0 0 (m_Qi below args s G nx κ res) (F0 m 79 ls []) := by
  have hx := X.1.1
  have hb := X.1.2.1
  intro S H locs ls hH hS hl hm
  rw [b_X4_readsWhen_79] at hm
  refine lv_iconst (v := (0 : Int32)) hx hb dX4_readsWhen_79 (by decide) ?_
  exact r_zret X hr hH hS hm dX4_readsWhen_80
def f_X4_readsWhen (x : Nat) (S : m_M) (i1 : Int32) : Option (Int32 × m_M) :=
    m_call (f_X4_takesVars x S i1 (0 : Int32) (1 : Int32)) fun v2 S1 =>
    if v2 = 0 then (
    if (0 : Int32) = 0 ∨ (0 : Int32) = 1 then some ((0 : Int32), S1) else none) else (
    (m_ldi S1 (x + 10) 120 (i1 * (5 : Int32))).bind fun v4 =>
    m_call (f_X4_takesFun x S1 i1) fun v6 S5 =>
    if v6 = 0 then (
    if (0 : Int32) = 0 ∨ (0 : Int32) = 1 then some ((0 : Int32), S5) else none) else (
    m_call (f_X3_argumentCount (x + 3) S5 i1) fun v9 S8 =>
    (m_sti S8 (x + 10) 120 ((i1 * (5 : Int32)) + v9) v4).bind fun S10 =>
    m_call (f_X4_takesVars x S10 i1 (0 : Int32) v9) fun v12 S11 =>
    if v12 = 0 then (
    b_X4_readsWhen_79 x S11) else (
    m_call (f_X9_takesKeyword x S11 (10 : Int32)) fun v15 S14 =>
    if v15 = 0 then (
    b_X4_readsWhen_79 x S14) else (
    m_call (f_X4_takesVars x S14 i1 (v9 + (1 : Int32)) (1 : Int32)) fun v18 S17 =>
    if v18 = 0 ∨ v18 = 1 then some (v18, S17) else none))))
set_option maxHeartbeats 4000000 in
set_option maxRecDepth 100000 in
theorem c_X4_readsWhen {l : Launch} {G : m_G} {nx : Nat} {κ : Nat → Nat} {x : Nat} {S : m_M} {i1 : Int32} {res : (Int32 × m_M)} (hT : m_Str κ) (hk_x : κ x = 12) (hm : f_X4_readsWhen x S i1 = some res) : m_Ci l yX4_readsWhen cX4_readsWhen 4 (some .boolean) rm_X4_readsWhen G nx κ [.ref (x + 2), .int i1] S res := by
  refine m_Ci.of (by decide) (Nat.le_of_ble_eq_true rfl) ?_
  intro p e s m args below meth c ls X hr hH hl
  have hx := X.1.1
  have hb := X.1.2.1
  have hS : m_S G s s.heap [] := va_S.rf
  have hl : lv_has ls 4 [(0, .ref (x + 2)), (1, .int i1)] := hl
  rw [f_X4_readsWhen] at hm
  refine lv_aload_n hx hb dX4_readsWhen_0 rfl (lv_at hl 0 rfl) ?_
  refine lv_iload_n hx hb dX4_readsWhen_1 rfl (lv_at hl 1 rfl) ?_
  refine lv_iconst (v := (0 : Int32)) hx hb dX4_readsWhen_2 (by decide) ?_
  refine lv_iconst (v := (1 : Int32)) hx hb dX4_readsWhen_3 (by decide) ?_
  obtain ⟨v2, S1, e_S1, hm⟩ := m_call_of hm
  refine n_cVi X hH hS (k := 4) (c_X4_takesVars (x := x) hT hk_x e_S1) mw_X4_takesVars in_3_220 (m_lay_at hT hk_x (by decide) (i := 2) rfl) (by decide) rfl rfl rfl ⟨rfl, rfl⟩ ⟨Nat.le_of_ble_eq_true rfl, Nat.le_of_ble_eq_true rfl⟩ ⟨Nat.zero_le _, Nat.zero_le _⟩ hl.1 (Nat.le_of_ble_eq_true rfl) dX4_readsWhen_4 (fun H locs hH hS => ?_)
  refine lv_if_ne (tgt := 12) hx hb dX4_readsWhen_7 (by decide) (fun c3 => ?_) (fun c3 => ?_)
  · have hm := m_ite_f hm c3
    refine lv_aload_n hx hb dX4_readsWhen_12 rfl (lv_at hl 0 rfl) ?_
    refine r_getp X hH (k := 4) (a := (x + 2)) (j := 0) (b := (x + 3)) (A := 1) (B := 0) (m_lay_at hT hk_x (by decide) (i := 2) rfl) (by decide) rfl m_wi4 (by decide) in_2_72 rfl rfl rfl dX4_readsWhen_13 ?_
    refine r_getp X hH (k := 3) (a := (x + 3)) (j := 8) (b := (x + 10)) (A := 7) (B := 0) (m_lay_at hT hk_x (by decide) (i := 3) rfl) (by decide) rfl m_wi3 (by decide) in_1_159 rfl rfl rfl dX4_readsWhen_16 ?_
    refine lv_iload_n hx hb dX4_readsWhen_19 rfl (lv_at hl 1 rfl) ?_
    refine lv_iconst (v := (5 : Int32)) hx hb dX4_readsWhen_20 (by decide) ?_
    refine lv_imul hx hb dX4_readsWhen_21 ?_
    obtain ⟨v4, h_v4, e_v4, hm⟩ := n_ldi hm
    refine n_iald X hH (n := 120) (m_lay_at hT hk_x (by decide) (i := 10) rfl) h_v4 e_v4 dX4_readsWhen_22 ?_
    refine lv_istore_n (lv' := [(2, .int v4), (0, .ref (x + 2)), (1, .int i1)]) hx hb dX4_readsWhen_23 rfl hl (by decide) rfl (fun ls hl => ?_)
    refine lv_aload_n hx hb dX4_readsWhen_24 rfl (lv_at hl 1 rfl) ?_
    refine lv_iload_n hx hb dX4_readsWhen_25 rfl (lv_at hl 2 rfl) ?_
    obtain ⟨v6, S5, e_S5, hm⟩ := m_call_of hm
    refine n_cVi X hH hS (k := 4) (c_X4_takesFun (x := x) hT hk_x e_S5) mw_X4_takesFun in_3_224 (m_lay_at hT hk_x (by decide) (i := 2) rfl) (by decide) rfl rfl rfl ⟨rfl, rfl⟩ ⟨Nat.le_of_ble_eq_true rfl, Nat.le_of_ble_eq_true rfl⟩ ⟨Nat.zero_le _, Nat.zero_le _⟩ hl.1 (Nat.le_of_ble_eq_true rfl) dX4_readsWhen_26 (fun H locs hH hS => ?_)
    refine lv_if_ne (tgt := 34) hx hb dX4_readsWhen_29 (by decide) (fun c7 => ?_) (fun c7 => ?_)
    · have hm := m_ite_f hm c7
      refine lv_aload_n hx hb dX4_readsWhen_34 rfl (lv_at hl 1 rfl) ?_
      refine r_getp X hH (k := 4) (a := (x + 2)) (j := 0) (b := (x + 3)) (A := 1) (B := 0) (m_lay_at hT hk_x (by decide) (i := 2) rfl) (by decide) rfl m_wi4 (by decide) in_2_72 rfl rfl rfl dX4_readsWhen_35 ?_
      refine lv_iload_n hx hb dX4_readsWhen_38 rfl (lv_at hl 2 rfl) ?_
      obtain ⟨v9, S8, e_S8, hm⟩ := m_call_of hm
      refine n_cVi X hH hS (k := 3) (c_X3_argumentCount (a := (x + 3)) hT (m_lay_at hT hk_x (by decide) (i := 3) rfl) e_S8) mw_X3_argumentCount in_3_228 (m_lay_at hT hk_x (by decide) (i := 3) rfl) (by decide) rfl rfl rfl ⟨rfl, rfl⟩ ⟨Nat.le_of_ble_eq_true rfl, Nat.le_of_ble_eq_true rfl⟩ ⟨Nat.zero_le _, Nat.zero_le _⟩ hl.1 (Nat.le_of_ble_eq_true rfl) dX4_readsWhen_39 (fun H locs hH hS => ?_)
      refine lv_istore_n (lv' := [(3, .int v9), (2, .int v4), (0, .ref (x + 2)), (1, .int i1)]) hx hb dX4_readsWhen_42 rfl hl (by decide) rfl (fun ls hl => ?_)
      refine lv_aload_n hx hb dX4_readsWhen_43 rfl (lv_at hl 2 rfl) ?_
      refine r_getp X hH (k := 4) (a := (x + 2)) (j := 0) (b := (x + 3)) (A := 1) (B := 0) (m_lay_at hT hk_x (by decide) (i := 2) rfl) (by decide) rfl m_wi4 (by decide) in_2_72 rfl rfl rfl dX4_readsWhen_44 ?_
      refine r_getp X hH (k := 3) (a := (x + 3)) (j := 8) (b := (x + 10)) (A := 7) (B := 0) (m_lay_at hT hk_x (by decide) (i := 3) rfl) (by decide) rfl m_wi3 (by decide) in_1_159 rfl rfl rfl dX4_readsWhen_47 ?_
      refine lv_iload_n hx hb dX4_readsWhen_50 rfl (lv_at hl 3 rfl) ?_
      refine lv_iconst (v := (5 : Int32)) hx hb dX4_readsWhen_51 (by decide) ?_
      refine lv_imul hx hb dX4_readsWhen_52 ?_
      refine lv_iload_n hx hb dX4_readsWhen_53 rfl (lv_at hl 0 rfl) ?_
      refine lv_iadd hx hb dX4_readsWhen_54 ?_
      refine lv_iload_n hx hb dX4_readsWhen_55 rfl (lv_at hl 1 rfl) ?_
      obtain ⟨S10, h_S10, e_S10, hm⟩ := n_sti hm
      refine n_iast X hH hS (n := 120) (m_lay_at hT hk_x (by decide) (i := 10) rfl) h_S10 e_S10 dX4_readsWhen_56 (fun H locs hH hS => ?_)
      refine lv_aload_n hx hb dX4_readsWhen_57 rfl (lv_at hl 2 rfl) ?_
      refine lv_iload_n hx hb dX4_readsWhen_58 rfl (lv_at hl 3 rfl) ?_
      refine lv_iconst (v := (0 : Int32)) hx hb dX4_readsWhen_59 (by decide) ?_
      refine lv_iload_n hx hb dX4_readsWhen_60 rfl (lv_at hl 0 rfl) ?_
      obtain ⟨v12, S11, e_S11, hm⟩ := m_call_of hm
      refine n_cVi X hH hS (k := 4) (c_X4_takesVars (x := x) hT hk_x e_S11) mw_X4_takesVars in_3_220 (m_lay_at hT hk_x (by decide) (i := 2) rfl) (by decide) rfl rfl rfl ⟨rfl, rfl⟩ ⟨Nat.le_of_ble_eq_true rfl, Nat.le_of_ble_eq_true rfl⟩ ⟨Nat.zero_le _, Nat.zero_le _⟩ hl.1 (Nat.le_of_ble_eq_true rfl) dX4_readsWhen_61 (fun H locs hH hS => ?_)
      refine lv_if_eq (tgt := 79) hx hb dX4_readsWhen_64 (by decide) (fun c13 => ?_) (fun c13 => ?_)
      · have hm := m_ite_t hm c13
        exact k_X4_readsWhen_79 (x := x) X hr hT hk_x   S11 _ _ _ hH hS (lv_sub hl [] rfl) hm
      · have hm := m_ite_f hm c13
        refine lv_aload_n hx hb dX4_readsWhen_67 rfl (lv_at hl 2 rfl) ?_
        refine r_getp X hH (k := 4) (a := (x + 2)) (j := 1) (b := (x + 25)) (A := 23) (B := 0) (m_lay_at hT hk_x (by decide) (i := 2) rfl) (by decide) rfl m_wi4 (by decide) in_2_74 rfl rfl rfl dX4_readsWhen_68 ?_
        refine lv_bipush (v := (10 : Int32)) hx hb dX4_readsWhen_71 (by decide) ?_
        obtain ⟨v15, S14, e_S14, hm⟩ := m_call_of hm
        refine n_cVi X hH hS (k := 9) (c_X9_takesKeyword (x := x) hT hk_x e_S14) mw_X9_takesKeyword in_3_211 (m_lay_at hT hk_x (by decide) (i := 25) rfl) (by decide) rfl rfl rfl ⟨rfl, rfl⟩ ⟨Nat.le_of_ble_eq_true rfl, Nat.le_of_ble_eq_true rfl⟩ ⟨Nat.zero_le _, Nat.zero_le _⟩ hl.1 (Nat.le_of_ble_eq_true rfl) dX4_readsWhen_73 (fun H locs hH hS => ?_)
        refine lv_if_ne (tgt := 81) hx hb dX4_readsWhen_76 (by decide) (fun c16 => ?_) (fun c16 => ?_)
        · have hm := m_ite_f hm c16
          refine lv_aload_n hx hb dX4_readsWhen_81 rfl (lv_at hl 2 rfl) ?_
          refine lv_iload_n hx hb dX4_readsWhen_82 rfl (lv_at hl 3 rfl) ?_
          refine lv_iload_n hx hb dX4_readsWhen_83 rfl (lv_at hl 0 rfl) ?_
          refine lv_iconst (v := (1 : Int32)) hx hb dX4_readsWhen_84 (by decide) ?_
          refine lv_iadd hx hb dX4_readsWhen_85 ?_
          refine lv_iconst (v := (1 : Int32)) hx hb dX4_readsWhen_86 (by decide) ?_
          obtain ⟨v18, S17, e_S17, hm⟩ := m_call_of hm
          refine n_cVi X hH hS (k := 4) (c_X4_takesVars (x := x) hT hk_x e_S17) mw_X4_takesVars in_3_220 (m_lay_at hT hk_x (by decide) (i := 2) rfl) (by decide) rfl rfl rfl ⟨rfl, rfl⟩ ⟨Nat.le_of_ble_eq_true rfl, Nat.le_of_ble_eq_true rfl⟩ ⟨Nat.zero_le _, Nat.zero_le _⟩ hl.1 (Nat.le_of_ble_eq_true rfl) dX4_readsWhen_87 (fun H locs hH hS => ?_)
          exact r_zret X hr hH hS hm dX4_readsWhen_90
        · have hm := m_ite_t hm c16
          exact k_X4_readsWhen_79 (x := x) X hr hT hk_x   S14 _ _ _ hH hS (lv_sub hl [] rfl) hm
    · have hm := m_ite_t hm c7
      refine lv_iconst (v := (0 : Int32)) hx hb dX4_readsWhen_32 (by decide) ?_
      exact r_zret X hr hH hS hm dX4_readsWhen_33
  · have hm := m_ite_t hm c3
    refine lv_iconst (v := (0 : Int32)) hx hb dX4_readsWhen_10 (by decide) ?_
    exact r_zret X hr hH hS hm dX4_readsWhen_11
def rm_X4_readsExpr : Room := { frames := 3, cells := 0, slots := 0, locals := 71 }
def b_X4_readsExpr_102 (x : Nat)  (S : m_M)  : Option (Int32 × m_M) :=
    m_call (f_X9_failsBy x S (1 : Int32)) fun v2 S1 =>
    if v2 = 0 ∨ v2 = 1 then some (v2, S1) else none
set_option maxHeartbeats 4000000 in
set_option maxRecDepth 100000 in
theorem k_X4_readsExpr_102 {p : Program} {l : Launch} {e : Env} {s : State} {m : MethodId} {args : Array Value} {below : List Frame} {meth : Method} {c : Code} {G : m_G} {nx : Nat} {κ : Nat → Nat} {res : (Int32 × m_M)} {x : Nat} (X : m_Cx p s m args meth c cX4_readsExpr 2 RX4 G) (hr : meth.sig.returnType = (some .boolean)) (hT : m_Str κ) (hk_x : κ x = 12)  : ∀ (S : m_M)  (H : Heap) (locs : List Loc) (ls : Array Slot), m_H G nx κ S H → m_S G s H locs → lv_has ls 2 [(0, .ref (x + 2))] → b_X4_readsExpr_102 x S  = some res → W p l e rm_X4_readsExpr s m args below meth c H locs 0 0 (m_Qi below args s G nx κ res) (F0 m 102 ls []) := by
  have hx := X.1.1
  have hb := X.1.2.1
  intro S H locs ls hH hS hl hm
  rw [b_X4_readsExpr_102] at hm
  refine lv_aload_n hx hb dX4_readsExpr_102 rfl (lv_at hl 0 rfl) ?_
  refine r_getp X hH (k := 4) (a := (x + 2)) (j := 1) (b := (x + 25)) (A := 23) (B := 0) (m_lay_at hT hk_x (by decide) (i := 2) rfl) (by decide) rfl m_wi4 (by decide) in_2_74 rfl rfl rfl dX4_readsExpr_103 ?_
  refine lv_iconst (v := (1 : Int32)) hx hb dX4_readsExpr_106 (by decide) ?_
  obtain ⟨v2, S1, e_S1, hm⟩ := m_call_of hm
  refine n_cVi X hH hS (k := 9) (c_X9_failsBy (x := x) hT hk_x e_S1) mw_X9_failsBy in_3_182 (m_lay_at hT hk_x (by decide) (i := 25) rfl) (by decide) rfl rfl rfl ⟨rfl, rfl⟩ ⟨Nat.le_of_ble_eq_true rfl, Nat.le_of_ble_eq_true rfl⟩ ⟨Nat.zero_le _, Nat.zero_le _⟩ hl.1 (Nat.le_of_ble_eq_true rfl) dX4_readsExpr_107 (fun H locs hH hS => ?_)
  exact r_zret X hr hH hS hm dX4_readsExpr_110
def b_X4_readsExpr_184 (x : Nat)  (S : m_M) (l1 : Int32) : Option (Int32 × m_M) :=
    m_call (f_X4_takesVars x S l1 (0 : Int32) (1 : Int32)) fun v2 S1 =>
    if v2 = 0 ∨ v2 = 1 then some (v2, S1) else none
set_option maxHeartbeats 4000000 in
set_option maxRecDepth 100000 in
theorem k_X4_readsExpr_184 {p : Program} {l : Launch} {e : Env} {s : State} {m : MethodId} {args : Array Value} {below : List Frame} {meth : Method} {c : Code} {G : m_G} {nx : Nat} {κ : Nat → Nat} {res : (Int32 × m_M)} {x : Nat} (X : m_Cx p s m args meth c cX4_readsExpr 2 RX4 G) (hr : meth.sig.returnType = (some .boolean)) (hT : m_Str κ) (hk_x : κ x = 12)  : ∀ (S : m_M) (l1 : Int32) (H : Heap) (locs : List Loc) (ls : Array Slot), m_H G nx κ S H → m_S G s H locs → lv_has ls 2 [(0, .ref (x + 2)), (1, .int l1)] → b_X4_readsExpr_184 x S l1 = some res → W p l e rm_X4_readsExpr s m args below meth c H locs 0 0 (m_Qi below args s G nx κ res) (F0 m 184 ls []) := by
  have hx := X.1.1
  have hb := X.1.2.1
  intro S l1 H locs ls hH hS hl hm
  rw [b_X4_readsExpr_184] at hm
  refine lv_aload_n hx hb dX4_readsExpr_184 rfl (lv_at hl 0 rfl) ?_
  refine lv_iload_n hx hb dX4_readsExpr_185 rfl (lv_at hl 1 rfl) ?_
  refine lv_iconst (v := (0 : Int32)) hx hb dX4_readsExpr_186 (by decide) ?_
  refine lv_iconst (v := (1 : Int32)) hx hb dX4_readsExpr_187 (by decide) ?_
  obtain ⟨v2, S1, e_S1, hm⟩ := m_call_of hm
  refine n_cVi X hH hS (k := 4) (c_X4_takesVars (x := x) hT hk_x e_S1) mw_X4_takesVars in_3_220 (m_lay_at hT hk_x (by decide) (i := 2) rfl) (by decide) rfl rfl rfl ⟨rfl, rfl⟩ ⟨Nat.le_of_ble_eq_true rfl, Nat.le_of_ble_eq_true rfl⟩ ⟨Nat.zero_le _, Nat.zero_le _⟩ hl.1 (Nat.le_of_ble_eq_true rfl) dX4_readsExpr_188 (fun H locs hH hS => ?_)
  exact r_zret X hr hH hS hm dX4_readsExpr_191
def b_X4_readsExpr_230 (x : Nat)  (S : m_M) (t0 : Int32) : Option (Int32 × m_M) :=
    if t0 = 0 ∨ t0 = 1 then some (t0, S) else none
set_option maxHeartbeats 4000000 in
set_option maxRecDepth 100000 in
theorem k_X4_readsExpr_230 {p : Program} {l : Launch} {e : Env} {s : State} {m : MethodId} {args : Array Value} {below : List Frame} {meth : Method} {c : Code} {G : m_G} {nx : Nat} {κ : Nat → Nat} {res : (Int32 × m_M)} {x : Nat} (X : m_Cx p s m args meth c cX4_readsExpr 2 RX4 G) (hr : meth.sig.returnType = (some .boolean)) (hT : m_Str κ) (hk_x : κ x = 12)  : ∀ (S : m_M) (t0 : Int32) (H : Heap) (locs : List Loc) (ls : Array Slot), m_H G nx κ S H → m_S G s H locs → lv_has ls 2 [] → b_X4_readsExpr_230 x S t0 = some res → W p l e rm_X4_readsExpr s m args below meth c H locs 0 0 (m_Qi below args s G nx κ res) (F0 m 230 ls [.int t0]) := by
  have hx := X.1.1
  have hb := X.1.2.1
  intro S t0 H locs ls hH hS hl hm
  rw [b_X4_readsExpr_230] at hm
  exact r_zret X hr hH hS hm dX4_readsExpr_230
def b_X4_readsExpr_229 (x : Nat)  (S : m_M)  : Option (Int32 × m_M) :=
    b_X4_readsExpr_230 x S (0 : Int32)
set_option maxHeartbeats 4000000 in
set_option maxRecDepth 100000 in
theorem k_X4_readsExpr_229 {p : Program} {l : Launch} {e : Env} {s : State} {m : MethodId} {args : Array Value} {below : List Frame} {meth : Method} {c : Code} {G : m_G} {nx : Nat} {κ : Nat → Nat} {res : (Int32 × m_M)} {x : Nat} (X : m_Cx p s m args meth c cX4_readsExpr 2 RX4 G) (hr : meth.sig.returnType = (some .boolean)) (hT : m_Str κ) (hk_x : κ x = 12)  : ∀ (S : m_M)  (H : Heap) (locs : List Loc) (ls : Array Slot), m_H G nx κ S H → m_S G s H locs → lv_has ls 2 [] → b_X4_readsExpr_229 x S  = some res → W p l e rm_X4_readsExpr s m args below meth c H locs 0 0 (m_Qi below args s G nx κ res) (F0 m 229 ls []) := by
  have hx := X.1.1
  have hb := X.1.2.1
  intro S H locs ls hH hS hl hm
  rw [b_X4_readsExpr_229] at hm
  refine lv_iconst (v := (0 : Int32)) hx hb dX4_readsExpr_229 (by decide) ?_
  exact k_X4_readsExpr_230 (x := x) X hr hT hk_x   S (0 : Int32) _ _ _ hH hS hl hm
def b_X4_readsExpr_237 (x : Nat)  (S : m_M) (l1 : Int32) : Option (Int32 × m_M) :=
    m_call (f_X4_takesVars x S l1 (0 : Int32) (2 : Int32)) fun v2 S1 =>
    if v2 = 0 ∨ v2 = 1 then some (v2, S1) else none
set_option maxHeartbeats 4000000 in
set_option maxRecDepth 100000 in
theorem k_X4_readsExpr_237 {p : Program} {l : Launch} {e : Env} {s : State} {m : MethodId} {args : Array Value} {below : List Frame} {meth : Method} {c : Code} {G : m_G} {nx : Nat} {κ : Nat → Nat} {res : (Int32 × m_M)} {x : Nat} (X : m_Cx p s m args meth c cX4_readsExpr 2 RX4 G) (hr : meth.sig.returnType = (some .boolean)) (hT : m_Str κ) (hk_x : κ x = 12)  : ∀ (S : m_M) (l1 : Int32) (H : Heap) (locs : List Loc) (ls : Array Slot), m_H G nx κ S H → m_S G s H locs → lv_has ls 2 [(0, .ref (x + 2)), (1, .int l1)] → b_X4_readsExpr_237 x S l1 = some res → W p l e rm_X4_readsExpr s m args below meth c H locs 0 0 (m_Qi below args s G nx κ res) (F0 m 237 ls []) := by
  have hx := X.1.1
  have hb := X.1.2.1
  intro S l1 H locs ls hH hS hl hm
  rw [b_X4_readsExpr_237] at hm
  refine lv_aload_n hx hb dX4_readsExpr_237 rfl (lv_at hl 0 rfl) ?_
  refine lv_iload_n hx hb dX4_readsExpr_238 rfl (lv_at hl 1 rfl) ?_
  refine lv_iconst (v := (0 : Int32)) hx hb dX4_readsExpr_239 (by decide) ?_
  refine lv_iconst (v := (2 : Int32)) hx hb dX4_readsExpr_240 (by decide) ?_
  obtain ⟨v2, S1, e_S1, hm⟩ := m_call_of hm
  refine n_cVi X hH hS (k := 4) (c_X4_takesVars (x := x) hT hk_x e_S1) mw_X4_takesVars in_3_220 (m_lay_at hT hk_x (by decide) (i := 2) rfl) (by decide) rfl rfl rfl ⟨rfl, rfl⟩ ⟨Nat.le_of_ble_eq_true rfl, Nat.le_of_ble_eq_true rfl⟩ ⟨Nat.zero_le _, Nat.zero_le _⟩ hl.1 (Nat.le_of_ble_eq_true rfl) dX4_readsExpr_241 (fun H locs hH hS => ?_)
  exact r_zret X hr hH hS hm dX4_readsExpr_244
def f_X4_readsExpr (x : Nat) (S : m_M) (i1 : Int32) : Option (Int32 × m_M) :=
    if (m_ri S (x + 25) 9) = (4 : Int32) then (
    (m_sti S (x + 8) 24 i1 (22 : Int32)).bind fun S30 =>
    (m_sti S30 (x + 10) 120 (i1 * (5 : Int32)) (m_ri S30 (x + 25) 12)).bind fun S31 =>
    m_cal0 (f_X9_advance x S31) fun S32 =>
    if (1 : Int32) = 0 ∨ (1 : Int32) = 1 then some ((1 : Int32), S32) else none) else (
    if (m_ri S (x + 25) 9) = (2 : Int32) then (
    (m_sti S (x + 8) 24 i1 (23 : Int32)).bind fun S27 =>
    m_call (f_X4_takesVars x S27 i1 (0 : Int32) (1 : Int32)) fun v29 S28 =>
    if v29 = 0 ∨ v29 = 1 then some (v29, S28) else none) else (
    if (m_ri S (x + 25) 11) < (2 : Int32) then (
    b_X4_readsExpr_102 x S) else (
    if (m_ri S (x + 25) 11) ≤ (9 : Int32) then (
    (m_sti S (x + 8) 24 i1 (m_ri S (x + 25) 11)).bind fun S5 =>
    m_cal0 (f_X9_advance x S5) fun S6 =>
    (m_ldi S6 (x + 8) 24 i1).bind fun v7 =>
    if v7 = (3 : Int32) then (
    b_X4_readsExpr_184 x S6 i1) else (
    if v7 = (4 : Int32) then (
    b_X4_readsExpr_184 x S6 i1) else (
    if v7 = (5 : Int32) then (
    b_X4_readsExpr_237 x S6 i1) else (
    if v7 = (6 : Int32) then (
    b_X4_readsExpr_237 x S6 i1) else (
    if v7 = (7 : Int32) then (
    m_call (f_X4_takesVars x S6 i1 (0 : Int32) (3 : Int32)) fun v14 S13 =>
    if v14 = 0 ∨ v14 = 1 then some (v14, S13) else none) else (
    if v7 = (8 : Int32) then (
    m_call (f_X4_takesFun x S6 i1) fun v17 S16 =>
    if v17 = 0 then (
    b_X4_readsExpr_229 x S16) else (
    m_call (f_X3_argumentCount (x + 3) S16 i1) fun v20 S19 =>
    m_call (f_X4_takesVars x S19 i1 (0 : Int32) v20) fun v22 S21 =>
    if v22 = 0 then (
    b_X4_readsExpr_229 x S21) else (
    b_X4_readsExpr_230 x S21 (1 : Int32)))) else (
    if v7 = (9 : Int32) then (
    m_call (f_X4_readsWhen x S6 i1) fun v26 S25 =>
    if v26 = 0 ∨ v26 = 1 then some (v26, S25) else none) else (
    b_X4_readsExpr_237 x S6 i1)))))))) else (
    b_X4_readsExpr_102 x S))))
set_option maxHeartbeats 4000000 in
set_option maxRecDepth 100000 in
theorem c_X4_readsExpr {l : Launch} {G : m_G} {nx : Nat} {κ : Nat → Nat} {x : Nat} {S : m_M} {i1 : Int32} {res : (Int32 × m_M)} (hT : m_Str κ) (hk_x : κ x = 12) (hm : f_X4_readsExpr x S i1 = some res) : m_Ci l yX4_readsExpr cX4_readsExpr 2 (some .boolean) rm_X4_readsExpr G nx κ [.ref (x + 2), .int i1] S res := by
  refine m_Ci.of (by decide) (Nat.le_of_ble_eq_true rfl) ?_
  intro p e s m args below meth c ls X hr hH hl
  have hx := X.1.1
  have hb := X.1.2.1
  have hS : m_S G s s.heap [] := va_S.rf
  have hl : lv_has ls 2 [(0, .ref (x + 2)), (1, .int i1)] := hl
  rw [f_X4_readsExpr] at hm
  refine lv_aload_n hx hb dX4_readsExpr_0 rfl (lv_at hl 0 rfl) ?_
  refine r_getp X hH (k := 4) (a := (x + 2)) (j := 1) (b := (x + 25)) (A := 23) (B := 0) (m_lay_at hT hk_x (by decide) (i := 2) rfl) (by decide) rfl m_wi4 (by decide) in_2_74 rfl rfl rfl dX4_readsExpr_1 ?_
  refine r_geti X hH (k := 9) (a := (x + 25)) (j := 9) (m_lay_at hT hk_x (by decide) (i := 25) rfl) (by decide) rfl m_wi9 (by decide) in_2_19 rfl rfl dX4_readsExpr_4 ?_
  refine lv_iconst (v := (4 : Int32)) hx hb dX4_readsExpr_7 (by decide) ?_
  refine lv_icmp_ne (tgt := 49) hx hb dX4_readsExpr_8 (by decide) (fun c1 => ?_) (fun c1 => ?_)
  · have hm := m_ite_f hm c1
    refine lv_aload_n hx hb dX4_readsExpr_49 rfl (lv_at hl 0 rfl) ?_
    refine r_getp X hH (k := 4) (a := (x + 2)) (j := 1) (b := (x + 25)) (A := 23) (B := 0) (m_lay_at hT hk_x (by decide) (i := 2) rfl) (by decide) rfl m_wi4 (by decide) in_2_74 rfl rfl rfl dX4_readsExpr_50 ?_
    refine r_geti X hH (k := 9) (a := (x + 25)) (j := 9) (m_lay_at hT hk_x (by decide) (i := 25) rfl) (by decide) rfl m_wi9 (by decide) in_2_19 rfl rfl dX4_readsExpr_53 ?_
    refine lv_iconst (v := (2 : Int32)) hx hb dX4_readsExpr_56 (by decide) ?_
    refine lv_icmp_ne (tgt := 79) hx hb dX4_readsExpr_57 (by decide) (fun c2 => ?_) (fun c2 => ?_)
    · have hm := m_ite_f hm c2
      refine lv_aload_n hx hb dX4_readsExpr_79 rfl (lv_at hl 0 rfl) ?_
      refine r_getp X hH (k := 4) (a := (x + 2)) (j := 1) (b := (x + 25)) (A := 23) (B := 0) (m_lay_at hT hk_x (by decide) (i := 2) rfl) (by decide) rfl m_wi4 (by decide) in_2_74 rfl rfl rfl dX4_readsExpr_80 ?_
      refine r_geti X hH (k := 9) (a := (x + 25)) (j := 11) (m_lay_at hT hk_x (by decide) (i := 25) rfl) (by decide) rfl m_wi9 (by decide) in_2_23 rfl rfl dX4_readsExpr_83 ?_
      refine lv_iconst (v := (2 : Int32)) hx hb dX4_readsExpr_86 (by decide) ?_
      refine lv_icmp_lt (tgt := 102) hx hb dX4_readsExpr_87 (by decide) (fun c3 => ?_) (fun c3 => ?_)
      · have hm := m_ite_t hm c3
        exact k_X4_readsExpr_102 (x := x) X hr hT hk_x   S _ _ _ hH hS (lv_sub hl [0] rfl) hm
      · have hm := m_ite_f hm c3
        refine lv_aload_n hx hb dX4_readsExpr_90 rfl (lv_at hl 0 rfl) ?_
        refine r_getp X hH (k := 4) (a := (x + 2)) (j := 1) (b := (x + 25)) (A := 23) (B := 0) (m_lay_at hT hk_x (by decide) (i := 2) rfl) (by decide) rfl m_wi4 (by decide) in_2_74 rfl rfl rfl dX4_readsExpr_91 ?_
        refine r_geti X hH (k := 9) (a := (x + 25)) (j := 11) (m_lay_at hT hk_x (by decide) (i := 25) rfl) (by decide) rfl m_wi9 (by decide) in_2_23 rfl rfl dX4_readsExpr_94 ?_
        refine lv_bipush (v := (9 : Int32)) hx hb dX4_readsExpr_97 (by decide) ?_
        refine lv_icmp_le (tgt := 111) hx hb dX4_readsExpr_99 (by decide) (fun c4 => ?_) (fun c4 => ?_)
        · have hm := m_ite_t hm c4
          refine lv_aload_n hx hb dX4_readsExpr_111 rfl (lv_at hl 0 rfl) ?_
          refine r_getp X hH (k := 4) (a := (x + 2)) (j := 0) (b := (x + 3)) (A := 1) (B := 0) (m_lay_at hT hk_x (by decide) (i := 2) rfl) (by decide) rfl m_wi4 (by decide) in_2_72 rfl rfl rfl dX4_readsExpr_112 ?_
          refine r_getp X hH (k := 3) (a := (x + 3)) (j := 6) (b := (x + 8)) (A := 5) (B := 0) (m_lay_at hT hk_x (by decide) (i := 3) rfl) (by decide) rfl m_wi3 (by decide) in_1_151 rfl rfl rfl dX4_readsExpr_115 ?_
          refine lv_iload_n hx hb dX4_readsExpr_118 rfl (lv_at hl 1 rfl) ?_
          refine lv_aload_n hx hb dX4_readsExpr_119 rfl (lv_at hl 0 rfl) ?_
          refine r_getp X hH (k := 4) (a := (x + 2)) (j := 1) (b := (x + 25)) (A := 23) (B := 0) (m_lay_at hT hk_x (by decide) (i := 2) rfl) (by decide) rfl m_wi4 (by decide) in_2_74 rfl rfl rfl dX4_readsExpr_120 ?_
          refine r_geti X hH (k := 9) (a := (x + 25)) (j := 11) (m_lay_at hT hk_x (by decide) (i := 25) rfl) (by decide) rfl m_wi9 (by decide) in_2_23 rfl rfl dX4_readsExpr_123 ?_
          obtain ⟨S5, h_S5, e_S5, hm⟩ := n_sti hm
          refine n_iast X hH hS (n := 24) (m_lay_at hT hk_x (by decide) (i := 8) rfl) h_S5 e_S5 dX4_readsExpr_126 (fun H locs hH hS => ?_)
          refine lv_aload_n hx hb dX4_readsExpr_127 rfl (lv_at hl 0 rfl) ?_
          refine r_getp X hH (k := 4) (a := (x + 2)) (j := 1) (b := (x + 25)) (A := 23) (B := 0) (m_lay_at hT hk_x (by decide) (i := 2) rfl) (by decide) rfl m_wi4 (by decide) in_2_74 rfl rfl rfl dX4_readsExpr_128 ?_
          obtain ⟨S6, e_S6, hm⟩ := m_cal0_of hm
          refine r_cVv X hH hS (k := 9) (c_X9_advance (x := x) hT hk_x e_S6) mw_X9_advance in_3_186 (m_lay_at hT hk_x (by decide) (i := 25) rfl) (by decide) rfl rfl rfl ⟨rfl, rfl⟩ ⟨Nat.le_of_ble_eq_true rfl, Nat.le_of_ble_eq_true rfl⟩ ⟨Nat.zero_le _, Nat.zero_le _⟩ hl.1 (Nat.le_of_ble_eq_true rfl) dX4_readsExpr_131 (fun H locs hH hS => ?_)
          refine lv_aload_n hx hb dX4_readsExpr_134 rfl (lv_at hl 0 rfl) ?_
          refine r_getp X hH (k := 4) (a := (x + 2)) (j := 0) (b := (x + 3)) (A := 1) (B := 0) (m_lay_at hT hk_x (by decide) (i := 2) rfl) (by decide) rfl m_wi4 (by decide) in_2_72 rfl rfl rfl dX4_readsExpr_135 ?_
          refine r_getp X hH (k := 3) (a := (x + 3)) (j := 6) (b := (x + 8)) (A := 5) (B := 0) (m_lay_at hT hk_x (by decide) (i := 3) rfl) (by decide) rfl m_wi3 (by decide) in_1_151 rfl rfl rfl dX4_readsExpr_138 ?_
          refine lv_iload_n hx hb dX4_readsExpr_141 rfl (lv_at hl 1 rfl) ?_
          obtain ⟨v7, h_v7, e_v7, hm⟩ := n_ldi hm
          refine n_iald X hH (n := 24) (m_lay_at hT hk_x (by decide) (i := 8) rfl) h_v7 e_v7 dX4_readsExpr_142 ?_
          by_cases c8 : v7 = (3 : Int32)
          · have hm := m_ite_t hm c8
            refine lv_tableIn (off := 41) (tgt := 184) hx hb dX4_readsExpr_143 (by rw [c8]; decide) (by rw [c8]; decide) (by rw [c8]; rfl) (by decide) ?_
            exact k_X4_readsExpr_184 (x := x) X hr hT hk_x   S6 i1 _ _ _ hH hS hl hm
          · have hm := m_ite_f hm c8
            by_cases c9 : v7 = (4 : Int32)
            · have hm := m_ite_t hm c9
              refine lv_tableIn (off := 41) (tgt := 184) hx hb dX4_readsExpr_143 (by rw [c9]; decide) (by rw [c9]; decide) (by rw [c9]; rfl) (by decide) ?_
              exact k_X4_readsExpr_184 (x := x) X hr hT hk_x   S6 i1 _ _ _ hH hS hl hm
            · have hm := m_ite_f hm c9
              by_cases c10 : v7 = (5 : Int32)
              · have hm := m_ite_t hm c10
                refine lv_tableIn (off := 94) (tgt := 237) hx hb dX4_readsExpr_143 (by rw [c10]; decide) (by rw [c10]; decide) (by rw [c10]; rfl) (by decide) ?_
                exact k_X4_readsExpr_237 (x := x) X hr hT hk_x   S6 i1 _ _ _ hH hS hl hm
              · have hm := m_ite_f hm c10
                by_cases c11 : v7 = (6 : Int32)
                · have hm := m_ite_t hm c11
                  refine lv_tableIn (off := 94) (tgt := 237) hx hb dX4_readsExpr_143 (by rw [c11]; decide) (by rw [c11]; decide) (by rw [c11]; rfl) (by decide) ?_
                  exact k_X4_readsExpr_237 (x := x) X hr hT hk_x   S6 i1 _ _ _ hH hS hl hm
                · have hm := m_ite_f hm c11
                  by_cases c12 : v7 = (7 : Int32)
                  · have hm := m_ite_t hm c12
                    refine lv_tableIn (off := 49) (tgt := 192) hx hb dX4_readsExpr_143 (by rw [c12]; decide) (by rw [c12]; decide) (by rw [c12]; rfl) (by decide) ?_
                    refine lv_aload_n hx hb dX4_readsExpr_192 rfl (lv_at hl 0 rfl) ?_
                    refine lv_iload_n hx hb dX4_readsExpr_193 rfl (lv_at hl 1 rfl) ?_
                    refine lv_iconst (v := (0 : Int32)) hx hb dX4_readsExpr_194 (by decide) ?_
                    refine lv_iconst (v := (3 : Int32)) hx hb dX4_readsExpr_195 (by decide) ?_
                    obtain ⟨v14, S13, e_S13, hm⟩ := m_call_of hm
                    refine n_cVi X hH hS (k := 4) (c_X4_takesVars (x := x) hT hk_x e_S13) mw_X4_takesVars in_3_220 (m_lay_at hT hk_x (by decide) (i := 2) rfl) (by decide) rfl rfl rfl ⟨rfl, rfl⟩ ⟨Nat.le_of_ble_eq_true rfl, Nat.le_of_ble_eq_true rfl⟩ ⟨Nat.zero_le _, Nat.zero_le _⟩ hl.1 (Nat.le_of_ble_eq_true rfl) dX4_readsExpr_196 (fun H locs hH hS => ?_)
                    exact r_zret X hr hH hS hm dX4_readsExpr_199
                  · have hm := m_ite_f hm c12
                    by_cases c15 : v7 = (8 : Int32)
                    · have hm := m_ite_t hm c15
                      refine lv_tableIn (off := 57) (tgt := 200) hx hb dX4_readsExpr_143 (by rw [c15]; decide) (by rw [c15]; decide) (by rw [c15]; rfl) (by decide) ?_
                      refine lv_aload_n hx hb dX4_readsExpr_200 rfl (lv_at hl 0 rfl) ?_
                      refine lv_iload_n hx hb dX4_readsExpr_201 rfl (lv_at hl 1 rfl) ?_
                      obtain ⟨v17, S16, e_S16, hm⟩ := m_call_of hm
                      refine n_cVi X hH hS (k := 4) (c_X4_takesFun (x := x) hT hk_x e_S16) mw_X4_takesFun in_3_224 (m_lay_at hT hk_x (by decide) (i := 2) rfl) (by decide) rfl rfl rfl ⟨rfl, rfl⟩ ⟨Nat.le_of_ble_eq_true rfl, Nat.le_of_ble_eq_true rfl⟩ ⟨Nat.zero_le _, Nat.zero_le _⟩ hl.1 (Nat.le_of_ble_eq_true rfl) dX4_readsExpr_202 (fun H locs hH hS => ?_)
                      refine lv_if_eq (tgt := 229) hx hb dX4_readsExpr_205 (by decide) (fun c18 => ?_) (fun c18 => ?_)
                      · have hm := m_ite_t hm c18
                        exact k_X4_readsExpr_229 (x := x) X hr hT hk_x   S16 _ _ _ hH hS (lv_sub hl [] rfl) hm
                      · have hm := m_ite_f hm c18
                        refine lv_aload_n hx hb dX4_readsExpr_208 rfl (lv_at hl 0 rfl) ?_
                        refine lv_iload_n hx hb dX4_readsExpr_209 rfl (lv_at hl 1 rfl) ?_
                        refine lv_iconst (v := (0 : Int32)) hx hb dX4_readsExpr_210 (by decide) ?_
                        refine lv_aload_n hx hb dX4_readsExpr_211 rfl (lv_at hl 0 rfl) ?_
                        refine r_getp X hH (k := 4) (a := (x + 2)) (j := 0) (b := (x + 3)) (A := 1) (B := 0) (m_lay_at hT hk_x (by decide) (i := 2) rfl) (by decide) rfl m_wi4 (by decide) in_2_72 rfl rfl rfl dX4_readsExpr_212 ?_
                        refine lv_iload_n hx hb dX4_readsExpr_215 rfl (lv_at hl 1 rfl) ?_
                        obtain ⟨v20, S19, e_S19, hm⟩ := m_call_of hm
                        refine n_cVi X hH hS (k := 3) (c_X3_argumentCount (a := (x + 3)) hT (m_lay_at hT hk_x (by decide) (i := 3) rfl) e_S19) mw_X3_argumentCount in_3_228 (m_lay_at hT hk_x (by decide) (i := 3) rfl) (by decide) rfl rfl rfl ⟨rfl, rfl⟩ ⟨Nat.le_of_ble_eq_true rfl, Nat.le_of_ble_eq_true rfl⟩ ⟨Nat.zero_le _, Nat.zero_le _⟩ hl.1 (Nat.le_of_ble_eq_true rfl) dX4_readsExpr_216 (fun H locs hH hS => ?_)
                        obtain ⟨v22, S21, e_S21, hm⟩ := m_call_of hm
                        refine n_cVi X hH hS (k := 4) (c_X4_takesVars (x := x) hT hk_x e_S21) mw_X4_takesVars in_3_220 (m_lay_at hT hk_x (by decide) (i := 2) rfl) (by decide) rfl rfl rfl ⟨rfl, rfl⟩ ⟨Nat.le_of_ble_eq_true rfl, Nat.le_of_ble_eq_true rfl⟩ ⟨Nat.zero_le _, Nat.zero_le _⟩ hl.1 (Nat.le_of_ble_eq_true rfl) dX4_readsExpr_219 (fun H locs hH hS => ?_)
                        refine lv_if_eq (tgt := 229) hx hb dX4_readsExpr_222 (by decide) (fun c23 => ?_) (fun c23 => ?_)
                        · have hm := m_ite_t hm c23
                          exact k_X4_readsExpr_229 (x := x) X hr hT hk_x   S21 _ _ _ hH hS (lv_sub hl [] rfl) hm
                        · have hm := m_ite_f hm c23
                          refine lv_iconst (v := (1 : Int32)) hx hb dX4_readsExpr_225 (by decide) ?_
                          refine lv_goto (tgt := 230) hx hb dX4_readsExpr_226 (by decide) ?_
                          exact k_X4_readsExpr_230 (x := x) X hr hT hk_x   S21 (1 : Int32) _ _ _ hH hS (lv_sub hl [] rfl) hm
                    · have hm := m_ite_f hm c15
                      by_cases c24 : v7 = (9 : Int32)
                      · have hm := m_ite_t hm c24
                        refine lv_tableIn (off := 88) (tgt := 231) hx hb dX4_readsExpr_143 (by rw [c24]; decide) (by rw [c24]; decide) (by rw [c24]; rfl) (by decide) ?_
                        refine lv_aload_n hx hb dX4_readsExpr_231 rfl (lv_at hl 0 rfl) ?_
                        refine lv_iload_n hx hb dX4_readsExpr_232 rfl (lv_at hl 1 rfl) ?_
                        obtain ⟨v26, S25, e_S25, hm⟩ := m_call_of hm
                        refine n_cVi X hH hS (k := 4) (c_X4_readsWhen (x := x) hT hk_x e_S25) mw_X4_readsWhen in_3_232 (m_lay_at hT hk_x (by decide) (i := 2) rfl) (by decide) rfl rfl rfl ⟨rfl, rfl⟩ ⟨Nat.le_of_ble_eq_true rfl, Nat.le_of_ble_eq_true rfl⟩ ⟨Nat.zero_le _, Nat.zero_le _⟩ hl.1 (Nat.le_of_ble_eq_true rfl) dX4_readsExpr_233 (fun H locs hH hS => ?_)
                        exact r_zret X hr hH hS hm dX4_readsExpr_236
                      · have hm := m_ite_f hm c24
                        refine lv_tableOut (tgt := 237) hx hb dX4_readsExpr_143 (by have h_c8 := lv_neT (a := 3) c8 rfl; have h_c9 := lv_neT (a := 4) c9 rfl; have h_c10 := lv_neT (a := 5) c10 rfl; have h_c11 := lv_neT (a := 6) c11 rfl; have h_c12 := lv_neT (a := 7) c12 rfl; have h_c15 := lv_neT (a := 8) c15 rfl; have h_c24 := lv_neT (a := 9) c24 rfl; omega) (by decide) ?_
                        exact k_X4_readsExpr_237 (x := x) X hr hT hk_x   S6 i1 _ _ _ hH hS hl hm
        · have hm := m_ite_f hm c4
          exact k_X4_readsExpr_102 (x := x) X hr hT hk_x   S _ _ _ hH hS (lv_sub hl [0] rfl) hm
    · have hm := m_ite_t hm c2
      refine lv_aload_n hx hb dX4_readsExpr_60 rfl (lv_at hl 0 rfl) ?_
      refine r_getp X hH (k := 4) (a := (x + 2)) (j := 0) (b := (x + 3)) (A := 1) (B := 0) (m_lay_at hT hk_x (by decide) (i := 2) rfl) (by decide) rfl m_wi4 (by decide) in_2_72 rfl rfl rfl dX4_readsExpr_61 ?_
      refine r_getp X hH (k := 3) (a := (x + 3)) (j := 6) (b := (x + 8)) (A := 5) (B := 0) (m_lay_at hT hk_x (by decide) (i := 3) rfl) (by decide) rfl m_wi3 (by decide) in_1_151 rfl rfl rfl dX4_readsExpr_64 ?_
      refine lv_iload_n hx hb dX4_readsExpr_67 rfl (lv_at hl 1 rfl) ?_
      refine lv_bipush (v := (23 : Int32)) hx hb dX4_readsExpr_68 (by decide) ?_
      obtain ⟨S27, h_S27, e_S27, hm⟩ := n_sti hm
      refine n_iast X hH hS (n := 24) (m_lay_at hT hk_x (by decide) (i := 8) rfl) h_S27 e_S27 dX4_readsExpr_70 (fun H locs hH hS => ?_)
      refine lv_aload_n hx hb dX4_readsExpr_71 rfl (lv_at hl 0 rfl) ?_
      refine lv_iload_n hx hb dX4_readsExpr_72 rfl (lv_at hl 1 rfl) ?_
      refine lv_iconst (v := (0 : Int32)) hx hb dX4_readsExpr_73 (by decide) ?_
      refine lv_iconst (v := (1 : Int32)) hx hb dX4_readsExpr_74 (by decide) ?_
      obtain ⟨v29, S28, e_S28, hm⟩ := m_call_of hm
      refine n_cVi X hH hS (k := 4) (c_X4_takesVars (x := x) hT hk_x e_S28) mw_X4_takesVars in_3_220 (m_lay_at hT hk_x (by decide) (i := 2) rfl) (by decide) rfl rfl rfl ⟨rfl, rfl⟩ ⟨Nat.le_of_ble_eq_true rfl, Nat.le_of_ble_eq_true rfl⟩ ⟨Nat.zero_le _, Nat.zero_le _⟩ hl.1 (Nat.le_of_ble_eq_true rfl) dX4_readsExpr_75 (fun H locs hH hS => ?_)
      exact r_zret X hr hH hS hm dX4_readsExpr_78
  · have hm := m_ite_t hm c1
    refine lv_aload_n hx hb dX4_readsExpr_11 rfl (lv_at hl 0 rfl) ?_
    refine r_getp X hH (k := 4) (a := (x + 2)) (j := 0) (b := (x + 3)) (A := 1) (B := 0) (m_lay_at hT hk_x (by decide) (i := 2) rfl) (by decide) rfl m_wi4 (by decide) in_2_72 rfl rfl rfl dX4_readsExpr_12 ?_
    refine r_getp X hH (k := 3) (a := (x + 3)) (j := 6) (b := (x + 8)) (A := 5) (B := 0) (m_lay_at hT hk_x (by decide) (i := 3) rfl) (by decide) rfl m_wi3 (by decide) in_1_151 rfl rfl rfl dX4_readsExpr_15 ?_
    refine lv_iload_n hx hb dX4_readsExpr_18 rfl (lv_at hl 1 rfl) ?_
    refine lv_bipush (v := (22 : Int32)) hx hb dX4_readsExpr_19 (by decide) ?_
    obtain ⟨S30, h_S30, e_S30, hm⟩ := n_sti hm
    refine n_iast X hH hS (n := 24) (m_lay_at hT hk_x (by decide) (i := 8) rfl) h_S30 e_S30 dX4_readsExpr_21 (fun H locs hH hS => ?_)
    refine lv_aload_n hx hb dX4_readsExpr_22 rfl (lv_at hl 0 rfl) ?_
    refine r_getp X hH (k := 4) (a := (x + 2)) (j := 0) (b := (x + 3)) (A := 1) (B := 0) (m_lay_at hT hk_x (by decide) (i := 2) rfl) (by decide) rfl m_wi4 (by decide) in_2_72 rfl rfl rfl dX4_readsExpr_23 ?_
    refine r_getp X hH (k := 3) (a := (x + 3)) (j := 8) (b := (x + 10)) (A := 7) (B := 0) (m_lay_at hT hk_x (by decide) (i := 3) rfl) (by decide) rfl m_wi3 (by decide) in_1_159 rfl rfl rfl dX4_readsExpr_26 ?_
    refine lv_iload_n hx hb dX4_readsExpr_29 rfl (lv_at hl 1 rfl) ?_
    refine lv_iconst (v := (5 : Int32)) hx hb dX4_readsExpr_30 (by decide) ?_
    refine lv_imul hx hb dX4_readsExpr_31 ?_
    refine lv_aload_n hx hb dX4_readsExpr_32 rfl (lv_at hl 0 rfl) ?_
    refine r_getp X hH (k := 4) (a := (x + 2)) (j := 1) (b := (x + 25)) (A := 23) (B := 0) (m_lay_at hT hk_x (by decide) (i := 2) rfl) (by decide) rfl m_wi4 (by decide) in_2_74 rfl rfl rfl dX4_readsExpr_33 ?_
    refine r_geti X hH (k := 9) (a := (x + 25)) (j := 12) (m_lay_at hT hk_x (by decide) (i := 25) rfl) (by decide) rfl m_wi9 (by decide) in_2_26 rfl rfl dX4_readsExpr_36 ?_
    obtain ⟨S31, h_S31, e_S31, hm⟩ := n_sti hm
    refine n_iast X hH hS (n := 120) (m_lay_at hT hk_x (by decide) (i := 10) rfl) h_S31 e_S31 dX4_readsExpr_39 (fun H locs hH hS => ?_)
    refine lv_aload_n hx hb dX4_readsExpr_40 rfl (lv_at hl 0 rfl) ?_
    refine r_getp X hH (k := 4) (a := (x + 2)) (j := 1) (b := (x + 25)) (A := 23) (B := 0) (m_lay_at hT hk_x (by decide) (i := 2) rfl) (by decide) rfl m_wi4 (by decide) in_2_74 rfl rfl rfl dX4_readsExpr_41 ?_
    obtain ⟨S32, e_S32, hm⟩ := m_cal0_of hm
    refine r_cVv X hH hS (k := 9) (c_X9_advance (x := x) hT hk_x e_S32) mw_X9_advance in_3_186 (m_lay_at hT hk_x (by decide) (i := 25) rfl) (by decide) rfl rfl rfl ⟨rfl, rfl⟩ ⟨Nat.le_of_ble_eq_true rfl, Nat.le_of_ble_eq_true rfl⟩ ⟨Nat.zero_le _, Nat.zero_le _⟩ hl.1 (Nat.le_of_ble_eq_true rfl) dX4_readsExpr_44 (fun H locs hH hS => ?_)
    refine lv_iconst (v := (1 : Int32)) hx hb dX4_readsExpr_47 (by decide) ?_
    exact r_zret X hr hH hS hm dX4_readsExpr_48
