def rm_X9_advance : Room := { frames := 0, cells := 0, slots := 0, locals := 0 }
def b_X9_advance_152 (x : Nat)  (S : m_M) (t1 : Int64) : Option m_M :=
    m_let (m_sj S (x + 2) 14 t1) fun S1 =>
    some S1
set_option maxHeartbeats 4000000 in
set_option maxRecDepth 100000 in
theorem k_X9_advance_152 {p : Program} {l : Launch} {e : Env} {s : State} {m : MethodId} {args : Array Value} {below : List Frame} {meth : Method} {c : Code} {G : m_G} {nx : Nat} {κ : Nat → Nat} {res : m_M} {x : Nat} (X : m_Cx p s m args meth c cX9_advance 1 RX9 G) (hr : meth.sig.returnType = none) (hT : m_Str κ) (hk_x : κ x = 12)  : ∀ (S : m_M) (t1 : Int64) (H : Heap) (locs : List Loc) (ls : Array Slot), m_H G nx κ S H → m_S G s H locs → lv_has ls 1 [] → b_X9_advance_152 x S t1 = some res → W p l e rm_X9_advance s m args below meth c H locs 0 0 (m_Qv below args s G nx κ res) (F0 m 152 ls [.long t1, .ref (x + 2)]) := by
  have hx := X.1.1
  have hb := X.1.2.1
  intro S t1 H locs ls hH hS hl hm
  rw [b_X9_advance_152] at hm
  obtain ⟨S1, e_S1, hm⟩ := m_let_of hm
  refine n_putj X hH hS tyX9 (k := 9) (a := (x + 2)) (j := 14) (m_lay_at hT hk_x (by decide) (i := 2) rfl) (by decide) rfl m_wi9 tyX9_ok nmX9 (by decide) in_1_115 rfl rfl rfl ⟨rfl, rfl⟩ e_S1 dX9_advance_152 (fun H locs hH hS => ?_)
  exact r_vret X hr hH hS hm dX9_advance_155
def b_X9_advance_125 (x : Nat)  (S : m_M) (t1 : Int32) : Option m_M :=
    m_let (m_si S (x + 2) 13 t1) fun S1 =>
    if (m_ri S1 (x + 2) 9) = (2 : Int32) then (
    (m_ldj S1 (x + 6) 901 (m_ri S1 (x + 2) 8)).bind fun v3 =>
    b_X9_advance_152 x S1 v3) else (
    b_X9_advance_152 x S1 (-1 : Int64))
set_option maxHeartbeats 4000000 in
set_option maxRecDepth 100000 in
theorem k_X9_advance_125 {p : Program} {l : Launch} {e : Env} {s : State} {m : MethodId} {args : Array Value} {below : List Frame} {meth : Method} {c : Code} {G : m_G} {nx : Nat} {κ : Nat → Nat} {res : m_M} {x : Nat} (X : m_Cx p s m args meth c cX9_advance 1 RX9 G) (hr : meth.sig.returnType = none) (hT : m_Str κ) (hk_x : κ x = 12)  : ∀ (S : m_M) (t1 : Int32) (H : Heap) (locs : List Loc) (ls : Array Slot), m_H G nx κ S H → m_S G s H locs → lv_has ls 1 [(0, .ref (x + 2))] → b_X9_advance_125 x S t1 = some res → W p l e rm_X9_advance s m args below meth c H locs 0 0 (m_Qv below args s G nx κ res) (F0 m 125 ls [.int t1, .ref (x + 2)]) := by
  have hx := X.1.1
  have hb := X.1.2.1
  intro S t1 H locs ls hH hS hl hm
  rw [b_X9_advance_125] at hm
  obtain ⟨S1, e_S1, hm⟩ := m_let_of hm
  refine n_puti X hH hS tyX9 (k := 9) (a := (x + 2)) (j := 13) (m_lay_at hT hk_x (by decide) (i := 2) rfl) (by decide) rfl m_wi9 tyX9_ok nmX9 (by decide) in_1_113 rfl rfl rfl ⟨rfl, rfl⟩ e_S1 dX9_advance_125 (fun H locs hH hS => ?_)
  refine lv_aload_n hx hb dX9_advance_128 rfl (lv_at hl 0 rfl) ?_
  refine lv_aload_n hx hb dX9_advance_129 rfl (lv_at hl 0 rfl) ?_
  refine r_geti X hH (k := 9) (a := (x + 2)) (j := 9) (m_lay_at hT hk_x (by decide) (i := 2) rfl) (by decide) rfl m_wi9 (by decide) in_1_103 rfl rfl dX9_advance_130 ?_
  refine lv_iconst (v := (2 : Int32)) hx hb dX9_advance_133 (by decide) ?_
  refine lv_icmp_ne (tgt := 149) hx hb dX9_advance_134 (by decide) (fun c2 => ?_) (fun c2 => ?_)
  · have hm := m_ite_f hm c2
    refine lv_ldc2 hx hb X.1.2.2.2.1 (m_w X in_1_40) dX9_advance_149 ?_
    exact k_X9_advance_152 (x := x) X hr hT hk_x   S1 (-1 : Int64) _ _ _ hH hS (lv_sub hl [] rfl) hm
  · have hm := m_ite_t hm c2
    refine lv_aload_n hx hb dX9_advance_137 rfl (lv_at hl 0 rfl) ?_
    refine r_getp X hH (k := 9) (a := (x + 2)) (j := 4) (b := (x + 6)) (A := 4) (B := 0) (m_lay_at hT hk_x (by decide) (i := 2) rfl) (by decide) rfl m_wi9 (by decide) in_1_98 rfl rfl rfl dX9_advance_138 ?_
    refine lv_aload_n hx hb dX9_advance_141 rfl (lv_at hl 0 rfl) ?_
    refine r_geti X hH (k := 9) (a := (x + 2)) (j := 8) (m_lay_at hT hk_x (by decide) (i := 2) rfl) (by decide) rfl m_wi9 (by decide) in_1_102 rfl rfl dX9_advance_142 ?_
    obtain ⟨v3, h_v3, e_v3, hm⟩ := n_ldj hm
    refine n_lald X hH (n := 901) (m_lay_at hT hk_x (by decide) (i := 6) rfl) h_v3 e_v3 dX9_advance_145 ?_
    refine lv_goto (tgt := 152) hx hb dX9_advance_146 (by decide) ?_
    exact k_X9_advance_152 (x := x) X hr hT hk_x   S1 v3 _ _ _ hH hS (lv_sub hl [] rfl) hm
def b_X9_advance_99 (x : Nat)  (S : m_M) (t1 : Int32) : Option m_M :=
    m_let (m_si S (x + 2) 12 t1) fun S1 =>
    if (m_ri S1 (x + 2) 9) = (5 : Int32) then (
    (m_ldj S1 (x + 6) 901 (m_ri S1 (x + 2) 8)).bind fun v3 =>
    b_X9_advance_125 x S1 v3.toInt32) else (
    b_X9_advance_125 x S1 (-1 : Int32))
set_option maxHeartbeats 4000000 in
set_option maxRecDepth 100000 in
theorem k_X9_advance_99 {p : Program} {l : Launch} {e : Env} {s : State} {m : MethodId} {args : Array Value} {below : List Frame} {meth : Method} {c : Code} {G : m_G} {nx : Nat} {κ : Nat → Nat} {res : m_M} {x : Nat} (X : m_Cx p s m args meth c cX9_advance 1 RX9 G) (hr : meth.sig.returnType = none) (hT : m_Str κ) (hk_x : κ x = 12)  : ∀ (S : m_M) (t1 : Int32) (H : Heap) (locs : List Loc) (ls : Array Slot), m_H G nx κ S H → m_S G s H locs → lv_has ls 1 [(0, .ref (x + 2))] → b_X9_advance_99 x S t1 = some res → W p l e rm_X9_advance s m args below meth c H locs 0 0 (m_Qv below args s G nx κ res) (F0 m 99 ls [.int t1, .ref (x + 2)]) := by
  have hx := X.1.1
  have hb := X.1.2.1
  intro S t1 H locs ls hH hS hl hm
  rw [b_X9_advance_99] at hm
  obtain ⟨S1, e_S1, hm⟩ := m_let_of hm
  refine n_puti X hH hS tyX9 (k := 9) (a := (x + 2)) (j := 12) (m_lay_at hT hk_x (by decide) (i := 2) rfl) (by decide) rfl m_wi9 tyX9_ok nmX9 (by decide) in_1_110 rfl rfl rfl ⟨rfl, rfl⟩ e_S1 dX9_advance_99 (fun H locs hH hS => ?_)
  refine lv_aload_n hx hb dX9_advance_102 rfl (lv_at hl 0 rfl) ?_
  refine lv_aload_n hx hb dX9_advance_103 rfl (lv_at hl 0 rfl) ?_
  refine r_geti X hH (k := 9) (a := (x + 2)) (j := 9) (m_lay_at hT hk_x (by decide) (i := 2) rfl) (by decide) rfl m_wi9 (by decide) in_1_103 rfl rfl dX9_advance_104 ?_
  refine lv_iconst (v := (5 : Int32)) hx hb dX9_advance_107 (by decide) ?_
  refine lv_icmp_ne (tgt := 124) hx hb dX9_advance_108 (by decide) (fun c2 => ?_) (fun c2 => ?_)
  · have hm := m_ite_f hm c2
    refine lv_iconst (v := (-1 : Int32)) hx hb dX9_advance_124 (by decide) ?_
    exact k_X9_advance_125 (x := x) X hr hT hk_x   S1 (-1 : Int32) _ _ _ hH hS hl hm
  · have hm := m_ite_t hm c2
    refine lv_aload_n hx hb dX9_advance_111 rfl (lv_at hl 0 rfl) ?_
    refine r_getp X hH (k := 9) (a := (x + 2)) (j := 4) (b := (x + 6)) (A := 4) (B := 0) (m_lay_at hT hk_x (by decide) (i := 2) rfl) (by decide) rfl m_wi9 (by decide) in_1_98 rfl rfl rfl dX9_advance_112 ?_
    refine lv_aload_n hx hb dX9_advance_115 rfl (lv_at hl 0 rfl) ?_
    refine r_geti X hH (k := 9) (a := (x + 2)) (j := 8) (m_lay_at hT hk_x (by decide) (i := 2) rfl) (by decide) rfl m_wi9 (by decide) in_1_102 rfl rfl dX9_advance_116 ?_
    obtain ⟨v3, h_v3, e_v3, hm⟩ := n_ldj hm
    refine n_lald X hH (n := 901) (m_lay_at hT hk_x (by decide) (i := 6) rfl) h_v3 e_v3 dX9_advance_119 ?_
    refine lv_l2i hx hb dX9_advance_120 rfl ?_
    refine lv_goto (tgt := 125) hx hb dX9_advance_121 (by decide) ?_
    exact k_X9_advance_125 (x := x) X hr hT hk_x   S1 v3.toInt32 _ _ _ hH hS hl hm
def b_X9_advance_73 (x : Nat)  (S : m_M) (t1 : Int32) : Option m_M :=
    m_let (m_si S (x + 2) 11 t1) fun S1 =>
    if (m_ri S1 (x + 2) 9) = (4 : Int32) then (
    (m_ldj S1 (x + 6) 901 (m_ri S1 (x + 2) 8)).bind fun v3 =>
    b_X9_advance_99 x S1 v3.toInt32) else (
    b_X9_advance_99 x S1 (-1 : Int32))
set_option maxHeartbeats 4000000 in
set_option maxRecDepth 100000 in
theorem k_X9_advance_73 {p : Program} {l : Launch} {e : Env} {s : State} {m : MethodId} {args : Array Value} {below : List Frame} {meth : Method} {c : Code} {G : m_G} {nx : Nat} {κ : Nat → Nat} {res : m_M} {x : Nat} (X : m_Cx p s m args meth c cX9_advance 1 RX9 G) (hr : meth.sig.returnType = none) (hT : m_Str κ) (hk_x : κ x = 12)  : ∀ (S : m_M) (t1 : Int32) (H : Heap) (locs : List Loc) (ls : Array Slot), m_H G nx κ S H → m_S G s H locs → lv_has ls 1 [(0, .ref (x + 2))] → b_X9_advance_73 x S t1 = some res → W p l e rm_X9_advance s m args below meth c H locs 0 0 (m_Qv below args s G nx κ res) (F0 m 73 ls [.int t1, .ref (x + 2)]) := by
  have hx := X.1.1
  have hb := X.1.2.1
  intro S t1 H locs ls hH hS hl hm
  rw [b_X9_advance_73] at hm
  obtain ⟨S1, e_S1, hm⟩ := m_let_of hm
  refine n_puti X hH hS tyX9 (k := 9) (a := (x + 2)) (j := 11) (m_lay_at hT hk_x (by decide) (i := 2) rfl) (by decide) rfl m_wi9 tyX9_ok nmX9 (by decide) in_1_107 rfl rfl rfl ⟨rfl, rfl⟩ e_S1 dX9_advance_73 (fun H locs hH hS => ?_)
  refine lv_aload_n hx hb dX9_advance_76 rfl (lv_at hl 0 rfl) ?_
  refine lv_aload_n hx hb dX9_advance_77 rfl (lv_at hl 0 rfl) ?_
  refine r_geti X hH (k := 9) (a := (x + 2)) (j := 9) (m_lay_at hT hk_x (by decide) (i := 2) rfl) (by decide) rfl m_wi9 (by decide) in_1_103 rfl rfl dX9_advance_78 ?_
  refine lv_iconst (v := (4 : Int32)) hx hb dX9_advance_81 (by decide) ?_
  refine lv_icmp_ne (tgt := 98) hx hb dX9_advance_82 (by decide) (fun c2 => ?_) (fun c2 => ?_)
  · have hm := m_ite_f hm c2
    refine lv_iconst (v := (-1 : Int32)) hx hb dX9_advance_98 (by decide) ?_
    exact k_X9_advance_99 (x := x) X hr hT hk_x   S1 (-1 : Int32) _ _ _ hH hS hl hm
  · have hm := m_ite_t hm c2
    refine lv_aload_n hx hb dX9_advance_85 rfl (lv_at hl 0 rfl) ?_
    refine r_getp X hH (k := 9) (a := (x + 2)) (j := 4) (b := (x + 6)) (A := 4) (B := 0) (m_lay_at hT hk_x (by decide) (i := 2) rfl) (by decide) rfl m_wi9 (by decide) in_1_98 rfl rfl rfl dX9_advance_86 ?_
    refine lv_aload_n hx hb dX9_advance_89 rfl (lv_at hl 0 rfl) ?_
    refine r_geti X hH (k := 9) (a := (x + 2)) (j := 8) (m_lay_at hT hk_x (by decide) (i := 2) rfl) (by decide) rfl m_wi9 (by decide) in_1_102 rfl rfl dX9_advance_90 ?_
    obtain ⟨v3, h_v3, e_v3, hm⟩ := n_ldj hm
    refine n_lald X hH (n := 901) (m_lay_at hT hk_x (by decide) (i := 6) rfl) h_v3 e_v3 dX9_advance_93 ?_
    refine lv_l2i hx hb dX9_advance_94 rfl ?_
    refine lv_goto (tgt := 99) hx hb dX9_advance_95 (by decide) ?_
    exact k_X9_advance_99 (x := x) X hr hT hk_x   S1 v3.toInt32 _ _ _ hH hS hl hm
def f_X9_advance (x : Nat) (S : m_M)  : Option m_M :=
    if ((m_ri S (x + 2) 8) + (1 : Int32)) < (m_ri S (x + 2) 7) then (
    m_let (m_si S (x + 2) 8 ((m_ri S (x + 2) 8) + (1 : Int32))) fun S2 =>
    (m_ldi S2 (x + 4) 901 (m_ri S2 (x + 2) 8)).bind fun v3 =>
    m_let (m_si S2 (x + 2) 9 v3) fun S4 =>
    (m_ldi S4 (x + 5) 901 (m_ri S4 (x + 2) 8)).bind fun v5 =>
    m_let (m_si S4 (x + 2) 10 v5) fun S6 =>
    if (m_ri S6 (x + 2) 9) = (3 : Int32) then (
    (m_ldj S6 (x + 6) 901 (m_ri S6 (x + 2) 8)).bind fun v8 =>
    b_X9_advance_73 x S6 v8.toInt32) else (
    b_X9_advance_73 x S6 (-1 : Int32))) else (
    some S)
set_option maxHeartbeats 4000000 in
set_option maxRecDepth 100000 in
theorem c_X9_advance {l : Launch} {G : m_G} {nx : Nat} {κ : Nat → Nat} {x : Nat} {S : m_M}  {res : m_M} (hT : m_Str κ) (hk_x : κ x = 12) (hm : f_X9_advance x S = some res) : m_Cv l yX9_advance cX9_advance 1 rm_X9_advance G nx κ [.ref (x + 2)] S res := by
  refine m_Cv.of (by decide) (Nat.le_of_ble_eq_true rfl) ?_
  intro p e s m args below meth c ls X hr hH hl
  have hx := X.1.1
  have hb := X.1.2.1
  have hS : m_S G s s.heap [] := va_S.rf
  have hl : lv_has ls 1 [(0, .ref (x + 2))] := hl
  rw [f_X9_advance] at hm
  refine lv_aload_n hx hb dX9_advance_0 rfl (lv_at hl 0 rfl) ?_
  refine r_geti X hH (k := 9) (a := (x + 2)) (j := 8) (m_lay_at hT hk_x (by decide) (i := 2) rfl) (by decide) rfl m_wi9 (by decide) in_1_102 rfl rfl dX9_advance_1 ?_
  refine lv_iconst (v := (1 : Int32)) hx hb dX9_advance_4 (by decide) ?_
  refine lv_iadd hx hb dX9_advance_5 ?_
  refine lv_aload_n hx hb dX9_advance_6 rfl (lv_at hl 0 rfl) ?_
  refine r_geti X hH (k := 9) (a := (x + 2)) (j := 7) (m_lay_at hT hk_x (by decide) (i := 2) rfl) (by decide) rfl m_wi9 (by decide) in_1_101 rfl rfl dX9_advance_7 ?_
  refine lv_icmp_lt (tgt := 14) hx hb dX9_advance_10 (by decide) (fun c1 => ?_) (fun c1 => ?_)
  · have hm := m_ite_t hm c1
    refine lv_aload_n hx hb dX9_advance_14 rfl (lv_at hl 0 rfl) ?_
    refine lv_dup hx hb dX9_advance_15 rfl ?_
    refine r_geti X hH (k := 9) (a := (x + 2)) (j := 8) (m_lay_at hT hk_x (by decide) (i := 2) rfl) (by decide) rfl m_wi9 (by decide) in_1_102 rfl rfl dX9_advance_16 ?_
    refine lv_iconst (v := (1 : Int32)) hx hb dX9_advance_19 (by decide) ?_
    refine lv_iadd hx hb dX9_advance_20 ?_
    obtain ⟨S2, e_S2, hm⟩ := m_let_of hm
    refine n_puti X hH hS tyX9 (k := 9) (a := (x + 2)) (j := 8) (m_lay_at hT hk_x (by decide) (i := 2) rfl) (by decide) rfl m_wi9 tyX9_ok nmX9 (by decide) in_1_102 rfl rfl rfl ⟨rfl, rfl⟩ e_S2 dX9_advance_21 (fun H locs hH hS => ?_)
    refine lv_aload_n hx hb dX9_advance_24 rfl (lv_at hl 0 rfl) ?_
    refine lv_aload_n hx hb dX9_advance_25 rfl (lv_at hl 0 rfl) ?_
    refine r_getp X hH (k := 9) (a := (x + 2)) (j := 2) (b := (x + 4)) (A := 2) (B := 0) (m_lay_at hT hk_x (by decide) (i := 2) rfl) (by decide) rfl m_wi9 (by decide) in_1_96 rfl rfl rfl dX9_advance_26 ?_
    refine lv_aload_n hx hb dX9_advance_29 rfl (lv_at hl 0 rfl) ?_
    refine r_geti X hH (k := 9) (a := (x + 2)) (j := 8) (m_lay_at hT hk_x (by decide) (i := 2) rfl) (by decide) rfl m_wi9 (by decide) in_1_102 rfl rfl dX9_advance_30 ?_
    obtain ⟨v3, h_v3, e_v3, hm⟩ := n_ldi hm
    refine n_iald X hH (n := 901) (m_lay_at hT hk_x (by decide) (i := 4) rfl) h_v3 e_v3 dX9_advance_33 ?_
    obtain ⟨S4, e_S4, hm⟩ := m_let_of hm
    refine n_puti X hH hS tyX9 (k := 9) (a := (x + 2)) (j := 9) (m_lay_at hT hk_x (by decide) (i := 2) rfl) (by decide) rfl m_wi9 tyX9_ok nmX9 (by decide) in_1_103 rfl rfl rfl ⟨rfl, rfl⟩ e_S4 dX9_advance_34 (fun H locs hH hS => ?_)
    refine lv_aload_n hx hb dX9_advance_37 rfl (lv_at hl 0 rfl) ?_
    refine lv_aload_n hx hb dX9_advance_38 rfl (lv_at hl 0 rfl) ?_
    refine r_getp X hH (k := 9) (a := (x + 2)) (j := 3) (b := (x + 5)) (A := 3) (B := 0) (m_lay_at hT hk_x (by decide) (i := 2) rfl) (by decide) rfl m_wi9 (by decide) in_1_97 rfl rfl rfl dX9_advance_39 ?_
    refine lv_aload_n hx hb dX9_advance_42 rfl (lv_at hl 0 rfl) ?_
    refine r_geti X hH (k := 9) (a := (x + 2)) (j := 8) (m_lay_at hT hk_x (by decide) (i := 2) rfl) (by decide) rfl m_wi9 (by decide) in_1_102 rfl rfl dX9_advance_43 ?_
    obtain ⟨v5, h_v5, e_v5, hm⟩ := n_ldi hm
    refine n_iald X hH (n := 901) (m_lay_at hT hk_x (by decide) (i := 5) rfl) h_v5 e_v5 dX9_advance_46 ?_
    obtain ⟨S6, e_S6, hm⟩ := m_let_of hm
    refine n_puti X hH hS tyX9 (k := 9) (a := (x + 2)) (j := 10) (m_lay_at hT hk_x (by decide) (i := 2) rfl) (by decide) rfl m_wi9 tyX9_ok nmX9 (by decide) in_1_106 rfl rfl rfl ⟨rfl, rfl⟩ e_S6 dX9_advance_47 (fun H locs hH hS => ?_)
    refine lv_aload_n hx hb dX9_advance_50 rfl (lv_at hl 0 rfl) ?_
    refine lv_aload_n hx hb dX9_advance_51 rfl (lv_at hl 0 rfl) ?_
    refine r_geti X hH (k := 9) (a := (x + 2)) (j := 9) (m_lay_at hT hk_x (by decide) (i := 2) rfl) (by decide) rfl m_wi9 (by decide) in_1_103 rfl rfl dX9_advance_52 ?_
    refine lv_iconst (v := (3 : Int32)) hx hb dX9_advance_55 (by decide) ?_
    refine lv_icmp_ne (tgt := 72) hx hb dX9_advance_56 (by decide) (fun c7 => ?_) (fun c7 => ?_)
    · have hm := m_ite_f hm c7
      refine lv_iconst (v := (-1 : Int32)) hx hb dX9_advance_72 (by decide) ?_
      exact k_X9_advance_73 (x := x) X hr hT hk_x   S6 (-1 : Int32) _ _ _ hH hS hl hm
    · have hm := m_ite_t hm c7
      refine lv_aload_n hx hb dX9_advance_59 rfl (lv_at hl 0 rfl) ?_
      refine r_getp X hH (k := 9) (a := (x + 2)) (j := 4) (b := (x + 6)) (A := 4) (B := 0) (m_lay_at hT hk_x (by decide) (i := 2) rfl) (by decide) rfl m_wi9 (by decide) in_1_98 rfl rfl rfl dX9_advance_60 ?_
      refine lv_aload_n hx hb dX9_advance_63 rfl (lv_at hl 0 rfl) ?_
      refine r_geti X hH (k := 9) (a := (x + 2)) (j := 8) (m_lay_at hT hk_x (by decide) (i := 2) rfl) (by decide) rfl m_wi9 (by decide) in_1_102 rfl rfl dX9_advance_64 ?_
      obtain ⟨v8, h_v8, e_v8, hm⟩ := n_ldj hm
      refine n_lald X hH (n := 901) (m_lay_at hT hk_x (by decide) (i := 6) rfl) h_v8 e_v8 dX9_advance_67 ?_
      refine lv_l2i hx hb dX9_advance_68 rfl ?_
      refine lv_goto (tgt := 73) hx hb dX9_advance_69 (by decide) ?_
      exact k_X9_advance_73 (x := x) X hr hT hk_x   S6 v8.toInt32 _ _ _ hH hS hl hm
  · have hm := m_ite_f hm c1
    exact r_vret X hr hH hS hm dX9_advance_13
def rm_X9_open : Room := { frames := 3, cells := 0, slots := 0, locals := 72 }
def b_X9_open_83 (x : Nat)  (S : m_M) (l3 : Int32) (t1 : Int32) : Option m_M :=
    m_cal0 (f_X9_put x S t1 l3 (-1 : Int64)) fun S1 =>
    m_let (m_si S1 (x + 2) 8 (-1 : Int32)) fun S2 =>
    m_cal0 (f_X9_advance x S2) fun S3 =>
    some S3
set_option maxHeartbeats 4000000 in
set_option maxRecDepth 100000 in
theorem k_X9_open_83 {p : Program} {l : Launch} {e : Env} {s : State} {m : MethodId} {args : Array Value} {below : List Frame} {meth : Method} {c : Code} {G : m_G} {nx : Nat} {κ : Nat → Nat} {res : m_M} {x : Nat} (X : m_Cx p s m args meth c cX9_open 5 RX9 G) (hr : meth.sig.returnType = none) (hT : m_Str κ) (hk_x : κ x = 12)  : ∀ (S : m_M) (l3 : Int32) (t1 : Int32) (H : Heap) (locs : List Loc) (ls : Array Slot), m_H G nx κ S H → m_S G s H locs → lv_has ls 5 [(0, .ref (x + 2)), (3, .int l3)] → b_X9_open_83 x S l3 t1 = some res → W p l e rm_X9_open s m args below meth c H locs 0 0 (m_Qv below args s G nx κ res) (F0 m 83 ls [.int t1, .ref (x + 2)]) := by
  have hx := X.1.1
  have hb := X.1.2.1
  intro S l3 t1 H locs ls hH hS hl hm
  rw [b_X9_open_83] at hm
  refine lv_iload_n hx hb dX9_open_83 rfl (lv_at hl 1 rfl) ?_
  refine lv_ldc2 hx hb X.1.2.2.2.1 (m_w X in_1_40) dX9_open_84 ?_
  obtain ⟨S1, e_S1, hm⟩ := m_cal0_of hm
  refine r_cVv X hH hS (k := 9) (c_X9_put (x := x) hT hk_x e_S1) mw_X9_put in_3_162 (m_lay_at hT hk_x (by decide) (i := 2) rfl) (by decide) rfl rfl rfl ⟨rfl, rfl⟩ ⟨by decide, by decide⟩ ⟨Nat.zero_le _, Nat.zero_le _⟩ hl.1 (Nat.le_of_ble_eq_true rfl) dX9_open_87 (fun H locs hH hS => ?_)
  refine lv_aload_n hx hb dX9_open_90 rfl (lv_at hl 0 rfl) ?_
  refine lv_iconst (v := (-1 : Int32)) hx hb dX9_open_91 (by decide) ?_
  obtain ⟨S2, e_S2, hm⟩ := m_let_of hm
  refine n_puti X hH hS tyX9 (k := 9) (a := (x + 2)) (j := 8) (m_lay_at hT hk_x (by decide) (i := 2) rfl) (by decide) rfl m_wi9 tyX9_ok nmX9 (by decide) in_1_102 rfl rfl rfl ⟨rfl, rfl⟩ e_S2 dX9_open_92 (fun H locs hH hS => ?_)
  refine lv_aload_n hx hb dX9_open_95 rfl (lv_at hl 0 rfl) ?_
  obtain ⟨S3, e_S3, hm⟩ := m_cal0_of hm
  refine r_cVv X hH hS (k := 9) (c_X9_advance (x := x) hT hk_x e_S3) mw_X9_advance in_3_166 (m_lay_at hT hk_x (by decide) (i := 2) rfl) (by decide) rfl rfl rfl ⟨rfl, rfl⟩ ⟨by decide, by decide⟩ ⟨Nat.zero_le _, Nat.zero_le _⟩ hl.1 (Nat.le_of_ble_eq_true rfl) dX9_open_96 (fun H locs hH hS => ?_)
  exact r_vret X hr hH hS hm dX9_open_99
def b_X9_open_69 (x : Nat)  (S : m_M) (l3 : Int32) : Option m_M :=
    if (m_ri S (x + 2) 5) ≤ l3 then (
    b_X9_open_83 x S l3 (0 : Int32)) else (
    b_X9_open_83 x S l3 (1 : Int32))
set_option maxHeartbeats 4000000 in
set_option maxRecDepth 100000 in
theorem k_X9_open_69 {p : Program} {l : Launch} {e : Env} {s : State} {m : MethodId} {args : Array Value} {below : List Frame} {meth : Method} {c : Code} {G : m_G} {nx : Nat} {κ : Nat → Nat} {res : m_M} {x : Nat} (X : m_Cx p s m args meth c cX9_open 5 RX9 G) (hr : meth.sig.returnType = none) (hT : m_Str κ) (hk_x : κ x = 12)  : ∀ (S : m_M) (l3 : Int32) (H : Heap) (locs : List Loc) (ls : Array Slot), m_H G nx κ S H → m_S G s H locs → lv_has ls 5 [(0, .ref (x + 2)), (3, .int l3)] → b_X9_open_69 x S l3 = some res → W p l e rm_X9_open s m args below meth c H locs 0 0 (m_Qv below args s G nx κ res) (F0 m 69 ls []) := by
  have hx := X.1.1
  have hb := X.1.2.1
  intro S l3 H locs ls hH hS hl hm
  rw [b_X9_open_69] at hm
  refine lv_aload_n hx hb dX9_open_69 rfl (lv_at hl 0 rfl) ?_
  refine lv_aload_n hx hb dX9_open_70 rfl (lv_at hl 0 rfl) ?_
  refine r_geti X hH (k := 9) (a := (x + 2)) (j := 5) (m_lay_at hT hk_x (by decide) (i := 2) rfl) (by decide) rfl m_wi9 (by decide) in_1_99 rfl rfl dX9_open_71 ?_
  refine lv_iload_n hx hb dX9_open_74 rfl (lv_at hl 1 rfl) ?_
  refine lv_icmp_le (tgt := 82) hx hb dX9_open_75 (by decide) (fun c1 => ?_) (fun c1 => ?_)
  · have hm := m_ite_t hm c1
    refine lv_iconst (v := (0 : Int32)) hx hb dX9_open_82 (by decide) ?_
    exact k_X9_open_83 (x := x) X hr hT hk_x   S l3 (0 : Int32) _ _ _ hH hS hl hm
  · have hm := m_ite_f hm c1
    refine lv_iconst (v := (1 : Int32)) hx hb dX9_open_78 (by decide) ?_
    refine lv_goto (tgt := 83) hx hb dX9_open_79 (by decide) ?_
    exact k_X9_open_83 (x := x) X hr hT hk_x   S l3 (1 : Int32) _ _ _ hH hS hl hm
def b_X9_open_45 (x : Nat)  : Nat → m_M → Int32 → Int32 → Option m_M
  | 0, _, _, _ => none
  | n + 1, S, l3, l4 =>
    if l3 ≤ l4 then (
    b_X9_open_69 x S l3) else (
    if l3 ≤ (m_ri S (x + 2) 6) then (
    b_X9_open_69 x S l3) else (
    m_cal0 (f_X9_readPiece x S) fun S3 =>
    m_let (l4 + (1 : Int32)) fun v4 =>
    b_X9_open_45 x n S3 l3 v4))
set_option maxHeartbeats 4000000 in
set_option maxRecDepth 100000 in
theorem k_X9_open_45 {p : Program} {l : Launch} {e : Env} {s : State} {m : MethodId} {args : Array Value} {below : List Frame} {meth : Method} {c : Code} {G : m_G} {nx : Nat} {κ : Nat → Nat} {res : m_M} {x : Nat} (X : m_Cx p s m args meth c cX9_open 5 RX9 G) (hr : meth.sig.returnType = none) (hT : m_Str κ) (hk_x : κ x = 12)  (n : Nat) : ∀ (S : m_M) (l3 : Int32) (l4 : Int32) (H : Heap) (locs : List Loc) (ls : Array Slot), m_H G nx κ S H → m_S G s H locs → lv_has ls 5 [(0, .ref (x + 2)), (3, .int l3), (4, .int l4)] → b_X9_open_45 x n S l3 l4 = some res → W p l e rm_X9_open s m args below meth c H locs 0 0 (m_Qv below args s G nx κ res) (F0 m 45 ls []) := by
  have hx := X.1.1
  have hb := X.1.2.1
  induction n with
  | zero => intro S l3 l4 H locs ls hH hS hl hm; have hm : (none : Option m_M) = some res := hm; cases hm
  | succ n ih =>
    intro S l3 l4 H locs ls hH hS hl hm
    rw [b_X9_open_45] at hm
    refine lv_iload hx hb dX9_open_45 (lv_at hl 2 rfl) ?_
    refine lv_iload_n hx hb dX9_open_47 rfl (lv_at hl 1 rfl) ?_
    refine lv_icmp_ge (tgt := 69) hx hb dX9_open_48 (by decide) (fun c1 => ?_) (fun c1 => ?_)
    · have hm := m_ite_t hm c1
      exact k_X9_open_69 (x := x) X hr hT hk_x   S l3 _ _ _ hH hS (lv_sub hl [0, 1] rfl) hm
    · have hm := m_ite_f hm c1
      refine lv_aload_n hx hb dX9_open_51 rfl (lv_at hl 0 rfl) ?_
      refine r_geti X hH (k := 9) (a := (x + 2)) (j := 6) (m_lay_at hT hk_x (by decide) (i := 2) rfl) (by decide) rfl m_wi9 (by decide) in_1_100 rfl rfl dX9_open_52 ?_
      refine lv_iload_n hx hb dX9_open_55 rfl (lv_at hl 1 rfl) ?_
      refine lv_icmp_ge (tgt := 69) hx hb dX9_open_56 (by decide) (fun c2 => ?_) (fun c2 => ?_)
      · have hm := m_ite_t hm c2
        exact k_X9_open_69 (x := x) X hr hT hk_x   S l3 _ _ _ hH hS (lv_sub hl [0, 1] rfl) hm
      · have hm := m_ite_f hm c2
        refine lv_aload_n hx hb dX9_open_59 rfl (lv_at hl 0 rfl) ?_
        obtain ⟨S3, e_S3, hm⟩ := m_cal0_of hm
        refine r_cVv X hH hS (k := 9) (c_X9_readPiece (x := x) hT hk_x e_S3) mw_X9_readPiece in_3_144 (m_lay_at hT hk_x (by decide) (i := 2) rfl) (by decide) rfl rfl rfl ⟨rfl, rfl⟩ ⟨by decide, by decide⟩ ⟨Nat.zero_le _, Nat.zero_le _⟩ hl.1 (Nat.le_of_ble_eq_true rfl) dX9_open_60 (fun H locs hH hS => ?_)
        obtain ⟨v4, e_v4, hm⟩ := m_let_of hm
        refine lv_iinc (v := v4) (lv' := [(4, .int v4), (0, .ref (x + 2)), (3, .int l3)]) hx hb dX9_open_63 hl (k := 2) rfl (by rw [← e_v4]; rfl) (by decide) rfl (fun ls hl => ?_)
        refine lv_goto (tgt := 45) hx hb dX9_open_66 (by decide) ?_
        exact ih S3 l3 v4 _ _ _ hH hS (lv_sub hl [1, 2, 0] rfl) hm
def f_X9_open (x : Nat) (S : m_M) (i1 : Int32) (i2 : Int32) : Option m_M :=
    m_let (m_si S (x + 2) 5 (if (940 : Int32) < i1 then (940 : Int32) else i1)) fun S1 =>
    m_let (if i2 < (m_ri S1 (x + 2) 5) then i2 else (m_ri S1 (x + 2) 5)) fun v2 =>
    m_let (m_si S1 (x + 2) 15 (0 : Int32)) fun S3 =>
    m_let (m_si S3 (x + 2) 16 (0 : Int32)) fun S4 =>
    m_let (m_si S4 (x + 2) 7 (0 : Int32)) fun S5 =>
    m_let (m_si S5 (x + 2) 6 (0 : Int32)) fun S6 =>
    b_X9_open_45 x m_fu S6 v2 (0 : Int32)
set_option maxHeartbeats 4000000 in
set_option maxRecDepth 100000 in
theorem c_X9_open {l : Launch} {G : m_G} {nx : Nat} {κ : Nat → Nat} {x : Nat} {S : m_M} {i1 : Int32} {i2 : Int32} {res : m_M} (hT : m_Str κ) (hk_x : κ x = 12) (hm : f_X9_open x S i1 i2 = some res) : m_Cv l yX9_open cX9_open 5 rm_X9_open G nx κ [.ref (x + 2), .int i1, .int i2] S res := by
  refine m_Cv.of (by decide) (Nat.le_of_ble_eq_true rfl) ?_
  intro p e s m args below meth c ls X hr hH hl
  have hx := X.1.1
  have hb := X.1.2.1
  have hS : m_S G s s.heap [] := va_S.rf
  have hl : lv_has ls 5 [(0, .ref (x + 2)), (1, .int i1), (2, .int i2)] := hl
  rw [f_X9_open] at hm
  refine lv_aload_n hx hb dX9_open_0 rfl (lv_at hl 0 rfl) ?_
  refine lv_iload_n hx hb dX9_open_1 rfl (lv_at hl 1 rfl) ?_
  refine lv_aload_n hx hb dX9_open_2 rfl (lv_at hl 0 rfl) ?_
  refine r_getp X hH (k := 9) (a := (x + 2)) (j := 0) (b := (x + 1)) (A := 0) (B := 1) (m_lay_at hT hk_x (by decide) (i := 2) rfl) (by decide) rfl m_wi9 (by decide) in_1_94 rfl rfl rfl dX9_open_3 ?_
  refine r_alen X hH (t := 0) (n := 940) (v := (940 : Int32)) (m_lay_at hT hk_x (by decide) (i := 1) rfl) (by decide) rfl dX9_open_6 ?_
  refine va_mmin hx hb (X.1.2.2.1.trans hl.1.symm) X.1.2.2.2.1 (m_w X in_3_141) (m_w X in_3_142) (m_w X in_1_19) (m_w X in_3_143) (Nat.le_of_ble_eq_true rfl) (Nat.le_of_ble_eq_true rfl) (Nat.zero_le _) (Nat.zero_le _) dX9_open_7 ?_
  obtain ⟨S1, e_S1, hm⟩ := m_let_of hm
  refine n_puti X hH hS tyX9 (k := 9) (a := (x + 2)) (j := 5) (m_lay_at hT hk_x (by decide) (i := 2) rfl) (by decide) rfl m_wi9 tyX9_ok nmX9 (by decide) in_1_99 rfl rfl rfl ⟨rfl, rfl⟩ e_S1 dX9_open_10 (fun H locs hH hS => ?_)
  refine lv_aload_n hx hb dX9_open_13 rfl (lv_at hl 0 rfl) ?_
  refine r_geti X hH (k := 9) (a := (x + 2)) (j := 5) (m_lay_at hT hk_x (by decide) (i := 2) rfl) (by decide) rfl m_wi9 (by decide) in_1_99 rfl rfl dX9_open_14 ?_
  refine lv_iload_n hx hb dX9_open_17 rfl (lv_at hl 2 rfl) ?_
  refine va_mmin hx hb (X.1.2.2.1.trans hl.1.symm) X.1.2.2.2.1 (m_w X in_3_141) (m_w X in_3_142) (m_w X in_1_19) (m_w X in_3_143) (Nat.le_of_ble_eq_true rfl) (Nat.le_of_ble_eq_true rfl) (Nat.zero_le _) (Nat.zero_le _) dX9_open_18 ?_
  obtain ⟨v2, e_v2, hm⟩ := m_let_of hm
  refine n_topi e_v2 ?_
  refine lv_istore_n (lv' := [(3, .int v2), (0, .ref (x + 2)), (1, .int i1), (2, .int i2)]) hx hb dX9_open_21 rfl hl (by decide) rfl (fun ls hl => ?_)
  refine lv_aload_n hx hb dX9_open_22 rfl (lv_at hl 1 rfl) ?_
  refine lv_iconst (v := (0 : Int32)) hx hb dX9_open_23 (by decide) ?_
  obtain ⟨S3, e_S3, hm⟩ := m_let_of hm
  refine n_puti X hH hS tyX9 (k := 9) (a := (x + 2)) (j := 15) (m_lay_at hT hk_x (by decide) (i := 2) rfl) (by decide) rfl m_wi9 tyX9_ok nmX9 (by decide) in_1_118 rfl rfl rfl ⟨rfl, rfl⟩ e_S3 dX9_open_24 (fun H locs hH hS => ?_)
  refine lv_aload_n hx hb dX9_open_27 rfl (lv_at hl 1 rfl) ?_
  refine lv_iconst (v := (0 : Int32)) hx hb dX9_open_28 (by decide) ?_
  obtain ⟨S4, e_S4, hm⟩ := m_let_of hm
  refine n_puti X hH hS tyX9 (k := 9) (a := (x + 2)) (j := 16) (m_lay_at hT hk_x (by decide) (i := 2) rfl) (by decide) rfl m_wi9 tyX9_ok nmX9 (by decide) in_1_120 rfl rfl rfl ⟨rfl, rfl⟩ e_S4 dX9_open_29 (fun H locs hH hS => ?_)
  refine lv_aload_n hx hb dX9_open_32 rfl (lv_at hl 1 rfl) ?_
  refine lv_iconst (v := (0 : Int32)) hx hb dX9_open_33 (by decide) ?_
  obtain ⟨S5, e_S5, hm⟩ := m_let_of hm
  refine n_puti X hH hS tyX9 (k := 9) (a := (x + 2)) (j := 7) (m_lay_at hT hk_x (by decide) (i := 2) rfl) (by decide) rfl m_wi9 tyX9_ok nmX9 (by decide) in_1_101 rfl rfl rfl ⟨rfl, rfl⟩ e_S5 dX9_open_34 (fun H locs hH hS => ?_)
  refine lv_aload_n hx hb dX9_open_37 rfl (lv_at hl 1 rfl) ?_
  refine lv_iconst (v := (0 : Int32)) hx hb dX9_open_38 (by decide) ?_
  obtain ⟨S6, e_S6, hm⟩ := m_let_of hm
  refine n_puti X hH hS tyX9 (k := 9) (a := (x + 2)) (j := 6) (m_lay_at hT hk_x (by decide) (i := 2) rfl) (by decide) rfl m_wi9 tyX9_ok nmX9 (by decide) in_1_100 rfl rfl rfl ⟨rfl, rfl⟩ e_S6 dX9_open_39 (fun H locs hH hS => ?_)
  refine lv_iconst (v := (0 : Int32)) hx hb dX9_open_42 (by decide) ?_
  refine lv_istore (lv' := [(4, .int (0 : Int32)), (3, .int v2), (0, .ref (x + 2)), (1, .int i1), (2, .int i2)]) hx hb dX9_open_43 hl (by decide) rfl (fun ls hl => ?_)
  exact k_X9_open_45 (x := x) X hr hT hk_x  m_fu S6 v2 (0 : Int32) _ _ _ hH hS (lv_sub hl [2, 1, 0] rfl) hm
def rm_X4_latestFunIsBare : Room := { frames := 0, cells := 0, slots := 0, locals := 0 }
def b_X4_latestFunIsBare_35 (x : Nat)  (S : m_M) (t0 : Int32) : Option (Int32 × m_M) :=
    if t0 = 0 ∨ t0 = 1 then some (t0, S) else none
set_option maxHeartbeats 4000000 in
set_option maxRecDepth 100000 in
theorem k_X4_latestFunIsBare_35 {p : Program} {l : Launch} {e : Env} {s : State} {m : MethodId} {args : Array Value} {below : List Frame} {meth : Method} {c : Code} {G : m_G} {nx : Nat} {κ : Nat → Nat} {res : (Int32 × m_M)} {x : Nat} (X : m_Cx p s m args meth c cX4_latestFunIsBare 1 RX4 G) (hr : meth.sig.returnType = (some .boolean)) (hT : m_Str κ) (hk_x : κ x = 12)  : ∀ (S : m_M) (t0 : Int32) (H : Heap) (locs : List Loc) (ls : Array Slot), m_H G nx κ S H → m_S G s H locs → lv_has ls 1 [] → b_X4_latestFunIsBare_35 x S t0 = some res → W p l e rm_X4_latestFunIsBare s m args below meth c H locs 0 0 (m_Qi below args s G nx κ res) (F0 m 35 ls [.int t0]) := by
  have hx := X.1.1
  have hb := X.1.2.1
  intro S t0 H locs ls hH hS hl hm
  rw [b_X4_latestFunIsBare_35] at hm
  exact r_zret X hr hH hS hm dX4_latestFunIsBare_35
def b_X4_latestFunIsBare_34 (x : Nat)  (S : m_M)  : Option (Int32 × m_M) :=
    b_X4_latestFunIsBare_35 x S (0 : Int32)
set_option maxHeartbeats 4000000 in
set_option maxRecDepth 100000 in
theorem k_X4_latestFunIsBare_34 {p : Program} {l : Launch} {e : Env} {s : State} {m : MethodId} {args : Array Value} {below : List Frame} {meth : Method} {c : Code} {G : m_G} {nx : Nat} {κ : Nat → Nat} {res : (Int32 × m_M)} {x : Nat} (X : m_Cx p s m args meth c cX4_latestFunIsBare 1 RX4 G) (hr : meth.sig.returnType = (some .boolean)) (hT : m_Str κ) (hk_x : κ x = 12)  : ∀ (S : m_M)  (H : Heap) (locs : List Loc) (ls : Array Slot), m_H G nx κ S H → m_S G s H locs → lv_has ls 1 [] → b_X4_latestFunIsBare_34 x S  = some res → W p l e rm_X4_latestFunIsBare s m args below meth c H locs 0 0 (m_Qi below args s G nx κ res) (F0 m 34 ls []) := by
  have hx := X.1.1
  have hb := X.1.2.1
  intro S H locs ls hH hS hl hm
  rw [b_X4_latestFunIsBare_34] at hm
  refine lv_iconst (v := (0 : Int32)) hx hb dX4_latestFunIsBare_34 (by decide) ?_
  exact k_X4_latestFunIsBare_35 (x := x) X hr hT hk_x   S (0 : Int32) _ _ _ hH hS hl hm
def f_X4_latestFunIsBare (x : Nat) (S : m_M)  : Option (Int32 × m_M) :=
    if (m_ri S (x + 8) 0) ≤ 0 then (
    b_X4_latestFunIsBare_34 x S) else (
    (m_ldi S (x + 12) 5 ((m_ri S (x + 8) 0) - (1 : Int32))).bind fun v2 =>
    if v2 = 0 then (
    b_X4_latestFunIsBare_35 x S (1 : Int32)) else (
    b_X4_latestFunIsBare_34 x S))
set_option maxHeartbeats 4000000 in
set_option maxRecDepth 100000 in
theorem c_X4_latestFunIsBare {l : Launch} {G : m_G} {nx : Nat} {κ : Nat → Nat} {x : Nat} {S : m_M}  {res : (Int32 × m_M)} (hT : m_Str κ) (hk_x : κ x = 12) (hm : f_X4_latestFunIsBare x S = some res) : m_Ci l yX4_latestFunIsBare cX4_latestFunIsBare 1 (some .boolean) rm_X4_latestFunIsBare G nx κ [.ref (x + 7)] S res := by
  refine m_Ci.of (by decide) (Nat.le_of_ble_eq_true rfl) ?_
  intro p e s m args below meth c ls X hr hH hl
  have hx := X.1.1
  have hb := X.1.2.1
  have hS : m_S G s s.heap [] := va_S.rf
  have hl : lv_has ls 1 [(0, .ref (x + 7))] := hl
  rw [f_X4_latestFunIsBare] at hm
  refine lv_aload_n hx hb dX4_latestFunIsBare_0 rfl (lv_at hl 0 rfl) ?_
  refine r_getp X hH (k := 4) (a := (x + 7)) (j := 0) (b := (x + 8)) (A := 1) (B := 0) (m_lay_at hT hk_x (by decide) (i := 7) rfl) (by decide) rfl m_wi4 (by decide) in_2_69 rfl rfl rfl dX4_latestFunIsBare_1 ?_
  refine r_geti X hH (k := 3) (a := (x + 8)) (j := 0) (m_lay_at hT hk_x (by decide) (i := 8) rfl) (by decide) rfl m_wi3 (by decide) in_2_7 rfl rfl dX4_latestFunIsBare_4 ?_
  refine lv_if_le (tgt := 34) hx hb dX4_latestFunIsBare_7 (by decide) (fun c1 => ?_) (fun c1 => ?_)
  · have hm := m_ite_t hm c1
    exact k_X4_latestFunIsBare_34 (x := x) X hr hT hk_x   S _ _ _ hH hS (lv_sub hl [] rfl) hm
  · have hm := m_ite_f hm c1
    refine lv_aload_n hx hb dX4_latestFunIsBare_10 rfl (lv_at hl 0 rfl) ?_
    refine r_getp X hH (k := 4) (a := (x + 7)) (j := 0) (b := (x + 8)) (A := 1) (B := 0) (m_lay_at hT hk_x (by decide) (i := 7) rfl) (by decide) rfl m_wi4 (by decide) in_2_69 rfl rfl rfl dX4_latestFunIsBare_11 ?_
    refine r_getp X hH (k := 3) (a := (x + 8)) (j := 5) (b := (x + 12)) (A := 4) (B := 0) (m_lay_at hT hk_x (by decide) (i := 8) rfl) (by decide) rfl m_wi3 (by decide) in_2_28 rfl rfl rfl dX4_latestFunIsBare_14 ?_
    refine lv_aload_n hx hb dX4_latestFunIsBare_17 rfl (lv_at hl 0 rfl) ?_
    refine r_getp X hH (k := 4) (a := (x + 7)) (j := 0) (b := (x + 8)) (A := 1) (B := 0) (m_lay_at hT hk_x (by decide) (i := 7) rfl) (by decide) rfl m_wi4 (by decide) in_2_69 rfl rfl rfl dX4_latestFunIsBare_18 ?_
    refine r_geti X hH (k := 3) (a := (x + 8)) (j := 0) (m_lay_at hT hk_x (by decide) (i := 8) rfl) (by decide) rfl m_wi3 (by decide) in_2_7 rfl rfl dX4_latestFunIsBare_21 ?_
    refine lv_iconst (v := (1 : Int32)) hx hb dX4_latestFunIsBare_24 (by decide) ?_
    refine lv_isub hx hb dX4_latestFunIsBare_25 ?_
    obtain ⟨v2, h_v2, e_v2, hm⟩ := n_ldi hm
    refine n_iald X hH (n := 5) (m_lay_at hT hk_x (by decide) (i := 12) rfl) h_v2 e_v2 dX4_latestFunIsBare_26 ?_
    refine lv_if_ne (tgt := 34) hx hb dX4_latestFunIsBare_27 (by decide) (fun c3 => ?_) (fun c3 => ?_)
    · have hm := m_ite_f hm c3
      exact k_X4_latestFunIsBare_34 (x := x) X hr hT hk_x   S _ _ _ hH hS (lv_sub hl [] rfl) hm
    · have hm := m_ite_t hm c3
      refine lv_iconst (v := (1 : Int32)) hx hb dX4_latestFunIsBare_30 (by decide) ?_
      refine lv_goto (tgt := 35) hx hb dX4_latestFunIsBare_31 (by decide) ?_
      exact k_X4_latestFunIsBare_35 (x := x) X hr hT hk_x   S (1 : Int32) _ _ _ hH hS (lv_sub hl [] rfl) hm
def rm_X9_failsBy : Room := { frames := 0, cells := 0, slots := 0, locals := 0 }
def f_X9_failsBy (x : Nat) (S : m_M) (i1 : Int32) : Option (Int32 × m_M) :=
    m_let (m_si S (x + 2) 15 i1) fun S1 =>
    m_let (m_si S1 (x + 2) 16 (m_ri S1 (x + 2) 10)) fun S2 =>
    if (0 : Int32) = 0 ∨ (0 : Int32) = 1 then some ((0 : Int32), S2) else none
set_option maxHeartbeats 4000000 in
set_option maxRecDepth 100000 in
theorem c_X9_failsBy {l : Launch} {G : m_G} {nx : Nat} {κ : Nat → Nat} {x : Nat} {S : m_M} {i1 : Int32} {res : (Int32 × m_M)} (hT : m_Str κ) (hk_x : κ x = 12) (hm : f_X9_failsBy x S i1 = some res) : m_Ci l yX9_failsBy cX9_failsBy 2 (some .boolean) rm_X9_failsBy G nx κ [.ref (x + 2), .int i1] S res := by
  refine m_Ci.of (by decide) (Nat.le_of_ble_eq_true rfl) ?_
  intro p e s m args below meth c ls X hr hH hl
  have hx := X.1.1
  have hb := X.1.2.1
  have hS : m_S G s s.heap [] := va_S.rf
  have hl : lv_has ls 2 [(0, .ref (x + 2)), (1, .int i1)] := hl
  rw [f_X9_failsBy] at hm
  refine lv_aload_n hx hb dX9_failsBy_0 rfl (lv_at hl 0 rfl) ?_
  refine lv_iload_n hx hb dX9_failsBy_1 rfl (lv_at hl 1 rfl) ?_
  obtain ⟨S1, e_S1, hm⟩ := m_let_of hm
  refine n_puti X hH hS tyX9 (k := 9) (a := (x + 2)) (j := 15) (m_lay_at hT hk_x (by decide) (i := 2) rfl) (by decide) rfl m_wi9 tyX9_ok nmX9 (by decide) in_1_118 rfl rfl rfl ⟨rfl, rfl⟩ e_S1 dX9_failsBy_2 (fun H locs hH hS => ?_)
  refine lv_aload_n hx hb dX9_failsBy_5 rfl (lv_at hl 0 rfl) ?_
  refine lv_aload_n hx hb dX9_failsBy_6 rfl (lv_at hl 0 rfl) ?_
  refine r_geti X hH (k := 9) (a := (x + 2)) (j := 10) (m_lay_at hT hk_x (by decide) (i := 2) rfl) (by decide) rfl m_wi9 (by decide) in_1_106 rfl rfl dX9_failsBy_7 ?_
  obtain ⟨S2, e_S2, hm⟩ := m_let_of hm
  refine n_puti X hH hS tyX9 (k := 9) (a := (x + 2)) (j := 16) (m_lay_at hT hk_x (by decide) (i := 2) rfl) (by decide) rfl m_wi9 tyX9_ok nmX9 (by decide) in_1_120 rfl rfl rfl ⟨rfl, rfl⟩ e_S2 dX9_failsBy_10 (fun H locs hH hS => ?_)
  refine lv_iconst (v := (0 : Int32)) hx hb dX9_failsBy_13 (by decide) ?_
  exact r_zret X hr hH hS hm dX9_failsBy_14
def rm_X4_varOf : Room := { frames := 0, cells := 0, slots := 0, locals := 0 }
def b_X4_varOf_2 (x : Nat)  : Nat → m_M → Int64 → Int32 → Option (Int32 × m_M)
  | 0, _, _, _ => none
  | n + 1, S, l1, l3 =>
    if (m_ri S (x + 7) 3) ≤ l3 then (
    some ((-1 : Int32), S)) else (
    (m_ldj S (x + 30) 27 l3).bind fun v2 =>
    if (lg_cmp v2 l1) = 0 then (
    some (l3, S)) else (
    m_let (l3 + (1 : Int32)) fun v4 =>
    b_X4_varOf_2 x n S l1 v4))
set_option maxHeartbeats 4000000 in
set_option maxRecDepth 100000 in
theorem k_X4_varOf_2 {p : Program} {l : Launch} {e : Env} {s : State} {m : MethodId} {args : Array Value} {below : List Frame} {meth : Method} {c : Code} {G : m_G} {nx : Nat} {κ : Nat → Nat} {res : (Int32 × m_M)} {x : Nat} (X : m_Cx p s m args meth c cX4_varOf 4 RX4 G) (hr : meth.sig.returnType = (some .int)) (hT : m_Str κ) (hk_x : κ x = 12)  (n : Nat) : ∀ (S : m_M) (l1 : Int64) (l3 : Int32) (H : Heap) (locs : List Loc) (ls : Array Slot), m_H G nx κ S H → m_S G s H locs → lv_has ls 4 [(0, .ref (x + 7)), (1, .long l1), (3, .int l3)] → b_X4_varOf_2 x n S l1 l3 = some res → W p l e rm_X4_varOf s m args below meth c H locs 0 0 (m_Qi below args s G nx κ res) (F0 m 2 ls []) := by
  have hx := X.1.1
  have hb := X.1.2.1
  induction n with
  | zero => intro S l1 l3 H locs ls hH hS hl hm; have hm : (none : Option (Int32 × m_M)) = some res := hm; cases hm
  | succ n ih =>
    intro S l1 l3 H locs ls hH hS hl hm
    rw [b_X4_varOf_2] at hm
    refine lv_iload_n hx hb dX4_varOf_2 rfl (lv_at hl 2 rfl) ?_
    refine lv_aload_n hx hb dX4_varOf_3 rfl (lv_at hl 0 rfl) ?_
    refine r_geti X hH (k := 4) (a := (x + 7)) (j := 3) (m_lay_at hT hk_x (by decide) (i := 7) rfl) (by decide) rfl m_wi4 (by decide) in_2_73 rfl rfl dX4_varOf_4 ?_
    refine lv_icmp_ge (tgt := 29) hx hb dX4_varOf_7 (by decide) (fun c1 => ?_) (fun c1 => ?_)
    · have hm := m_ite_t hm c1
      refine lv_iconst (v := (-1 : Int32)) hx hb dX4_varOf_29 (by decide) ?_
      exact r_iret X hr hH hS hm dX4_varOf_30
    · have hm := m_ite_f hm c1
      refine lv_aload_n hx hb dX4_varOf_10 rfl (lv_at hl 0 rfl) ?_
      refine r_getp X hH (k := 4) (a := (x + 7)) (j := 2) (b := (x + 30)) (A := 23) (B := 0) (m_lay_at hT hk_x (by decide) (i := 7) rfl) (by decide) rfl m_wi4 (by decide) in_2_72 rfl rfl rfl dX4_varOf_11 ?_
      refine lv_iload_n hx hb dX4_varOf_14 rfl (lv_at hl 2 rfl) ?_
      obtain ⟨v2, h_v2, e_v2, hm⟩ := n_ldj hm
      refine n_lald X hH (n := 27) (m_lay_at hT hk_x (by decide) (i := 30) rfl) h_v2 e_v2 dX4_varOf_15 ?_
      refine lv_lload_n hx hb dX4_varOf_16 rfl (lv_at hl 1 rfl) ?_
      refine W.lcmp hx hb dX4_varOf_17 ?_
      refine lv_if_ne (tgt := 23) hx hb dX4_varOf_18 (by decide) (fun c3 => ?_) (fun c3 => ?_)
      · have hm := m_ite_f hm c3
        obtain ⟨v4, e_v4, hm⟩ := m_let_of hm
        refine lv_iinc (v := v4) (lv' := [(3, .int v4), (0, .ref (x + 7)), (1, .long l1)]) hx hb dX4_varOf_23 hl (k := 2) rfl (by rw [← e_v4]; rfl) (by decide) rfl (fun ls hl => ?_)
        refine lv_goto (tgt := 2) hx hb dX4_varOf_26 (by decide) ?_
        exact ih S l1 v4 _ _ _ hH hS (lv_sub hl [1, 2, 0] rfl) hm
      · have hm := m_ite_t hm c3
        refine lv_iload_n hx hb dX4_varOf_21 rfl (lv_at hl 2 rfl) ?_
        exact r_iret X hr hH hS hm dX4_varOf_22
def f_X4_varOf (x : Nat) (S : m_M) (j1 : Int64) : Option (Int32 × m_M) :=
    b_X4_varOf_2 x m_fu S j1 (0 : Int32)
set_option maxHeartbeats 4000000 in
set_option maxRecDepth 100000 in
theorem c_X4_varOf {l : Launch} {G : m_G} {nx : Nat} {κ : Nat → Nat} {x : Nat} {S : m_M} {j1 : Int64} {res : (Int32 × m_M)} (hT : m_Str κ) (hk_x : κ x = 12) (hm : f_X4_varOf x S j1 = some res) : m_Ci l yX4_varOf cX4_varOf 4 (some .int) rm_X4_varOf G nx κ [.ref (x + 7), .long j1] S res := by
  refine m_Ci.of (by decide) (Nat.le_of_ble_eq_true rfl) ?_
  intro p e s m args below meth c ls X hr hH hl
  have hx := X.1.1
  have hb := X.1.2.1
  have hS : m_S G s s.heap [] := va_S.rf
  have hl : lv_has ls 4 [(0, .ref (x + 7)), (1, .long j1)] := hl
  rw [f_X4_varOf] at hm
  refine lv_iconst (v := (0 : Int32)) hx hb dX4_varOf_0 (by decide) ?_
  refine lv_istore_n (lv' := [(3, .int (0 : Int32)), (0, .ref (x + 7)), (1, .long j1)]) hx hb dX4_varOf_1 rfl hl (by decide) rfl (fun ls hl => ?_)
  exact k_X4_varOf_2 (x := x) X hr hT hk_x  m_fu S j1 (0 : Int32) _ _ _ hH hS (lv_sub hl [1, 2, 0] rfl) hm
def rm_X4_addVar : Room := { frames := 0, cells := 0, slots := 0, locals := 0 }
def b_X4_addVar_29 (x : Nat)  (S : m_M)  : Option m_M :=
    some S
set_option maxHeartbeats 4000000 in
set_option maxRecDepth 100000 in
theorem k_X4_addVar_29 {p : Program} {l : Launch} {e : Env} {s : State} {m : MethodId} {args : Array Value} {below : List Frame} {meth : Method} {c : Code} {G : m_G} {nx : Nat} {κ : Nat → Nat} {res : m_M} {x : Nat} (X : m_Cx p s m args meth c cX4_addVar 3 RX4 G) (hr : meth.sig.returnType = none) (hT : m_Str κ) (hk_x : κ x = 12)  : ∀ (S : m_M)  (H : Heap) (locs : List Loc) (ls : Array Slot), m_H G nx κ S H → m_S G s H locs → lv_has ls 3 [] → b_X4_addVar_29 x S  = some res → W p l e rm_X4_addVar s m args below meth c H locs 0 0 (m_Qv below args s G nx κ res) (F0 m 29 ls []) := by
  have hx := X.1.1
  have hb := X.1.2.1
  intro S H locs ls hH hS hl hm
  rw [b_X4_addVar_29] at hm
  exact r_vret X hr hH hS hm dX4_addVar_29
def f_X4_addVar (x : Nat) (S : m_M) (j1 : Int64) : Option m_M :=
    if (27 : Int32) ≤ (m_ri S (x + 7) 3) then (
    b_X4_addVar_29 x S) else (
    (m_stj S (x + 30) 27 (m_ri S (x + 7) 3) j1).bind fun S2 =>
    m_let (m_si S2 (x + 7) 3 ((m_ri S2 (x + 7) 3) + (1 : Int32))) fun S3 =>
    b_X4_addVar_29 x S3)
set_option maxHeartbeats 4000000 in
set_option maxRecDepth 100000 in
theorem c_X4_addVar {l : Launch} {G : m_G} {nx : Nat} {κ : Nat → Nat} {x : Nat} {S : m_M} {j1 : Int64} {res : m_M} (hT : m_Str κ) (hk_x : κ x = 12) (hm : f_X4_addVar x S j1 = some res) : m_Cv l yX4_addVar cX4_addVar 3 rm_X4_addVar G nx κ [.ref (x + 7), .long j1] S res := by
  refine m_Cv.of (by decide) (Nat.le_of_ble_eq_true rfl) ?_
  intro p e s m args below meth c ls X hr hH hl
  have hx := X.1.1
  have hb := X.1.2.1
  have hS : m_S G s s.heap [] := va_S.rf
  have hl : lv_has ls 3 [(0, .ref (x + 7)), (1, .long j1)] := hl
  rw [f_X4_addVar] at hm
  refine lv_aload_n hx hb dX4_addVar_0 rfl (lv_at hl 0 rfl) ?_
  refine r_geti X hH (k := 4) (a := (x + 7)) (j := 3) (m_lay_at hT hk_x (by decide) (i := 7) rfl) (by decide) rfl m_wi4 (by decide) in_2_73 rfl rfl dX4_addVar_1 ?_
  refine lv_bipush (v := (27 : Int32)) hx hb dX4_addVar_4 (by decide) ?_
  refine lv_icmp_ge (tgt := 29) hx hb dX4_addVar_6 (by decide) (fun c1 => ?_) (fun c1 => ?_)
  · have hm := m_ite_t hm c1
    exact k_X4_addVar_29 (x := x) X hr hT hk_x   S _ _ _ hH hS (lv_sub hl [] rfl) hm
  · have hm := m_ite_f hm c1
    refine lv_aload_n hx hb dX4_addVar_9 rfl (lv_at hl 0 rfl) ?_
    refine r_getp X hH (k := 4) (a := (x + 7)) (j := 2) (b := (x + 30)) (A := 23) (B := 0) (m_lay_at hT hk_x (by decide) (i := 7) rfl) (by decide) rfl m_wi4 (by decide) in_2_72 rfl rfl rfl dX4_addVar_10 ?_
    refine lv_aload_n hx hb dX4_addVar_13 rfl (lv_at hl 0 rfl) ?_
    refine r_geti X hH (k := 4) (a := (x + 7)) (j := 3) (m_lay_at hT hk_x (by decide) (i := 7) rfl) (by decide) rfl m_wi4 (by decide) in_2_73 rfl rfl dX4_addVar_14 ?_
    refine lv_lload_n hx hb dX4_addVar_17 rfl (lv_at hl 1 rfl) ?_
    obtain ⟨S2, h_S2, e_S2, hm⟩ := n_stj hm
    refine n_last X hH hS (n := 27) (m_lay_at hT hk_x (by decide) (i := 30) rfl) h_S2 e_S2 dX4_addVar_18 (fun H locs hH hS => ?_)
    refine lv_aload_n hx hb dX4_addVar_19 rfl (lv_at hl 0 rfl) ?_
    refine lv_dup hx hb dX4_addVar_20 rfl ?_
    refine r_geti X hH (k := 4) (a := (x + 7)) (j := 3) (m_lay_at hT hk_x (by decide) (i := 7) rfl) (by decide) rfl m_wi4 (by decide) in_2_73 rfl rfl dX4_addVar_21 ?_
    refine lv_iconst (v := (1 : Int32)) hx hb dX4_addVar_24 (by decide) ?_
    refine lv_iadd hx hb dX4_addVar_25 ?_
    obtain ⟨S3, e_S3, hm⟩ := m_let_of hm
    refine n_puti X hH hS tyX4 (k := 4) (a := (x + 7)) (j := 3) (m_lay_at hT hk_x (by decide) (i := 7) rfl) (by decide) rfl m_wi4 tyX4_ok nmX4 (by decide) in_2_73 rfl rfl rfl ⟨rfl, rfl⟩ e_S3 dX4_addVar_26 (fun H locs hH hS => ?_)
    exact k_X4_addVar_29 (x := x) X hr hT hk_x   S3 _ _ _ hH hS (lv_sub hl [] rfl) hm
def rm_X4_readsParameters : Room := { frames := 1, cells := 0, slots := 0, locals := 23 }
def b_X4_readsParameters_101 (x : Nat)  (S : m_M)  : Option (Int32 × m_M) :=
    if (1 : Int32) = 0 ∨ (1 : Int32) = 1 then some ((1 : Int32), S) else none
set_option maxHeartbeats 4000000 in
set_option maxRecDepth 100000 in
theorem k_X4_readsParameters_101 {p : Program} {l : Launch} {e : Env} {s : State} {m : MethodId} {args : Array Value} {below : List Frame} {meth : Method} {c : Code} {G : m_G} {nx : Nat} {κ : Nat → Nat} {res : (Int32 × m_M)} {x : Nat} (X : m_Cx p s m args meth c cX4_readsParameters 2 RX4 G) (hr : meth.sig.returnType = (some .boolean)) (hT : m_Str κ) (hk_x : κ x = 12)  : ∀ (S : m_M)  (H : Heap) (locs : List Loc) (ls : Array Slot), m_H G nx κ S H → m_S G s H locs → lv_has ls 2 [] → b_X4_readsParameters_101 x S  = some res → W p l e rm_X4_readsParameters s m args below meth c H locs 0 0 (m_Qi below args s G nx κ res) (F0 m 101 ls []) := by
  have hx := X.1.1
  have hb := X.1.2.1
  intro S H locs ls hH hS hl hm
  rw [b_X4_readsParameters_101] at hm
  refine lv_iconst (v := (1 : Int32)) hx hb dX4_readsParameters_101 (by decide) ?_
  exact r_zret X hr hH hS hm dX4_readsParameters_102
def b_X4_readsParameters_2 (x : Nat)  : Nat → m_M → Int32 → Option (Int32 × m_M)
  | 0, _, _ => none
  | n + 1, S, l1 =>
    if (3 : Int32) < l1 then (
    b_X4_readsParameters_101 x S) else (
    if (m_ri S (x + 2) 9) = (2 : Int32) then (
    m_call (f_X4_varOf x S (m_rj S (x + 2) 14)) fun v4 S3 =>
    if v4 = (-1 : Int32) then (
    if l1 = (3 : Int32) then (
    m_call (f_X9_failsBy x S3 (4 : Int32)) fun v13 S12 =>
    if v13 = 0 ∨ v13 = 1 then some (v13, S12) else none) else (
    m_cal0 (f_X4_addVar x S3 (m_rj S3 (x + 2) 14)) fun S7 =>
    (m_ldi S7 (x + 10) 5 ((m_ri S7 (x + 8) 0) - (1 : Int32))).bind fun v8 =>
    (m_sti S7 (x + 10) 5 ((m_ri S7 (x + 8) 0) - (1 : Int32)) (v8 + (1 : Int32))).bind fun S9 =>
    m_cal0 (f_X9_advance x S9) fun S10 =>
    m_let (l1 + (1 : Int32)) fun v11 =>
    b_X4_readsParameters_2 x n S10 v11)) else (
    m_call (f_X9_failsBy x S3 (3 : Int32)) fun v15 S14 =>
    if v15 = 0 ∨ v15 = 1 then some (v15, S14) else none)) else (
    b_X4_readsParameters_101 x S))
set_option maxHeartbeats 4000000 in
set_option maxRecDepth 100000 in
theorem k_X4_readsParameters_2 {p : Program} {l : Launch} {e : Env} {s : State} {m : MethodId} {args : Array Value} {below : List Frame} {meth : Method} {c : Code} {G : m_G} {nx : Nat} {κ : Nat → Nat} {res : (Int32 × m_M)} {x : Nat} (X : m_Cx p s m args meth c cX4_readsParameters 2 RX4 G) (hr : meth.sig.returnType = (some .boolean)) (hT : m_Str κ) (hk_x : κ x = 12)  (n : Nat) : ∀ (S : m_M) (l1 : Int32) (H : Heap) (locs : List Loc) (ls : Array Slot), m_H G nx κ S H → m_S G s H locs → lv_has ls 2 [(0, .ref (x + 7)), (1, .int l1)] → b_X4_readsParameters_2 x n S l1 = some res → W p l e rm_X4_readsParameters s m args below meth c H locs 0 0 (m_Qi below args s G nx κ res) (F0 m 2 ls []) := by
  have hx := X.1.1
  have hb := X.1.2.1
  induction n with
  | zero => intro S l1 H locs ls hH hS hl hm; have hm : (none : Option (Int32 × m_M)) = some res := hm; cases hm
  | succ n ih =>
    intro S l1 H locs ls hH hS hl hm
    rw [b_X4_readsParameters_2] at hm
    refine lv_iload_n hx hb dX4_readsParameters_2 rfl (lv_at hl 1 rfl) ?_
    refine lv_iconst (v := (3 : Int32)) hx hb dX4_readsParameters_3 (by decide) ?_
    refine lv_icmp_gt (tgt := 101) hx hb dX4_readsParameters_4 (by decide) (fun c1 => ?_) (fun c1 => ?_)
    · have hm := m_ite_t hm c1
      exact k_X4_readsParameters_101 (x := x) X hr hT hk_x   S _ _ _ hH hS (lv_sub hl [] rfl) hm
    · have hm := m_ite_f hm c1
      refine lv_aload_n hx hb dX4_readsParameters_7 rfl (lv_at hl 0 rfl) ?_
      refine r_getp X hH (k := 4) (a := (x + 7)) (j := 1) (b := (x + 2)) (A := 0) (B := 5) (m_lay_at hT hk_x (by decide) (i := 7) rfl) (by decide) rfl m_wi4 (by decide) in_2_71 rfl rfl rfl dX4_readsParameters_8 ?_
      refine r_geti X hH (k := 9) (a := (x + 2)) (j := 9) (m_lay_at hT hk_x (by decide) (i := 2) rfl) (by decide) rfl m_wi9 (by decide) in_1_104 rfl rfl dX4_readsParameters_11 ?_
      refine lv_iconst (v := (2 : Int32)) hx hb dX4_readsParameters_14 (by decide) ?_
      refine lv_icmp_ne (tgt := 101) hx hb dX4_readsParameters_15 (by decide) (fun c2 => ?_) (fun c2 => ?_)
      · have hm := m_ite_f hm c2
        exact k_X4_readsParameters_101 (x := x) X hr hT hk_x   S _ _ _ hH hS (lv_sub hl [] rfl) hm
      · have hm := m_ite_t hm c2
        refine lv_aload_n hx hb dX4_readsParameters_18 rfl (lv_at hl 0 rfl) ?_
        refine lv_aload_n hx hb dX4_readsParameters_19 rfl (lv_at hl 0 rfl) ?_
        refine r_getp X hH (k := 4) (a := (x + 7)) (j := 1) (b := (x + 2)) (A := 0) (B := 5) (m_lay_at hT hk_x (by decide) (i := 7) rfl) (by decide) rfl m_wi4 (by decide) in_2_71 rfl rfl rfl dX4_readsParameters_20 ?_
        refine r_getj X hH (k := 9) (a := (x + 2)) (j := 14) (m_lay_at hT hk_x (by decide) (i := 2) rfl) (by decide) rfl m_wi9 (by decide) in_1_116 rfl rfl dX4_readsParameters_23 ?_
        obtain ⟨v4, S3, e_S3, hm⟩ := m_call_of hm
        refine n_cVi X hH hS (k := 4) (c_X4_varOf (x := x) hT hk_x e_S3) mw_X4_varOf in_3_195 (m_lay_at hT hk_x (by decide) (i := 7) rfl) (by decide) rfl rfl rfl ⟨rfl, rfl⟩ ⟨by decide, by decide⟩ ⟨Nat.zero_le _, Nat.zero_le _⟩ hl.1 (Nat.le_of_ble_eq_true rfl) dX4_readsParameters_26 (fun H locs hH hS => ?_)
        refine lv_iconst (v := (-1 : Int32)) hx hb dX4_readsParameters_29 (by decide) ?_
        refine lv_icmp_eq (tgt := 42) hx hb dX4_readsParameters_30 (by decide) (fun c5 => ?_) (fun c5 => ?_)
        · have hm := m_ite_t hm c5
          refine lv_iload_n hx hb dX4_readsParameters_42 rfl (lv_at hl 1 rfl) ?_
          refine lv_iconst (v := (3 : Int32)) hx hb dX4_readsParameters_43 (by decide) ?_
          refine lv_icmp_ne (tgt := 56) hx hb dX4_readsParameters_44 (by decide) (fun c6 => ?_) (fun c6 => ?_)
          · have hm := m_ite_f hm c6
            refine lv_aload_n hx hb dX4_readsParameters_56 rfl (lv_at hl 0 rfl) ?_
            refine lv_aload_n hx hb dX4_readsParameters_57 rfl (lv_at hl 0 rfl) ?_
            refine r_getp X hH (k := 4) (a := (x + 7)) (j := 1) (b := (x + 2)) (A := 0) (B := 5) (m_lay_at hT hk_x (by decide) (i := 7) rfl) (by decide) rfl m_wi4 (by decide) in_2_71 rfl rfl rfl dX4_readsParameters_58 ?_
            refine r_getj X hH (k := 9) (a := (x + 2)) (j := 14) (m_lay_at hT hk_x (by decide) (i := 2) rfl) (by decide) rfl m_wi9 (by decide) in_1_116 rfl rfl dX4_readsParameters_61 ?_
            obtain ⟨S7, e_S7, hm⟩ := m_cal0_of hm
            refine r_cVv X hH hS (k := 4) (c_X4_addVar (x := x) hT hk_x e_S7) mw_X4_addVar in_3_199 (m_lay_at hT hk_x (by decide) (i := 7) rfl) (by decide) rfl rfl rfl ⟨rfl, rfl⟩ ⟨by decide, by decide⟩ ⟨Nat.zero_le _, Nat.zero_le _⟩ hl.1 (Nat.le_of_ble_eq_true rfl) dX4_readsParameters_64 (fun H locs hH hS => ?_)
            refine lv_aload_n hx hb dX4_readsParameters_67 rfl (lv_at hl 0 rfl) ?_
            refine r_getp X hH (k := 4) (a := (x + 7)) (j := 0) (b := (x + 8)) (A := 1) (B := 0) (m_lay_at hT hk_x (by decide) (i := 7) rfl) (by decide) rfl m_wi4 (by decide) in_2_69 rfl rfl rfl dX4_readsParameters_68 ?_
            refine r_getp X hH (k := 3) (a := (x + 8)) (j := 3) (b := (x + 10)) (A := 2) (B := 0) (m_lay_at hT hk_x (by decide) (i := 8) rfl) (by decide) rfl m_wi3 (by decide) in_2_17 rfl rfl rfl dX4_readsParameters_71 ?_
            refine lv_aload_n hx hb dX4_readsParameters_74 rfl (lv_at hl 0 rfl) ?_
            refine r_getp X hH (k := 4) (a := (x + 7)) (j := 0) (b := (x + 8)) (A := 1) (B := 0) (m_lay_at hT hk_x (by decide) (i := 7) rfl) (by decide) rfl m_wi4 (by decide) in_2_69 rfl rfl rfl dX4_readsParameters_75 ?_
            refine r_geti X hH (k := 3) (a := (x + 8)) (j := 0) (m_lay_at hT hk_x (by decide) (i := 8) rfl) (by decide) rfl m_wi3 (by decide) in_2_7 rfl rfl dX4_readsParameters_78 ?_
            refine lv_iconst (v := (1 : Int32)) hx hb dX4_readsParameters_81 (by decide) ?_
            refine lv_isub hx hb dX4_readsParameters_82 ?_
            refine lv_dup2_11 hx hb dX4_readsParameters_83 rfl rfl ?_
            obtain ⟨v8, h_v8, e_v8, hm⟩ := n_ldi hm
            refine n_iald X hH (n := 5) (m_lay_at hT hk_x (by decide) (i := 10) rfl) h_v8 e_v8 dX4_readsParameters_84 ?_
            refine lv_iconst (v := (1 : Int32)) hx hb dX4_readsParameters_85 (by decide) ?_
            refine lv_iadd hx hb dX4_readsParameters_86 ?_
            obtain ⟨S9, h_S9, e_S9, hm⟩ := n_sti hm
            refine n_iast X hH hS (n := 5) (m_lay_at hT hk_x (by decide) (i := 10) rfl) h_S9 e_S9 dX4_readsParameters_87 (fun H locs hH hS => ?_)
            refine lv_aload_n hx hb dX4_readsParameters_88 rfl (lv_at hl 0 rfl) ?_
            refine r_getp X hH (k := 4) (a := (x + 7)) (j := 1) (b := (x + 2)) (A := 0) (B := 5) (m_lay_at hT hk_x (by decide) (i := 7) rfl) (by decide) rfl m_wi4 (by decide) in_2_71 rfl rfl rfl dX4_readsParameters_89 ?_
            obtain ⟨S10, e_S10, hm⟩ := m_cal0_of hm
            refine r_cVv X hH hS (k := 9) (c_X9_advance (x := x) hT hk_x e_S10) mw_X9_advance in_3_182 (m_lay_at hT hk_x (by decide) (i := 2) rfl) (by decide) rfl rfl rfl ⟨rfl, rfl⟩ ⟨by decide, by decide⟩ ⟨Nat.zero_le _, Nat.zero_le _⟩ hl.1 (Nat.le_of_ble_eq_true rfl) dX4_readsParameters_92 (fun H locs hH hS => ?_)
            obtain ⟨v11, e_v11, hm⟩ := m_let_of hm
            refine lv_iinc (v := v11) (lv' := [(1, .int v11), (0, .ref (x + 7))]) hx hb dX4_readsParameters_95 hl (k := 1) rfl (by rw [← e_v11]; rfl) (by decide) rfl (fun ls hl => ?_)
            refine lv_goto (tgt := 2) hx hb dX4_readsParameters_98 (by decide) ?_
            exact ih S10 v11 _ _ _ hH hS (lv_sub hl [1, 0] rfl) hm
          · have hm := m_ite_t hm c6
            refine lv_aload_n hx hb dX4_readsParameters_47 rfl (lv_at hl 0 rfl) ?_
            refine r_getp X hH (k := 4) (a := (x + 7)) (j := 1) (b := (x + 2)) (A := 0) (B := 5) (m_lay_at hT hk_x (by decide) (i := 7) rfl) (by decide) rfl m_wi4 (by decide) in_2_71 rfl rfl rfl dX4_readsParameters_48 ?_
            refine lv_iconst (v := (4 : Int32)) hx hb dX4_readsParameters_51 (by decide) ?_
            obtain ⟨v13, S12, e_S12, hm⟩ := m_call_of hm
            refine n_cVi X hH hS (k := 9) (c_X9_failsBy (x := x) hT hk_x e_S12) mw_X9_failsBy in_3_178 (m_lay_at hT hk_x (by decide) (i := 2) rfl) (by decide) rfl rfl rfl ⟨rfl, rfl⟩ ⟨by decide, by decide⟩ ⟨Nat.zero_le _, Nat.zero_le _⟩ hl.1 (Nat.le_of_ble_eq_true rfl) dX4_readsParameters_52 (fun H locs hH hS => ?_)
            exact r_zret X hr hH hS hm dX4_readsParameters_55
        · have hm := m_ite_f hm c5
          refine lv_aload_n hx hb dX4_readsParameters_33 rfl (lv_at hl 0 rfl) ?_
          refine r_getp X hH (k := 4) (a := (x + 7)) (j := 1) (b := (x + 2)) (A := 0) (B := 5) (m_lay_at hT hk_x (by decide) (i := 7) rfl) (by decide) rfl m_wi4 (by decide) in_2_71 rfl rfl rfl dX4_readsParameters_34 ?_
          refine lv_iconst (v := (3 : Int32)) hx hb dX4_readsParameters_37 (by decide) ?_
          obtain ⟨v15, S14, e_S14, hm⟩ := m_call_of hm
          refine n_cVi X hH hS (k := 9) (c_X9_failsBy (x := x) hT hk_x e_S14) mw_X9_failsBy in_3_178 (m_lay_at hT hk_x (by decide) (i := 2) rfl) (by decide) rfl rfl rfl ⟨rfl, rfl⟩ ⟨by decide, by decide⟩ ⟨Nat.zero_le _, Nat.zero_le _⟩ hl.1 (Nat.le_of_ble_eq_true rfl) dX4_readsParameters_38 (fun H locs hH hS => ?_)
          exact r_zret X hr hH hS hm dX4_readsParameters_41
def f_X4_readsParameters (x : Nat) (S : m_M)  : Option (Int32 × m_M) :=
    b_X4_readsParameters_2 x m_fu S (0 : Int32)
set_option maxHeartbeats 4000000 in
set_option maxRecDepth 100000 in
theorem c_X4_readsParameters {l : Launch} {G : m_G} {nx : Nat} {κ : Nat → Nat} {x : Nat} {S : m_M}  {res : (Int32 × m_M)} (hT : m_Str κ) (hk_x : κ x = 12) (hm : f_X4_readsParameters x S = some res) : m_Ci l yX4_readsParameters cX4_readsParameters 2 (some .boolean) rm_X4_readsParameters G nx κ [.ref (x + 7)] S res := by
  refine m_Ci.of (by decide) (Nat.le_of_ble_eq_true rfl) ?_
  intro p e s m args below meth c ls X hr hH hl
  have hx := X.1.1
  have hb := X.1.2.1
  have hS : m_S G s s.heap [] := va_S.rf
  have hl : lv_has ls 2 [(0, .ref (x + 7))] := hl
  rw [f_X4_readsParameters] at hm
  refine lv_iconst (v := (0 : Int32)) hx hb dX4_readsParameters_0 (by decide) ?_
  refine lv_istore_n (lv' := [(1, .int (0 : Int32)), (0, .ref (x + 7))]) hx hb dX4_readsParameters_1 rfl hl (by decide) rfl (fun ls hl => ?_)
  exact k_X4_readsParameters_2 (x := x) X hr hT hk_x  m_fu S (0 : Int32) _ _ _ hH hS (lv_sub hl [1, 0] rfl) hm
def rm_X4_readsFun : Room := { frames := 2, cells := 0, slots := 0, locals := 44 }
def f_X4_readsFun (x : Nat) (S : m_M)  : Option (Int32 × m_M) :=
    m_call (f_X4_latestFunIsBare x S) fun v2 S1 =>
    if v2 = 0 then (
    if (m_ri S1 (x + 8) 0) < (5 : Int32) then (
    m_cal0 (f_X9_advance x S1) fun S5 =>
    if (m_ri S5 (x + 2) 9) = (2 : Int32) then (
    m_call (f_X3_funOf (x + 8) S5 (m_rj S5 (x + 2) 14)) fun v8 S7 =>
    if v8 = (-1 : Int32) then (
    m_cal0 (f_X3_openFun (x + 8) S7 (m_rj S7 (x + 2) 14)) fun S10 =>
    m_let (m_si S10 (x + 7) 3 (0 : Int32)) fun S11 =>
    m_cal0 (f_X9_advance x S11) fun S12 =>
    m_call (f_X4_readsParameters x S12) fun v14 S13 =>
    if v14 = 0 ∨ v14 = 1 then some (v14, S13) else none) else (
    m_call (f_X9_failsBy x S7 (3 : Int32)) fun v16 S15 =>
    if v16 = 0 ∨ v16 = 1 then some (v16, S15) else none)) else (
    m_call (f_X9_failsBy x S5 (1 : Int32)) fun v18 S17 =>
    if v18 = 0 ∨ v18 = 1 then some (v18, S17) else none)) else (
    m_call (f_X9_failsBy x S1 (4 : Int32)) fun v20 S19 =>
    if v20 = 0 ∨ v20 = 1 then some (v20, S19) else none)) else (
    m_call (f_X9_failsBy x S1 (3 : Int32)) fun v22 S21 =>
    if v22 = 0 ∨ v22 = 1 then some (v22, S21) else none)
set_option maxHeartbeats 4000000 in
set_option maxRecDepth 100000 in
theorem c_X4_readsFun {l : Launch} {G : m_G} {nx : Nat} {κ : Nat → Nat} {x : Nat} {S : m_M}  {res : (Int32 × m_M)} (hT : m_Str κ) (hk_x : κ x = 12) (hm : f_X4_readsFun x S = some res) : m_Ci l yX4_readsFun cX4_readsFun 1 (some .boolean) rm_X4_readsFun G nx κ [.ref (x + 7)] S res := by
  refine m_Ci.of (by decide) (Nat.le_of_ble_eq_true rfl) ?_
  intro p e s m args below meth c ls X hr hH hl
  have hx := X.1.1
  have hb := X.1.2.1
  have hS : m_S G s s.heap [] := va_S.rf
  have hl : lv_has ls 1 [(0, .ref (x + 7))] := hl
  rw [f_X4_readsFun] at hm
  refine lv_aload_n hx hb dX4_readsFun_0 rfl (lv_at hl 0 rfl) ?_
  obtain ⟨v2, S1, e_S1, hm⟩ := m_call_of hm
  refine n_cVi X hH hS (k := 4) (c_X4_latestFunIsBare (x := x) hT hk_x e_S1) mw_X4_latestFunIsBare in_3_174 (m_lay_at hT hk_x (by decide) (i := 7) rfl) (by decide) rfl rfl rfl ⟨rfl, rfl⟩ ⟨by decide, by decide⟩ ⟨Nat.zero_le _, Nat.zero_le _⟩ hl.1 (Nat.le_of_ble_eq_true rfl) dX4_readsFun_1 (fun H locs hH hS => ?_)
  refine lv_if_eq (tgt := 16) hx hb dX4_readsFun_4 (by decide) (fun c3 => ?_) (fun c3 => ?_)
  · have hm := m_ite_t hm c3
    refine lv_aload_n hx hb dX4_readsFun_16 rfl (lv_at hl 0 rfl) ?_
    refine r_getp X hH (k := 4) (a := (x + 7)) (j := 0) (b := (x + 8)) (A := 1) (B := 0) (m_lay_at hT hk_x (by decide) (i := 7) rfl) (by decide) rfl m_wi4 (by decide) in_2_69 rfl rfl rfl dX4_readsFun_17 ?_
    refine r_geti X hH (k := 3) (a := (x + 8)) (j := 0) (m_lay_at hT hk_x (by decide) (i := 8) rfl) (by decide) rfl m_wi3 (by decide) in_2_7 rfl rfl dX4_readsFun_20 ?_
    refine lv_iconst (v := (5 : Int32)) hx hb dX4_readsFun_23 (by decide) ?_
    refine lv_icmp_lt (tgt := 36) hx hb dX4_readsFun_24 (by decide) (fun c4 => ?_) (fun c4 => ?_)
    · have hm := m_ite_t hm c4
      refine lv_aload_n hx hb dX4_readsFun_36 rfl (lv_at hl 0 rfl) ?_
      refine r_getp X hH (k := 4) (a := (x + 7)) (j := 1) (b := (x + 2)) (A := 0) (B := 5) (m_lay_at hT hk_x (by decide) (i := 7) rfl) (by decide) rfl m_wi4 (by decide) in_2_71 rfl rfl rfl dX4_readsFun_37 ?_
      obtain ⟨S5, e_S5, hm⟩ := m_cal0_of hm
      refine r_cVv X hH hS (k := 9) (c_X9_advance (x := x) hT hk_x e_S5) mw_X9_advance in_3_182 (m_lay_at hT hk_x (by decide) (i := 2) rfl) (by decide) rfl rfl rfl ⟨rfl, rfl⟩ ⟨by decide, by decide⟩ ⟨Nat.zero_le _, Nat.zero_le _⟩ hl.1 (Nat.le_of_ble_eq_true rfl) dX4_readsFun_40 (fun H locs hH hS => ?_)
      refine lv_aload_n hx hb dX4_readsFun_43 rfl (lv_at hl 0 rfl) ?_
      refine r_getp X hH (k := 4) (a := (x + 7)) (j := 1) (b := (x + 2)) (A := 0) (B := 5) (m_lay_at hT hk_x (by decide) (i := 7) rfl) (by decide) rfl m_wi4 (by decide) in_2_71 rfl rfl rfl dX4_readsFun_44 ?_
      refine r_geti X hH (k := 9) (a := (x + 2)) (j := 9) (m_lay_at hT hk_x (by decide) (i := 2) rfl) (by decide) rfl m_wi9 (by decide) in_1_104 rfl rfl dX4_readsFun_47 ?_
      refine lv_iconst (v := (2 : Int32)) hx hb dX4_readsFun_50 (by decide) ?_
      refine lv_icmp_eq (tgt := 63) hx hb dX4_readsFun_51 (by decide) (fun c6 => ?_) (fun c6 => ?_)
      · have hm := m_ite_t hm c6
        refine lv_aload_n hx hb dX4_readsFun_63 rfl (lv_at hl 0 rfl) ?_
        refine r_getp X hH (k := 4) (a := (x + 7)) (j := 0) (b := (x + 8)) (A := 1) (B := 0) (m_lay_at hT hk_x (by decide) (i := 7) rfl) (by decide) rfl m_wi4 (by decide) in_2_69 rfl rfl rfl dX4_readsFun_64 ?_
        refine lv_aload_n hx hb dX4_readsFun_67 rfl (lv_at hl 0 rfl) ?_
        refine r_getp X hH (k := 4) (a := (x + 7)) (j := 1) (b := (x + 2)) (A := 0) (B := 5) (m_lay_at hT hk_x (by decide) (i := 7) rfl) (by decide) rfl m_wi4 (by decide) in_2_71 rfl rfl rfl dX4_readsFun_68 ?_
        refine r_getj X hH (k := 9) (a := (x + 2)) (j := 14) (m_lay_at hT hk_x (by decide) (i := 2) rfl) (by decide) rfl m_wi9 (by decide) in_1_116 rfl rfl dX4_readsFun_71 ?_
        obtain ⟨v8, S7, e_S7, hm⟩ := m_call_of hm
        refine n_cVi X hH hS (k := 3) (c_X3_funOf (a := (x + 8)) hT (m_lay_at hT hk_x (by decide) (i := 8) rfl) e_S7) mw_X3_funOf in_3_183 (m_lay_at hT hk_x (by decide) (i := 8) rfl) (by decide) rfl rfl rfl ⟨rfl, rfl⟩ ⟨by decide, by decide⟩ ⟨Nat.zero_le _, Nat.zero_le _⟩ hl.1 (Nat.le_of_ble_eq_true rfl) dX4_readsFun_74 (fun H locs hH hS => ?_)
        refine lv_iconst (v := (-1 : Int32)) hx hb dX4_readsFun_77 (by decide) ?_
        refine lv_icmp_eq (tgt := 90) hx hb dX4_readsFun_78 (by decide) (fun c9 => ?_) (fun c9 => ?_)
        · have hm := m_ite_t hm c9
          refine lv_aload_n hx hb dX4_readsFun_90 rfl (lv_at hl 0 rfl) ?_
          refine r_getp X hH (k := 4) (a := (x + 7)) (j := 0) (b := (x + 8)) (A := 1) (B := 0) (m_lay_at hT hk_x (by decide) (i := 7) rfl) (by decide) rfl m_wi4 (by decide) in_2_69 rfl rfl rfl dX4_readsFun_91 ?_
          refine lv_aload_n hx hb dX4_readsFun_94 rfl (lv_at hl 0 rfl) ?_
          refine r_getp X hH (k := 4) (a := (x + 7)) (j := 1) (b := (x + 2)) (A := 0) (B := 5) (m_lay_at hT hk_x (by decide) (i := 7) rfl) (by decide) rfl m_wi4 (by decide) in_2_71 rfl rfl rfl dX4_readsFun_95 ?_
          refine r_getj X hH (k := 9) (a := (x + 2)) (j := 14) (m_lay_at hT hk_x (by decide) (i := 2) rfl) (by decide) rfl m_wi9 (by decide) in_1_116 rfl rfl dX4_readsFun_98 ?_
          obtain ⟨S10, e_S10, hm⟩ := m_cal0_of hm
          refine r_cVv X hH hS (k := 3) (c_X3_openFun (a := (x + 8)) hT (m_lay_at hT hk_x (by decide) (i := 8) rfl) e_S10) mw_X3_openFun in_3_187 (m_lay_at hT hk_x (by decide) (i := 8) rfl) (by decide) rfl rfl rfl ⟨rfl, rfl⟩ ⟨by decide, by decide⟩ ⟨Nat.zero_le _, Nat.zero_le _⟩ hl.1 (Nat.le_of_ble_eq_true rfl) dX4_readsFun_101 (fun H locs hH hS => ?_)
          refine lv_aload_n hx hb dX4_readsFun_104 rfl (lv_at hl 0 rfl) ?_
          refine lv_iconst (v := (0 : Int32)) hx hb dX4_readsFun_105 (by decide) ?_
          obtain ⟨S11, e_S11, hm⟩ := m_let_of hm
          refine n_puti X hH hS tyX4 (k := 4) (a := (x + 7)) (j := 3) (m_lay_at hT hk_x (by decide) (i := 7) rfl) (by decide) rfl m_wi4 tyX4_ok nmX4 (by decide) in_2_73 rfl rfl rfl ⟨rfl, rfl⟩ e_S11 dX4_readsFun_106 (fun H locs hH hS => ?_)
          refine lv_aload_n hx hb dX4_readsFun_109 rfl (lv_at hl 0 rfl) ?_
          refine r_getp X hH (k := 4) (a := (x + 7)) (j := 1) (b := (x + 2)) (A := 0) (B := 5) (m_lay_at hT hk_x (by decide) (i := 7) rfl) (by decide) rfl m_wi4 (by decide) in_2_71 rfl rfl rfl dX4_readsFun_110 ?_
          obtain ⟨S12, e_S12, hm⟩ := m_cal0_of hm
          refine r_cVv X hH hS (k := 9) (c_X9_advance (x := x) hT hk_x e_S12) mw_X9_advance in_3_182 (m_lay_at hT hk_x (by decide) (i := 2) rfl) (by decide) rfl rfl rfl ⟨rfl, rfl⟩ ⟨by decide, by decide⟩ ⟨Nat.zero_le _, Nat.zero_le _⟩ hl.1 (Nat.le_of_ble_eq_true rfl) dX4_readsFun_113 (fun H locs hH hS => ?_)
          refine lv_aload_n hx hb dX4_readsFun_116 rfl (lv_at hl 0 rfl) ?_
          obtain ⟨v14, S13, e_S13, hm⟩ := m_call_of hm
          refine n_cVi X hH hS (k := 4) (c_X4_readsParameters (x := x) hT hk_x e_S13) mw_X4_readsParameters in_3_191 (m_lay_at hT hk_x (by decide) (i := 7) rfl) (by decide) rfl rfl rfl ⟨rfl, rfl⟩ ⟨by decide, by decide⟩ ⟨Nat.zero_le _, Nat.zero_le _⟩ hl.1 (Nat.le_of_ble_eq_true rfl) dX4_readsFun_117 (fun H locs hH hS => ?_)
          exact r_zret X hr hH hS hm dX4_readsFun_120
        · have hm := m_ite_f hm c9
          refine lv_aload_n hx hb dX4_readsFun_81 rfl (lv_at hl 0 rfl) ?_
          refine r_getp X hH (k := 4) (a := (x + 7)) (j := 1) (b := (x + 2)) (A := 0) (B := 5) (m_lay_at hT hk_x (by decide) (i := 7) rfl) (by decide) rfl m_wi4 (by decide) in_2_71 rfl rfl rfl dX4_readsFun_82 ?_
          refine lv_iconst (v := (3 : Int32)) hx hb dX4_readsFun_85 (by decide) ?_
          obtain ⟨v16, S15, e_S15, hm⟩ := m_call_of hm
          refine n_cVi X hH hS (k := 9) (c_X9_failsBy (x := x) hT hk_x e_S15) mw_X9_failsBy in_3_178 (m_lay_at hT hk_x (by decide) (i := 2) rfl) (by decide) rfl rfl rfl ⟨rfl, rfl⟩ ⟨by decide, by decide⟩ ⟨Nat.zero_le _, Nat.zero_le _⟩ hl.1 (Nat.le_of_ble_eq_true rfl) dX4_readsFun_86 (fun H locs hH hS => ?_)
          exact r_zret X hr hH hS hm dX4_readsFun_89
      · have hm := m_ite_f hm c6
        refine lv_aload_n hx hb dX4_readsFun_54 rfl (lv_at hl 0 rfl) ?_
        refine r_getp X hH (k := 4) (a := (x + 7)) (j := 1) (b := (x + 2)) (A := 0) (B := 5) (m_lay_at hT hk_x (by decide) (i := 7) rfl) (by decide) rfl m_wi4 (by decide) in_2_71 rfl rfl rfl dX4_readsFun_55 ?_
        refine lv_iconst (v := (1 : Int32)) hx hb dX4_readsFun_58 (by decide) ?_
        obtain ⟨v18, S17, e_S17, hm⟩ := m_call_of hm
        refine n_cVi X hH hS (k := 9) (c_X9_failsBy (x := x) hT hk_x e_S17) mw_X9_failsBy in_3_178 (m_lay_at hT hk_x (by decide) (i := 2) rfl) (by decide) rfl rfl rfl ⟨rfl, rfl⟩ ⟨by decide, by decide⟩ ⟨Nat.zero_le _, Nat.zero_le _⟩ hl.1 (Nat.le_of_ble_eq_true rfl) dX4_readsFun_59 (fun H locs hH hS => ?_)
        exact r_zret X hr hH hS hm dX4_readsFun_62
    · have hm := m_ite_f hm c4
      refine lv_aload_n hx hb dX4_readsFun_27 rfl (lv_at hl 0 rfl) ?_
      refine r_getp X hH (k := 4) (a := (x + 7)) (j := 1) (b := (x + 2)) (A := 0) (B := 5) (m_lay_at hT hk_x (by decide) (i := 7) rfl) (by decide) rfl m_wi4 (by decide) in_2_71 rfl rfl rfl dX4_readsFun_28 ?_
      refine lv_iconst (v := (4 : Int32)) hx hb dX4_readsFun_31 (by decide) ?_
      obtain ⟨v20, S19, e_S19, hm⟩ := m_call_of hm
      refine n_cVi X hH hS (k := 9) (c_X9_failsBy (x := x) hT hk_x e_S19) mw_X9_failsBy in_3_178 (m_lay_at hT hk_x (by decide) (i := 2) rfl) (by decide) rfl rfl rfl ⟨rfl, rfl⟩ ⟨by decide, by decide⟩ ⟨Nat.zero_le _, Nat.zero_le _⟩ hl.1 (Nat.le_of_ble_eq_true rfl) dX4_readsFun_32 (fun H locs hH hS => ?_)
      exact r_zret X hr hH hS hm dX4_readsFun_35
  · have hm := m_ite_f hm c3
    refine lv_aload_n hx hb dX4_readsFun_7 rfl (lv_at hl 0 rfl) ?_
    refine r_getp X hH (k := 4) (a := (x + 7)) (j := 1) (b := (x + 2)) (A := 0) (B := 5) (m_lay_at hT hk_x (by decide) (i := 7) rfl) (by decide) rfl m_wi4 (by decide) in_2_71 rfl rfl rfl dX4_readsFun_8 ?_
    refine lv_iconst (v := (3 : Int32)) hx hb dX4_readsFun_11 (by decide) ?_
    obtain ⟨v22, S21, e_S21, hm⟩ := m_call_of hm
    refine n_cVi X hH hS (k := 9) (c_X9_failsBy (x := x) hT hk_x e_S21) mw_X9_failsBy in_3_178 (m_lay_at hT hk_x (by decide) (i := 2) rfl) (by decide) rfl rfl rfl ⟨rfl, rfl⟩ ⟨by decide, by decide⟩ ⟨Nat.zero_le _, Nat.zero_le _⟩ hl.1 (Nat.le_of_ble_eq_true rfl) dX4_readsFun_12 (fun H locs hH hS => ?_)
    exact r_zret X hr hH hS hm dX4_readsFun_15
def rm_X9_takesKeyword : Room := { frames := 1, cells := 0, slots := 0, locals := 21 }
def f_X9_takesKeyword (x : Nat) (S : m_M) (i1 : Int32) : Option (Int32 × m_M) :=
    if (m_ri S (x + 2) 11) = i1 then (
    m_cal0 (f_X9_advance x S) fun S2 =>
    if (1 : Int32) = 0 ∨ (1 : Int32) = 1 then some ((1 : Int32), S2) else none) else (
    m_call (f_X9_failsBy x S (1 : Int32)) fun v4 S3 =>
    if v4 = 0 ∨ v4 = 1 then some (v4, S3) else none)
set_option maxHeartbeats 4000000 in
set_option maxRecDepth 100000 in
theorem c_X9_takesKeyword {l : Launch} {G : m_G} {nx : Nat} {κ : Nat → Nat} {x : Nat} {S : m_M} {i1 : Int32} {res : (Int32 × m_M)} (hT : m_Str κ) (hk_x : κ x = 12) (hm : f_X9_takesKeyword x S i1 = some res) : m_Ci l yX9_takesKeyword cX9_takesKeyword 2 (some .boolean) rm_X9_takesKeyword G nx κ [.ref (x + 2), .int i1] S res := by
  refine m_Ci.of (by decide) (Nat.le_of_ble_eq_true rfl) ?_
  intro p e s m args below meth c ls X hr hH hl
  have hx := X.1.1
  have hb := X.1.2.1
  have hS : m_S G s s.heap [] := va_S.rf
  have hl : lv_has ls 2 [(0, .ref (x + 2)), (1, .int i1)] := hl
  rw [f_X9_takesKeyword] at hm
  refine lv_aload_n hx hb dX9_takesKeyword_0 rfl (lv_at hl 0 rfl) ?_
  refine r_geti X hH (k := 9) (a := (x + 2)) (j := 11) (m_lay_at hT hk_x (by decide) (i := 2) rfl) (by decide) rfl m_wi9 (by decide) in_1_107 rfl rfl dX9_takesKeyword_1 ?_
  refine lv_iload_n hx hb dX9_takesKeyword_4 rfl (lv_at hl 1 rfl) ?_
  refine lv_icmp_eq (tgt := 14) hx hb dX9_takesKeyword_5 (by decide) (fun c1 => ?_) (fun c1 => ?_)
  · have hm := m_ite_t hm c1
    refine lv_aload_n hx hb dX9_takesKeyword_14 rfl (lv_at hl 0 rfl) ?_
    obtain ⟨S2, e_S2, hm⟩ := m_cal0_of hm
    refine r_cVv X hH hS (k := 9) (c_X9_advance (x := x) hT hk_x e_S2) mw_X9_advance in_3_166 (m_lay_at hT hk_x (by decide) (i := 2) rfl) (by decide) rfl rfl rfl ⟨rfl, rfl⟩ ⟨by decide, by decide⟩ ⟨Nat.zero_le _, Nat.zero_le _⟩ hl.1 (Nat.le_of_ble_eq_true rfl) dX9_takesKeyword_15 (fun H locs hH hS => ?_)
    refine lv_iconst (v := (1 : Int32)) hx hb dX9_takesKeyword_18 (by decide) ?_
    exact r_zret X hr hH hS hm dX9_takesKeyword_19
  · have hm := m_ite_f hm c1
    refine lv_aload_n hx hb dX9_takesKeyword_8 rfl (lv_at hl 0 rfl) ?_
    refine lv_iconst (v := (1 : Int32)) hx hb dX9_takesKeyword_9 (by decide) ?_
    obtain ⟨v4, S3, e_S3, hm⟩ := m_call_of hm
    refine n_cVi X hH hS (k := 9) (c_X9_failsBy (x := x) hT hk_x e_S3) mw_X9_failsBy in_3_211 (m_lay_at hT hk_x (by decide) (i := 2) rfl) (by decide) rfl rfl rfl ⟨rfl, rfl⟩ ⟨by decide, by decide⟩ ⟨Nat.zero_le _, Nat.zero_le _⟩ hl.1 (Nat.le_of_ble_eq_true rfl) dX9_takesKeyword_10 (fun H locs hH hS => ?_)
    exact r_zret X hr hH hS hm dX9_takesKeyword_13
def rm_X4_takesVars : Room := { frames := 1, cells := 0, slots := 0, locals := 23 }
def b_X4_takesVars_3 (x : Nat)  : Nat → m_M → Int32 → Int32 → Int32 → Int32 → Option (Int32 × m_M)
  | 0, _, _, _, _, _ => none
  | n + 1, S, l1, l2, l3, l4 =>
    if (l2 + l3) ≤ l4 then (
    if (1 : Int32) = 0 ∨ (1 : Int32) = 1 then some ((1 : Int32), S) else none) else (
    if (m_ri S (x + 2) 9) = (2 : Int32) then (
    m_call (f_X4_varOf x S (m_rj S (x + 2) 14)) fun v4 S3 =>
    if v4 = (-1 : Int32) then (
    m_call (f_X9_failsBy x S3 (3 : Int32)) fun v10 S9 =>
    if v10 = 0 ∨ v10 = 1 then some (v10, S9) else none) else (
    (m_sti S3 (x + 15) 120 ((l1 * (5 : Int32)) + l4) v4).bind fun S6 =>
    m_cal0 (f_X9_advance x S6) fun S7 =>
    m_let (l4 + (1 : Int32)) fun v8 =>
    b_X4_takesVars_3 x n S7 l1 l2 l3 v8)) else (
    m_call (f_X9_failsBy x S (1 : Int32)) fun v12 S11 =>
    if v12 = 0 ∨ v12 = 1 then some (v12, S11) else none))
set_option maxHeartbeats 4000000 in
set_option maxRecDepth 100000 in
theorem k_X4_takesVars_3 {p : Program} {l : Launch} {e : Env} {s : State} {m : MethodId} {args : Array Value} {below : List Frame} {meth : Method} {c : Code} {G : m_G} {nx : Nat} {κ : Nat → Nat} {res : (Int32 × m_M)} {x : Nat} (X : m_Cx p s m args meth c cX4_takesVars 6 RX4 G) (hr : meth.sig.returnType = (some .boolean)) (hT : m_Str κ) (hk_x : κ x = 12)  (n : Nat) : ∀ (S : m_M) (l1 : Int32) (l2 : Int32) (l3 : Int32) (l4 : Int32) (H : Heap) (locs : List Loc) (ls : Array Slot), m_H G nx κ S H → m_S G s H locs → lv_has ls 6 [(0, .ref (x + 7)), (1, .int l1), (2, .int l2), (3, .int l3), (4, .int l4)] → b_X4_takesVars_3 x n S l1 l2 l3 l4 = some res → W p l e rm_X4_takesVars s m args below meth c H locs 0 0 (m_Qi below args s G nx κ res) (F0 m 3 ls []) := by
  have hx := X.1.1
  have hb := X.1.2.1
  induction n with
  | zero => intro S l1 l2 l3 l4 H locs ls hH hS hl hm; have hm : (none : Option (Int32 × m_M)) = some res := hm; cases hm
  | succ n ih =>
    intro S l1 l2 l3 l4 H locs ls hH hS hl hm
    rw [b_X4_takesVars_3] at hm
    refine lv_iload hx hb dX4_takesVars_3 (lv_at hl 4 rfl) ?_
    refine lv_iload_n hx hb dX4_takesVars_5 rfl (lv_at hl 2 rfl) ?_
    refine lv_iload_n hx hb dX4_takesVars_6 rfl (lv_at hl 3 rfl) ?_
    refine lv_iadd hx hb dX4_takesVars_7 ?_
    refine lv_icmp_ge (tgt := 88) hx hb dX4_takesVars_8 (by decide) (fun c1 => ?_) (fun c1 => ?_)
    · have hm := m_ite_t hm c1
      refine lv_iconst (v := (1 : Int32)) hx hb dX4_takesVars_88 (by decide) ?_
      exact r_zret X hr hH hS hm dX4_takesVars_89
    · have hm := m_ite_f hm c1
      refine lv_aload_n hx hb dX4_takesVars_11 rfl (lv_at hl 0 rfl) ?_
      refine r_getp X hH (k := 4) (a := (x + 7)) (j := 1) (b := (x + 2)) (A := 0) (B := 5) (m_lay_at hT hk_x (by decide) (i := 7) rfl) (by decide) rfl m_wi4 (by decide) in_2_71 rfl rfl rfl dX4_takesVars_12 ?_
      refine r_geti X hH (k := 9) (a := (x + 2)) (j := 9) (m_lay_at hT hk_x (by decide) (i := 2) rfl) (by decide) rfl m_wi9 (by decide) in_1_104 rfl rfl dX4_takesVars_15 ?_
      refine lv_iconst (v := (2 : Int32)) hx hb dX4_takesVars_18 (by decide) ?_
      refine lv_icmp_eq (tgt := 31) hx hb dX4_takesVars_19 (by decide) (fun c2 => ?_) (fun c2 => ?_)
      · have hm := m_ite_t hm c2
        refine lv_aload_n hx hb dX4_takesVars_31 rfl (lv_at hl 0 rfl) ?_
        refine lv_aload_n hx hb dX4_takesVars_32 rfl (lv_at hl 0 rfl) ?_
        refine r_getp X hH (k := 4) (a := (x + 7)) (j := 1) (b := (x + 2)) (A := 0) (B := 5) (m_lay_at hT hk_x (by decide) (i := 7) rfl) (by decide) rfl m_wi4 (by decide) in_2_71 rfl rfl rfl dX4_takesVars_33 ?_
        refine r_getj X hH (k := 9) (a := (x + 2)) (j := 14) (m_lay_at hT hk_x (by decide) (i := 2) rfl) (by decide) rfl m_wi9 (by decide) in_1_116 rfl rfl dX4_takesVars_36 ?_
        obtain ⟨v4, S3, e_S3, hm⟩ := m_call_of hm
        refine n_cVi X hH hS (k := 4) (c_X4_varOf (x := x) hT hk_x e_S3) mw_X4_varOf in_3_195 (m_lay_at hT hk_x (by decide) (i := 7) rfl) (by decide) rfl rfl rfl ⟨rfl, rfl⟩ ⟨by decide, by decide⟩ ⟨Nat.zero_le _, Nat.zero_le _⟩ hl.1 (Nat.le_of_ble_eq_true rfl) dX4_takesVars_39 (fun H locs hH hS => ?_)
        refine lv_istore (lv' := [(5, .int v4), (0, .ref (x + 7)), (1, .int l1), (2, .int l2), (3, .int l3), (4, .int l4)]) hx hb dX4_takesVars_42 hl (by decide) rfl (fun ls hl => ?_)
        refine lv_iload hx hb dX4_takesVars_44 (lv_at hl 0 rfl) ?_
        refine lv_iconst (v := (-1 : Int32)) hx hb dX4_takesVars_46 (by decide) ?_
        refine lv_icmp_ne (tgt := 59) hx hb dX4_takesVars_47 (by decide) (fun c5 => ?_) (fun c5 => ?_)
        · have hm := m_ite_f hm c5
          refine lv_aload_n hx hb dX4_takesVars_59 rfl (lv_at hl 1 rfl) ?_
          refine r_getp X hH (k := 4) (a := (x + 7)) (j := 0) (b := (x + 8)) (A := 1) (B := 0) (m_lay_at hT hk_x (by decide) (i := 7) rfl) (by decide) rfl m_wi4 (by decide) in_2_69 rfl rfl rfl dX4_takesVars_60 ?_
          refine r_getp X hH (k := 3) (a := (x + 8)) (j := 8) (b := (x + 15)) (A := 7) (B := 0) (m_lay_at hT hk_x (by decide) (i := 8) rfl) (by decide) rfl m_wi3 (by decide) in_2_42 rfl rfl rfl dX4_takesVars_63 ?_
          refine lv_iload_n hx hb dX4_takesVars_66 rfl (lv_at hl 2 rfl) ?_
          refine lv_iconst (v := (5 : Int32)) hx hb dX4_takesVars_67 (by decide) ?_
          refine lv_imul hx hb dX4_takesVars_68 ?_
          refine lv_iload hx hb dX4_takesVars_69 (lv_at hl 5 rfl) ?_
          refine lv_iadd hx hb dX4_takesVars_71 ?_
          refine lv_iload hx hb dX4_takesVars_72 (lv_at hl 0 rfl) ?_
          obtain ⟨S6, h_S6, e_S6, hm⟩ := n_sti hm
          refine n_iast X hH hS (n := 120) (m_lay_at hT hk_x (by decide) (i := 15) rfl) h_S6 e_S6 dX4_takesVars_74 (fun H locs hH hS => ?_)
          refine lv_aload_n hx hb dX4_takesVars_75 rfl (lv_at hl 1 rfl) ?_
          refine r_getp X hH (k := 4) (a := (x + 7)) (j := 1) (b := (x + 2)) (A := 0) (B := 5) (m_lay_at hT hk_x (by decide) (i := 7) rfl) (by decide) rfl m_wi4 (by decide) in_2_71 rfl rfl rfl dX4_takesVars_76 ?_
          obtain ⟨S7, e_S7, hm⟩ := m_cal0_of hm
          refine r_cVv X hH hS (k := 9) (c_X9_advance (x := x) hT hk_x e_S7) mw_X9_advance in_3_182 (m_lay_at hT hk_x (by decide) (i := 2) rfl) (by decide) rfl rfl rfl ⟨rfl, rfl⟩ ⟨by decide, by decide⟩ ⟨Nat.zero_le _, Nat.zero_le _⟩ hl.1 (Nat.le_of_ble_eq_true rfl) dX4_takesVars_79 (fun H locs hH hS => ?_)
          obtain ⟨v8, e_v8, hm⟩ := m_let_of hm
          refine lv_iinc (v := v8) (lv' := [(4, .int v8), (5, .int v4), (0, .ref (x + 7)), (1, .int l1), (2, .int l2), (3, .int l3)]) hx hb dX4_takesVars_82 hl (k := 5) rfl (by rw [← e_v8]; rfl) (by decide) rfl (fun ls hl => ?_)
          refine lv_goto (tgt := 3) hx hb dX4_takesVars_85 (by decide) ?_
          exact ih S7 l1 l2 l3 v8 _ _ _ hH hS (lv_sub hl [2, 3, 4, 5, 0] rfl) hm
        · have hm := m_ite_t hm c5
          refine lv_aload_n hx hb dX4_takesVars_50 rfl (lv_at hl 1 rfl) ?_
          refine r_getp X hH (k := 4) (a := (x + 7)) (j := 1) (b := (x + 2)) (A := 0) (B := 5) (m_lay_at hT hk_x (by decide) (i := 7) rfl) (by decide) rfl m_wi4 (by decide) in_2_71 rfl rfl rfl dX4_takesVars_51 ?_
          refine lv_iconst (v := (3 : Int32)) hx hb dX4_takesVars_54 (by decide) ?_
          obtain ⟨v10, S9, e_S9, hm⟩ := m_call_of hm
          refine n_cVi X hH hS (k := 9) (c_X9_failsBy (x := x) hT hk_x e_S9) mw_X9_failsBy in_3_178 (m_lay_at hT hk_x (by decide) (i := 2) rfl) (by decide) rfl rfl rfl ⟨rfl, rfl⟩ ⟨by decide, by decide⟩ ⟨Nat.zero_le _, Nat.zero_le _⟩ hl.1 (Nat.le_of_ble_eq_true rfl) dX4_takesVars_55 (fun H locs hH hS => ?_)
          exact r_zret X hr hH hS hm dX4_takesVars_58
      · have hm := m_ite_f hm c2
        refine lv_aload_n hx hb dX4_takesVars_22 rfl (lv_at hl 0 rfl) ?_
        refine r_getp X hH (k := 4) (a := (x + 7)) (j := 1) (b := (x + 2)) (A := 0) (B := 5) (m_lay_at hT hk_x (by decide) (i := 7) rfl) (by decide) rfl m_wi4 (by decide) in_2_71 rfl rfl rfl dX4_takesVars_23 ?_
        refine lv_iconst (v := (1 : Int32)) hx hb dX4_takesVars_26 (by decide) ?_
        obtain ⟨v12, S11, e_S11, hm⟩ := m_call_of hm
        refine n_cVi X hH hS (k := 9) (c_X9_failsBy (x := x) hT hk_x e_S11) mw_X9_failsBy in_3_178 (m_lay_at hT hk_x (by decide) (i := 2) rfl) (by decide) rfl rfl rfl ⟨rfl, rfl⟩ ⟨by decide, by decide⟩ ⟨Nat.zero_le _, Nat.zero_le _⟩ hl.1 (Nat.le_of_ble_eq_true rfl) dX4_takesVars_27 (fun H locs hH hS => ?_)
        exact r_zret X hr hH hS hm dX4_takesVars_30
def f_X4_takesVars (x : Nat) (S : m_M) (i1 : Int32) (i2 : Int32) (i3 : Int32) : Option (Int32 × m_M) :=
    b_X4_takesVars_3 x m_fu S i1 i2 i3 i2
set_option maxHeartbeats 4000000 in
set_option maxRecDepth 100000 in
theorem c_X4_takesVars {l : Launch} {G : m_G} {nx : Nat} {κ : Nat → Nat} {x : Nat} {S : m_M} {i1 : Int32} {i2 : Int32} {i3 : Int32} {res : (Int32 × m_M)} (hT : m_Str κ) (hk_x : κ x = 12) (hm : f_X4_takesVars x S i1 i2 i3 = some res) : m_Ci l yX4_takesVars cX4_takesVars 6 (some .boolean) rm_X4_takesVars G nx κ [.ref (x + 7), .int i1, .int i2, .int i3] S res := by
  refine m_Ci.of (by decide) (Nat.le_of_ble_eq_true rfl) ?_
  intro p e s m args below meth c ls X hr hH hl
  have hx := X.1.1
  have hb := X.1.2.1
  have hS : m_S G s s.heap [] := va_S.rf
  have hl : lv_has ls 6 [(0, .ref (x + 7)), (1, .int i1), (2, .int i2), (3, .int i3)] := hl
  rw [f_X4_takesVars] at hm
  refine lv_iload_n hx hb dX4_takesVars_0 rfl (lv_at hl 2 rfl) ?_
  refine lv_istore (lv' := [(4, .int i2), (0, .ref (x + 7)), (1, .int i1), (2, .int i2), (3, .int i3)]) hx hb dX4_takesVars_1 hl (by decide) rfl (fun ls hl => ?_)
  exact k_X4_takesVars_3 (x := x) X hr hT hk_x  m_fu S i1 i2 i3 i2 _ _ _ hH hS (lv_sub hl [1, 2, 3, 4, 0] rfl) hm
def rm_X4_takesFun : Room := { frames := 1, cells := 0, slots := 0, locals := 23 }
def f_X4_takesFun (x : Nat) (S : m_M) (i1 : Int32) : Option (Int32 × m_M) :=
    if (m_ri S (x + 2) 9) = (2 : Int32) then (
    m_call (f_X3_funOf (x + 8) S (m_rj S (x + 2) 14)) fun v3 S2 =>
    if v3 = (-1 : Int32) then (
    m_call (f_X9_failsBy x S2 (3 : Int32)) fun v8 S7 =>
    if v8 = 0 ∨ v8 = 1 then some (v8, S7) else none) else (
    (m_sti S2 (x + 14) 24 i1 v3).bind fun S5 =>
    m_cal0 (f_X9_advance x S5) fun S6 =>
    if (1 : Int32) = 0 ∨ (1 : Int32) = 1 then some ((1 : Int32), S6) else none)) else (
    m_call (f_X9_failsBy x S (1 : Int32)) fun v10 S9 =>
    if v10 = 0 ∨ v10 = 1 then some (v10, S9) else none)
set_option maxHeartbeats 4000000 in
set_option maxRecDepth 100000 in
theorem c_X4_takesFun {l : Launch} {G : m_G} {nx : Nat} {κ : Nat → Nat} {x : Nat} {S : m_M} {i1 : Int32} {res : (Int32 × m_M)} (hT : m_Str κ) (hk_x : κ x = 12) (hm : f_X4_takesFun x S i1 = some res) : m_Ci l yX4_takesFun cX4_takesFun 3 (some .boolean) rm_X4_takesFun G nx κ [.ref (x + 7), .int i1] S res := by
  refine m_Ci.of (by decide) (Nat.le_of_ble_eq_true rfl) ?_
  intro p e s m args below meth c ls X hr hH hl
  have hx := X.1.1
  have hb := X.1.2.1
  have hS : m_S G s s.heap [] := va_S.rf
  have hl : lv_has ls 3 [(0, .ref (x + 7)), (1, .int i1)] := hl
  rw [f_X4_takesFun] at hm
  refine lv_aload_n hx hb dX4_takesFun_0 rfl (lv_at hl 0 rfl) ?_
  refine r_getp X hH (k := 4) (a := (x + 7)) (j := 1) (b := (x + 2)) (A := 0) (B := 5) (m_lay_at hT hk_x (by decide) (i := 7) rfl) (by decide) rfl m_wi4 (by decide) in_2_71 rfl rfl rfl dX4_takesFun_1 ?_
  refine r_geti X hH (k := 9) (a := (x + 2)) (j := 9) (m_lay_at hT hk_x (by decide) (i := 2) rfl) (by decide) rfl m_wi9 (by decide) in_1_104 rfl rfl dX4_takesFun_4 ?_
  refine lv_iconst (v := (2 : Int32)) hx hb dX4_takesFun_7 (by decide) ?_
  refine lv_icmp_eq (tgt := 20) hx hb dX4_takesFun_8 (by decide) (fun c1 => ?_) (fun c1 => ?_)
  · have hm := m_ite_t hm c1
    refine lv_aload_n hx hb dX4_takesFun_20 rfl (lv_at hl 0 rfl) ?_
    refine r_getp X hH (k := 4) (a := (x + 7)) (j := 0) (b := (x + 8)) (A := 1) (B := 0) (m_lay_at hT hk_x (by decide) (i := 7) rfl) (by decide) rfl m_wi4 (by decide) in_2_69 rfl rfl rfl dX4_takesFun_21 ?_
    refine lv_aload_n hx hb dX4_takesFun_24 rfl (lv_at hl 0 rfl) ?_
    refine r_getp X hH (k := 4) (a := (x + 7)) (j := 1) (b := (x + 2)) (A := 0) (B := 5) (m_lay_at hT hk_x (by decide) (i := 7) rfl) (by decide) rfl m_wi4 (by decide) in_2_71 rfl rfl rfl dX4_takesFun_25 ?_
    refine r_getj X hH (k := 9) (a := (x + 2)) (j := 14) (m_lay_at hT hk_x (by decide) (i := 2) rfl) (by decide) rfl m_wi9 (by decide) in_1_116 rfl rfl dX4_takesFun_28 ?_
    obtain ⟨v3, S2, e_S2, hm⟩ := m_call_of hm
    refine n_cVi X hH hS (k := 3) (c_X3_funOf (a := (x + 8)) hT (m_lay_at hT hk_x (by decide) (i := 8) rfl) e_S2) mw_X3_funOf in_3_183 (m_lay_at hT hk_x (by decide) (i := 8) rfl) (by decide) rfl rfl rfl ⟨rfl, rfl⟩ ⟨by decide, by decide⟩ ⟨Nat.zero_le _, Nat.zero_le _⟩ hl.1 (Nat.le_of_ble_eq_true rfl) dX4_takesFun_31 (fun H locs hH hS => ?_)
    refine lv_istore_n (lv' := [(2, .int v3), (0, .ref (x + 7)), (1, .int i1)]) hx hb dX4_takesFun_34 rfl hl (by decide) rfl (fun ls hl => ?_)
    refine lv_iload_n hx hb dX4_takesFun_35 rfl (lv_at hl 0 rfl) ?_
    refine lv_iconst (v := (-1 : Int32)) hx hb dX4_takesFun_36 (by decide) ?_
    refine lv_icmp_ne (tgt := 49) hx hb dX4_takesFun_37 (by decide) (fun c4 => ?_) (fun c4 => ?_)
    · have hm := m_ite_f hm c4
      refine lv_aload_n hx hb dX4_takesFun_49 rfl (lv_at hl 1 rfl) ?_
      refine r_getp X hH (k := 4) (a := (x + 7)) (j := 0) (b := (x + 8)) (A := 1) (B := 0) (m_lay_at hT hk_x (by decide) (i := 7) rfl) (by decide) rfl m_wi4 (by decide) in_2_69 rfl rfl rfl dX4_takesFun_50 ?_
      refine r_getp X hH (k := 3) (a := (x + 8)) (j := 7) (b := (x + 14)) (A := 6) (B := 0) (m_lay_at hT hk_x (by decide) (i := 8) rfl) (by decide) rfl m_wi3 (by decide) in_2_39 rfl rfl rfl dX4_takesFun_53 ?_
      refine lv_iload_n hx hb dX4_takesFun_56 rfl (lv_at hl 2 rfl) ?_
      refine lv_iload_n hx hb dX4_takesFun_57 rfl (lv_at hl 0 rfl) ?_
      obtain ⟨S5, h_S5, e_S5, hm⟩ := n_sti hm
      refine n_iast X hH hS (n := 24) (m_lay_at hT hk_x (by decide) (i := 14) rfl) h_S5 e_S5 dX4_takesFun_58 (fun H locs hH hS => ?_)
      refine lv_aload_n hx hb dX4_takesFun_59 rfl (lv_at hl 1 rfl) ?_
      refine r_getp X hH (k := 4) (a := (x + 7)) (j := 1) (b := (x + 2)) (A := 0) (B := 5) (m_lay_at hT hk_x (by decide) (i := 7) rfl) (by decide) rfl m_wi4 (by decide) in_2_71 rfl rfl rfl dX4_takesFun_60 ?_
      obtain ⟨S6, e_S6, hm⟩ := m_cal0_of hm
      refine r_cVv X hH hS (k := 9) (c_X9_advance (x := x) hT hk_x e_S6) mw_X9_advance in_3_182 (m_lay_at hT hk_x (by decide) (i := 2) rfl) (by decide) rfl rfl rfl ⟨rfl, rfl⟩ ⟨by decide, by decide⟩ ⟨Nat.zero_le _, Nat.zero_le _⟩ hl.1 (Nat.le_of_ble_eq_true rfl) dX4_takesFun_63 (fun H locs hH hS => ?_)
      refine lv_iconst (v := (1 : Int32)) hx hb dX4_takesFun_66 (by decide) ?_
      exact r_zret X hr hH hS hm dX4_takesFun_67
    · have hm := m_ite_t hm c4
      refine lv_aload_n hx hb dX4_takesFun_40 rfl (lv_at hl 1 rfl) ?_
      refine r_getp X hH (k := 4) (a := (x + 7)) (j := 1) (b := (x + 2)) (A := 0) (B := 5) (m_lay_at hT hk_x (by decide) (i := 7) rfl) (by decide) rfl m_wi4 (by decide) in_2_71 rfl rfl rfl dX4_takesFun_41 ?_
      refine lv_iconst (v := (3 : Int32)) hx hb dX4_takesFun_44 (by decide) ?_
      obtain ⟨v8, S7, e_S7, hm⟩ := m_call_of hm
      refine n_cVi X hH hS (k := 9) (c_X9_failsBy (x := x) hT hk_x e_S7) mw_X9_failsBy in_3_178 (m_lay_at hT hk_x (by decide) (i := 2) rfl) (by decide) rfl rfl rfl ⟨rfl, rfl⟩ ⟨by decide, by decide⟩ ⟨Nat.zero_le _, Nat.zero_le _⟩ hl.1 (Nat.le_of_ble_eq_true rfl) dX4_takesFun_45 (fun H locs hH hS => ?_)
      exact r_zret X hr hH hS hm dX4_takesFun_48
  · have hm := m_ite_f hm c1
    refine lv_aload_n hx hb dX4_takesFun_11 rfl (lv_at hl 0 rfl) ?_
    refine r_getp X hH (k := 4) (a := (x + 7)) (j := 1) (b := (x + 2)) (A := 0) (B := 5) (m_lay_at hT hk_x (by decide) (i := 7) rfl) (by decide) rfl m_wi4 (by decide) in_2_71 rfl rfl rfl dX4_takesFun_12 ?_
    refine lv_iconst (v := (1 : Int32)) hx hb dX4_takesFun_15 (by decide) ?_
    obtain ⟨v10, S9, e_S9, hm⟩ := m_call_of hm
    refine n_cVi X hH hS (k := 9) (c_X9_failsBy (x := x) hT hk_x e_S9) mw_X9_failsBy in_3_178 (m_lay_at hT hk_x (by decide) (i := 2) rfl) (by decide) rfl rfl rfl ⟨rfl, rfl⟩ ⟨by decide, by decide⟩ ⟨Nat.zero_le _, Nat.zero_le _⟩ hl.1 (Nat.le_of_ble_eq_true rfl) dX4_takesFun_16 (fun H locs hH hS => ?_)
    exact r_zret X hr hH hS hm dX4_takesFun_19
def rm_X4_readsWhen : Room := { frames := 2, cells := 0, slots := 0, locals := 48 }
def b_X4_readsWhen_79 (x : Nat)  (S : m_M)  : Option (Int32 × m_M) :=
    if (0 : Int32) = 0 ∨ (0 : Int32) = 1 then some ((0 : Int32), S) else none
set_option maxHeartbeats 4000000 in
set_option maxRecDepth 100000 in
theorem k_X4_readsWhen_79 {p : Program} {l : Launch} {e : Env} {s : State} {m : MethodId} {args : Array Value} {below : List Frame} {meth : Method} {c : Code} {G : m_G} {nx : Nat} {κ : Nat → Nat} {res : (Int32 × m_M)} {x : Nat} (X : m_Cx p s m args meth c cX4_readsWhen 4 RX4 G) (hr : meth.sig.returnType = (some .boolean)) (hT : m_Str κ) (hk_x : κ x = 12)  : ∀ (S : m_M)  (H : Heap) (locs : List Loc) (ls : Array Slot), m_H G nx κ S H → m_S G s H locs → lv_has ls 4 [] → b_X4_readsWhen_79 x S  = some res → W p l e rm_X4_readsWhen s m args below meth c H locs 0 0 (m_Qi below args s G nx κ res) (F0 m 79 ls []) := by
  have hx := X.1.1
  have hb := X.1.2.1
  intro S H locs ls hH hS hl hm
  rw [b_X4_readsWhen_79] at hm
  refine lv_iconst (v := (0 : Int32)) hx hb dX4_readsWhen_79 (by decide) ?_
  exact r_zret X hr hH hS hm dX4_readsWhen_80
def f_X4_readsWhen (x : Nat) (S : m_M) (i1 : Int32) : Option (Int32 × m_M) :=
    m_call (f_X4_takesVars x S i1 (0 : Int32) (1 : Int32)) fun v2 S1 =>
    if v2 = 0 then (
    if (0 : Int32) = 0 ∨ (0 : Int32) = 1 then some ((0 : Int32), S1) else none) else (
    (m_ldi S1 (x + 15) 120 (i1 * (5 : Int32))).bind fun v4 =>
    m_call (f_X4_takesFun x S1 i1) fun v6 S5 =>
    if v6 = 0 then (
    if (0 : Int32) = 0 ∨ (0 : Int32) = 1 then some ((0 : Int32), S5) else none) else (
    m_call (f_X3_argumentCount (x + 8) S5 i1) fun v9 S8 =>
    (m_sti S8 (x + 15) 120 ((i1 * (5 : Int32)) + v9) v4).bind fun S10 =>
    m_call (f_X4_takesVars x S10 i1 (0 : Int32) v9) fun v12 S11 =>
    if v12 = 0 then (
    b_X4_readsWhen_79 x S11) else (
    m_call (f_X9_takesKeyword x S11 (10 : Int32)) fun v15 S14 =>
    if v15 = 0 then (
    b_X4_readsWhen_79 x S14) else (
    m_call (f_X4_takesVars x S14 i1 (v9 + (1 : Int32)) (1 : Int32)) fun v18 S17 =>
    if v18 = 0 ∨ v18 = 1 then some (v18, S17) else none))))
set_option maxHeartbeats 4000000 in
set_option maxRecDepth 100000 in
theorem c_X4_readsWhen {l : Launch} {G : m_G} {nx : Nat} {κ : Nat → Nat} {x : Nat} {S : m_M} {i1 : Int32} {res : (Int32 × m_M)} (hT : m_Str κ) (hk_x : κ x = 12) (hm : f_X4_readsWhen x S i1 = some res) : m_Ci l yX4_readsWhen cX4_readsWhen 4 (some .boolean) rm_X4_readsWhen G nx κ [.ref (x + 7), .int i1] S res := by
  refine m_Ci.of (by decide) (Nat.le_of_ble_eq_true rfl) ?_
  intro p e s m args below meth c ls X hr hH hl
  have hx := X.1.1
  have hb := X.1.2.1
  have hS : m_S G s s.heap [] := va_S.rf
  have hl : lv_has ls 4 [(0, .ref (x + 7)), (1, .int i1)] := hl
  rw [f_X4_readsWhen] at hm
  refine lv_aload_n hx hb dX4_readsWhen_0 rfl (lv_at hl 0 rfl) ?_
  refine lv_iload_n hx hb dX4_readsWhen_1 rfl (lv_at hl 1 rfl) ?_
  refine lv_iconst (v := (0 : Int32)) hx hb dX4_readsWhen_2 (by decide) ?_
  refine lv_iconst (v := (1 : Int32)) hx hb dX4_readsWhen_3 (by decide) ?_
  obtain ⟨v2, S1, e_S1, hm⟩ := m_call_of hm
  refine n_cVi X hH hS (k := 4) (c_X4_takesVars (x := x) hT hk_x e_S1) mw_X4_takesVars in_3_216 (m_lay_at hT hk_x (by decide) (i := 7) rfl) (by decide) rfl rfl rfl ⟨rfl, rfl⟩ ⟨by decide, by decide⟩ ⟨Nat.zero_le _, Nat.zero_le _⟩ hl.1 (Nat.le_of_ble_eq_true rfl) dX4_readsWhen_4 (fun H locs hH hS => ?_)
  refine lv_if_ne (tgt := 12) hx hb dX4_readsWhen_7 (by decide) (fun c3 => ?_) (fun c3 => ?_)
  · have hm := m_ite_f hm c3
    refine lv_aload_n hx hb dX4_readsWhen_12 rfl (lv_at hl 0 rfl) ?_
    refine r_getp X hH (k := 4) (a := (x + 7)) (j := 0) (b := (x + 8)) (A := 1) (B := 0) (m_lay_at hT hk_x (by decide) (i := 7) rfl) (by decide) rfl m_wi4 (by decide) in_2_69 rfl rfl rfl dX4_readsWhen_13 ?_
    refine r_getp X hH (k := 3) (a := (x + 8)) (j := 8) (b := (x + 15)) (A := 7) (B := 0) (m_lay_at hT hk_x (by decide) (i := 8) rfl) (by decide) rfl m_wi3 (by decide) in_2_42 rfl rfl rfl dX4_readsWhen_16 ?_
    refine lv_iload_n hx hb dX4_readsWhen_19 rfl (lv_at hl 1 rfl) ?_
    refine lv_iconst (v := (5 : Int32)) hx hb dX4_readsWhen_20 (by decide) ?_
    refine lv_imul hx hb dX4_readsWhen_21 ?_
    obtain ⟨v4, h_v4, e_v4, hm⟩ := n_ldi hm
    refine n_iald X hH (n := 120) (m_lay_at hT hk_x (by decide) (i := 15) rfl) h_v4 e_v4 dX4_readsWhen_22 ?_
    refine lv_istore_n (lv' := [(2, .int v4), (0, .ref (x + 7)), (1, .int i1)]) hx hb dX4_readsWhen_23 rfl hl (by decide) rfl (fun ls hl => ?_)
    refine lv_aload_n hx hb dX4_readsWhen_24 rfl (lv_at hl 1 rfl) ?_
    refine lv_iload_n hx hb dX4_readsWhen_25 rfl (lv_at hl 2 rfl) ?_
    obtain ⟨v6, S5, e_S5, hm⟩ := m_call_of hm
    refine n_cVi X hH hS (k := 4) (c_X4_takesFun (x := x) hT hk_x e_S5) mw_X4_takesFun in_3_220 (m_lay_at hT hk_x (by decide) (i := 7) rfl) (by decide) rfl rfl rfl ⟨rfl, rfl⟩ ⟨by decide, by decide⟩ ⟨Nat.zero_le _, Nat.zero_le _⟩ hl.1 (Nat.le_of_ble_eq_true rfl) dX4_readsWhen_26 (fun H locs hH hS => ?_)
    refine lv_if_ne (tgt := 34) hx hb dX4_readsWhen_29 (by decide) (fun c7 => ?_) (fun c7 => ?_)
    · have hm := m_ite_f hm c7
      refine lv_aload_n hx hb dX4_readsWhen_34 rfl (lv_at hl 1 rfl) ?_
      refine r_getp X hH (k := 4) (a := (x + 7)) (j := 0) (b := (x + 8)) (A := 1) (B := 0) (m_lay_at hT hk_x (by decide) (i := 7) rfl) (by decide) rfl m_wi4 (by decide) in_2_69 rfl rfl rfl dX4_readsWhen_35 ?_
      refine lv_iload_n hx hb dX4_readsWhen_38 rfl (lv_at hl 2 rfl) ?_
      obtain ⟨v9, S8, e_S8, hm⟩ := m_call_of hm
      refine n_cVi X hH hS (k := 3) (c_X3_argumentCount (a := (x + 8)) hT (m_lay_at hT hk_x (by decide) (i := 8) rfl) e_S8) mw_X3_argumentCount in_3_224 (m_lay_at hT hk_x (by decide) (i := 8) rfl) (by decide) rfl rfl rfl ⟨rfl, rfl⟩ ⟨by decide, by decide⟩ ⟨Nat.zero_le _, Nat.zero_le _⟩ hl.1 (Nat.le_of_ble_eq_true rfl) dX4_readsWhen_39 (fun H locs hH hS => ?_)
      refine lv_istore_n (lv' := [(3, .int v9), (2, .int v4), (0, .ref (x + 7)), (1, .int i1)]) hx hb dX4_readsWhen_42 rfl hl (by decide) rfl (fun ls hl => ?_)
      refine lv_aload_n hx hb dX4_readsWhen_43 rfl (lv_at hl 2 rfl) ?_
      refine r_getp X hH (k := 4) (a := (x + 7)) (j := 0) (b := (x + 8)) (A := 1) (B := 0) (m_lay_at hT hk_x (by decide) (i := 7) rfl) (by decide) rfl m_wi4 (by decide) in_2_69 rfl rfl rfl dX4_readsWhen_44 ?_
      refine r_getp X hH (k := 3) (a := (x + 8)) (j := 8) (b := (x + 15)) (A := 7) (B := 0) (m_lay_at hT hk_x (by decide) (i := 8) rfl) (by decide) rfl m_wi3 (by decide) in_2_42 rfl rfl rfl dX4_readsWhen_47 ?_
      refine lv_iload_n hx hb dX4_readsWhen_50 rfl (lv_at hl 3 rfl) ?_
      refine lv_iconst (v := (5 : Int32)) hx hb dX4_readsWhen_51 (by decide) ?_
      refine lv_imul hx hb dX4_readsWhen_52 ?_
      refine lv_iload_n hx hb dX4_readsWhen_53 rfl (lv_at hl 0 rfl) ?_
      refine lv_iadd hx hb dX4_readsWhen_54 ?_
      refine lv_iload_n hx hb dX4_readsWhen_55 rfl (lv_at hl 1 rfl) ?_
      obtain ⟨S10, h_S10, e_S10, hm⟩ := n_sti hm
      refine n_iast X hH hS (n := 120) (m_lay_at hT hk_x (by decide) (i := 15) rfl) h_S10 e_S10 dX4_readsWhen_56 (fun H locs hH hS => ?_)
      refine lv_aload_n hx hb dX4_readsWhen_57 rfl (lv_at hl 2 rfl) ?_
      refine lv_iload_n hx hb dX4_readsWhen_58 rfl (lv_at hl 3 rfl) ?_
      refine lv_iconst (v := (0 : Int32)) hx hb dX4_readsWhen_59 (by decide) ?_
      refine lv_iload_n hx hb dX4_readsWhen_60 rfl (lv_at hl 0 rfl) ?_
      obtain ⟨v12, S11, e_S11, hm⟩ := m_call_of hm
      refine n_cVi X hH hS (k := 4) (c_X4_takesVars (x := x) hT hk_x e_S11) mw_X4_takesVars in_3_216 (m_lay_at hT hk_x (by decide) (i := 7) rfl) (by decide) rfl rfl rfl ⟨rfl, rfl⟩ ⟨by decide, by decide⟩ ⟨Nat.zero_le _, Nat.zero_le _⟩ hl.1 (Nat.le_of_ble_eq_true rfl) dX4_readsWhen_61 (fun H locs hH hS => ?_)
      refine lv_if_eq (tgt := 79) hx hb dX4_readsWhen_64 (by decide) (fun c13 => ?_) (fun c13 => ?_)
      · have hm := m_ite_t hm c13
        exact k_X4_readsWhen_79 (x := x) X hr hT hk_x   S11 _ _ _ hH hS (lv_sub hl [] rfl) hm
      · have hm := m_ite_f hm c13
        refine lv_aload_n hx hb dX4_readsWhen_67 rfl (lv_at hl 2 rfl) ?_
        refine r_getp X hH (k := 4) (a := (x + 7)) (j := 1) (b := (x + 2)) (A := 0) (B := 5) (m_lay_at hT hk_x (by decide) (i := 7) rfl) (by decide) rfl m_wi4 (by decide) in_2_71 rfl rfl rfl dX4_readsWhen_68 ?_
        refine lv_bipush (v := (10 : Int32)) hx hb dX4_readsWhen_71 (by decide) ?_
        obtain ⟨v15, S14, e_S14, hm⟩ := m_call_of hm
        refine n_cVi X hH hS (k := 9) (c_X9_takesKeyword (x := x) hT hk_x e_S14) mw_X9_takesKeyword in_3_207 (m_lay_at hT hk_x (by decide) (i := 2) rfl) (by decide) rfl rfl rfl ⟨rfl, rfl⟩ ⟨by decide, by decide⟩ ⟨Nat.zero_le _, Nat.zero_le _⟩ hl.1 (Nat.le_of_ble_eq_true rfl) dX4_readsWhen_73 (fun H locs hH hS => ?_)
        refine lv_if_ne (tgt := 81) hx hb dX4_readsWhen_76 (by decide) (fun c16 => ?_) (fun c16 => ?_)
        · have hm := m_ite_f hm c16
          refine lv_aload_n hx hb dX4_readsWhen_81 rfl (lv_at hl 2 rfl) ?_
          refine lv_iload_n hx hb dX4_readsWhen_82 rfl (lv_at hl 3 rfl) ?_
          refine lv_iload_n hx hb dX4_readsWhen_83 rfl (lv_at hl 0 rfl) ?_
          refine lv_iconst (v := (1 : Int32)) hx hb dX4_readsWhen_84 (by decide) ?_
          refine lv_iadd hx hb dX4_readsWhen_85 ?_
          refine lv_iconst (v := (1 : Int32)) hx hb dX4_readsWhen_86 (by decide) ?_
          obtain ⟨v18, S17, e_S17, hm⟩ := m_call_of hm
          refine n_cVi X hH hS (k := 4) (c_X4_takesVars (x := x) hT hk_x e_S17) mw_X4_takesVars in_3_216 (m_lay_at hT hk_x (by decide) (i := 7) rfl) (by decide) rfl rfl rfl ⟨rfl, rfl⟩ ⟨by decide, by decide⟩ ⟨Nat.zero_le _, Nat.zero_le _⟩ hl.1 (Nat.le_of_ble_eq_true rfl) dX4_readsWhen_87 (fun H locs hH hS => ?_)
          exact r_zret X hr hH hS hm dX4_readsWhen_90
        · have hm := m_ite_t hm c16
          exact k_X4_readsWhen_79 (x := x) X hr hT hk_x   S14 _ _ _ hH hS (lv_sub hl [] rfl) hm
    · have hm := m_ite_t hm c7
      refine lv_iconst (v := (0 : Int32)) hx hb dX4_readsWhen_32 (by decide) ?_
      exact r_zret X hr hH hS hm dX4_readsWhen_33
  · have hm := m_ite_t hm c3
    refine lv_iconst (v := (0 : Int32)) hx hb dX4_readsWhen_10 (by decide) ?_
    exact r_zret X hr hH hS hm dX4_readsWhen_11
def rm_X4_readsExpr : Room := { frames := 3, cells := 0, slots := 0, locals := 71 }
def b_X4_readsExpr_102 (x : Nat)  (S : m_M)  : Option (Int32 × m_M) :=
    m_call (f_X9_failsBy x S (1 : Int32)) fun v2 S1 =>
    if v2 = 0 ∨ v2 = 1 then some (v2, S1) else none
set_option maxHeartbeats 4000000 in
set_option maxRecDepth 100000 in
theorem k_X4_readsExpr_102 {p : Program} {l : Launch} {e : Env} {s : State} {m : MethodId} {args : Array Value} {below : List Frame} {meth : Method} {c : Code} {G : m_G} {nx : Nat} {κ : Nat → Nat} {res : (Int32 × m_M)} {x : Nat} (X : m_Cx p s m args meth c cX4_readsExpr 2 RX4 G) (hr : meth.sig.returnType = (some .boolean)) (hT : m_Str κ) (hk_x : κ x = 12)  : ∀ (S : m_M)  (H : Heap) (locs : List Loc) (ls : Array Slot), m_H G nx κ S H → m_S G s H locs → lv_has ls 2 [(0, .ref (x + 7))] → b_X4_readsExpr_102 x S  = some res → W p l e rm_X4_readsExpr s m args below meth c H locs 0 0 (m_Qi below args s G nx κ res) (F0 m 102 ls []) := by
  have hx := X.1.1
  have hb := X.1.2.1
  intro S H locs ls hH hS hl hm
  rw [b_X4_readsExpr_102] at hm
  refine lv_aload_n hx hb dX4_readsExpr_102 rfl (lv_at hl 0 rfl) ?_
  refine r_getp X hH (k := 4) (a := (x + 7)) (j := 1) (b := (x + 2)) (A := 0) (B := 5) (m_lay_at hT hk_x (by decide) (i := 7) rfl) (by decide) rfl m_wi4 (by decide) in_2_71 rfl rfl rfl dX4_readsExpr_103 ?_
  refine lv_iconst (v := (1 : Int32)) hx hb dX4_readsExpr_106 (by decide) ?_
  obtain ⟨v2, S1, e_S1, hm⟩ := m_call_of hm
  refine n_cVi X hH hS (k := 9) (c_X9_failsBy (x := x) hT hk_x e_S1) mw_X9_failsBy in_3_178 (m_lay_at hT hk_x (by decide) (i := 2) rfl) (by decide) rfl rfl rfl ⟨rfl, rfl⟩ ⟨by decide, by decide⟩ ⟨Nat.zero_le _, Nat.zero_le _⟩ hl.1 (Nat.le_of_ble_eq_true rfl) dX4_readsExpr_107 (fun H locs hH hS => ?_)
  exact r_zret X hr hH hS hm dX4_readsExpr_110
def b_X4_readsExpr_184 (x : Nat)  (S : m_M) (l1 : Int32) : Option (Int32 × m_M) :=
    m_call (f_X4_takesVars x S l1 (0 : Int32) (1 : Int32)) fun v2 S1 =>
    if v2 = 0 ∨ v2 = 1 then some (v2, S1) else none
set_option maxHeartbeats 4000000 in
set_option maxRecDepth 100000 in
theorem k_X4_readsExpr_184 {p : Program} {l : Launch} {e : Env} {s : State} {m : MethodId} {args : Array Value} {below : List Frame} {meth : Method} {c : Code} {G : m_G} {nx : Nat} {κ : Nat → Nat} {res : (Int32 × m_M)} {x : Nat} (X : m_Cx p s m args meth c cX4_readsExpr 2 RX4 G) (hr : meth.sig.returnType = (some .boolean)) (hT : m_Str κ) (hk_x : κ x = 12)  : ∀ (S : m_M) (l1 : Int32) (H : Heap) (locs : List Loc) (ls : Array Slot), m_H G nx κ S H → m_S G s H locs → lv_has ls 2 [(0, .ref (x + 7)), (1, .int l1)] → b_X4_readsExpr_184 x S l1 = some res → W p l e rm_X4_readsExpr s m args below meth c H locs 0 0 (m_Qi below args s G nx κ res) (F0 m 184 ls []) := by
  have hx := X.1.1
  have hb := X.1.2.1
  intro S l1 H locs ls hH hS hl hm
  rw [b_X4_readsExpr_184] at hm
  refine lv_aload_n hx hb dX4_readsExpr_184 rfl (lv_at hl 0 rfl) ?_
  refine lv_iload_n hx hb dX4_readsExpr_185 rfl (lv_at hl 1 rfl) ?_
  refine lv_iconst (v := (0 : Int32)) hx hb dX4_readsExpr_186 (by decide) ?_
  refine lv_iconst (v := (1 : Int32)) hx hb dX4_readsExpr_187 (by decide) ?_
  obtain ⟨v2, S1, e_S1, hm⟩ := m_call_of hm
  refine n_cVi X hH hS (k := 4) (c_X4_takesVars (x := x) hT hk_x e_S1) mw_X4_takesVars in_3_216 (m_lay_at hT hk_x (by decide) (i := 7) rfl) (by decide) rfl rfl rfl ⟨rfl, rfl⟩ ⟨by decide, by decide⟩ ⟨Nat.zero_le _, Nat.zero_le _⟩ hl.1 (Nat.le_of_ble_eq_true rfl) dX4_readsExpr_188 (fun H locs hH hS => ?_)
  exact r_zret X hr hH hS hm dX4_readsExpr_191
def b_X4_readsExpr_230 (x : Nat)  (S : m_M) (t0 : Int32) : Option (Int32 × m_M) :=
    if t0 = 0 ∨ t0 = 1 then some (t0, S) else none
set_option maxHeartbeats 4000000 in
set_option maxRecDepth 100000 in
theorem k_X4_readsExpr_230 {p : Program} {l : Launch} {e : Env} {s : State} {m : MethodId} {args : Array Value} {below : List Frame} {meth : Method} {c : Code} {G : m_G} {nx : Nat} {κ : Nat → Nat} {res : (Int32 × m_M)} {x : Nat} (X : m_Cx p s m args meth c cX4_readsExpr 2 RX4 G) (hr : meth.sig.returnType = (some .boolean)) (hT : m_Str κ) (hk_x : κ x = 12)  : ∀ (S : m_M) (t0 : Int32) (H : Heap) (locs : List Loc) (ls : Array Slot), m_H G nx κ S H → m_S G s H locs → lv_has ls 2 [] → b_X4_readsExpr_230 x S t0 = some res → W p l e rm_X4_readsExpr s m args below meth c H locs 0 0 (m_Qi below args s G nx κ res) (F0 m 230 ls [.int t0]) := by
  have hx := X.1.1
  have hb := X.1.2.1
  intro S t0 H locs ls hH hS hl hm
  rw [b_X4_readsExpr_230] at hm
  exact r_zret X hr hH hS hm dX4_readsExpr_230
def b_X4_readsExpr_229 (x : Nat)  (S : m_M)  : Option (Int32 × m_M) :=
    b_X4_readsExpr_230 x S (0 : Int32)
set_option maxHeartbeats 4000000 in
set_option maxRecDepth 100000 in
theorem k_X4_readsExpr_229 {p : Program} {l : Launch} {e : Env} {s : State} {m : MethodId} {args : Array Value} {below : List Frame} {meth : Method} {c : Code} {G : m_G} {nx : Nat} {κ : Nat → Nat} {res : (Int32 × m_M)} {x : Nat} (X : m_Cx p s m args meth c cX4_readsExpr 2 RX4 G) (hr : meth.sig.returnType = (some .boolean)) (hT : m_Str κ) (hk_x : κ x = 12)  : ∀ (S : m_M)  (H : Heap) (locs : List Loc) (ls : Array Slot), m_H G nx κ S H → m_S G s H locs → lv_has ls 2 [] → b_X4_readsExpr_229 x S  = some res → W p l e rm_X4_readsExpr s m args below meth c H locs 0 0 (m_Qi below args s G nx κ res) (F0 m 229 ls []) := by
  have hx := X.1.1
  have hb := X.1.2.1
  intro S H locs ls hH hS hl hm
  rw [b_X4_readsExpr_229] at hm
  refine lv_iconst (v := (0 : Int32)) hx hb dX4_readsExpr_229 (by decide) ?_
  exact k_X4_readsExpr_230 (x := x) X hr hT hk_x   S (0 : Int32) _ _ _ hH hS hl hm
def b_X4_readsExpr_237 (x : Nat)  (S : m_M) (l1 : Int32) : Option (Int32 × m_M) :=
    m_call (f_X4_takesVars x S l1 (0 : Int32) (2 : Int32)) fun v2 S1 =>
    if v2 = 0 ∨ v2 = 1 then some (v2, S1) else none
set_option maxHeartbeats 4000000 in
set_option maxRecDepth 100000 in
theorem k_X4_readsExpr_237 {p : Program} {l : Launch} {e : Env} {s : State} {m : MethodId} {args : Array Value} {below : List Frame} {meth : Method} {c : Code} {G : m_G} {nx : Nat} {κ : Nat → Nat} {res : (Int32 × m_M)} {x : Nat} (X : m_Cx p s m args meth c cX4_readsExpr 2 RX4 G) (hr : meth.sig.returnType = (some .boolean)) (hT : m_Str κ) (hk_x : κ x = 12)  : ∀ (S : m_M) (l1 : Int32) (H : Heap) (locs : List Loc) (ls : Array Slot), m_H G nx κ S H → m_S G s H locs → lv_has ls 2 [(0, .ref (x + 7)), (1, .int l1)] → b_X4_readsExpr_237 x S l1 = some res → W p l e rm_X4_readsExpr s m args below meth c H locs 0 0 (m_Qi below args s G nx κ res) (F0 m 237 ls []) := by
  have hx := X.1.1
  have hb := X.1.2.1
  intro S l1 H locs ls hH hS hl hm
  rw [b_X4_readsExpr_237] at hm
  refine lv_aload_n hx hb dX4_readsExpr_237 rfl (lv_at hl 0 rfl) ?_
  refine lv_iload_n hx hb dX4_readsExpr_238 rfl (lv_at hl 1 rfl) ?_
  refine lv_iconst (v := (0 : Int32)) hx hb dX4_readsExpr_239 (by decide) ?_
  refine lv_iconst (v := (2 : Int32)) hx hb dX4_readsExpr_240 (by decide) ?_
  obtain ⟨v2, S1, e_S1, hm⟩ := m_call_of hm
  refine n_cVi X hH hS (k := 4) (c_X4_takesVars (x := x) hT hk_x e_S1) mw_X4_takesVars in_3_216 (m_lay_at hT hk_x (by decide) (i := 7) rfl) (by decide) rfl rfl rfl ⟨rfl, rfl⟩ ⟨by decide, by decide⟩ ⟨Nat.zero_le _, Nat.zero_le _⟩ hl.1 (Nat.le_of_ble_eq_true rfl) dX4_readsExpr_241 (fun H locs hH hS => ?_)
  exact r_zret X hr hH hS hm dX4_readsExpr_244
def f_X4_readsExpr (x : Nat) (S : m_M) (i1 : Int32) : Option (Int32 × m_M) :=
    if (m_ri S (x + 2) 9) = (4 : Int32) then (
    (m_sti S (x + 13) 24 i1 (22 : Int32)).bind fun S30 =>
    (m_sti S30 (x + 15) 120 (i1 * (5 : Int32)) (m_ri S30 (x + 2) 12)).bind fun S31 =>
    m_cal0 (f_X9_advance x S31) fun S32 =>
    if (1 : Int32) = 0 ∨ (1 : Int32) = 1 then some ((1 : Int32), S32) else none) else (
    if (m_ri S (x + 2) 9) = (2 : Int32) then (
    (m_sti S (x + 13) 24 i1 (23 : Int32)).bind fun S27 =>
    m_call (f_X4_takesVars x S27 i1 (0 : Int32) (1 : Int32)) fun v29 S28 =>
    if v29 = 0 ∨ v29 = 1 then some (v29, S28) else none) else (
    if (m_ri S (x + 2) 11) < (2 : Int32) then (
    b_X4_readsExpr_102 x S) else (
    if (m_ri S (x + 2) 11) ≤ (9 : Int32) then (
    (m_sti S (x + 13) 24 i1 (m_ri S (x + 2) 11)).bind fun S5 =>
    m_cal0 (f_X9_advance x S5) fun S6 =>
    (m_ldi S6 (x + 13) 24 i1).bind fun v7 =>
    if v7 = (3 : Int32) then (
    b_X4_readsExpr_184 x S6 i1) else (
    if v7 = (4 : Int32) then (
    b_X4_readsExpr_184 x S6 i1) else (
    if v7 = (5 : Int32) then (
    b_X4_readsExpr_237 x S6 i1) else (
    if v7 = (6 : Int32) then (
    b_X4_readsExpr_237 x S6 i1) else (
    if v7 = (7 : Int32) then (
    m_call (f_X4_takesVars x S6 i1 (0 : Int32) (3 : Int32)) fun v14 S13 =>
    if v14 = 0 ∨ v14 = 1 then some (v14, S13) else none) else (
    if v7 = (8 : Int32) then (
    m_call (f_X4_takesFun x S6 i1) fun v17 S16 =>
    if v17 = 0 then (
    b_X4_readsExpr_229 x S16) else (
    m_call (f_X3_argumentCount (x + 8) S16 i1) fun v20 S19 =>
    m_call (f_X4_takesVars x S19 i1 (0 : Int32) v20) fun v22 S21 =>
    if v22 = 0 then (
    b_X4_readsExpr_229 x S21) else (
    b_X4_readsExpr_230 x S21 (1 : Int32)))) else (
    if v7 = (9 : Int32) then (
    m_call (f_X4_readsWhen x S6 i1) fun v26 S25 =>
    if v26 = 0 ∨ v26 = 1 then some (v26, S25) else none) else (
    b_X4_readsExpr_237 x S6 i1)))))))) else (
    b_X4_readsExpr_102 x S))))
set_option maxHeartbeats 4000000 in
set_option maxRecDepth 100000 in
theorem c_X4_readsExpr {l : Launch} {G : m_G} {nx : Nat} {κ : Nat → Nat} {x : Nat} {S : m_M} {i1 : Int32} {res : (Int32 × m_M)} (hT : m_Str κ) (hk_x : κ x = 12) (hm : f_X4_readsExpr x S i1 = some res) : m_Ci l yX4_readsExpr cX4_readsExpr 2 (some .boolean) rm_X4_readsExpr G nx κ [.ref (x + 7), .int i1] S res := by
  refine m_Ci.of (by decide) (Nat.le_of_ble_eq_true rfl) ?_
  intro p e s m args below meth c ls X hr hH hl
  have hx := X.1.1
  have hb := X.1.2.1
  have hS : m_S G s s.heap [] := va_S.rf
  have hl : lv_has ls 2 [(0, .ref (x + 7)), (1, .int i1)] := hl
  rw [f_X4_readsExpr] at hm
  refine lv_aload_n hx hb dX4_readsExpr_0 rfl (lv_at hl 0 rfl) ?_
  refine r_getp X hH (k := 4) (a := (x + 7)) (j := 1) (b := (x + 2)) (A := 0) (B := 5) (m_lay_at hT hk_x (by decide) (i := 7) rfl) (by decide) rfl m_wi4 (by decide) in_2_71 rfl rfl rfl dX4_readsExpr_1 ?_
  refine r_geti X hH (k := 9) (a := (x + 2)) (j := 9) (m_lay_at hT hk_x (by decide) (i := 2) rfl) (by decide) rfl m_wi9 (by decide) in_1_104 rfl rfl dX4_readsExpr_4 ?_
  refine lv_iconst (v := (4 : Int32)) hx hb dX4_readsExpr_7 (by decide) ?_
  refine lv_icmp_ne (tgt := 49) hx hb dX4_readsExpr_8 (by decide) (fun c1 => ?_) (fun c1 => ?_)
  · have hm := m_ite_f hm c1
    refine lv_aload_n hx hb dX4_readsExpr_49 rfl (lv_at hl 0 rfl) ?_
    refine r_getp X hH (k := 4) (a := (x + 7)) (j := 1) (b := (x + 2)) (A := 0) (B := 5) (m_lay_at hT hk_x (by decide) (i := 7) rfl) (by decide) rfl m_wi4 (by decide) in_2_71 rfl rfl rfl dX4_readsExpr_50 ?_
    refine r_geti X hH (k := 9) (a := (x + 2)) (j := 9) (m_lay_at hT hk_x (by decide) (i := 2) rfl) (by decide) rfl m_wi9 (by decide) in_1_104 rfl rfl dX4_readsExpr_53 ?_
    refine lv_iconst (v := (2 : Int32)) hx hb dX4_readsExpr_56 (by decide) ?_
    refine lv_icmp_ne (tgt := 79) hx hb dX4_readsExpr_57 (by decide) (fun c2 => ?_) (fun c2 => ?_)
    · have hm := m_ite_f hm c2
      refine lv_aload_n hx hb dX4_readsExpr_79 rfl (lv_at hl 0 rfl) ?_
      refine r_getp X hH (k := 4) (a := (x + 7)) (j := 1) (b := (x + 2)) (A := 0) (B := 5) (m_lay_at hT hk_x (by decide) (i := 7) rfl) (by decide) rfl m_wi4 (by decide) in_2_71 rfl rfl rfl dX4_readsExpr_80 ?_
      refine r_geti X hH (k := 9) (a := (x + 2)) (j := 11) (m_lay_at hT hk_x (by decide) (i := 2) rfl) (by decide) rfl m_wi9 (by decide) in_1_108 rfl rfl dX4_readsExpr_83 ?_
      refine lv_iconst (v := (2 : Int32)) hx hb dX4_readsExpr_86 (by decide) ?_
      refine lv_icmp_lt (tgt := 102) hx hb dX4_readsExpr_87 (by decide) (fun c3 => ?_) (fun c3 => ?_)
      · have hm := m_ite_t hm c3
        exact k_X4_readsExpr_102 (x := x) X hr hT hk_x   S _ _ _ hH hS (lv_sub hl [0] rfl) hm
      · have hm := m_ite_f hm c3
        refine lv_aload_n hx hb dX4_readsExpr_90 rfl (lv_at hl 0 rfl) ?_
        refine r_getp X hH (k := 4) (a := (x + 7)) (j := 1) (b := (x + 2)) (A := 0) (B := 5) (m_lay_at hT hk_x (by decide) (i := 7) rfl) (by decide) rfl m_wi4 (by decide) in_2_71 rfl rfl rfl dX4_readsExpr_91 ?_
        refine r_geti X hH (k := 9) (a := (x + 2)) (j := 11) (m_lay_at hT hk_x (by decide) (i := 2) rfl) (by decide) rfl m_wi9 (by decide) in_1_108 rfl rfl dX4_readsExpr_94 ?_
        refine lv_bipush (v := (9 : Int32)) hx hb dX4_readsExpr_97 (by decide) ?_
        refine lv_icmp_le (tgt := 111) hx hb dX4_readsExpr_99 (by decide) (fun c4 => ?_) (fun c4 => ?_)
        · have hm := m_ite_t hm c4
          refine lv_aload_n hx hb dX4_readsExpr_111 rfl (lv_at hl 0 rfl) ?_
          refine r_getp X hH (k := 4) (a := (x + 7)) (j := 0) (b := (x + 8)) (A := 1) (B := 0) (m_lay_at hT hk_x (by decide) (i := 7) rfl) (by decide) rfl m_wi4 (by decide) in_2_69 rfl rfl rfl dX4_readsExpr_112 ?_
          refine r_getp X hH (k := 3) (a := (x + 8)) (j := 6) (b := (x + 13)) (A := 5) (B := 0) (m_lay_at hT hk_x (by decide) (i := 8) rfl) (by decide) rfl m_wi3 (by decide) in_2_34 rfl rfl rfl dX4_readsExpr_115 ?_
          refine lv_iload_n hx hb dX4_readsExpr_118 rfl (lv_at hl 1 rfl) ?_
          refine lv_aload_n hx hb dX4_readsExpr_119 rfl (lv_at hl 0 rfl) ?_
          refine r_getp X hH (k := 4) (a := (x + 7)) (j := 1) (b := (x + 2)) (A := 0) (B := 5) (m_lay_at hT hk_x (by decide) (i := 7) rfl) (by decide) rfl m_wi4 (by decide) in_2_71 rfl rfl rfl dX4_readsExpr_120 ?_
          refine r_geti X hH (k := 9) (a := (x + 2)) (j := 11) (m_lay_at hT hk_x (by decide) (i := 2) rfl) (by decide) rfl m_wi9 (by decide) in_1_108 rfl rfl dX4_readsExpr_123 ?_
          obtain ⟨S5, h_S5, e_S5, hm⟩ := n_sti hm
          refine n_iast X hH hS (n := 24) (m_lay_at hT hk_x (by decide) (i := 13) rfl) h_S5 e_S5 dX4_readsExpr_126 (fun H locs hH hS => ?_)
          refine lv_aload_n hx hb dX4_readsExpr_127 rfl (lv_at hl 0 rfl) ?_
          refine r_getp X hH (k := 4) (a := (x + 7)) (j := 1) (b := (x + 2)) (A := 0) (B := 5) (m_lay_at hT hk_x (by decide) (i := 7) rfl) (by decide) rfl m_wi4 (by decide) in_2_71 rfl rfl rfl dX4_readsExpr_128 ?_
          obtain ⟨S6, e_S6, hm⟩ := m_cal0_of hm
          refine r_cVv X hH hS (k := 9) (c_X9_advance (x := x) hT hk_x e_S6) mw_X9_advance in_3_182 (m_lay_at hT hk_x (by decide) (i := 2) rfl) (by decide) rfl rfl rfl ⟨rfl, rfl⟩ ⟨by decide, by decide⟩ ⟨Nat.zero_le _, Nat.zero_le _⟩ hl.1 (Nat.le_of_ble_eq_true rfl) dX4_readsExpr_131 (fun H locs hH hS => ?_)
          refine lv_aload_n hx hb dX4_readsExpr_134 rfl (lv_at hl 0 rfl) ?_
          refine r_getp X hH (k := 4) (a := (x + 7)) (j := 0) (b := (x + 8)) (A := 1) (B := 0) (m_lay_at hT hk_x (by decide) (i := 7) rfl) (by decide) rfl m_wi4 (by decide) in_2_69 rfl rfl rfl dX4_readsExpr_135 ?_
          refine r_getp X hH (k := 3) (a := (x + 8)) (j := 6) (b := (x + 13)) (A := 5) (B := 0) (m_lay_at hT hk_x (by decide) (i := 8) rfl) (by decide) rfl m_wi3 (by decide) in_2_34 rfl rfl rfl dX4_readsExpr_138 ?_
          refine lv_iload_n hx hb dX4_readsExpr_141 rfl (lv_at hl 1 rfl) ?_
          obtain ⟨v7, h_v7, e_v7, hm⟩ := n_ldi hm
          refine n_iald X hH (n := 24) (m_lay_at hT hk_x (by decide) (i := 13) rfl) h_v7 e_v7 dX4_readsExpr_142 ?_
          by_cases c8 : v7 = (3 : Int32)
          · have hm := m_ite_t hm c8
            refine lv_tableIn (off := 41) (tgt := 184) hx hb dX4_readsExpr_143 (by rw [c8]; decide) (by rw [c8]; decide) (by rw [c8]; rfl) (by decide) ?_
            exact k_X4_readsExpr_184 (x := x) X hr hT hk_x   S6 i1 _ _ _ hH hS hl hm
          · have hm := m_ite_f hm c8
            by_cases c9 : v7 = (4 : Int32)
            · have hm := m_ite_t hm c9
              refine lv_tableIn (off := 41) (tgt := 184) hx hb dX4_readsExpr_143 (by rw [c9]; decide) (by rw [c9]; decide) (by rw [c9]; rfl) (by decide) ?_
              exact k_X4_readsExpr_184 (x := x) X hr hT hk_x   S6 i1 _ _ _ hH hS hl hm
            · have hm := m_ite_f hm c9
              by_cases c10 : v7 = (5 : Int32)
              · have hm := m_ite_t hm c10
                refine lv_tableIn (off := 94) (tgt := 237) hx hb dX4_readsExpr_143 (by rw [c10]; decide) (by rw [c10]; decide) (by rw [c10]; rfl) (by decide) ?_
                exact k_X4_readsExpr_237 (x := x) X hr hT hk_x   S6 i1 _ _ _ hH hS hl hm
              · have hm := m_ite_f hm c10
                by_cases c11 : v7 = (6 : Int32)
                · have hm := m_ite_t hm c11
                  refine lv_tableIn (off := 94) (tgt := 237) hx hb dX4_readsExpr_143 (by rw [c11]; decide) (by rw [c11]; decide) (by rw [c11]; rfl) (by decide) ?_
                  exact k_X4_readsExpr_237 (x := x) X hr hT hk_x   S6 i1 _ _ _ hH hS hl hm
                · have hm := m_ite_f hm c11
                  by_cases c12 : v7 = (7 : Int32)
                  · have hm := m_ite_t hm c12
                    refine lv_tableIn (off := 49) (tgt := 192) hx hb dX4_readsExpr_143 (by rw [c12]; decide) (by rw [c12]; decide) (by rw [c12]; rfl) (by decide) ?_
                    refine lv_aload_n hx hb dX4_readsExpr_192 rfl (lv_at hl 0 rfl) ?_
                    refine lv_iload_n hx hb dX4_readsExpr_193 rfl (lv_at hl 1 rfl) ?_
                    refine lv_iconst (v := (0 : Int32)) hx hb dX4_readsExpr_194 (by decide) ?_
                    refine lv_iconst (v := (3 : Int32)) hx hb dX4_readsExpr_195 (by decide) ?_
                    obtain ⟨v14, S13, e_S13, hm⟩ := m_call_of hm
                    refine n_cVi X hH hS (k := 4) (c_X4_takesVars (x := x) hT hk_x e_S13) mw_X4_takesVars in_3_216 (m_lay_at hT hk_x (by decide) (i := 7) rfl) (by decide) rfl rfl rfl ⟨rfl, rfl⟩ ⟨by decide, by decide⟩ ⟨Nat.zero_le _, Nat.zero_le _⟩ hl.1 (Nat.le_of_ble_eq_true rfl) dX4_readsExpr_196 (fun H locs hH hS => ?_)
                    exact r_zret X hr hH hS hm dX4_readsExpr_199
                  · have hm := m_ite_f hm c12
                    by_cases c15 : v7 = (8 : Int32)
                    · have hm := m_ite_t hm c15
                      refine lv_tableIn (off := 57) (tgt := 200) hx hb dX4_readsExpr_143 (by rw [c15]; decide) (by rw [c15]; decide) (by rw [c15]; rfl) (by decide) ?_
                      refine lv_aload_n hx hb dX4_readsExpr_200 rfl (lv_at hl 0 rfl) ?_
                      refine lv_iload_n hx hb dX4_readsExpr_201 rfl (lv_at hl 1 rfl) ?_
                      obtain ⟨v17, S16, e_S16, hm⟩ := m_call_of hm
                      refine n_cVi X hH hS (k := 4) (c_X4_takesFun (x := x) hT hk_x e_S16) mw_X4_takesFun in_3_220 (m_lay_at hT hk_x (by decide) (i := 7) rfl) (by decide) rfl rfl rfl ⟨rfl, rfl⟩ ⟨by decide, by decide⟩ ⟨Nat.zero_le _, Nat.zero_le _⟩ hl.1 (Nat.le_of_ble_eq_true rfl) dX4_readsExpr_202 (fun H locs hH hS => ?_)
                      refine lv_if_eq (tgt := 229) hx hb dX4_readsExpr_205 (by decide) (fun c18 => ?_) (fun c18 => ?_)
                      · have hm := m_ite_t hm c18
                        exact k_X4_readsExpr_229 (x := x) X hr hT hk_x   S16 _ _ _ hH hS (lv_sub hl [] rfl) hm
                      · have hm := m_ite_f hm c18
                        refine lv_aload_n hx hb dX4_readsExpr_208 rfl (lv_at hl 0 rfl) ?_
                        refine lv_iload_n hx hb dX4_readsExpr_209 rfl (lv_at hl 1 rfl) ?_
                        refine lv_iconst (v := (0 : Int32)) hx hb dX4_readsExpr_210 (by decide) ?_
                        refine lv_aload_n hx hb dX4_readsExpr_211 rfl (lv_at hl 0 rfl) ?_
                        refine r_getp X hH (k := 4) (a := (x + 7)) (j := 0) (b := (x + 8)) (A := 1) (B := 0) (m_lay_at hT hk_x (by decide) (i := 7) rfl) (by decide) rfl m_wi4 (by decide) in_2_69 rfl rfl rfl dX4_readsExpr_212 ?_
                        refine lv_iload_n hx hb dX4_readsExpr_215 rfl (lv_at hl 1 rfl) ?_
                        obtain ⟨v20, S19, e_S19, hm⟩ := m_call_of hm
                        refine n_cVi X hH hS (k := 3) (c_X3_argumentCount (a := (x + 8)) hT (m_lay_at hT hk_x (by decide) (i := 8) rfl) e_S19) mw_X3_argumentCount in_3_224 (m_lay_at hT hk_x (by decide) (i := 8) rfl) (by decide) rfl rfl rfl ⟨rfl, rfl⟩ ⟨by decide, by decide⟩ ⟨Nat.zero_le _, Nat.zero_le _⟩ hl.1 (Nat.le_of_ble_eq_true rfl) dX4_readsExpr_216 (fun H locs hH hS => ?_)
                        obtain ⟨v22, S21, e_S21, hm⟩ := m_call_of hm
                        refine n_cVi X hH hS (k := 4) (c_X4_takesVars (x := x) hT hk_x e_S21) mw_X4_takesVars in_3_216 (m_lay_at hT hk_x (by decide) (i := 7) rfl) (by decide) rfl rfl rfl ⟨rfl, rfl⟩ ⟨by decide, by decide⟩ ⟨Nat.zero_le _, Nat.zero_le _⟩ hl.1 (Nat.le_of_ble_eq_true rfl) dX4_readsExpr_219 (fun H locs hH hS => ?_)
                        refine lv_if_eq (tgt := 229) hx hb dX4_readsExpr_222 (by decide) (fun c23 => ?_) (fun c23 => ?_)
                        · have hm := m_ite_t hm c23
                          exact k_X4_readsExpr_229 (x := x) X hr hT hk_x   S21 _ _ _ hH hS (lv_sub hl [] rfl) hm
                        · have hm := m_ite_f hm c23
                          refine lv_iconst (v := (1 : Int32)) hx hb dX4_readsExpr_225 (by decide) ?_
                          refine lv_goto (tgt := 230) hx hb dX4_readsExpr_226 (by decide) ?_
                          exact k_X4_readsExpr_230 (x := x) X hr hT hk_x   S21 (1 : Int32) _ _ _ hH hS (lv_sub hl [] rfl) hm
                    · have hm := m_ite_f hm c15
                      by_cases c24 : v7 = (9 : Int32)
                      · have hm := m_ite_t hm c24
                        refine lv_tableIn (off := 88) (tgt := 231) hx hb dX4_readsExpr_143 (by rw [c24]; decide) (by rw [c24]; decide) (by rw [c24]; rfl) (by decide) ?_
                        refine lv_aload_n hx hb dX4_readsExpr_231 rfl (lv_at hl 0 rfl) ?_
                        refine lv_iload_n hx hb dX4_readsExpr_232 rfl (lv_at hl 1 rfl) ?_
                        obtain ⟨v26, S25, e_S25, hm⟩ := m_call_of hm
                        refine n_cVi X hH hS (k := 4) (c_X4_readsWhen (x := x) hT hk_x e_S25) mw_X4_readsWhen in_3_228 (m_lay_at hT hk_x (by decide) (i := 7) rfl) (by decide) rfl rfl rfl ⟨rfl, rfl⟩ ⟨by decide, by decide⟩ ⟨Nat.zero_le _, Nat.zero_le _⟩ hl.1 (Nat.le_of_ble_eq_true rfl) dX4_readsExpr_233 (fun H locs hH hS => ?_)
                        exact r_zret X hr hH hS hm dX4_readsExpr_236
                      · have hm := m_ite_f hm c24
                        refine lv_tableOut (tgt := 237) hx hb dX4_readsExpr_143 (by have h_c8 := lv_neT (a := 3) c8 rfl; have h_c9 := lv_neT (a := 4) c9 rfl; have h_c10 := lv_neT (a := 5) c10 rfl; have h_c11 := lv_neT (a := 6) c11 rfl; have h_c12 := lv_neT (a := 7) c12 rfl; have h_c15 := lv_neT (a := 8) c15 rfl; have h_c24 := lv_neT (a := 9) c24 rfl; omega) (by decide) ?_
                        exact k_X4_readsExpr_237 (x := x) X hr hT hk_x   S6 i1 _ _ _ hH hS hl hm
        · have hm := m_ite_f hm c4
          exact k_X4_readsExpr_102 (x := x) X hr hT hk_x   S _ _ _ hH hS (lv_sub hl [0] rfl) hm
    · have hm := m_ite_t hm c2
      refine lv_aload_n hx hb dX4_readsExpr_60 rfl (lv_at hl 0 rfl) ?_
      refine r_getp X hH (k := 4) (a := (x + 7)) (j := 0) (b := (x + 8)) (A := 1) (B := 0) (m_lay_at hT hk_x (by decide) (i := 7) rfl) (by decide) rfl m_wi4 (by decide) in_2_69 rfl rfl rfl dX4_readsExpr_61 ?_
      refine r_getp X hH (k := 3) (a := (x + 8)) (j := 6) (b := (x + 13)) (A := 5) (B := 0) (m_lay_at hT hk_x (by decide) (i := 8) rfl) (by decide) rfl m_wi3 (by decide) in_2_34 rfl rfl rfl dX4_readsExpr_64 ?_
      refine lv_iload_n hx hb dX4_readsExpr_67 rfl (lv_at hl 1 rfl) ?_
      refine lv_bipush (v := (23 : Int32)) hx hb dX4_readsExpr_68 (by decide) ?_
      obtain ⟨S27, h_S27, e_S27, hm⟩ := n_sti hm
      refine n_iast X hH hS (n := 24) (m_lay_at hT hk_x (by decide) (i := 13) rfl) h_S27 e_S27 dX4_readsExpr_70 (fun H locs hH hS => ?_)
      refine lv_aload_n hx hb dX4_readsExpr_71 rfl (lv_at hl 0 rfl) ?_
      refine lv_iload_n hx hb dX4_readsExpr_72 rfl (lv_at hl 1 rfl) ?_
      refine lv_iconst (v := (0 : Int32)) hx hb dX4_readsExpr_73 (by decide) ?_
      refine lv_iconst (v := (1 : Int32)) hx hb dX4_readsExpr_74 (by decide) ?_
      obtain ⟨v29, S28, e_S28, hm⟩ := m_call_of hm
      refine n_cVi X hH hS (k := 4) (c_X4_takesVars (x := x) hT hk_x e_S28) mw_X4_takesVars in_3_216 (m_lay_at hT hk_x (by decide) (i := 7) rfl) (by decide) rfl rfl rfl ⟨rfl, rfl⟩ ⟨by decide, by decide⟩ ⟨Nat.zero_le _, Nat.zero_le _⟩ hl.1 (Nat.le_of_ble_eq_true rfl) dX4_readsExpr_75 (fun H locs hH hS => ?_)
      exact r_zret X hr hH hS hm dX4_readsExpr_78
  · have hm := m_ite_t hm c1
    refine lv_aload_n hx hb dX4_readsExpr_11 rfl (lv_at hl 0 rfl) ?_
    refine r_getp X hH (k := 4) (a := (x + 7)) (j := 0) (b := (x + 8)) (A := 1) (B := 0) (m_lay_at hT hk_x (by decide) (i := 7) rfl) (by decide) rfl m_wi4 (by decide) in_2_69 rfl rfl rfl dX4_readsExpr_12 ?_
    refine r_getp X hH (k := 3) (a := (x + 8)) (j := 6) (b := (x + 13)) (A := 5) (B := 0) (m_lay_at hT hk_x (by decide) (i := 8) rfl) (by decide) rfl m_wi3 (by decide) in_2_34 rfl rfl rfl dX4_readsExpr_15 ?_
    refine lv_iload_n hx hb dX4_readsExpr_18 rfl (lv_at hl 1 rfl) ?_
    refine lv_bipush (v := (22 : Int32)) hx hb dX4_readsExpr_19 (by decide) ?_
    obtain ⟨S30, h_S30, e_S30, hm⟩ := n_sti hm
    refine n_iast X hH hS (n := 24) (m_lay_at hT hk_x (by decide) (i := 13) rfl) h_S30 e_S30 dX4_readsExpr_21 (fun H locs hH hS => ?_)
    refine lv_aload_n hx hb dX4_readsExpr_22 rfl (lv_at hl 0 rfl) ?_
    refine r_getp X hH (k := 4) (a := (x + 7)) (j := 0) (b := (x + 8)) (A := 1) (B := 0) (m_lay_at hT hk_x (by decide) (i := 7) rfl) (by decide) rfl m_wi4 (by decide) in_2_69 rfl rfl rfl dX4_readsExpr_23 ?_
    refine r_getp X hH (k := 3) (a := (x + 8)) (j := 8) (b := (x + 15)) (A := 7) (B := 0) (m_lay_at hT hk_x (by decide) (i := 8) rfl) (by decide) rfl m_wi3 (by decide) in_2_42 rfl rfl rfl dX4_readsExpr_26 ?_
    refine lv_iload_n hx hb dX4_readsExpr_29 rfl (lv_at hl 1 rfl) ?_
    refine lv_iconst (v := (5 : Int32)) hx hb dX4_readsExpr_30 (by decide) ?_
    refine lv_imul hx hb dX4_readsExpr_31 ?_
    refine lv_aload_n hx hb dX4_readsExpr_32 rfl (lv_at hl 0 rfl) ?_
    refine r_getp X hH (k := 4) (a := (x + 7)) (j := 1) (b := (x + 2)) (A := 0) (B := 5) (m_lay_at hT hk_x (by decide) (i := 7) rfl) (by decide) rfl m_wi4 (by decide) in_2_71 rfl rfl rfl dX4_readsExpr_33 ?_
    refine r_geti X hH (k := 9) (a := (x + 2)) (j := 12) (m_lay_at hT hk_x (by decide) (i := 2) rfl) (by decide) rfl m_wi9 (by decide) in_1_111 rfl rfl dX4_readsExpr_36 ?_
    obtain ⟨S31, h_S31, e_S31, hm⟩ := n_sti hm
    refine n_iast X hH hS (n := 120) (m_lay_at hT hk_x (by decide) (i := 15) rfl) h_S31 e_S31 dX4_readsExpr_39 (fun H locs hH hS => ?_)
    refine lv_aload_n hx hb dX4_readsExpr_40 rfl (lv_at hl 0 rfl) ?_
    refine r_getp X hH (k := 4) (a := (x + 7)) (j := 1) (b := (x + 2)) (A := 0) (B := 5) (m_lay_at hT hk_x (by decide) (i := 7) rfl) (by decide) rfl m_wi4 (by decide) in_2_71 rfl rfl rfl dX4_readsExpr_41 ?_
    obtain ⟨S32, e_S32, hm⟩ := m_cal0_of hm
    refine r_cVv X hH hS (k := 9) (c_X9_advance (x := x) hT hk_x e_S32) mw_X9_advance in_3_182 (m_lay_at hT hk_x (by decide) (i := 2) rfl) (by decide) rfl rfl rfl ⟨rfl, rfl⟩ ⟨by decide, by decide⟩ ⟨Nat.zero_le _, Nat.zero_le _⟩ hl.1 (Nat.le_of_ble_eq_true rfl) dX4_readsExpr_44 (fun H locs hH hS => ?_)
    refine lv_iconst (v := (1 : Int32)) hx hb dX4_readsExpr_47 (by decide) ?_
    exact r_zret X hr hH hS hm dX4_readsExpr_48
def rm_X4_readsIs : Room := { frames := 4, cells := 0, slots := 0, locals := 92 }
def b_X4_readsIs_66 (x : Nat)  (S : m_M)  : Option (Int32 × m_M) :=
    m_call (f_X9_failsBy x S (4 : Int32)) fun v2 S1 =>
    if v2 = 0 ∨ v2 = 1 then some (v2, S1) else none
set_option maxHeartbeats 4000000 in
set_option maxRecDepth 100000 in
theorem k_X4_readsIs_66 {p : Program} {l : Launch} {e : Env} {s : State} {m : MethodId} {args : Array Value} {below : List Frame} {meth : Method} {c : Code} {G : m_G} {nx : Nat} {κ : Nat → Nat} {res : (Int32 × m_M)} {x : Nat} (X : m_Cx p s m args meth c cX4_readsIs 3 RX4 G) (hr : meth.sig.returnType = (some .boolean)) (hT : m_Str κ) (hk_x : κ x = 12)  : ∀ (S : m_M)  (H : Heap) (locs : List Loc) (ls : Array Slot), m_H G nx κ S H → m_S G s H locs → lv_has ls 3 [(0, .ref (x + 7))] → b_X4_readsIs_66 x S  = some res → W p l e rm_X4_readsIs s m args below meth c H locs 0 0 (m_Qi below args s G nx κ res) (F0 m 66 ls []) := by
  have hx := X.1.1
  have hb := X.1.2.1
  intro S H locs ls hH hS hl hm
  rw [b_X4_readsIs_66] at hm
  refine lv_aload_n hx hb dX4_readsIs_66 rfl (lv_at hl 0 rfl) ?_
  refine r_getp X hH (k := 4) (a := (x + 7)) (j := 1) (b := (x + 2)) (A := 0) (B := 5) (m_lay_at hT hk_x (by decide) (i := 7) rfl) (by decide) rfl m_wi4 (by decide) in_2_71 rfl rfl rfl dX4_readsIs_67 ?_
  refine lv_iconst (v := (4 : Int32)) hx hb dX4_readsIs_70 (by decide) ?_
  obtain ⟨v2, S1, e_S1, hm⟩ := m_call_of hm
  refine n_cVi X hH hS (k := 9) (c_X9_failsBy (x := x) hT hk_x e_S1) mw_X9_failsBy in_3_178 (m_lay_at hT hk_x (by decide) (i := 2) rfl) (by decide) rfl rfl rfl ⟨rfl, rfl⟩ ⟨by decide, by decide⟩ ⟨Nat.zero_le _, Nat.zero_le _⟩ hl.1 (Nat.le_of_ble_eq_true rfl) dX4_readsIs_71 (fun H locs hH hS => ?_)
  exact r_zret X hr hH hS hm dX4_readsIs_74
def b_X4_readsIs_115 (x : Nat)  (S : m_M)  : Option (Int32 × m_M) :=
    if (0 : Int32) = 0 ∨ (0 : Int32) = 1 then some ((0 : Int32), S) else none
set_option maxHeartbeats 4000000 in
set_option maxRecDepth 100000 in
theorem k_X4_readsIs_115 {p : Program} {l : Launch} {e : Env} {s : State} {m : MethodId} {args : Array Value} {below : List Frame} {meth : Method} {c : Code} {G : m_G} {nx : Nat} {κ : Nat → Nat} {res : (Int32 × m_M)} {x : Nat} (X : m_Cx p s m args meth c cX4_readsIs 3 RX4 G) (hr : meth.sig.returnType = (some .boolean)) (hT : m_Str κ) (hk_x : κ x = 12)  : ∀ (S : m_M)  (H : Heap) (locs : List Loc) (ls : Array Slot), m_H G nx κ S H → m_S G s H locs → lv_has ls 3 [] → b_X4_readsIs_115 x S  = some res → W p l e rm_X4_readsIs s m args below meth c H locs 0 0 (m_Qi below args s G nx κ res) (F0 m 115 ls []) := by
  have hx := X.1.1
  have hb := X.1.2.1
  intro S H locs ls hH hS hl hm
  rw [b_X4_readsIs_115] at hm
  refine lv_iconst (v := (0 : Int32)) hx hb dX4_readsIs_115 (by decide) ?_
  exact r_zret X hr hH hS hm dX4_readsIs_116
def f_X4_readsIs (x : Nat) (S : m_M)  : Option (Int32 × m_M) :=
    if (m_ri S (x + 2) 9) = (2 : Int32) then (
    m_call (f_X4_varOf x S (m_rj S (x + 2) 14)) fun v3 S2 =>
    if v3 = (-1 : Int32) then (
    if (m_ri S2 (x + 8) 0) = 0 then (
    b_X4_readsIs_66 x S2) else (
    if (m_ri S2 (x + 8) 1) < (24 : Int32) then (
    m_let (m_rj S2 (x + 2) 14) fun v7 =>
    m_cal0 (f_X9_advance x S2) fun S8 =>
    m_call (f_X9_takesKeyword x S8 (1 : Int32)) fun v10 S9 =>
    if v10 = 0 then (
    b_X4_readsIs_115 x S9) else (
    m_call (f_X4_readsExpr x S9 (m_ri S9 (x + 8) 1)) fun v13 S12 =>
    if v13 = 0 then (
    b_X4_readsIs_115 x S12) else (
    m_cal0 (f_X4_addVar x S12 v7) fun S15 =>
    m_cal0 (f_X3_closeLine (x + 8) S15) fun S16 =>
    if (1 : Int32) = 0 ∨ (1 : Int32) = 1 then some ((1 : Int32), S16) else none))) else (
    b_X4_readsIs_66 x S2))) else (
    m_call (f_X9_failsBy x S2 (3 : Int32)) fun v18 S17 =>
    if v18 = 0 ∨ v18 = 1 then some (v18, S17) else none)) else (
    m_call (f_X9_failsBy x S (1 : Int32)) fun v20 S19 =>
    if v20 = 0 ∨ v20 = 1 then some (v20, S19) else none)
set_option maxHeartbeats 4000000 in
set_option maxRecDepth 100000 in
theorem c_X4_readsIs {l : Launch} {G : m_G} {nx : Nat} {κ : Nat → Nat} {x : Nat} {S : m_M}  {res : (Int32 × m_M)} (hT : m_Str κ) (hk_x : κ x = 12) (hm : f_X4_readsIs x S = some res) : m_Ci l yX4_readsIs cX4_readsIs 3 (some .boolean) rm_X4_readsIs G nx κ [.ref (x + 7)] S res := by
  refine m_Ci.of (by decide) (Nat.le_of_ble_eq_true rfl) ?_
  intro p e s m args below meth c ls X hr hH hl
  have hx := X.1.1
  have hb := X.1.2.1
  have hS : m_S G s s.heap [] := va_S.rf
  have hl : lv_has ls 3 [(0, .ref (x + 7))] := hl
  rw [f_X4_readsIs] at hm
  refine lv_aload_n hx hb dX4_readsIs_0 rfl (lv_at hl 0 rfl) ?_
  refine r_getp X hH (k := 4) (a := (x + 7)) (j := 1) (b := (x + 2)) (A := 0) (B := 5) (m_lay_at hT hk_x (by decide) (i := 7) rfl) (by decide) rfl m_wi4 (by decide) in_2_71 rfl rfl rfl dX4_readsIs_1 ?_
  refine r_geti X hH (k := 9) (a := (x + 2)) (j := 9) (m_lay_at hT hk_x (by decide) (i := 2) rfl) (by decide) rfl m_wi9 (by decide) in_1_104 rfl rfl dX4_readsIs_4 ?_
  refine lv_iconst (v := (2 : Int32)) hx hb dX4_readsIs_7 (by decide) ?_
  refine lv_icmp_eq (tgt := 20) hx hb dX4_readsIs_8 (by decide) (fun c1 => ?_) (fun c1 => ?_)
  · have hm := m_ite_t hm c1
    refine lv_aload_n hx hb dX4_readsIs_20 rfl (lv_at hl 0 rfl) ?_
    refine lv_aload_n hx hb dX4_readsIs_21 rfl (lv_at hl 0 rfl) ?_
    refine r_getp X hH (k := 4) (a := (x + 7)) (j := 1) (b := (x + 2)) (A := 0) (B := 5) (m_lay_at hT hk_x (by decide) (i := 7) rfl) (by decide) rfl m_wi4 (by decide) in_2_71 rfl rfl rfl dX4_readsIs_22 ?_
    refine r_getj X hH (k := 9) (a := (x + 2)) (j := 14) (m_lay_at hT hk_x (by decide) (i := 2) rfl) (by decide) rfl m_wi9 (by decide) in_1_116 rfl rfl dX4_readsIs_25 ?_
    obtain ⟨v3, S2, e_S2, hm⟩ := m_call_of hm
    refine n_cVi X hH hS (k := 4) (c_X4_varOf (x := x) hT hk_x e_S2) mw_X4_varOf in_3_195 (m_lay_at hT hk_x (by decide) (i := 7) rfl) (by decide) rfl rfl rfl ⟨rfl, rfl⟩ ⟨by decide, by decide⟩ ⟨Nat.zero_le _, Nat.zero_le _⟩ hl.1 (Nat.le_of_ble_eq_true rfl) dX4_readsIs_28 (fun H locs hH hS => ?_)
    refine lv_iconst (v := (-1 : Int32)) hx hb dX4_readsIs_31 (by decide) ?_
    refine lv_icmp_eq (tgt := 44) hx hb dX4_readsIs_32 (by decide) (fun c4 => ?_) (fun c4 => ?_)
    · have hm := m_ite_t hm c4
      refine lv_aload_n hx hb dX4_readsIs_44 rfl (lv_at hl 0 rfl) ?_
      refine r_getp X hH (k := 4) (a := (x + 7)) (j := 0) (b := (x + 8)) (A := 1) (B := 0) (m_lay_at hT hk_x (by decide) (i := 7) rfl) (by decide) rfl m_wi4 (by decide) in_2_69 rfl rfl rfl dX4_readsIs_45 ?_
      refine r_geti X hH (k := 3) (a := (x + 8)) (j := 0) (m_lay_at hT hk_x (by decide) (i := 8) rfl) (by decide) rfl m_wi3 (by decide) in_2_7 rfl rfl dX4_readsIs_48 ?_
      refine lv_if_eq (tgt := 66) hx hb dX4_readsIs_51 (by decide) (fun c5 => ?_) (fun c5 => ?_)
      · have hm := m_ite_t hm c5
        exact k_X4_readsIs_66 (x := x) X hr hT hk_x   S2 _ _ _ hH hS hl hm
      · have hm := m_ite_f hm c5
        refine lv_aload_n hx hb dX4_readsIs_54 rfl (lv_at hl 0 rfl) ?_
        refine r_getp X hH (k := 4) (a := (x + 7)) (j := 0) (b := (x + 8)) (A := 1) (B := 0) (m_lay_at hT hk_x (by decide) (i := 7) rfl) (by decide) rfl m_wi4 (by decide) in_2_69 rfl rfl rfl dX4_readsIs_55 ?_
        refine r_geti X hH (k := 3) (a := (x + 8)) (j := 1) (m_lay_at hT hk_x (by decide) (i := 8) rfl) (by decide) rfl m_wi3 (by decide) in_2_14 rfl rfl dX4_readsIs_58 ?_
        refine lv_bipush (v := (24 : Int32)) hx hb dX4_readsIs_61 (by decide) ?_
        refine lv_icmp_lt (tgt := 75) hx hb dX4_readsIs_63 (by decide) (fun c6 => ?_) (fun c6 => ?_)
        · have hm := m_ite_t hm c6
          refine lv_aload_n hx hb dX4_readsIs_75 rfl (lv_at hl 0 rfl) ?_
          refine r_getp X hH (k := 4) (a := (x + 7)) (j := 1) (b := (x + 2)) (A := 0) (B := 5) (m_lay_at hT hk_x (by decide) (i := 7) rfl) (by decide) rfl m_wi4 (by decide) in_2_71 rfl rfl rfl dX4_readsIs_76 ?_
          refine r_getj X hH (k := 9) (a := (x + 2)) (j := 14) (m_lay_at hT hk_x (by decide) (i := 2) rfl) (by decide) rfl m_wi9 (by decide) in_1_116 rfl rfl dX4_readsIs_79 ?_
          obtain ⟨v7, e_v7, hm⟩ := m_let_of hm
          refine n_topl e_v7 ?_
          refine lv_lstore_n (lv' := [(1, .long v7), (0, .ref (x + 7))]) hx hb dX4_readsIs_82 rfl hl (by decide) rfl (fun ls hl => ?_)
          refine lv_aload_n hx hb dX4_readsIs_83 rfl (lv_at hl 1 rfl) ?_
          refine r_getp X hH (k := 4) (a := (x + 7)) (j := 1) (b := (x + 2)) (A := 0) (B := 5) (m_lay_at hT hk_x (by decide) (i := 7) rfl) (by decide) rfl m_wi4 (by decide) in_2_71 rfl rfl rfl dX4_readsIs_84 ?_
          obtain ⟨S8, e_S8, hm⟩ := m_cal0_of hm
          refine r_cVv X hH hS (k := 9) (c_X9_advance (x := x) hT hk_x e_S8) mw_X9_advance in_3_182 (m_lay_at hT hk_x (by decide) (i := 2) rfl) (by decide) rfl rfl rfl ⟨rfl, rfl⟩ ⟨by decide, by decide⟩ ⟨Nat.zero_le _, Nat.zero_le _⟩ hl.1 (Nat.le_of_ble_eq_true rfl) dX4_readsIs_87 (fun H locs hH hS => ?_)
          refine lv_aload_n hx hb dX4_readsIs_90 rfl (lv_at hl 1 rfl) ?_
          refine r_getp X hH (k := 4) (a := (x + 7)) (j := 1) (b := (x + 2)) (A := 0) (B := 5) (m_lay_at hT hk_x (by decide) (i := 7) rfl) (by decide) rfl m_wi4 (by decide) in_2_71 rfl rfl rfl dX4_readsIs_91 ?_
          refine lv_iconst (v := (1 : Int32)) hx hb dX4_readsIs_94 (by decide) ?_
          obtain ⟨v10, S9, e_S9, hm⟩ := m_call_of hm
          refine n_cVi X hH hS (k := 9) (c_X9_takesKeyword (x := x) hT hk_x e_S9) mw_X9_takesKeyword in_3_207 (m_lay_at hT hk_x (by decide) (i := 2) rfl) (by decide) rfl rfl rfl ⟨rfl, rfl⟩ ⟨by decide, by decide⟩ ⟨Nat.zero_le _, Nat.zero_le _⟩ hl.1 (Nat.le_of_ble_eq_true rfl) dX4_readsIs_95 (fun H locs hH hS => ?_)
          refine lv_if_eq (tgt := 115) hx hb dX4_readsIs_98 (by decide) (fun c11 => ?_) (fun c11 => ?_)
          · have hm := m_ite_t hm c11
            exact k_X4_readsIs_115 (x := x) X hr hT hk_x   S9 _ _ _ hH hS (lv_sub hl [] rfl) hm
          · have hm := m_ite_f hm c11
            refine lv_aload_n hx hb dX4_readsIs_101 rfl (lv_at hl 1 rfl) ?_
            refine lv_aload_n hx hb dX4_readsIs_102 rfl (lv_at hl 1 rfl) ?_
            refine r_getp X hH (k := 4) (a := (x + 7)) (j := 0) (b := (x + 8)) (A := 1) (B := 0) (m_lay_at hT hk_x (by decide) (i := 7) rfl) (by decide) rfl m_wi4 (by decide) in_2_69 rfl rfl rfl dX4_readsIs_103 ?_
            refine r_geti X hH (k := 3) (a := (x + 8)) (j := 1) (m_lay_at hT hk_x (by decide) (i := 8) rfl) (by decide) rfl m_wi3 (by decide) in_2_14 rfl rfl dX4_readsIs_106 ?_
            obtain ⟨v13, S12, e_S12, hm⟩ := m_call_of hm
            refine n_cVi X hH hS (k := 4) (c_X4_readsExpr (x := x) hT hk_x e_S12) mw_X4_readsExpr in_3_212 (m_lay_at hT hk_x (by decide) (i := 7) rfl) (by decide) rfl rfl rfl ⟨rfl, rfl⟩ ⟨by decide, by decide⟩ ⟨Nat.zero_le _, Nat.zero_le _⟩ hl.1 (Nat.le_of_ble_eq_true rfl) dX4_readsIs_109 (fun H locs hH hS => ?_)
            refine lv_if_ne (tgt := 117) hx hb dX4_readsIs_112 (by decide) (fun c14 => ?_) (fun c14 => ?_)
            · have hm := m_ite_f hm c14
              refine lv_aload_n hx hb dX4_readsIs_117 rfl (lv_at hl 1 rfl) ?_
              refine lv_lload_n hx hb dX4_readsIs_118 rfl (lv_at hl 0 rfl) ?_
              obtain ⟨S15, e_S15, hm⟩ := m_cal0_of hm
              refine r_cVv X hH hS (k := 4) (c_X4_addVar (x := x) hT hk_x e_S15) mw_X4_addVar in_3_199 (m_lay_at hT hk_x (by decide) (i := 7) rfl) (by decide) rfl rfl rfl ⟨rfl, rfl⟩ ⟨by decide, by decide⟩ ⟨Nat.zero_le _, Nat.zero_le _⟩ hl.1 (Nat.le_of_ble_eq_true rfl) dX4_readsIs_119 (fun H locs hH hS => ?_)
              refine lv_aload_n hx hb dX4_readsIs_122 rfl (lv_at hl 1 rfl) ?_
              refine r_getp X hH (k := 4) (a := (x + 7)) (j := 0) (b := (x + 8)) (A := 1) (B := 0) (m_lay_at hT hk_x (by decide) (i := 7) rfl) (by decide) rfl m_wi4 (by decide) in_2_69 rfl rfl rfl dX4_readsIs_123 ?_
              obtain ⟨S16, e_S16, hm⟩ := m_cal0_of hm
              refine r_cVv X hH hS (k := 3) (c_X3_closeLine (a := (x + 8)) hT (m_lay_at hT hk_x (by decide) (i := 8) rfl) e_S16) mw_X3_closeLine in_3_232 (m_lay_at hT hk_x (by decide) (i := 8) rfl) (by decide) rfl rfl rfl ⟨rfl, rfl⟩ ⟨by decide, by decide⟩ ⟨Nat.zero_le _, Nat.zero_le _⟩ hl.1 (Nat.le_of_ble_eq_true rfl) dX4_readsIs_126 (fun H locs hH hS => ?_)
              refine lv_iconst (v := (1 : Int32)) hx hb dX4_readsIs_129 (by decide) ?_
              exact r_zret X hr hH hS hm dX4_readsIs_130
            · have hm := m_ite_t hm c14
              exact k_X4_readsIs_115 (x := x) X hr hT hk_x   S12 _ _ _ hH hS (lv_sub hl [] rfl) hm
        · have hm := m_ite_f hm c6
          exact k_X4_readsIs_66 (x := x) X hr hT hk_x   S2 _ _ _ hH hS hl hm
    · have hm := m_ite_f hm c4
      refine lv_aload_n hx hb dX4_readsIs_35 rfl (lv_at hl 0 rfl) ?_
      refine r_getp X hH (k := 4) (a := (x + 7)) (j := 1) (b := (x + 2)) (A := 0) (B := 5) (m_lay_at hT hk_x (by decide) (i := 7) rfl) (by decide) rfl m_wi4 (by decide) in_2_71 rfl rfl rfl dX4_readsIs_36 ?_
      refine lv_iconst (v := (3 : Int32)) hx hb dX4_readsIs_39 (by decide) ?_
      obtain ⟨v18, S17, e_S17, hm⟩ := m_call_of hm
      refine n_cVi X hH hS (k := 9) (c_X9_failsBy (x := x) hT hk_x e_S17) mw_X9_failsBy in_3_178 (m_lay_at hT hk_x (by decide) (i := 2) rfl) (by decide) rfl rfl rfl ⟨rfl, rfl⟩ ⟨by decide, by decide⟩ ⟨Nat.zero_le _, Nat.zero_le _⟩ hl.1 (Nat.le_of_ble_eq_true rfl) dX4_readsIs_40 (fun H locs hH hS => ?_)
      exact r_zret X hr hH hS hm dX4_readsIs_43
  · have hm := m_ite_f hm c1
    refine lv_aload_n hx hb dX4_readsIs_11 rfl (lv_at hl 0 rfl) ?_
    refine r_getp X hH (k := 4) (a := (x + 7)) (j := 1) (b := (x + 2)) (A := 0) (B := 5) (m_lay_at hT hk_x (by decide) (i := 7) rfl) (by decide) rfl m_wi4 (by decide) in_2_71 rfl rfl rfl dX4_readsIs_12 ?_
    refine lv_iconst (v := (1 : Int32)) hx hb dX4_readsIs_15 (by decide) ?_
    obtain ⟨v20, S19, e_S19, hm⟩ := m_call_of hm
    refine n_cVi X hH hS (k := 9) (c_X9_failsBy (x := x) hT hk_x e_S19) mw_X9_failsBy in_3_178 (m_lay_at hT hk_x (by decide) (i := 2) rfl) (by decide) rfl rfl rfl ⟨rfl, rfl⟩ ⟨by decide, by decide⟩ ⟨Nat.zero_le _, Nat.zero_le _⟩ hl.1 (Nat.le_of_ble_eq_true rfl) dX4_readsIs_16 (fun H locs hH hS => ?_)
    exact r_zret X hr hH hS hm dX4_readsIs_19
def rm_X9_takesSign : Room := { frames := 1, cells := 0, slots := 0, locals := 21 }
def f_X9_takesSign (x : Nat) (S : m_M) (i1 : Int32) : Option (Int32 × m_M) :=
    if (m_ri S (x + 2) 13) = i1 then (
    m_cal0 (f_X9_advance x S) fun S2 =>
    if (1 : Int32) = 0 ∨ (1 : Int32) = 1 then some ((1 : Int32), S2) else none) else (
    m_call (f_X9_failsBy x S (1 : Int32)) fun v4 S3 =>
    if v4 = 0 ∨ v4 = 1 then some (v4, S3) else none)
set_option maxHeartbeats 4000000 in
set_option maxRecDepth 100000 in
theorem c_X9_takesSign {l : Launch} {G : m_G} {nx : Nat} {κ : Nat → Nat} {x : Nat} {S : m_M} {i1 : Int32} {res : (Int32 × m_M)} (hT : m_Str κ) (hk_x : κ x = 12) (hm : f_X9_takesSign x S i1 = some res) : m_Ci l yX9_takesSign cX9_takesSign 2 (some .boolean) rm_X9_takesSign G nx κ [.ref (x + 2), .int i1] S res := by
  refine m_Ci.of (by decide) (Nat.le_of_ble_eq_true rfl) ?_
  intro p e s m args below meth c ls X hr hH hl
  have hx := X.1.1
  have hb := X.1.2.1
  have hS : m_S G s s.heap [] := va_S.rf
  have hl : lv_has ls 2 [(0, .ref (x + 2)), (1, .int i1)] := hl
  rw [f_X9_takesSign] at hm
  refine lv_aload_n hx hb dX9_takesSign_0 rfl (lv_at hl 0 rfl) ?_
  refine r_geti X hH (k := 9) (a := (x + 2)) (j := 13) (m_lay_at hT hk_x (by decide) (i := 2) rfl) (by decide) rfl m_wi9 (by decide) in_1_113 rfl rfl dX9_takesSign_1 ?_
  refine lv_iload_n hx hb dX9_takesSign_4 rfl (lv_at hl 1 rfl) ?_
  refine lv_icmp_eq (tgt := 14) hx hb dX9_takesSign_5 (by decide) (fun c1 => ?_) (fun c1 => ?_)
  · have hm := m_ite_t hm c1
    refine lv_aload_n hx hb dX9_takesSign_14 rfl (lv_at hl 0 rfl) ?_
    obtain ⟨S2, e_S2, hm⟩ := m_cal0_of hm
    refine r_cVv X hH hS (k := 9) (c_X9_advance (x := x) hT hk_x e_S2) mw_X9_advance in_3_166 (m_lay_at hT hk_x (by decide) (i := 2) rfl) (by decide) rfl rfl rfl ⟨rfl, rfl⟩ ⟨by decide, by decide⟩ ⟨Nat.zero_le _, Nat.zero_le _⟩ hl.1 (Nat.le_of_ble_eq_true rfl) dX9_takesSign_15 (fun H locs hH hS => ?_)
    refine lv_iconst (v := (1 : Int32)) hx hb dX9_takesSign_18 (by decide) ?_
    exact r_zret X hr hH hS hm dX9_takesSign_19
  · have hm := m_ite_f hm c1
    refine lv_aload_n hx hb dX9_takesSign_8 rfl (lv_at hl 0 rfl) ?_
    refine lv_iconst (v := (1 : Int32)) hx hb dX9_takesSign_9 (by decide) ?_
    obtain ⟨v4, S3, e_S3, hm⟩ := m_call_of hm
    refine n_cVi X hH hS (k := 9) (c_X9_failsBy (x := x) hT hk_x e_S3) mw_X9_failsBy in_3_211 (m_lay_at hT hk_x (by decide) (i := 2) rfl) (by decide) rfl rfl rfl ⟨rfl, rfl⟩ ⟨by decide, by decide⟩ ⟨Nat.zero_le _, Nat.zero_le _⟩ hl.1 (Nat.le_of_ble_eq_true rfl) dX9_takesSign_10 (fun H locs hH hS => ?_)
    exact r_zret X hr hH hS hm dX9_takesSign_13
def rm_X4_readsAll : Room := { frames := 5, cells := 0, slots := 0, locals := 114 }
def b_X4_readsAll_80 (x : Nat)  (S : m_M)  : Option (Int32 × m_M) :=
    if (0 : Int32) = 0 ∨ (0 : Int32) = 1 then some ((0 : Int32), S) else none
set_option maxHeartbeats 4000000 in
set_option maxRecDepth 100000 in
theorem k_X4_readsAll_80 {p : Program} {l : Launch} {e : Env} {s : State} {m : MethodId} {args : Array Value} {below : List Frame} {meth : Method} {c : Code} {G : m_G} {nx : Nat} {κ : Nat → Nat} {res : (Int32 × m_M)} {x : Nat} (X : m_Cx p s m args meth c cX4_readsAll 4 RX4 G) (hr : meth.sig.returnType = (some .boolean)) (hT : m_Str κ) (hk_x : κ x = 12)  : ∀ (S : m_M)  (H : Heap) (locs : List Loc) (ls : Array Slot), m_H G nx κ S H → m_S G s H locs → lv_has ls 4 [] → b_X4_readsAll_80 x S  = some res → W p l e rm_X4_readsAll s m args below meth c H locs 0 0 (m_Qi below args s G nx κ res) (F0 m 80 ls []) := by
  have hx := X.1.1
  have hb := X.1.2.1
  intro S H locs ls hH hS hl hm
  rw [b_X4_readsAll_80] at hm
  refine lv_iconst (v := (0 : Int32)) hx hb dX4_readsAll_80 (by decide) ?_
  exact r_zret X hr hH hS hm dX4_readsAll_81
def b_X4_readsAll_63 (x : Nat) (K_25 : m_M → Int32 → Option (Int32 × m_M)) (S : m_M) (l2 : Int32) (t0 : Int32) : Option (Int32 × m_M) :=
    if t0 = 0 then (
    b_X4_readsAll_80 x S) else (
    m_call (f_X9_takesSign x S (59 : Int32)) fun v3 S2 =>
    if v3 = 0 then (
    b_X4_readsAll_80 x S2) else (
    m_let (l2 + (1 : Int32)) fun v5 =>
    K_25 S2 v5))
set_option maxHeartbeats 4000000 in
set_option maxRecDepth 100000 in
theorem k_X4_readsAll_63 {p : Program} {l : Launch} {e : Env} {s : State} {m : MethodId} {args : Array Value} {below : List Frame} {meth : Method} {c : Code} {G : m_G} {nx : Nat} {κ : Nat → Nat} {res : (Int32 × m_M)} {x : Nat} (X : m_Cx p s m args meth c cX4_readsAll 4 RX4 G) (hr : meth.sig.returnType = (some .boolean)) (hT : m_Str κ) (hk_x : κ x = 12) (K_25 : m_M → Int32 → Option (Int32 × m_M)) (hK_25 : ∀ (S : m_M) (l2 : Int32) (H : Heap) (locs : List Loc) (ls : Array Slot), m_H G nx κ S H → m_S G s H locs → lv_has ls 4 [(0, .ref (x + 7)), (2, .int l2)] → K_25 S l2 = some res → W p l e rm_X4_readsAll s m args below meth c H locs 0 0 (m_Qi below args s G nx κ res) (F0 m 25 ls [])) : ∀ (S : m_M) (l2 : Int32) (t0 : Int32) (H : Heap) (locs : List Loc) (ls : Array Slot), m_H G nx κ S H → m_S G s H locs → lv_has ls 4 [(0, .ref (x + 7)), (2, .int l2)] → b_X4_readsAll_63 x K_25 S l2 t0 = some res → W p l e rm_X4_readsAll s m args below meth c H locs 0 0 (m_Qi below args s G nx κ res) (F0 m 63 ls [.int t0]) := by
  have hx := X.1.1
  have hb := X.1.2.1
  intro S l2 t0 H locs ls hH hS hl hm
  rw [b_X4_readsAll_63] at hm
  refine lv_istore_n (lv' := [(3, .int t0), (0, .ref (x + 7)), (2, .int l2)]) hx hb dX4_readsAll_63 rfl hl (by decide) rfl (fun ls hl => ?_)
  refine lv_iload_n hx hb dX4_readsAll_64 rfl (lv_at hl 0 rfl) ?_
  refine lv_if_eq (tgt := 80) hx hb dX4_readsAll_65 (by decide) (fun c1 => ?_) (fun c1 => ?_)
  · have hm := m_ite_t hm c1
    exact k_X4_readsAll_80 (x := x) X hr hT hk_x   S _ _ _ hH hS (lv_sub hl [] rfl) hm
  · have hm := m_ite_f hm c1
    refine lv_aload_n hx hb dX4_readsAll_68 rfl (lv_at hl 1 rfl) ?_
    refine r_getp X hH (k := 4) (a := (x + 7)) (j := 1) (b := (x + 2)) (A := 0) (B := 5) (m_lay_at hT hk_x (by decide) (i := 7) rfl) (by decide) rfl m_wi4 (by decide) in_2_71 rfl rfl rfl dX4_readsAll_69 ?_
    refine lv_bipush (v := (59 : Int32)) hx hb dX4_readsAll_72 (by decide) ?_
    obtain ⟨v3, S2, e_S2, hm⟩ := m_call_of hm
    refine n_cVi X hH hS (k := 9) (c_X9_takesSign (x := x) hT hk_x e_S2) mw_X9_takesSign in_3_236 (m_lay_at hT hk_x (by decide) (i := 2) rfl) (by decide) rfl rfl rfl ⟨rfl, rfl⟩ ⟨by decide, by decide⟩ ⟨Nat.zero_le _, Nat.zero_le _⟩ hl.1 (Nat.le_of_ble_eq_true rfl) dX4_readsAll_74 (fun H locs hH hS => ?_)
    refine lv_if_ne (tgt := 82) hx hb dX4_readsAll_77 (by decide) (fun c4 => ?_) (fun c4 => ?_)
    · have hm := m_ite_f hm c4
      obtain ⟨v5, e_v5, hm⟩ := m_let_of hm
      refine lv_iinc (v := v5) (lv' := [(2, .int v5), (3, .int t0), (0, .ref (x + 7))]) hx hb dX4_readsAll_82 hl (k := 2) rfl (by rw [← e_v5]; rfl) (by decide) rfl (fun ls hl => ?_)
      refine lv_goto (tgt := 25) hx hb dX4_readsAll_85 (by decide) ?_
      exact hK_25 S2 v5 _ _ _ hH hS (lv_sub hl [2, 0] rfl) hm
    · have hm := m_ite_t hm c4
      exact k_X4_readsAll_80 (x := x) X hr hT hk_x   S2 _ _ _ hH hS (lv_sub hl [] rfl) hm
def b_X4_readsAll_111 (x : Nat)  (S : m_M) (t0 : Int32) : Option (Int32 × m_M) :=
    if t0 = 0 ∨ t0 = 1 then some (t0, S) else none
set_option maxHeartbeats 4000000 in
set_option maxRecDepth 100000 in
theorem k_X4_readsAll_111 {p : Program} {l : Launch} {e : Env} {s : State} {m : MethodId} {args : Array Value} {below : List Frame} {meth : Method} {c : Code} {G : m_G} {nx : Nat} {κ : Nat → Nat} {res : (Int32 × m_M)} {x : Nat} (X : m_Cx p s m args meth c cX4_readsAll 4 RX4 G) (hr : meth.sig.returnType = (some .boolean)) (hT : m_Str κ) (hk_x : κ x = 12)  : ∀ (S : m_M) (t0 : Int32) (H : Heap) (locs : List Loc) (ls : Array Slot), m_H G nx κ S H → m_S G s H locs → lv_has ls 4 [] → b_X4_readsAll_111 x S t0 = some res → W p l e rm_X4_readsAll s m args below meth c H locs 0 0 (m_Qi below args s G nx κ res) (F0 m 111 ls [.int t0]) := by
  have hx := X.1.1
  have hb := X.1.2.1
  intro S t0 H locs ls hH hS hl hm
  rw [b_X4_readsAll_111] at hm
  exact r_zret X hr hH hS hm dX4_readsAll_111
def b_X4_readsAll_106 (x : Nat)  (S : m_M)  : Option (Int32 × m_M) :=
    b_X4_readsAll_111 x S (1 : Int32)
set_option maxHeartbeats 4000000 in
set_option maxRecDepth 100000 in
theorem k_X4_readsAll_106 {p : Program} {l : Launch} {e : Env} {s : State} {m : MethodId} {args : Array Value} {below : List Frame} {meth : Method} {c : Code} {G : m_G} {nx : Nat} {κ : Nat → Nat} {res : (Int32 × m_M)} {x : Nat} (X : m_Cx p s m args meth c cX4_readsAll 4 RX4 G) (hr : meth.sig.returnType = (some .boolean)) (hT : m_Str κ) (hk_x : κ x = 12)  : ∀ (S : m_M)  (H : Heap) (locs : List Loc) (ls : Array Slot), m_H G nx κ S H → m_S G s H locs → lv_has ls 4 [] → b_X4_readsAll_106 x S  = some res → W p l e rm_X4_readsAll s m args below meth c H locs 0 0 (m_Qi below args s G nx κ res) (F0 m 106 ls []) := by
  have hx := X.1.1
  have hb := X.1.2.1
  intro S H locs ls hH hS hl hm
  rw [b_X4_readsAll_106] at hm
  refine lv_iconst (v := (1 : Int32)) hx hb dX4_readsAll_106 (by decide) ?_
  refine lv_goto (tgt := 111) hx hb dX4_readsAll_107 (by decide) ?_
  exact k_X4_readsAll_111 (x := x) X hr hT hk_x   S (1 : Int32) _ _ _ hH hS hl hm
def b_X4_readsAll_88 (x : Nat)  (S : m_M)  : Option (Int32 × m_M) :=
    m_call (f_X4_latestFunIsBare x S) fun v2 S1 =>
    if v2 = 0 then (
    b_X4_readsAll_106 x S1) else (
    m_call (f_X9_failsBy x S1 (3 : Int32)) fun v5 S4 =>
    if v5 = 0 then (
    b_X4_readsAll_111 x S4 (0 : Int32)) else (
    b_X4_readsAll_106 x S4))
set_option maxHeartbeats 4000000 in
set_option maxRecDepth 100000 in
theorem k_X4_readsAll_88 {p : Program} {l : Launch} {e : Env} {s : State} {m : MethodId} {args : Array Value} {below : List Frame} {meth : Method} {c : Code} {G : m_G} {nx : Nat} {κ : Nat → Nat} {res : (Int32 × m_M)} {x : Nat} (X : m_Cx p s m args meth c cX4_readsAll 4 RX4 G) (hr : meth.sig.returnType = (some .boolean)) (hT : m_Str κ) (hk_x : κ x = 12)  : ∀ (S : m_M)  (H : Heap) (locs : List Loc) (ls : Array Slot), m_H G nx κ S H → m_S G s H locs → lv_has ls 4 [(0, .ref (x + 7))] → b_X4_readsAll_88 x S  = some res → W p l e rm_X4_readsAll s m args below meth c H locs 0 0 (m_Qi below args s G nx κ res) (F0 m 88 ls []) := by
  have hx := X.1.1
  have hb := X.1.2.1
  intro S H locs ls hH hS hl hm
  rw [b_X4_readsAll_88] at hm
  refine lv_aload_n hx hb dX4_readsAll_88 rfl (lv_at hl 0 rfl) ?_
  obtain ⟨v2, S1, e_S1, hm⟩ := m_call_of hm
  refine n_cVi X hH hS (k := 4) (c_X4_latestFunIsBare (x := x) hT hk_x e_S1) mw_X4_latestFunIsBare in_3_174 (m_lay_at hT hk_x (by decide) (i := 7) rfl) (by decide) rfl rfl rfl ⟨rfl, rfl⟩ ⟨by decide, by decide⟩ ⟨Nat.zero_le _, Nat.zero_le _⟩ hl.1 (Nat.le_of_ble_eq_true rfl) dX4_readsAll_89 (fun H locs hH hS => ?_)
  refine lv_if_eq (tgt := 106) hx hb dX4_readsAll_92 (by decide) (fun c3 => ?_) (fun c3 => ?_)
  · have hm := m_ite_t hm c3
    exact k_X4_readsAll_106 (x := x) X hr hT hk_x   S1 _ _ _ hH hS (lv_sub hl [] rfl) hm
  · have hm := m_ite_f hm c3
    refine lv_aload_n hx hb dX4_readsAll_95 rfl (lv_at hl 0 rfl) ?_
    refine r_getp X hH (k := 4) (a := (x + 7)) (j := 1) (b := (x + 2)) (A := 0) (B := 5) (m_lay_at hT hk_x (by decide) (i := 7) rfl) (by decide) rfl m_wi4 (by decide) in_2_71 rfl rfl rfl dX4_readsAll_96 ?_
    refine lv_iconst (v := (3 : Int32)) hx hb dX4_readsAll_99 (by decide) ?_
    obtain ⟨v5, S4, e_S4, hm⟩ := m_call_of hm
    refine n_cVi X hH hS (k := 9) (c_X9_failsBy (x := x) hT hk_x e_S4) mw_X9_failsBy in_3_178 (m_lay_at hT hk_x (by decide) (i := 2) rfl) (by decide) rfl rfl rfl ⟨rfl, rfl⟩ ⟨by decide, by decide⟩ ⟨Nat.zero_le _, Nat.zero_le _⟩ hl.1 (Nat.le_of_ble_eq_true rfl) dX4_readsAll_100 (fun H locs hH hS => ?_)
    refine lv_if_eq (tgt := 110) hx hb dX4_readsAll_103 (by decide) (fun c6 => ?_) (fun c6 => ?_)
    · have hm := m_ite_t hm c6
      refine lv_iconst (v := (0 : Int32)) hx hb dX4_readsAll_110 (by decide) ?_
      exact k_X4_readsAll_111 (x := x) X hr hT hk_x   S4 (0 : Int32) _ _ _ hH hS (lv_sub hl [] rfl) hm
    · have hm := m_ite_f hm c6
      exact k_X4_readsAll_106 (x := x) X hr hT hk_x   S4 _ _ _ hH hS (lv_sub hl [] rfl) hm
def b_X4_readsAll_25 (x : Nat)  : Nat → m_M → Int32 → Option (Int32 × m_M)
  | 0, _, _ => none
  | n + 1, S, l2 =>
    if (900 : Int32) ≤ l2 then (
    b_X4_readsAll_88 x S) else (
    if (m_ri S (x + 2) 9) = 0 then (
    b_X4_readsAll_88 x S) else (
    if (m_ri S (x + 2) 11) = 0 then (
    m_call (f_X4_readsFun x S) fun v7 S6 =>
    b_X4_readsAll_63 x (b_X4_readsAll_25 x n) S6 l2 v7) else (
    m_call (f_X4_readsIs x S) fun v5 S4 =>
    b_X4_readsAll_63 x (b_X4_readsAll_25 x n) S4 l2 v5)))
set_option maxHeartbeats 4000000 in
set_option maxRecDepth 100000 in
theorem k_X4_readsAll_25 {p : Program} {l : Launch} {e : Env} {s : State} {m : MethodId} {args : Array Value} {below : List Frame} {meth : Method} {c : Code} {G : m_G} {nx : Nat} {κ : Nat → Nat} {res : (Int32 × m_M)} {x : Nat} (X : m_Cx p s m args meth c cX4_readsAll 4 RX4 G) (hr : meth.sig.returnType = (some .boolean)) (hT : m_Str κ) (hk_x : κ x = 12)  (n : Nat) : ∀ (S : m_M) (l2 : Int32) (H : Heap) (locs : List Loc) (ls : Array Slot), m_H G nx κ S H → m_S G s H locs → lv_has ls 4 [(0, .ref (x + 7)), (2, .int l2)] → b_X4_readsAll_25 x n S l2 = some res → W p l e rm_X4_readsAll s m args below meth c H locs 0 0 (m_Qi below args s G nx κ res) (F0 m 25 ls []) := by
  have hx := X.1.1
  have hb := X.1.2.1
  induction n with
  | zero => intro S l2 H locs ls hH hS hl hm; have hm : (none : Option (Int32 × m_M)) = some res := hm; cases hm
  | succ n ih =>
    intro S l2 H locs ls hH hS hl hm
    rw [b_X4_readsAll_25] at hm
    refine lv_iload_n hx hb dX4_readsAll_25 rfl (lv_at hl 1 rfl) ?_
    refine lv_sipush (v := (900 : Int32)) hx hb dX4_readsAll_26 (by decide) ?_
    refine lv_icmp_ge (tgt := 88) hx hb dX4_readsAll_29 (by decide) (fun c1 => ?_) (fun c1 => ?_)
    · have hm := m_ite_t hm c1
      exact k_X4_readsAll_88 (x := x) X hr hT hk_x   S _ _ _ hH hS (lv_sub hl [0] rfl) hm
    · have hm := m_ite_f hm c1
      refine lv_aload_n hx hb dX4_readsAll_32 rfl (lv_at hl 0 rfl) ?_
      refine r_getp X hH (k := 4) (a := (x + 7)) (j := 1) (b := (x + 2)) (A := 0) (B := 5) (m_lay_at hT hk_x (by decide) (i := 7) rfl) (by decide) rfl m_wi4 (by decide) in_2_71 rfl rfl rfl dX4_readsAll_33 ?_
      refine r_geti X hH (k := 9) (a := (x + 2)) (j := 9) (m_lay_at hT hk_x (by decide) (i := 2) rfl) (by decide) rfl m_wi9 (by decide) in_1_104 rfl rfl dX4_readsAll_36 ?_
      refine lv_if_eq (tgt := 88) hx hb dX4_readsAll_39 (by decide) (fun c2 => ?_) (fun c2 => ?_)
      · have hm := m_ite_t hm c2
        exact k_X4_readsAll_88 (x := x) X hr hT hk_x   S _ _ _ hH hS (lv_sub hl [0] rfl) hm
      · have hm := m_ite_f hm c2
        refine lv_aload_n hx hb dX4_readsAll_42 rfl (lv_at hl 0 rfl) ?_
        refine r_getp X hH (k := 4) (a := (x + 7)) (j := 1) (b := (x + 2)) (A := 0) (B := 5) (m_lay_at hT hk_x (by decide) (i := 7) rfl) (by decide) rfl m_wi4 (by decide) in_2_71 rfl rfl rfl dX4_readsAll_43 ?_
        refine r_geti X hH (k := 9) (a := (x + 2)) (j := 11) (m_lay_at hT hk_x (by decide) (i := 2) rfl) (by decide) rfl m_wi9 (by decide) in_1_108 rfl rfl dX4_readsAll_46 ?_
        refine lv_if_ne (tgt := 59) hx hb dX4_readsAll_49 (by decide) (fun c3 => ?_) (fun c3 => ?_)
        · have hm := m_ite_f hm c3
          refine lv_aload_n hx hb dX4_readsAll_59 rfl (lv_at hl 0 rfl) ?_
          obtain ⟨v5, S4, e_S4, hm⟩ := m_call_of hm
          refine n_cVi X hH hS (k := 4) (c_X4_readsIs (x := x) hT hk_x e_S4) mw_X4_readsIs in_3_203 (m_lay_at hT hk_x (by decide) (i := 7) rfl) (by decide) rfl rfl rfl ⟨rfl, rfl⟩ ⟨by decide, by decide⟩ ⟨Nat.zero_le _, Nat.zero_le _⟩ hl.1 (Nat.le_of_ble_eq_true rfl) dX4_readsAll_60 (fun H locs hH hS => ?_)
          exact k_X4_readsAll_63 (x := x) X hr hT hk_x (b_X4_readsAll_25 x n) ih  S4 l2 v5 _ _ _ hH hS hl hm
        · have hm := m_ite_t hm c3
          refine lv_aload_n hx hb dX4_readsAll_52 rfl (lv_at hl 0 rfl) ?_
          obtain ⟨v7, S6, e_S6, hm⟩ := m_call_of hm
          refine n_cVi X hH hS (k := 4) (c_X4_readsFun (x := x) hT hk_x e_S6) mw_X4_readsFun in_3_170 (m_lay_at hT hk_x (by decide) (i := 7) rfl) (by decide) rfl rfl rfl ⟨rfl, rfl⟩ ⟨by decide, by decide⟩ ⟨Nat.zero_le _, Nat.zero_le _⟩ hl.1 (Nat.le_of_ble_eq_true rfl) dX4_readsAll_53 (fun H locs hH hS => ?_)
          refine lv_goto (tgt := 63) hx hb dX4_readsAll_56 (by decide) ?_
          exact k_X4_readsAll_63 (x := x) X hr hT hk_x (b_X4_readsAll_25 x n) ih  S6 l2 v7 _ _ _ hH hS hl hm
def f_X4_readsAll (x : Nat) (S : m_M) (i1 : Int32) : Option (Int32 × m_M) :=
    m_cal0 (f_X3_clear (x + 8) S) fun S1 =>
    m_let (m_si S1 (x + 7) 3 (0 : Int32)) fun S2 =>
    m_cal0 (f_X9_open x S2 i1 (900 : Int32)) fun S3 =>
    b_X4_readsAll_25 x m_fu S3 (0 : Int32)
set_option maxHeartbeats 4000000 in
set_option maxRecDepth 100000 in
theorem c_X4_readsAll {l : Launch} {G : m_G} {nx : Nat} {κ : Nat → Nat} {x : Nat} {S : m_M} {i1 : Int32} {res : (Int32 × m_M)} (hT : m_Str κ) (hk_x : κ x = 12) (hm : f_X4_readsAll x S i1 = some res) : m_Ci l yX4_readsAll cX4_readsAll 4 (some .boolean) rm_X4_readsAll G nx κ [.ref (x + 7), .int i1] S res := by
  refine m_Ci.of (by decide) (Nat.le_of_ble_eq_true rfl) ?_
  intro p e s m args below meth c ls X hr hH hl
  have hx := X.1.1
  have hb := X.1.2.1
  have hS : m_S G s s.heap [] := va_S.rf
  have hl : lv_has ls 4 [(0, .ref (x + 7)), (1, .int i1)] := hl
  rw [f_X4_readsAll] at hm
  refine lv_aload_n hx hb dX4_readsAll_0 rfl (lv_at hl 0 rfl) ?_
  refine r_getp X hH (k := 4) (a := (x + 7)) (j := 0) (b := (x + 8)) (A := 1) (B := 0) (m_lay_at hT hk_x (by decide) (i := 7) rfl) (by decide) rfl m_wi4 (by decide) in_2_69 rfl rfl rfl dX4_readsAll_1 ?_
  obtain ⟨S1, e_S1, hm⟩ := m_cal0_of hm
  refine r_cVv X hH hS (k := 3) (c_X3_clear (a := (x + 8)) hT (m_lay_at hT hk_x (by decide) (i := 8) rfl) e_S1) mw_X3_clear in_3_133 (m_lay_at hT hk_x (by decide) (i := 8) rfl) (by decide) rfl rfl rfl ⟨rfl, rfl⟩ ⟨by decide, by decide⟩ ⟨Nat.zero_le _, Nat.zero_le _⟩ hl.1 (Nat.le_of_ble_eq_true rfl) dX4_readsAll_4 (fun H locs hH hS => ?_)
  refine lv_aload_n hx hb dX4_readsAll_7 rfl (lv_at hl 0 rfl) ?_
  refine lv_iconst (v := (0 : Int32)) hx hb dX4_readsAll_8 (by decide) ?_
  obtain ⟨S2, e_S2, hm⟩ := m_let_of hm
  refine n_puti X hH hS tyX4 (k := 4) (a := (x + 7)) (j := 3) (m_lay_at hT hk_x (by decide) (i := 7) rfl) (by decide) rfl m_wi4 tyX4_ok nmX4 (by decide) in_2_73 rfl rfl rfl ⟨rfl, rfl⟩ e_S2 dX4_readsAll_9 (fun H locs hH hS => ?_)
  refine lv_aload_n hx hb dX4_readsAll_12 rfl (lv_at hl 0 rfl) ?_
  refine r_getp X hH (k := 4) (a := (x + 7)) (j := 1) (b := (x + 2)) (A := 0) (B := 5) (m_lay_at hT hk_x (by decide) (i := 7) rfl) (by decide) rfl m_wi4 (by decide) in_2_71 rfl rfl rfl dX4_readsAll_13 ?_
  refine lv_iload_n hx hb dX4_readsAll_16 rfl (lv_at hl 1 rfl) ?_
  refine lv_sipush (v := (900 : Int32)) hx hb dX4_readsAll_17 (by decide) ?_
  obtain ⟨S3, e_S3, hm⟩ := m_cal0_of hm
  refine r_cVv X hH hS (k := 9) (c_X9_open (x := x) hT hk_x e_S3) mw_X9_open in_3_137 (m_lay_at hT hk_x (by decide) (i := 2) rfl) (by decide) rfl rfl rfl ⟨rfl, rfl⟩ ⟨by decide, by decide⟩ ⟨Nat.zero_le _, Nat.zero_le _⟩ hl.1 (Nat.le_of_ble_eq_true rfl) dX4_readsAll_20 (fun H locs hH hS => ?_)
  refine lv_iconst (v := (0 : Int32)) hx hb dX4_readsAll_23 (by decide) ?_
  refine lv_istore_n (lv' := [(2, .int (0 : Int32)), (0, .ref (x + 7)), (1, .int i1)]) hx hb dX4_readsAll_24 rfl hl (by decide) rfl (fun ls hl => ?_)
  exact k_X4_readsAll_25 (x := x) X hr hT hk_x  m_fu S3 (0 : Int32) _ _ _ hH hS (lv_sub hl [1, 0] rfl) hm
def rm_X5_clear : Room := { frames := 1, cells := 0, slots := 0, locals := 23 }
def b_X5_clear_9 (a : Nat)  : Nat → m_M → Int32 → Option m_M
  | 0, _, _ => none
  | n + 1, S, l1 =>
    if (183 : Int32) ≤ l1 then (
    m_cal0 (f_J7_fill_53178 (a + 2) 183 S (-1 : Int32)) fun S2 =>
    m_cal0 (f_J7_fill_53178 (a + 3) 183 S2 (-1 : Int32)) fun S3 =>
    m_cal0 (f_J7_fill_53178 (a + 4) 183 S3 (-1 : Int32)) fun S4 =>
    some S4) else (
    (m_sti S (a + 1) 183 l1 l1).bind fun S5 =>
    m_let (l1 + (1 : Int32)) fun v6 =>
    b_X5_clear_9 a n S5 v6)
set_option maxHeartbeats 4000000 in
set_option maxRecDepth 100000 in
theorem k_X5_clear_9 {p : Program} {l : Launch} {e : Env} {s : State} {m : MethodId} {args : Array Value} {below : List Frame} {meth : Method} {c : Code} {G : m_G} {nx : Nat} {κ : Nat → Nat} {res : m_M} {a : Nat} (X : m_Cx p s m args meth c cX5_clear 2 RX5 G) (hr : meth.sig.returnType = none) (hT : m_Str κ) (hk_a : κ a = 6)  (n : Nat) : ∀ (S : m_M) (l1 : Int32) (H : Heap) (locs : List Loc) (ls : Array Slot), m_H G nx κ S H → m_S G s H locs → lv_has ls 2 [(0, .ref a), (1, .int l1)] → b_X5_clear_9 a n S l1 = some res → W p l e rm_X5_clear s m args below meth c H locs 0 0 (m_Qv below args s G nx κ res) (F0 m 9 ls []) := by
  have hx := X.1.1
  have hb := X.1.2.1
  induction n with
  | zero => intro S l1 H locs ls hH hS hl hm; have hm : (none : Option m_M) = some res := hm; cases hm
  | succ n ih =>
    intro S l1 H locs ls hH hS hl hm
    rw [b_X5_clear_9] at hm
    refine lv_iload_n hx hb dX5_clear_9 rfl (lv_at hl 1 rfl) ?_
    refine lv_sipush (v := (183 : Int32)) hx hb dX5_clear_10 (by decide) ?_
    refine lv_icmp_ge (tgt := 29) hx hb dX5_clear_13 (by decide) (fun c1 => ?_) (fun c1 => ?_)
    · have hm := m_ite_t hm c1
      refine lv_aload_n hx hb dX5_clear_29 rfl (lv_at hl 0 rfl) ?_
      refine r_getp X hH (k := 5) (a := a) (j := 1) (b := (a + 2)) (A := 2) (B := 0) hk_a (by decide) rfl m_wi5 (by decide) in_2_137 rfl rfl rfl dX5_clear_30 ?_
      refine lv_iconst (v := (-1 : Int32)) hx hb dX5_clear_33 (by decide) ?_
      obtain ⟨S2, e_S2, hm⟩ := m_cal0_of hm
      refine r_cSv X hH hS (c_J7_fill_53178 (o0 := (a + 2)) (n0 := 183) hT (m_lay_at hT hk_a (by decide) (i := 2) rfl) e_S2) mw_J7_fill_53178 in_4_8 rfl ⟨rfl, rfl⟩ ⟨by decide, by decide⟩ ⟨Nat.zero_le _, Nat.zero_le _⟩ hl.1 (Nat.le_of_ble_eq_true rfl) dX5_clear_34 (fun H locs hH hS => ?_)
      refine lv_aload_n hx hb dX5_clear_37 rfl (lv_at hl 0 rfl) ?_
      refine r_getp X hH (k := 5) (a := a) (j := 2) (b := (a + 3)) (A := 3) (B := 0) hk_a (by decide) rfl m_wi5 (by decide) in_2_138 rfl rfl rfl dX5_clear_38 ?_
      refine lv_iconst (v := (-1 : Int32)) hx hb dX5_clear_41 (by decide) ?_
      obtain ⟨S3, e_S3, hm⟩ := m_cal0_of hm
      refine r_cSv X hH hS (c_J7_fill_53178 (o0 := (a + 3)) (n0 := 183) hT (m_lay_at hT hk_a (by decide) (i := 3) rfl) e_S3) mw_J7_fill_53178 in_4_8 rfl ⟨rfl, rfl⟩ ⟨by decide, by decide⟩ ⟨Nat.zero_le _, Nat.zero_le _⟩ hl.1 (Nat.le_of_ble_eq_true rfl) dX5_clear_42 (fun H locs hH hS => ?_)
      refine lv_aload_n hx hb dX5_clear_45 rfl (lv_at hl 0 rfl) ?_
      refine r_getp X hH (k := 5) (a := a) (j := 3) (b := (a + 4)) (A := 4) (B := 0) hk_a (by decide) rfl m_wi5 (by decide) in_2_139 rfl rfl rfl dX5_clear_46 ?_
      refine lv_iconst (v := (-1 : Int32)) hx hb dX5_clear_49 (by decide) ?_
      obtain ⟨S4, e_S4, hm⟩ := m_cal0_of hm
      refine r_cSv X hH hS (c_J7_fill_53178 (o0 := (a + 4)) (n0 := 183) hT (m_lay_at hT hk_a (by decide) (i := 4) rfl) e_S4) mw_J7_fill_53178 in_4_8 rfl ⟨rfl, rfl⟩ ⟨by decide, by decide⟩ ⟨Nat.zero_le _, Nat.zero_le _⟩ hl.1 (Nat.le_of_ble_eq_true rfl) dX5_clear_50 (fun H locs hH hS => ?_)
      exact r_vret X hr hH hS hm dX5_clear_53
    · have hm := m_ite_f hm c1
      refine lv_aload_n hx hb dX5_clear_16 rfl (lv_at hl 0 rfl) ?_
      refine r_getp X hH (k := 5) (a := a) (j := 0) (b := (a + 1)) (A := 1) (B := 0) hk_a (by decide) rfl m_wi5 (by decide) in_2_136 rfl rfl rfl dX5_clear_17 ?_
      refine lv_iload_n hx hb dX5_clear_20 rfl (lv_at hl 1 rfl) ?_
      refine lv_iload_n hx hb dX5_clear_21 rfl (lv_at hl 1 rfl) ?_
      obtain ⟨S5, h_S5, e_S5, hm⟩ := n_sti hm
      refine n_iast X hH hS (n := 183) (m_lay_at hT hk_a (by decide) (i := 1) rfl) h_S5 e_S5 dX5_clear_22 (fun H locs hH hS => ?_)
      obtain ⟨v6, e_v6, hm⟩ := m_let_of hm
      refine lv_iinc (v := v6) (lv' := [(1, .int v6), (0, .ref a)]) hx hb dX5_clear_23 hl (k := 1) rfl (by rw [← e_v6]; rfl) (by decide) rfl (fun ls hl => ?_)
      refine lv_goto (tgt := 9) hx hb dX5_clear_26 (by decide) ?_
      exact ih S5 v6 _ _ _ hH hS (lv_sub hl [1, 0] rfl) hm
def f_X5_clear (a : Nat) (S : m_M)  : Option m_M :=
    m_let (m_si S a 4 (135 : Int32)) fun S1 =>
    b_X5_clear_9 a m_fu S1 (0 : Int32)
set_option maxHeartbeats 4000000 in
set_option maxRecDepth 100000 in
theorem c_X5_clear {l : Launch} {G : m_G} {nx : Nat} {κ : Nat → Nat} {a : Nat} {S : m_M}  {res : m_M} (hT : m_Str κ) (hk_a : κ a = 6) (hm : f_X5_clear a S = some res) : m_Cv l yX5_clear cX5_clear 2 rm_X5_clear G nx κ [.ref a] S res := by
  refine m_Cv.of (by decide) (Nat.le_of_ble_eq_true rfl) ?_
  intro p e s m args below meth c ls X hr hH hl
  have hx := X.1.1
  have hb := X.1.2.1
  have hS : m_S G s s.heap [] := va_S.rf
  have hl : lv_has ls 2 [(0, .ref a)] := hl
  rw [f_X5_clear] at hm
  refine lv_aload_n hx hb dX5_clear_0 rfl (lv_at hl 0 rfl) ?_
  refine lv_sipush (v := (135 : Int32)) hx hb dX5_clear_1 (by decide) ?_
  obtain ⟨S1, e_S1, hm⟩ := m_let_of hm
  refine n_puti X hH hS tyX5 (k := 5) (a := a) (j := 4) hk_a (by decide) rfl m_wi5 tyX5_ok nmX5 (by decide) in_2_140 rfl rfl rfl ⟨rfl, rfl⟩ e_S1 dX5_clear_4 (fun H locs hH hS => ?_)
  refine lv_iconst (v := (0 : Int32)) hx hb dX5_clear_7 (by decide) ?_
  refine lv_istore_n (lv' := [(1, .int (0 : Int32)), (0, .ref a)]) hx hb dX5_clear_8 rfl hl (by decide) rfl (fun ls hl => ?_)
  exact k_X5_clear_9 (a := a) X hr hT hk_a  m_fu S1 (0 : Int32) _ _ _ hH hS (lv_sub hl [1, 0] rfl) hm
def rm_X5_nodeOf : Room := { frames := 0, cells := 0, slots := 0, locals := 0 }
def f_X5_nodeOf (S : m_M) (i0 : Int32) (i1 : Int32) : Option (Int32 × m_M) :=
    some (((i0 * (27 : Int32)) + i1), S)
set_option maxHeartbeats 4000000 in
set_option maxRecDepth 100000 in
theorem c_X5_nodeOf {l : Launch} {G : m_G} {nx : Nat} {κ : Nat → Nat} {S : m_M} {i0 : Int32} {i1 : Int32} {res : (Int32 × m_M)} (hT : m_Str κ)  (hm : f_X5_nodeOf S i0 i1 = some res) : m_Ci l yX5_nodeOf cX5_nodeOf 2 (some .int) rm_X5_nodeOf G nx κ [.int i0, .int i1] S res := by
  refine m_Ci.of (by decide) (Nat.le_of_ble_eq_true rfl) ?_
  intro p e s m args below meth c ls X hr hH hl
  have hx := X.1.1
  have hb := X.1.2.1
  have hS : m_S G s s.heap [] := va_S.rf
  have hl : lv_has ls 2 [(0, .int i0), (1, .int i1)] := hl
  rw [f_X5_nodeOf] at hm
  refine lv_iload_n hx hb dX5_nodeOf_0 rfl (lv_at hl 0 rfl) ?_
  refine lv_bipush (v := (27 : Int32)) hx hb dX5_nodeOf_1 (by decide) ?_
  refine lv_imul hx hb dX5_nodeOf_3 ?_
  refine lv_iload_n hx hb dX5_nodeOf_4 rfl (lv_at hl 1 rfl) ?_
  refine lv_iadd hx hb dX5_nodeOf_5 ?_
  exact r_iret X hr hH hS hm dX5_nodeOf_6
def rm_X5_operandNode : Room := { frames := 1, cells := 0, slots := 0, locals := 22 }
def f_X5_operandNode (o0 : Nat) (S : m_M) (i1 : Int32) (i2 : Int32) (i3 : Int32) : Option (Int32 × m_M) :=
    m_call (f_X3_operandAt o0 S i2 i3) fun v2 S1 =>
    m_call (f_X5_nodeOf S1 i1 v2) fun v4 S3 =>
    some (v4, S3)
set_option maxHeartbeats 4000000 in
set_option maxRecDepth 100000 in
theorem c_X5_operandNode {l : Launch} {G : m_G} {nx : Nat} {κ : Nat → Nat} {o0 : Nat} {S : m_M} {i1 : Int32} {i2 : Int32} {i3 : Int32} {res : (Int32 × m_M)} (hT : m_Str κ) (hk_o0 : κ o0 = 4) (hm : f_X5_operandNode o0 S i1 i2 i3 = some res) : m_Ci l yX5_operandNode cX5_operandNode 4 (some .int) rm_X5_operandNode G nx κ [.ref o0, .int i1, .int i2, .int i3] S res := by
  refine m_Ci.of (by decide) (Nat.le_of_ble_eq_true rfl) ?_
  intro p e s m args below meth c ls X hr hH hl
  have hx := X.1.1
  have hb := X.1.2.1
  have hS : m_S G s s.heap [] := va_S.rf
  have hl : lv_has ls 4 [(0, .ref o0), (1, .int i1), (2, .int i2), (3, .int i3)] := hl
  rw [f_X5_operandNode] at hm
  refine lv_iload_n hx hb dX5_operandNode_0 rfl (lv_at hl 1 rfl) ?_
  refine lv_aload_n hx hb dX5_operandNode_1 rfl (lv_at hl 0 rfl) ?_
  refine lv_iload_n hx hb dX5_operandNode_2 rfl (lv_at hl 2 rfl) ?_
  refine lv_iload_n hx hb dX5_operandNode_3 rfl (lv_at hl 3 rfl) ?_
  obtain ⟨v2, S1, e_S1, hm⟩ := m_call_of hm
  refine n_cVi X hH hS (k := 3) (c_X3_operandAt (a := o0) hT hk_o0 e_S1) mw_X3_operandAt in_4_23 hk_o0 (by decide) rfl rfl rfl ⟨rfl, rfl⟩ ⟨by decide, by decide⟩ ⟨Nat.zero_le _, Nat.zero_le _⟩ hl.1 (Nat.le_of_ble_eq_true rfl) dX5_operandNode_4 (fun H locs hH hS => ?_)
  obtain ⟨v4, S3, e_S3, hm⟩ := m_call_of hm
  refine n_cSi X hH hS (c_X5_nodeOf  hT  e_S3) mw_X5_nodeOf in_4_17 rfl ⟨rfl, rfl⟩ ⟨by decide, by decide⟩ ⟨Nat.zero_le _, Nat.zero_le _⟩ hl.1 (Nat.le_of_ble_eq_true rfl) dX5_operandNode_7 (fun H locs hH hS => ?_)
  exact r_iret X hr hH hS hm dX5_operandNode_10
def rm_X5_rootOf : Room := { frames := 0, cells := 0, slots := 0, locals := 0 }
def b_X5_rootOf_34 (a : Nat)  (S : m_M) (l2 : Int32) : Option (Int32 × m_M) :=
    some (l2, S)
set_option maxHeartbeats 4000000 in
set_option maxRecDepth 100000 in
theorem k_X5_rootOf_34 {p : Program} {l : Launch} {e : Env} {s : State} {m : MethodId} {args : Array Value} {below : List Frame} {meth : Method} {c : Code} {G : m_G} {nx : Nat} {κ : Nat → Nat} {res : (Int32 × m_M)} {a : Nat} (X : m_Cx p s m args meth c cX5_rootOf 4 RX5 G) (hr : meth.sig.returnType = (some .int)) (hT : m_Str κ) (hk_a : κ a = 6)  : ∀ (S : m_M) (l2 : Int32) (H : Heap) (locs : List Loc) (ls : Array Slot), m_H G nx κ S H → m_S G s H locs → lv_has ls 4 [(2, .int l2)] → b_X5_rootOf_34 a S l2 = some res → W p l e rm_X5_rootOf s m args below meth c H locs 0 0 (m_Qi below args s G nx κ res) (F0 m 34 ls []) := by
  have hx := X.1.1
  have hb := X.1.2.1
  intro S l2 H locs ls hH hS hl hm
  rw [b_X5_rootOf_34] at hm
  refine lv_iload_n hx hb dX5_rootOf_34 rfl (lv_at hl 0 rfl) ?_
  exact r_iret X hr hH hS hm dX5_rootOf_35
def b_X5_rootOf_4 (a : Nat)  : Nat → m_M → Int32 → Int32 → Option (Int32 × m_M)
  | 0, _, _, _ => none
  | n + 1, S, l2, l3 =>
    if (183 : Int32) ≤ l3 then (
    b_X5_rootOf_34 a S l2) else (
    (m_ldi S (a + 1) 183 l2).bind fun v2 =>
    if v2 = l2 then (
    b_X5_rootOf_34 a S l2) else (
    (m_ldi S (a + 1) 183 l2).bind fun v4 =>
    m_let (l3 + (1 : Int32)) fun v5 =>
    b_X5_rootOf_4 a n S v4 v5))
set_option maxHeartbeats 4000000 in
set_option maxRecDepth 100000 in
theorem k_X5_rootOf_4 {p : Program} {l : Launch} {e : Env} {s : State} {m : MethodId} {args : Array Value} {below : List Frame} {meth : Method} {c : Code} {G : m_G} {nx : Nat} {κ : Nat → Nat} {res : (Int32 × m_M)} {a : Nat} (X : m_Cx p s m args meth c cX5_rootOf 4 RX5 G) (hr : meth.sig.returnType = (some .int)) (hT : m_Str κ) (hk_a : κ a = 6)  (n : Nat) : ∀ (S : m_M) (l2 : Int32) (l3 : Int32) (H : Heap) (locs : List Loc) (ls : Array Slot), m_H G nx κ S H → m_S G s H locs → lv_has ls 4 [(0, .ref a), (2, .int l2), (3, .int l3)] → b_X5_rootOf_4 a n S l2 l3 = some res → W p l e rm_X5_rootOf s m args below meth c H locs 0 0 (m_Qi below args s G nx κ res) (F0 m 4 ls []) := by
  have hx := X.1.1
  have hb := X.1.2.1
  induction n with
  | zero => intro S l2 l3 H locs ls hH hS hl hm; have hm : (none : Option (Int32 × m_M)) = some res := hm; cases hm
  | succ n ih =>
    intro S l2 l3 H locs ls hH hS hl hm
    rw [b_X5_rootOf_4] at hm
    refine lv_iload_n hx hb dX5_rootOf_4 rfl (lv_at hl 2 rfl) ?_
    refine lv_sipush (v := (183 : Int32)) hx hb dX5_rootOf_5 (by decide) ?_
    refine lv_icmp_ge (tgt := 34) hx hb dX5_rootOf_8 (by decide) (fun c1 => ?_) (fun c1 => ?_)
    · have hm := m_ite_t hm c1
      exact k_X5_rootOf_34 (a := a) X hr hT hk_a   S l2 _ _ _ hH hS (lv_sub hl [1] rfl) hm
    · have hm := m_ite_f hm c1
      refine lv_aload_n hx hb dX5_rootOf_11 rfl (lv_at hl 0 rfl) ?_
      refine r_getp X hH (k := 5) (a := a) (j := 0) (b := (a + 1)) (A := 1) (B := 0) hk_a (by decide) rfl m_wi5 (by decide) in_2_136 rfl rfl rfl dX5_rootOf_12 ?_
      refine lv_iload_n hx hb dX5_rootOf_15 rfl (lv_at hl 1 rfl) ?_
      obtain ⟨v2, h_v2, e_v2, hm⟩ := n_ldi hm
      refine n_iald X hH (n := 183) (m_lay_at hT hk_a (by decide) (i := 1) rfl) h_v2 e_v2 dX5_rootOf_16 ?_
      refine lv_iload_n hx hb dX5_rootOf_17 rfl (lv_at hl 1 rfl) ?_
      refine lv_icmp_eq (tgt := 34) hx hb dX5_rootOf_18 (by decide) (fun c3 => ?_) (fun c3 => ?_)
      · have hm := m_ite_t hm c3
        exact k_X5_rootOf_34 (a := a) X hr hT hk_a   S l2 _ _ _ hH hS (lv_sub hl [1] rfl) hm
      · have hm := m_ite_f hm c3
        refine lv_aload_n hx hb dX5_rootOf_21 rfl (lv_at hl 0 rfl) ?_
        refine r_getp X hH (k := 5) (a := a) (j := 0) (b := (a + 1)) (A := 1) (B := 0) hk_a (by decide) rfl m_wi5 (by decide) in_2_136 rfl rfl rfl dX5_rootOf_22 ?_
        refine lv_iload_n hx hb dX5_rootOf_25 rfl (lv_at hl 1 rfl) ?_
        obtain ⟨v4, h_v4, e_v4, hm⟩ := n_ldi hm
        refine n_iald X hH (n := 183) (m_lay_at hT hk_a (by decide) (i := 1) rfl) h_v4 e_v4 dX5_rootOf_26 ?_
        refine lv_istore_n (lv' := [(2, .int v4), (0, .ref a), (3, .int l3)]) hx hb dX5_rootOf_27 rfl hl (by decide) rfl (fun ls hl => ?_)
        obtain ⟨v5, e_v5, hm⟩ := m_let_of hm
        refine lv_iinc (v := v5) (lv' := [(3, .int v5), (2, .int v4), (0, .ref a)]) hx hb dX5_rootOf_28 hl (k := 2) rfl (by rw [← e_v5]; rfl) (by decide) rfl (fun ls hl => ?_)
        refine lv_goto (tgt := 4) hx hb dX5_rootOf_31 (by decide) ?_
        exact ih S v4 v5 _ _ _ hH hS (lv_sub hl [2, 1, 0] rfl) hm
def f_X5_rootOf (a : Nat) (S : m_M) (i1 : Int32) : Option (Int32 × m_M) :=
    b_X5_rootOf_4 a m_fu S i1 (0 : Int32)
set_option maxHeartbeats 4000000 in
set_option maxRecDepth 100000 in
theorem c_X5_rootOf {l : Launch} {G : m_G} {nx : Nat} {κ : Nat → Nat} {a : Nat} {S : m_M} {i1 : Int32} {res : (Int32 × m_M)} (hT : m_Str κ) (hk_a : κ a = 6) (hm : f_X5_rootOf a S i1 = some res) : m_Ci l yX5_rootOf cX5_rootOf 4 (some .int) rm_X5_rootOf G nx κ [.ref a, .int i1] S res := by
  refine m_Ci.of (by decide) (Nat.le_of_ble_eq_true rfl) ?_
  intro p e s m args below meth c ls X hr hH hl
  have hx := X.1.1
  have hb := X.1.2.1
  have hS : m_S G s s.heap [] := va_S.rf
  have hl : lv_has ls 4 [(0, .ref a), (1, .int i1)] := hl
  rw [f_X5_rootOf] at hm
  refine lv_iload_n hx hb dX5_rootOf_0 rfl (lv_at hl 1 rfl) ?_
  refine lv_istore_n (lv' := [(2, .int i1), (0, .ref a), (1, .int i1)]) hx hb dX5_rootOf_1 rfl hl (by decide) rfl (fun ls hl => ?_)
  refine lv_iconst (v := (0 : Int32)) hx hb dX5_rootOf_2 (by decide) ?_
  refine lv_istore_n (lv' := [(3, .int (0 : Int32)), (2, .int i1), (0, .ref a), (1, .int i1)]) hx hb dX5_rootOf_3 rfl hl (by decide) rfl (fun ls hl => ?_)
  exact k_X5_rootOf_4 (a := a) X hr hT hk_a  m_fu S i1 (0 : Int32) _ _ _ hH hS (lv_sub hl [2, 1, 0] rfl) hm
def rm_X5_rootWithRegion : Room := { frames := 1, cells := 0, slots := 0, locals := 23 }
def b_X5_rootWithRegion_60 (a : Nat)  (S : m_M) (l2 : Int32) : Option (Int32 × m_M) :=
    some (l2, S)
set_option maxHeartbeats 4000000 in
set_option maxRecDepth 100000 in
theorem k_X5_rootWithRegion_60 {p : Program} {l : Launch} {e : Env} {s : State} {m : MethodId} {args : Array Value} {below : List Frame} {meth : Method} {c : Code} {G : m_G} {nx : Nat} {κ : Nat → Nat} {res : (Int32 × m_M)} {a : Nat} (X : m_Cx p s m args meth c cX5_rootWithRegion 3 RX5 G) (hr : meth.sig.returnType = (some .int)) (hT : m_Str κ) (hk_a : κ a = 6)  : ∀ (S : m_M) (l2 : Int32) (H : Heap) (locs : List Loc) (ls : Array Slot), m_H G nx κ S H → m_S G s H locs → lv_has ls 3 [(2, .int l2)] → b_X5_rootWithRegion_60 a S l2 = some res → W p l e rm_X5_rootWithRegion s m args below meth c H locs 0 0 (m_Qi below args s G nx κ res) (F0 m 60 ls []) := by
  have hx := X.1.1
  have hb := X.1.2.1
  intro S l2 H locs ls hH hS hl hm
  rw [b_X5_rootWithRegion_60] at hm
  refine lv_iload_n hx hb dX5_rootWithRegion_60 rfl (lv_at hl 0 rfl) ?_
  exact r_iret X hr hH hS hm dX5_rootWithRegion_61
def f_X5_rootWithRegion (a : Nat) (S : m_M) (i1 : Int32) : Option (Int32 × m_M) :=
    m_call (f_X5_rootOf a S i1) fun v2 S1 =>
    (m_ldi S1 (a + 2) 183 v2).bind fun v3 =>
    if v3 = (-1 : Int32) then (
    if (183 : Int32) < ((m_ri S1 a 4) + (2 : Int32)) then (
    b_X5_rootWithRegion_60 a S1 v2) else (
    (m_sti S1 (a + 2) 183 v2 (m_ri S1 a 4)).bind fun S6 =>
    (m_sti S6 (a + 3) 183 v2 ((m_ri S6 a 4) + (1 : Int32))).bind fun S7 =>
    m_let (m_si S7 a 4 ((m_ri S7 a 4) + (2 : Int32))) fun S8 =>
    b_X5_rootWithRegion_60 a S8 v2)) else (
    b_X5_rootWithRegion_60 a S1 v2)
set_option maxHeartbeats 4000000 in
set_option maxRecDepth 100000 in
theorem c_X5_rootWithRegion {l : Launch} {G : m_G} {nx : Nat} {κ : Nat → Nat} {a : Nat} {S : m_M} {i1 : Int32} {res : (Int32 × m_M)} (hT : m_Str κ) (hk_a : κ a = 6) (hm : f_X5_rootWithRegion a S i1 = some res) : m_Ci l yX5_rootWithRegion cX5_rootWithRegion 3 (some .int) rm_X5_rootWithRegion G nx κ [.ref a, .int i1] S res := by
  refine m_Ci.of (by decide) (Nat.le_of_ble_eq_true rfl) ?_
  intro p e s m args below meth c ls X hr hH hl
  have hx := X.1.1
  have hb := X.1.2.1
  have hS : m_S G s s.heap [] := va_S.rf
  have hl : lv_has ls 3 [(0, .ref a), (1, .int i1)] := hl
  rw [f_X5_rootWithRegion] at hm
  refine lv_aload_n hx hb dX5_rootWithRegion_0 rfl (lv_at hl 0 rfl) ?_
  refine lv_iload_n hx hb dX5_rootWithRegion_1 rfl (lv_at hl 1 rfl) ?_
  obtain ⟨v2, S1, e_S1, hm⟩ := m_call_of hm
  refine n_cVi X hH hS (k := 5) (c_X5_rootOf (a := a) hT hk_a e_S1) mw_X5_rootOf in_4_31 hk_a (by decide) rfl rfl rfl ⟨rfl, rfl⟩ ⟨by decide, by decide⟩ ⟨Nat.zero_le _, Nat.zero_le _⟩ hl.1 (Nat.le_of_ble_eq_true rfl) dX5_rootWithRegion_2 (fun H locs hH hS => ?_)
  refine lv_istore_n (lv' := [(2, .int v2), (0, .ref a), (1, .int i1)]) hx hb dX5_rootWithRegion_5 rfl hl (by decide) rfl (fun ls hl => ?_)
  refine lv_aload_n hx hb dX5_rootWithRegion_6 rfl (lv_at hl 1 rfl) ?_
  refine r_getp X hH (k := 5) (a := a) (j := 1) (b := (a + 2)) (A := 2) (B := 0) hk_a (by decide) rfl m_wi5 (by decide) in_2_137 rfl rfl rfl dX5_rootWithRegion_7 ?_
  refine lv_iload_n hx hb dX5_rootWithRegion_10 rfl (lv_at hl 0 rfl) ?_
  obtain ⟨v3, h_v3, e_v3, hm⟩ := n_ldi hm
  refine n_iald X hH (n := 183) (m_lay_at hT hk_a (by decide) (i := 2) rfl) h_v3 e_v3 dX5_rootWithRegion_11 ?_
  refine lv_iconst (v := (-1 : Int32)) hx hb dX5_rootWithRegion_12 (by decide) ?_
  refine lv_icmp_ne (tgt := 60) hx hb dX5_rootWithRegion_13 (by decide) (fun c4 => ?_) (fun c4 => ?_)
  · have hm := m_ite_f hm c4
    exact k_X5_rootWithRegion_60 (a := a) X hr hT hk_a   S1 v2 _ _ _ hH hS (lv_sub hl [0] rfl) hm
  · have hm := m_ite_t hm c4
    refine lv_aload_n hx hb dX5_rootWithRegion_16 rfl (lv_at hl 1 rfl) ?_
    refine r_geti X hH (k := 5) (a := a) (j := 4) hk_a (by decide) rfl m_wi5 (by decide) in_2_140 rfl rfl dX5_rootWithRegion_17 ?_
    refine lv_iconst (v := (2 : Int32)) hx hb dX5_rootWithRegion_20 (by decide) ?_
    refine lv_iadd hx hb dX5_rootWithRegion_21 ?_
    refine lv_sipush (v := (183 : Int32)) hx hb dX5_rootWithRegion_22 (by decide) ?_
    refine lv_icmp_gt (tgt := 60) hx hb dX5_rootWithRegion_25 (by decide) (fun c5 => ?_) (fun c5 => ?_)
    · have hm := m_ite_t hm c5
      exact k_X5_rootWithRegion_60 (a := a) X hr hT hk_a   S1 v2 _ _ _ hH hS (lv_sub hl [0] rfl) hm
    · have hm := m_ite_f hm c5
      refine lv_aload_n hx hb dX5_rootWithRegion_28 rfl (lv_at hl 1 rfl) ?_
      refine r_getp X hH (k := 5) (a := a) (j := 1) (b := (a + 2)) (A := 2) (B := 0) hk_a (by decide) rfl m_wi5 (by decide) in_2_137 rfl rfl rfl dX5_rootWithRegion_29 ?_
      refine lv_iload_n hx hb dX5_rootWithRegion_32 rfl (lv_at hl 0 rfl) ?_
      refine lv_aload_n hx hb dX5_rootWithRegion_33 rfl (lv_at hl 1 rfl) ?_
      refine r_geti X hH (k := 5) (a := a) (j := 4) hk_a (by decide) rfl m_wi5 (by decide) in_2_140 rfl rfl dX5_rootWithRegion_34 ?_
      obtain ⟨S6, h_S6, e_S6, hm⟩ := n_sti hm
      refine n_iast X hH hS (n := 183) (m_lay_at hT hk_a (by decide) (i := 2) rfl) h_S6 e_S6 dX5_rootWithRegion_37 (fun H locs hH hS => ?_)
      refine lv_aload_n hx hb dX5_rootWithRegion_38 rfl (lv_at hl 1 rfl) ?_
      refine r_getp X hH (k := 5) (a := a) (j := 2) (b := (a + 3)) (A := 3) (B := 0) hk_a (by decide) rfl m_wi5 (by decide) in_2_138 rfl rfl rfl dX5_rootWithRegion_39 ?_
      refine lv_iload_n hx hb dX5_rootWithRegion_42 rfl (lv_at hl 0 rfl) ?_
      refine lv_aload_n hx hb dX5_rootWithRegion_43 rfl (lv_at hl 1 rfl) ?_
      refine r_geti X hH (k := 5) (a := a) (j := 4) hk_a (by decide) rfl m_wi5 (by decide) in_2_140 rfl rfl dX5_rootWithRegion_44 ?_
      refine lv_iconst (v := (1 : Int32)) hx hb dX5_rootWithRegion_47 (by decide) ?_
      refine lv_iadd hx hb dX5_rootWithRegion_48 ?_
      obtain ⟨S7, h_S7, e_S7, hm⟩ := n_sti hm
      refine n_iast X hH hS (n := 183) (m_lay_at hT hk_a (by decide) (i := 3) rfl) h_S7 e_S7 dX5_rootWithRegion_49 (fun H locs hH hS => ?_)
      refine lv_aload_n hx hb dX5_rootWithRegion_50 rfl (lv_at hl 1 rfl) ?_
      refine lv_dup hx hb dX5_rootWithRegion_51 rfl ?_
      refine r_geti X hH (k := 5) (a := a) (j := 4) hk_a (by decide) rfl m_wi5 (by decide) in_2_140 rfl rfl dX5_rootWithRegion_52 ?_
      refine lv_iconst (v := (2 : Int32)) hx hb dX5_rootWithRegion_55 (by decide) ?_
      refine lv_iadd hx hb dX5_rootWithRegion_56 ?_
      obtain ⟨S8, e_S8, hm⟩ := m_let_of hm
      refine n_puti X hH hS tyX5 (k := 5) (a := a) (j := 4) hk_a (by decide) rfl m_wi5 tyX5_ok nmX5 (by decide) in_2_140 rfl rfl rfl ⟨rfl, rfl⟩ e_S8 dX5_rootWithRegion_57 (fun H locs hH hS => ?_)
      exact k_X5_rootWithRegion_60 (a := a) X hr hT hk_a   S8 v2 _ _ _ hH hS (lv_sub hl [0] rfl) hm
def rm_X5_leftOf : Room := { frames := 2, cells := 0, slots := 0, locals := 45 }
def f_X5_leftOf (a : Nat) (S : m_M) (i1 : Int32) : Option (Int32 × m_M) :=
    m_call (f_X5_rootWithRegion a S i1) fun v2 S1 =>
    (m_ldi S1 (a + 2) 183 v2).bind fun v3 =>
    some (v3, S1)
set_option maxHeartbeats 4000000 in
set_option maxRecDepth 100000 in
theorem c_X5_leftOf {l : Launch} {G : m_G} {nx : Nat} {κ : Nat → Nat} {a : Nat} {S : m_M} {i1 : Int32} {res : (Int32 × m_M)} (hT : m_Str κ) (hk_a : κ a = 6) (hm : f_X5_leftOf a S i1 = some res) : m_Ci l yX5_leftOf cX5_leftOf 2 (some .int) rm_X5_leftOf G nx κ [.ref a, .int i1] S res := by
  refine m_Ci.of (by decide) (Nat.le_of_ble_eq_true rfl) ?_
  intro p e s m args below meth c ls X hr hH hl
  have hx := X.1.1
  have hb := X.1.2.1
  have hS : m_S G s s.heap [] := va_S.rf
  have hl : lv_has ls 2 [(0, .ref a), (1, .int i1)] := hl
  rw [f_X5_leftOf] at hm
  refine lv_aload_n hx hb dX5_leftOf_0 rfl (lv_at hl 0 rfl) ?_
  refine r_getp X hH (k := 5) (a := a) (j := 1) (b := (a + 2)) (A := 2) (B := 0) hk_a (by decide) rfl m_wi5 (by decide) in_2_137 rfl rfl rfl dX5_leftOf_1 ?_
  refine lv_aload_n hx hb dX5_leftOf_4 rfl (lv_at hl 0 rfl) ?_
  refine lv_iload_n hx hb dX5_leftOf_5 rfl (lv_at hl 1 rfl) ?_
  obtain ⟨v2, S1, e_S1, hm⟩ := m_call_of hm
  refine n_cVi X hH hS (k := 5) (c_X5_rootWithRegion (a := a) hT hk_a e_S1) mw_X5_rootWithRegion in_4_39 hk_a (by decide) rfl rfl rfl ⟨rfl, rfl⟩ ⟨by decide, by decide⟩ ⟨Nat.zero_le _, Nat.zero_le _⟩ hl.1 (Nat.le_of_ble_eq_true rfl) dX5_leftOf_6 (fun H locs hH hS => ?_)
  obtain ⟨v3, h_v3, e_v3, hm⟩ := n_ldi hm
  refine n_iald X hH (n := 183) (m_lay_at hT hk_a (by decide) (i := 2) rfl) h_v3 e_v3 dX5_leftOf_9 ?_
  exact r_iret X hr hH hS hm dX5_leftOf_10
def rm_X5_rightOf : Room := { frames := 2, cells := 0, slots := 0, locals := 45 }
def f_X5_rightOf (a : Nat) (S : m_M) (i1 : Int32) : Option (Int32 × m_M) :=
    m_call (f_X5_rootWithRegion a S i1) fun v2 S1 =>
    (m_ldi S1 (a + 3) 183 v2).bind fun v3 =>
    some (v3, S1)
set_option maxHeartbeats 4000000 in
set_option maxRecDepth 100000 in
theorem c_X5_rightOf {l : Launch} {G : m_G} {nx : Nat} {κ : Nat → Nat} {a : Nat} {S : m_M} {i1 : Int32} {res : (Int32 × m_M)} (hT : m_Str κ) (hk_a : κ a = 6) (hm : f_X5_rightOf a S i1 = some res) : m_Ci l yX5_rightOf cX5_rightOf 2 (some .int) rm_X5_rightOf G nx κ [.ref a, .int i1] S res := by
  refine m_Ci.of (by decide) (Nat.le_of_ble_eq_true rfl) ?_
  intro p e s m args below meth c ls X hr hH hl
  have hx := X.1.1
  have hb := X.1.2.1
  have hS : m_S G s s.heap [] := va_S.rf
  have hl : lv_has ls 2 [(0, .ref a), (1, .int i1)] := hl
  rw [f_X5_rightOf] at hm
  refine lv_aload_n hx hb dX5_rightOf_0 rfl (lv_at hl 0 rfl) ?_
  refine r_getp X hH (k := 5) (a := a) (j := 2) (b := (a + 3)) (A := 3) (B := 0) hk_a (by decide) rfl m_wi5 (by decide) in_2_138 rfl rfl rfl dX5_rightOf_1 ?_
  refine lv_aload_n hx hb dX5_rightOf_4 rfl (lv_at hl 0 rfl) ?_
  refine lv_iload_n hx hb dX5_rightOf_5 rfl (lv_at hl 1 rfl) ?_
  obtain ⟨v2, S1, e_S1, hm⟩ := m_call_of hm
  refine n_cVi X hH hS (k := 5) (c_X5_rootWithRegion (a := a) hT hk_a e_S1) mw_X5_rootWithRegion in_4_39 hk_a (by decide) rfl rfl rfl ⟨rfl, rfl⟩ ⟨by decide, by decide⟩ ⟨Nat.zero_le _, Nat.zero_le _⟩ hl.1 (Nat.le_of_ble_eq_true rfl) dX5_rightOf_6 (fun H locs hH hS => ?_)
  obtain ⟨v3, h_v3, e_v3, hm⟩ := n_ldi hm
  refine n_iald X hH (n := 183) (m_lay_at hT hk_a (by decide) (i := 3) rfl) h_v3 e_v3 dX5_rightOf_9 ?_
  exact r_iret X hr hH hS hm dX5_rightOf_10
def rm_X5_tellAll : Room := { frames := 1, cells := 0, slots := 0, locals := 23 }
def b_X5_tellAll_12 (a o1 : Nat) (K_2 : m_M → Int32 → Option m_M) : Nat → m_M → Int32 → Int32 → Option m_M
  | 0, _, _, _ => none
  | n + 1, S, l2, l3 =>
    m_call (f_X3_varCount o1 S l2) fun v2 S1 =>
    if v2 ≤ l3 then (
    m_let (l2 + (1 : Int32)) fun v4 =>
    K_2 S1 v4) else (
    m_call (f_X5_nodeOf S1 l2 l3) fun v6 S5 =>
    m_call (f_X5_nodeOf S5 l2 l3) fun v8 S7 =>
    m_call (f_X5_rootOf a S7 v8) fun v10 S9 =>
    (m_ldi S9 (a + 4) 183 v10).bind fun v11 =>
    (m_sti S9 (o1 + 9) 135 v6 v11).bind fun S12 =>
    m_let (l3 + (1 : Int32)) fun v13 =>
    b_X5_tellAll_12 a o1 K_2 n S12 l2 v13)
set_option maxHeartbeats 4000000 in
set_option maxRecDepth 100000 in
theorem k_X5_tellAll_12 {p : Program} {l : Launch} {e : Env} {s : State} {m : MethodId} {args : Array Value} {below : List Frame} {meth : Method} {c : Code} {G : m_G} {nx : Nat} {κ : Nat → Nat} {res : m_M} {a o1 : Nat} (X : m_Cx p s m args meth c cX5_tellAll 4 RX5 G) (hr : meth.sig.returnType = none) (hT : m_Str κ) (hk_a : κ a = 6) (hk_o1 : κ o1 = 4) (K_2 : m_M → Int32 → Option m_M) (hK_2 : ∀ (S : m_M) (l2 : Int32) (H : Heap) (locs : List Loc) (ls : Array Slot), m_H G nx κ S H → m_S G s H locs → lv_has ls 4 [(0, .ref a), (1, .ref o1), (2, .int l2)] → K_2 S l2 = some res → W p l e rm_X5_tellAll s m args below meth c H locs 0 0 (m_Qv below args s G nx κ res) (F0 m 2 ls [])) (n : Nat) : ∀ (S : m_M) (l2 : Int32) (l3 : Int32) (H : Heap) (locs : List Loc) (ls : Array Slot), m_H G nx κ S H → m_S G s H locs → lv_has ls 4 [(0, .ref a), (1, .ref o1), (2, .int l2), (3, .int l3)] → b_X5_tellAll_12 a o1 K_2 n S l2 l3 = some res → W p l e rm_X5_tellAll s m args below meth c H locs 0 0 (m_Qv below args s G nx κ res) (F0 m 12 ls []) := by
  have hx := X.1.1
  have hb := X.1.2.1
  induction n with
  | zero => intro S l2 l3 H locs ls hH hS hl hm; have hm : (none : Option m_M) = some res := hm; cases hm
  | succ n ih =>
    intro S l2 l3 H locs ls hH hS hl hm
    rw [b_X5_tellAll_12] at hm
    refine lv_iload_n hx hb dX5_tellAll_12 rfl (lv_at hl 3 rfl) ?_
    refine lv_aload_n hx hb dX5_tellAll_13 rfl (lv_at hl 1 rfl) ?_
    refine lv_iload_n hx hb dX5_tellAll_14 rfl (lv_at hl 2 rfl) ?_
    obtain ⟨v2, S1, e_S1, hm⟩ := m_call_of hm
    refine n_cVi X hH hS (k := 3) (c_X3_varCount (a := o1) hT hk_o1 e_S1) mw_X3_varCount in_4_68 hk_o1 (by decide) rfl rfl rfl ⟨rfl, rfl⟩ ⟨by decide, by decide⟩ ⟨Nat.zero_le _, Nat.zero_le _⟩ hl.1 (Nat.le_of_ble_eq_true rfl) dX5_tellAll_15 (fun H locs hH hS => ?_)
    refine lv_icmp_ge (tgt := 54) hx hb dX5_tellAll_18 (by decide) (fun c3 => ?_) (fun c3 => ?_)
    · have hm := m_ite_t hm c3
      obtain ⟨v4, e_v4, hm⟩ := m_let_of hm
      refine lv_iinc (v := v4) (lv' := [(2, .int v4), (0, .ref a), (1, .ref o1), (3, .int l3)]) hx hb dX5_tellAll_54 hl (k := 2) rfl (by rw [← e_v4]; rfl) (by decide) rfl (fun ls hl => ?_)
      refine lv_goto (tgt := 2) hx hb dX5_tellAll_57 (by decide) ?_
      exact hK_2 S1 v4 _ _ _ hH hS (lv_sub hl [1, 2, 0] rfl) hm
    · have hm := m_ite_f hm c3
      refine lv_aload_n hx hb dX5_tellAll_21 rfl (lv_at hl 1 rfl) ?_
      refine r_getp X hH (k := 3) (a := o1) (j := 9) (b := (o1 + 8)) (A := 8) (B := 0) hk_o1 (by decide) rfl m_wi3 (by decide) in_2_47 rfl rfl rfl dX5_tellAll_22 ?_
      refine r_getp X hH (k := 6) (a := (o1 + 8)) (j := 2) (b := (o1 + 9)) (A := 1) (B := 0) (m_lay_at hT hk_o1 (by decide) (i := 8) rfl) (by decide) rfl m_wi6 (by decide) in_1_184 rfl rfl rfl dX5_tellAll_25 ?_
      refine lv_iload_n hx hb dX5_tellAll_28 rfl (lv_at hl 2 rfl) ?_
      refine lv_iload_n hx hb dX5_tellAll_29 rfl (lv_at hl 3 rfl) ?_
      obtain ⟨v6, S5, e_S5, hm⟩ := m_call_of hm
      refine n_cSi X hH hS (c_X5_nodeOf  hT  e_S5) mw_X5_nodeOf in_4_17 rfl ⟨rfl, rfl⟩ ⟨by decide, by decide⟩ ⟨Nat.zero_le _, Nat.zero_le _⟩ hl.1 (Nat.le_of_ble_eq_true rfl) dX5_tellAll_30 (fun H locs hH hS => ?_)
      refine lv_aload_n hx hb dX5_tellAll_33 rfl (lv_at hl 0 rfl) ?_
      refine r_getp X hH (k := 5) (a := a) (j := 3) (b := (a + 4)) (A := 4) (B := 0) hk_a (by decide) rfl m_wi5 (by decide) in_2_139 rfl rfl rfl dX5_tellAll_34 ?_
      refine lv_aload_n hx hb dX5_tellAll_37 rfl (lv_at hl 0 rfl) ?_
      refine lv_iload_n hx hb dX5_tellAll_38 rfl (lv_at hl 2 rfl) ?_
      refine lv_iload_n hx hb dX5_tellAll_39 rfl (lv_at hl 3 rfl) ?_
      obtain ⟨v8, S7, e_S7, hm⟩ := m_call_of hm
      refine n_cSi X hH hS (c_X5_nodeOf  hT  e_S7) mw_X5_nodeOf in_4_17 rfl ⟨rfl, rfl⟩ ⟨by decide, by decide⟩ ⟨Nat.zero_le _, Nat.zero_le _⟩ hl.1 (Nat.le_of_ble_eq_true rfl) dX5_tellAll_40 (fun H locs hH hS => ?_)
      obtain ⟨v10, S9, e_S9, hm⟩ := m_call_of hm
      refine n_cVi X hH hS (k := 5) (c_X5_rootOf (a := a) hT hk_a e_S9) mw_X5_rootOf in_4_31 hk_a (by decide) rfl rfl rfl ⟨rfl, rfl⟩ ⟨by decide, by decide⟩ ⟨Nat.zero_le _, Nat.zero_le _⟩ hl.1 (Nat.le_of_ble_eq_true rfl) dX5_tellAll_43 (fun H locs hH hS => ?_)
      obtain ⟨v11, h_v11, e_v11, hm⟩ := n_ldi hm
      refine n_iald X hH (n := 183) (m_lay_at hT hk_a (by decide) (i := 4) rfl) h_v11 e_v11 dX5_tellAll_46 ?_
      obtain ⟨S12, h_S12, e_S12, hm⟩ := n_sti hm
      refine n_iast X hH hS (n := 135) (m_lay_at hT hk_o1 (by decide) (i := 9) rfl) h_S12 e_S12 dX5_tellAll_47 (fun H locs hH hS => ?_)
      obtain ⟨v13, e_v13, hm⟩ := m_let_of hm
      refine lv_iinc (v := v13) (lv' := [(3, .int v13), (0, .ref a), (1, .ref o1), (2, .int l2)]) hx hb dX5_tellAll_48 hl (k := 3) rfl (by rw [← e_v13]; rfl) (by decide) rfl (fun ls hl => ?_)
      refine lv_goto (tgt := 12) hx hb dX5_tellAll_51 (by decide) ?_
      exact ih S12 l2 v13 _ _ _ hH hS (lv_sub hl [1, 2, 3, 0] rfl) hm
def b_X5_tellAll_129 (a o1 : Nat) (K_62 : m_M → Int32 → Option m_M) (S : m_M) (l2 : Int32) : Option m_M :=
    m_let (l2 + (1 : Int32)) fun v1 =>
    K_62 S v1
set_option maxHeartbeats 4000000 in
set_option maxRecDepth 100000 in
theorem k_X5_tellAll_129 {p : Program} {l : Launch} {e : Env} {s : State} {m : MethodId} {args : Array Value} {below : List Frame} {meth : Method} {c : Code} {G : m_G} {nx : Nat} {κ : Nat → Nat} {res : m_M} {a o1 : Nat} (X : m_Cx p s m args meth c cX5_tellAll 4 RX5 G) (hr : meth.sig.returnType = none) (hT : m_Str κ) (hk_a : κ a = 6) (hk_o1 : κ o1 = 4) (K_62 : m_M → Int32 → Option m_M) (hK_62 : ∀ (S : m_M) (l2 : Int32) (H : Heap) (locs : List Loc) (ls : Array Slot), m_H G nx κ S H → m_S G s H locs → lv_has ls 4 [(0, .ref a), (1, .ref o1), (2, .int l2)] → K_62 S l2 = some res → W p l e rm_X5_tellAll s m args below meth c H locs 0 0 (m_Qv below args s G nx κ res) (F0 m 62 ls [])) : ∀ (S : m_M) (l2 : Int32) (H : Heap) (locs : List Loc) (ls : Array Slot), m_H G nx κ S H → m_S G s H locs → lv_has ls 4 [(0, .ref a), (1, .ref o1), (2, .int l2)] → b_X5_tellAll_129 a o1 K_62 S l2 = some res → W p l e rm_X5_tellAll s m args below meth c H locs 0 0 (m_Qv below args s G nx κ res) (F0 m 129 ls []) := by
  have hx := X.1.1
  have hb := X.1.2.1
  intro S l2 H locs ls hH hS hl hm
  rw [b_X5_tellAll_129] at hm
  obtain ⟨v1, e_v1, hm⟩ := m_let_of hm
  refine lv_iinc (v := v1) (lv' := [(2, .int v1), (0, .ref a), (1, .ref o1)]) hx hb dX5_tellAll_129 hl (k := 2) rfl (by rw [← e_v1]; rfl) (by decide) rfl (fun ls hl => ?_)
  refine lv_goto (tgt := 62) hx hb dX5_tellAll_132 (by decide) ?_
  exact hK_62 S v1 _ _ _ hH hS (lv_sub hl [1, 2, 0] rfl) hm
def b_X5_tellAll_62 (a o1 : Nat)  : Nat → m_M → Int32 → Option m_M
  | 0, _, _ => none
  | n + 1, S, l2 =>
    if (183 : Int32) ≤ l2 then (
    some S) else (
    (m_ldi S (a + 4) 183 l2).bind fun v2 =>
    if v2 = (-1 : Int32) then (
    b_X5_tellAll_129 a o1 (b_X5_tellAll_62 a o1 n) S l2) else (
    (m_ldi S (a + 2) 183 l2).bind fun v4 =>
    m_call (f_X5_rootOf a S v4) fun v6 S5 =>
    (m_ldi S5 (a + 4) 183 v6).bind fun v7 =>
    (m_sti S5 (o1 + 11) 24 v2 v7).bind fun S8 =>
    (m_ldi S8 (a + 3) 183 l2).bind fun v9 =>
    m_call (f_X5_rootOf a S8 v9) fun v11 S10 =>
    (m_ldi S10 (a + 4) 183 v11).bind fun v12 =>
    (m_sti S10 (o1 + 12) 24 v2 v12).bind fun S13 =>
    b_X5_tellAll_129 a o1 (b_X5_tellAll_62 a o1 n) S13 l2))
set_option maxHeartbeats 4000000 in
set_option maxRecDepth 100000 in
theorem k_X5_tellAll_62 {p : Program} {l : Launch} {e : Env} {s : State} {m : MethodId} {args : Array Value} {below : List Frame} {meth : Method} {c : Code} {G : m_G} {nx : Nat} {κ : Nat → Nat} {res : m_M} {a o1 : Nat} (X : m_Cx p s m args meth c cX5_tellAll 4 RX5 G) (hr : meth.sig.returnType = none) (hT : m_Str κ) (hk_a : κ a = 6) (hk_o1 : κ o1 = 4)  (n : Nat) : ∀ (S : m_M) (l2 : Int32) (H : Heap) (locs : List Loc) (ls : Array Slot), m_H G nx κ S H → m_S G s H locs → lv_has ls 4 [(0, .ref a), (1, .ref o1), (2, .int l2)] → b_X5_tellAll_62 a o1 n S l2 = some res → W p l e rm_X5_tellAll s m args below meth c H locs 0 0 (m_Qv below args s G nx κ res) (F0 m 62 ls []) := by
  have hx := X.1.1
  have hb := X.1.2.1
  induction n with
  | zero => intro S l2 H locs ls hH hS hl hm; have hm : (none : Option m_M) = some res := hm; cases hm
  | succ n ih =>
    intro S l2 H locs ls hH hS hl hm
    rw [b_X5_tellAll_62] at hm
    refine lv_iload_n hx hb dX5_tellAll_62 rfl (lv_at hl 2 rfl) ?_
    refine lv_sipush (v := (183 : Int32)) hx hb dX5_tellAll_63 (by decide) ?_
    refine lv_icmp_ge (tgt := 135) hx hb dX5_tellAll_66 (by decide) (fun c1 => ?_) (fun c1 => ?_)
    · have hm := m_ite_t hm c1
      exact r_vret X hr hH hS hm dX5_tellAll_135
    · have hm := m_ite_f hm c1
      refine lv_aload_n hx hb dX5_tellAll_69 rfl (lv_at hl 0 rfl) ?_
      refine r_getp X hH (k := 5) (a := a) (j := 3) (b := (a + 4)) (A := 4) (B := 0) hk_a (by decide) rfl m_wi5 (by decide) in_2_139 rfl rfl rfl dX5_tellAll_70 ?_
      refine lv_iload_n hx hb dX5_tellAll_73 rfl (lv_at hl 2 rfl) ?_
      obtain ⟨v2, h_v2, e_v2, hm⟩ := n_ldi hm
      refine n_iald X hH (n := 183) (m_lay_at hT hk_a (by decide) (i := 4) rfl) h_v2 e_v2 dX5_tellAll_74 ?_
      refine lv_istore_n (lv' := [(3, .int v2), (0, .ref a), (1, .ref o1), (2, .int l2)]) hx hb dX5_tellAll_75 rfl hl (by decide) rfl (fun ls hl => ?_)
      refine lv_iload_n hx hb dX5_tellAll_76 rfl (lv_at hl 0 rfl) ?_
      refine lv_iconst (v := (-1 : Int32)) hx hb dX5_tellAll_77 (by decide) ?_
      refine lv_icmp_eq (tgt := 129) hx hb dX5_tellAll_78 (by decide) (fun c3 => ?_) (fun c3 => ?_)
      · have hm := m_ite_t hm c3
        exact k_X5_tellAll_129 (a := a) (o1 := o1) X hr hT hk_a hk_o1 (b_X5_tellAll_62 a o1 n) ih  S l2 _ _ _ hH hS (lv_sub hl [1, 2, 3] rfl) hm
      · have hm := m_ite_f hm c3
        refine lv_aload_n hx hb dX5_tellAll_81 rfl (lv_at hl 2 rfl) ?_
        refine r_getp X hH (k := 3) (a := o1) (j := 9) (b := (o1 + 8)) (A := 8) (B := 0) hk_o1 (by decide) rfl m_wi3 (by decide) in_2_47 rfl rfl rfl dX5_tellAll_82 ?_
        refine r_getp X hH (k := 6) (a := (o1 + 8)) (j := 4) (b := (o1 + 11)) (A := 3) (B := 0) (m_lay_at hT hk_o1 (by decide) (i := 8) rfl) (by decide) rfl m_wi6 (by decide) in_1_188 rfl rfl rfl dX5_tellAll_85 ?_
        refine lv_iload_n hx hb dX5_tellAll_88 rfl (lv_at hl 0 rfl) ?_
        refine lv_aload_n hx hb dX5_tellAll_89 rfl (lv_at hl 1 rfl) ?_
        refine r_getp X hH (k := 5) (a := a) (j := 3) (b := (a + 4)) (A := 4) (B := 0) hk_a (by decide) rfl m_wi5 (by decide) in_2_139 rfl rfl rfl dX5_tellAll_90 ?_
        refine lv_aload_n hx hb dX5_tellAll_93 rfl (lv_at hl 1 rfl) ?_
        refine lv_aload_n hx hb dX5_tellAll_94 rfl (lv_at hl 1 rfl) ?_
        refine r_getp X hH (k := 5) (a := a) (j := 1) (b := (a + 2)) (A := 2) (B := 0) hk_a (by decide) rfl m_wi5 (by decide) in_2_137 rfl rfl rfl dX5_tellAll_95 ?_
        refine lv_iload_n hx hb dX5_tellAll_98 rfl (lv_at hl 3 rfl) ?_
        obtain ⟨v4, h_v4, e_v4, hm⟩ := n_ldi hm
        refine n_iald X hH (n := 183) (m_lay_at hT hk_a (by decide) (i := 2) rfl) h_v4 e_v4 dX5_tellAll_99 ?_
        obtain ⟨v6, S5, e_S5, hm⟩ := m_call_of hm
        refine n_cVi X hH hS (k := 5) (c_X5_rootOf (a := a) hT hk_a e_S5) mw_X5_rootOf in_4_31 hk_a (by decide) rfl rfl rfl ⟨rfl, rfl⟩ ⟨by decide, by decide⟩ ⟨Nat.zero_le _, Nat.zero_le _⟩ hl.1 (Nat.le_of_ble_eq_true rfl) dX5_tellAll_100 (fun H locs hH hS => ?_)
        obtain ⟨v7, h_v7, e_v7, hm⟩ := n_ldi hm
        refine n_iald X hH (n := 183) (m_lay_at hT hk_a (by decide) (i := 4) rfl) h_v7 e_v7 dX5_tellAll_103 ?_
        obtain ⟨S8, h_S8, e_S8, hm⟩ := n_sti hm
        refine n_iast X hH hS (n := 24) (m_lay_at hT hk_o1 (by decide) (i := 11) rfl) h_S8 e_S8 dX5_tellAll_104 (fun H locs hH hS => ?_)
        refine lv_aload_n hx hb dX5_tellAll_105 rfl (lv_at hl 2 rfl) ?_
        refine r_getp X hH (k := 3) (a := o1) (j := 9) (b := (o1 + 8)) (A := 8) (B := 0) hk_o1 (by decide) rfl m_wi3 (by decide) in_2_47 rfl rfl rfl dX5_tellAll_106 ?_
        refine r_getp X hH (k := 6) (a := (o1 + 8)) (j := 5) (b := (o1 + 12)) (A := 4) (B := 0) (m_lay_at hT hk_o1 (by decide) (i := 8) rfl) (by decide) rfl m_wi6 (by decide) in_1_191 rfl rfl rfl dX5_tellAll_109 ?_
        refine lv_iload_n hx hb dX5_tellAll_112 rfl (lv_at hl 0 rfl) ?_
        refine lv_aload_n hx hb dX5_tellAll_113 rfl (lv_at hl 1 rfl) ?_
        refine r_getp X hH (k := 5) (a := a) (j := 3) (b := (a + 4)) (A := 4) (B := 0) hk_a (by decide) rfl m_wi5 (by decide) in_2_139 rfl rfl rfl dX5_tellAll_114 ?_
        refine lv_aload_n hx hb dX5_tellAll_117 rfl (lv_at hl 1 rfl) ?_
        refine lv_aload_n hx hb dX5_tellAll_118 rfl (lv_at hl 1 rfl) ?_
        refine r_getp X hH (k := 5) (a := a) (j := 2) (b := (a + 3)) (A := 3) (B := 0) hk_a (by decide) rfl m_wi5 (by decide) in_2_138 rfl rfl rfl dX5_tellAll_119 ?_
        refine lv_iload_n hx hb dX5_tellAll_122 rfl (lv_at hl 3 rfl) ?_
        obtain ⟨v9, h_v9, e_v9, hm⟩ := n_ldi hm
        refine n_iald X hH (n := 183) (m_lay_at hT hk_a (by decide) (i := 3) rfl) h_v9 e_v9 dX5_tellAll_123 ?_
        obtain ⟨v11, S10, e_S10, hm⟩ := m_call_of hm
        refine n_cVi X hH hS (k := 5) (c_X5_rootOf (a := a) hT hk_a e_S10) mw_X5_rootOf in_4_31 hk_a (by decide) rfl rfl rfl ⟨rfl, rfl⟩ ⟨by decide, by decide⟩ ⟨Nat.zero_le _, Nat.zero_le _⟩ hl.1 (Nat.le_of_ble_eq_true rfl) dX5_tellAll_124 (fun H locs hH hS => ?_)
        obtain ⟨v12, h_v12, e_v12, hm⟩ := n_ldi hm
        refine n_iald X hH (n := 183) (m_lay_at hT hk_a (by decide) (i := 4) rfl) h_v12 e_v12 dX5_tellAll_127 ?_
        obtain ⟨S13, h_S13, e_S13, hm⟩ := n_sti hm
        refine n_iast X hH hS (n := 24) (m_lay_at hT hk_o1 (by decide) (i := 12) rfl) h_S13 e_S13 dX5_tellAll_128 (fun H locs hH hS => ?_)
        exact k_X5_tellAll_129 (a := a) (o1 := o1) X hr hT hk_a hk_o1 (b_X5_tellAll_62 a o1 n) ih  S13 l2 _ _ _ hH hS (lv_sub hl [1, 2, 3] rfl) hm
def b_X5_tellAll_2 (a o1 : Nat)  : Nat → m_M → Int32 → Option m_M
  | 0, _, _ => none
  | n + 1, S, l2 =>
    if (m_ri S o1 0) ≤ l2 then (
    b_X5_tellAll_62 a o1 m_fu S (0 : Int32)) else (
    b_X5_tellAll_12 a o1 (b_X5_tellAll_2 a o1 n) m_fu S l2 (0 : Int32))
set_option maxHeartbeats 4000000 in
set_option maxRecDepth 100000 in
theorem k_X5_tellAll_2 {p : Program} {l : Launch} {e : Env} {s : State} {m : MethodId} {args : Array Value} {below : List Frame} {meth : Method} {c : Code} {G : m_G} {nx : Nat} {κ : Nat → Nat} {res : m_M} {a o1 : Nat} (X : m_Cx p s m args meth c cX5_tellAll 4 RX5 G) (hr : meth.sig.returnType = none) (hT : m_Str κ) (hk_a : κ a = 6) (hk_o1 : κ o1 = 4)  (n : Nat) : ∀ (S : m_M) (l2 : Int32) (H : Heap) (locs : List Loc) (ls : Array Slot), m_H G nx κ S H → m_S G s H locs → lv_has ls 4 [(0, .ref a), (1, .ref o1), (2, .int l2)] → b_X5_tellAll_2 a o1 n S l2 = some res → W p l e rm_X5_tellAll s m args below meth c H locs 0 0 (m_Qv below args s G nx κ res) (F0 m 2 ls []) := by
  have hx := X.1.1
  have hb := X.1.2.1
  induction n with
  | zero => intro S l2 H locs ls hH hS hl hm; have hm : (none : Option m_M) = some res := hm; cases hm
  | succ n ih =>
    intro S l2 H locs ls hH hS hl hm
    rw [b_X5_tellAll_2] at hm
    refine lv_iload_n hx hb dX5_tellAll_2 rfl (lv_at hl 2 rfl) ?_
    refine lv_aload_n hx hb dX5_tellAll_3 rfl (lv_at hl 1 rfl) ?_
    refine r_geti X hH (k := 3) (a := o1) (j := 0) hk_o1 (by decide) rfl m_wi3 (by decide) in_2_6 rfl rfl dX5_tellAll_4 ?_
    refine lv_icmp_ge (tgt := 60) hx hb dX5_tellAll_7 (by decide) (fun c1 => ?_) (fun c1 => ?_)
    · have hm := m_ite_t hm c1
      refine lv_iconst (v := (0 : Int32)) hx hb dX5_tellAll_60 (by decide) ?_
      refine lv_istore_n (lv' := [(2, .int (0 : Int32)), (0, .ref a), (1, .ref o1)]) hx hb dX5_tellAll_61 rfl hl (by decide) rfl (fun ls hl => ?_)
      exact k_X5_tellAll_62 (a := a) (o1 := o1) X hr hT hk_a hk_o1  m_fu S (0 : Int32) _ _ _ hH hS (lv_sub hl [1, 2, 0] rfl) hm
    · have hm := m_ite_f hm c1
      refine lv_iconst (v := (0 : Int32)) hx hb dX5_tellAll_10 (by decide) ?_
      refine lv_istore_n (lv' := [(3, .int (0 : Int32)), (0, .ref a), (1, .ref o1), (2, .int l2)]) hx hb dX5_tellAll_11 rfl hl (by decide) rfl (fun ls hl => ?_)
      exact k_X5_tellAll_12 (a := a) (o1 := o1) X hr hT hk_a hk_o1 (b_X5_tellAll_2 a o1 n) ih m_fu S l2 (0 : Int32) _ _ _ hH hS (lv_sub hl [1, 2, 3, 0] rfl) hm
def f_X5_tellAll (a o1 : Nat) (S : m_M)  : Option m_M :=
    b_X5_tellAll_2 a o1 m_fu S (0 : Int32)
set_option maxHeartbeats 4000000 in
set_option maxRecDepth 100000 in
theorem c_X5_tellAll {l : Launch} {G : m_G} {nx : Nat} {κ : Nat → Nat} {a o1 : Nat} {S : m_M}  {res : m_M} (hT : m_Str κ) (hk_a : κ a = 6) (hk_o1 : κ o1 = 4) (hm : f_X5_tellAll a o1 S = some res) : m_Cv l yX5_tellAll cX5_tellAll 4 rm_X5_tellAll G nx κ [.ref a, .ref o1] S res := by
  refine m_Cv.of (by decide) (Nat.le_of_ble_eq_true rfl) ?_
  intro p e s m args below meth c ls X hr hH hl
  have hx := X.1.1
  have hb := X.1.2.1
  have hS : m_S G s s.heap [] := va_S.rf
  have hl : lv_has ls 4 [(0, .ref a), (1, .ref o1)] := hl
  rw [f_X5_tellAll] at hm
  refine lv_iconst (v := (0 : Int32)) hx hb dX5_tellAll_0 (by decide) ?_
  refine lv_istore_n (lv' := [(2, .int (0 : Int32)), (0, .ref a), (1, .ref o1)]) hx hb dX5_tellAll_1 rfl hl (by decide) rfl (fun ls hl => ?_)
  exact k_X5_tellAll_2 (a := a) (o1 := o1) X hr hT hk_a hk_o1  m_fu S (0 : Int32) _ _ _ hH hS (lv_sub hl [1, 2, 0] rfl) hm
def rm_X6_has : Room := { frames := 0, cells := 0, slots := 0, locals := 0 }
def b_X6_has_17 (a : Nat)  (S : m_M) (t0 : Int32) : Option (Int32 × m_M) :=
    if t0 = 0 ∨ t0 = 1 then some (t0, S) else none
set_option maxHeartbeats 4000000 in
set_option maxRecDepth 100000 in
theorem k_X6_has_17 {p : Program} {l : Launch} {e : Env} {s : State} {m : MethodId} {args : Array Value} {below : List Frame} {meth : Method} {c : Code} {G : m_G} {nx : Nat} {κ : Nat → Nat} {res : (Int32 × m_M)} {a : Nat} (X : m_Cx p s m args meth c cX6_has 2 RX6 G) (hr : meth.sig.returnType = (some .boolean)) (hT : m_Str κ) (hk_a : κ a = 7)  : ∀ (S : m_M) (t0 : Int32) (H : Heap) (locs : List Loc) (ls : Array Slot), m_H G nx κ S H → m_S G s H locs → lv_has ls 2 [] → b_X6_has_17 a S t0 = some res → W p l e rm_X6_has s m args below meth c H locs 0 0 (m_Qi below args s G nx κ res) (F0 m 17 ls [.int t0]) := by
  have hx := X.1.1
  have hb := X.1.2.1
  intro S t0 H locs ls hH hS hl hm
  rw [b_X6_has_17] at hm
  exact r_zret X hr hH hS hm dX6_has_17
def b_X6_has_16 (a : Nat)  (S : m_M)  : Option (Int32 × m_M) :=
    b_X6_has_17 a S (0 : Int32)
set_option maxHeartbeats 4000000 in
set_option maxRecDepth 100000 in
theorem k_X6_has_16 {p : Program} {l : Launch} {e : Env} {s : State} {m : MethodId} {args : Array Value} {below : List Frame} {meth : Method} {c : Code} {G : m_G} {nx : Nat} {κ : Nat → Nat} {res : (Int32 × m_M)} {a : Nat} (X : m_Cx p s m args meth c cX6_has 2 RX6 G) (hr : meth.sig.returnType = (some .boolean)) (hT : m_Str κ) (hk_a : κ a = 7)  : ∀ (S : m_M)  (H : Heap) (locs : List Loc) (ls : Array Slot), m_H G nx κ S H → m_S G s H locs → lv_has ls 2 [] → b_X6_has_16 a S  = some res → W p l e rm_X6_has s m args below meth c H locs 0 0 (m_Qi below args s G nx κ res) (F0 m 16 ls []) := by
  have hx := X.1.1
  have hb := X.1.2.1
  intro S H locs ls hH hS hl hm
  rw [b_X6_has_16] at hm
  refine lv_iconst (v := (0 : Int32)) hx hb dX6_has_16 (by decide) ?_
  exact k_X6_has_17 (a := a) X hr hT hk_a   S (0 : Int32) _ _ _ hH hS hl hm
def f_X6_has (a : Nat) (S : m_M) (i1 : Int32) : Option (Int32 × m_M) :=
    if i1 < 0 then (
    b_X6_has_16 a S) else (
    if (m_ri S a 0) ≤ i1 then (
    b_X6_has_16 a S) else (
    b_X6_has_17 a S (1 : Int32)))
set_option maxHeartbeats 4000000 in
set_option maxRecDepth 100000 in
theorem c_X6_has {l : Launch} {G : m_G} {nx : Nat} {κ : Nat → Nat} {a : Nat} {S : m_M} {i1 : Int32} {res : (Int32 × m_M)} (hT : m_Str κ) (hk_a : κ a = 7) (hm : f_X6_has a S i1 = some res) : m_Ci l yX6_has cX6_has 2 (some .boolean) rm_X6_has G nx κ [.ref a, .int i1] S res := by
  refine m_Ci.of (by decide) (Nat.le_of_ble_eq_true rfl) ?_
  intro p e s m args below meth c ls X hr hH hl
  have hx := X.1.1
  have hb := X.1.2.1
  have hS : m_S G s s.heap [] := va_S.rf
  have hl : lv_has ls 2 [(0, .ref a), (1, .int i1)] := hl
  rw [f_X6_has] at hm
  refine lv_iload_n hx hb dX6_has_0 rfl (lv_at hl 1 rfl) ?_
  refine lv_if_lt (tgt := 16) hx hb dX6_has_1 (by decide) (fun c1 => ?_) (fun c1 => ?_)
  · have hm := m_ite_t hm c1
    exact k_X6_has_16 (a := a) X hr hT hk_a   S _ _ _ hH hS (lv_sub hl [] rfl) hm
  · have hm := m_ite_f hm c1
    refine lv_iload_n hx hb dX6_has_4 rfl (lv_at hl 1 rfl) ?_
    refine lv_aload_n hx hb dX6_has_5 rfl (lv_at hl 0 rfl) ?_
    refine r_geti X hH (k := 6) (a := a) (j := 0) hk_a (by decide) rfl m_wi6 (by decide) in_1_178 rfl rfl dX6_has_6 ?_
    refine lv_icmp_ge (tgt := 16) hx hb dX6_has_9 (by decide) (fun c2 => ?_) (fun c2 => ?_)
    · have hm := m_ite_t hm c2
      exact k_X6_has_16 (a := a) X hr hT hk_a   S _ _ _ hH hS (lv_sub hl [] rfl) hm
    · have hm := m_ite_f hm c2
      refine lv_iconst (v := (1 : Int32)) hx hb dX6_has_12 (by decide) ?_
      refine lv_goto (tgt := 17) hx hb dX6_has_13 (by decide) ?_
      exact k_X6_has_17 (a := a) X hr hT hk_a   S (1 : Int32) _ _ _ hH hS (lv_sub hl [] rfl) hm
def rm_X6_isOwned : Room := { frames := 0, cells := 0, slots := 0, locals := 0 }
def b_X6_isOwned_18 (a : Nat)  (S : m_M) (t0 : Int32) : Option (Int32 × m_M) :=
    if t0 = 0 ∨ t0 = 1 then some (t0, S) else none
set_option maxHeartbeats 4000000 in
set_option maxRecDepth 100000 in
theorem k_X6_isOwned_18 {p : Program} {l : Launch} {e : Env} {s : State} {m : MethodId} {args : Array Value} {below : List Frame} {meth : Method} {c : Code} {G : m_G} {nx : Nat} {κ : Nat → Nat} {res : (Int32 × m_M)} {a : Nat} (X : m_Cx p s m args meth c cX6_isOwned 3 RX6 G) (hr : meth.sig.returnType = (some .boolean)) (hT : m_Str κ) (hk_a : κ a = 7)  : ∀ (S : m_M) (t0 : Int32) (H : Heap) (locs : List Loc) (ls : Array Slot), m_H G nx κ S H → m_S G s H locs → lv_has ls 3 [] → b_X6_isOwned_18 a S t0 = some res → W p l e rm_X6_isOwned s m args below meth c H locs 0 0 (m_Qi below args s G nx κ res) (F0 m 18 ls [.int t0]) := by
  have hx := X.1.1
  have hb := X.1.2.1
  intro S t0 H locs ls hH hS hl hm
  rw [b_X6_isOwned_18] at hm
  exact r_zret X hr hH hS hm dX6_isOwned_18
def f_X6_isOwned (a : Nat) (S : m_M) (i1 : Int32) (i2 : Int32) : Option (Int32 × m_M) :=
    (m_ldi S (a + 9) 5 i1).bind fun v1 =>
    if ((v1 >>> (i2 &&& 31)) &&& (1 : Int32)) = 0 then (
    b_X6_isOwned_18 a S (0 : Int32)) else (
    b_X6_isOwned_18 a S (1 : Int32))
set_option maxHeartbeats 4000000 in
set_option maxRecDepth 100000 in
theorem c_X6_isOwned {l : Launch} {G : m_G} {nx : Nat} {κ : Nat → Nat} {a : Nat} {S : m_M} {i1 : Int32} {i2 : Int32} {res : (Int32 × m_M)} (hT : m_Str κ) (hk_a : κ a = 7) (hm : f_X6_isOwned a S i1 i2 = some res) : m_Ci l yX6_isOwned cX6_isOwned 3 (some .boolean) rm_X6_isOwned G nx κ [.ref a, .int i1, .int i2] S res := by
  refine m_Ci.of (by decide) (Nat.le_of_ble_eq_true rfl) ?_
  intro p e s m args below meth c ls X hr hH hl
  have hx := X.1.1
  have hb := X.1.2.1
  have hS : m_S G s s.heap [] := va_S.rf
  have hl : lv_has ls 3 [(0, .ref a), (1, .int i1), (2, .int i2)] := hl
  rw [f_X6_isOwned] at hm
  refine lv_aload_n hx hb dX6_isOwned_0 rfl (lv_at hl 0 rfl) ?_
  refine r_getp X hH (k := 6) (a := a) (j := 10) (b := (a + 9)) (A := 9) (B := 0) hk_a (by decide) rfl m_wi6 (by decide) in_1_203 rfl rfl rfl dX6_isOwned_1 ?_
  refine lv_iload_n hx hb dX6_isOwned_4 rfl (lv_at hl 1 rfl) ?_
  obtain ⟨v1, h_v1, e_v1, hm⟩ := n_ldi hm
  refine n_iald X hH (n := 5) (m_lay_at hT hk_a (by decide) (i := 9) rfl) h_v1 e_v1 dX6_isOwned_5 ?_
  refine lv_iload_n hx hb dX6_isOwned_6 rfl (lv_at hl 2 rfl) ?_
  refine lv_ishr hx hb dX6_isOwned_7 ?_
  refine lv_iconst (v := (1 : Int32)) hx hb dX6_isOwned_8 (by decide) ?_
  refine lv_iand hx hb dX6_isOwned_9 ?_
  refine lv_if_eq (tgt := 17) hx hb dX6_isOwned_10 (by decide) (fun c2 => ?_) (fun c2 => ?_)
  · have hm := m_ite_t hm c2
    refine lv_iconst (v := (0 : Int32)) hx hb dX6_isOwned_17 (by decide) ?_
    exact k_X6_isOwned_18 (a := a) X hr hT hk_a   S (0 : Int32) _ _ _ hH hS (lv_sub hl [] rfl) hm
  · have hm := m_ite_f hm c2
    refine lv_iconst (v := (1 : Int32)) hx hb dX6_isOwned_13 (by decide) ?_
    refine lv_goto (tgt := 18) hx hb dX6_isOwned_14 (by decide) ?_
    exact k_X6_isOwned_18 (a := a) X hr hT hk_a   S (1 : Int32) _ _ _ hH hS (lv_sub hl [] rfl) hm
def rm_X6_isFinite : Room := { frames := 0, cells := 0, slots := 0, locals := 0 }
def b_X6_isFinite_16 (a : Nat)  (S : m_M) (t0 : Int32) : Option (Int32 × m_M) :=
    if t0 = 0 ∨ t0 = 1 then some (t0, S) else none
set_option maxHeartbeats 4000000 in
set_option maxRecDepth 100000 in
theorem k_X6_isFinite_16 {p : Program} {l : Launch} {e : Env} {s : State} {m : MethodId} {args : Array Value} {below : List Frame} {meth : Method} {c : Code} {G : m_G} {nx : Nat} {κ : Nat → Nat} {res : (Int32 × m_M)} {a : Nat} (X : m_Cx p s m args meth c cX6_isFinite 2 RX6 G) (hr : meth.sig.returnType = (some .boolean)) (hT : m_Str κ) (hk_a : κ a = 7)  : ∀ (S : m_M) (t0 : Int32) (H : Heap) (locs : List Loc) (ls : Array Slot), m_H G nx κ S H → m_S G s H locs → lv_has ls 2 [] → b_X6_isFinite_16 a S t0 = some res → W p l e rm_X6_isFinite s m args below meth c H locs 0 0 (m_Qi below args s G nx κ res) (F0 m 16 ls [.int t0]) := by
  have hx := X.1.1
  have hb := X.1.2.1
  intro S t0 H locs ls hH hS hl hm
  rw [b_X6_isFinite_16] at hm
  exact r_zret X hr hH hS hm dX6_isFinite_16
def f_X6_isFinite (a : Nat) (S : m_M) (i1 : Int32) : Option (Int32 × m_M) :=
    if (((m_ri S a 1) >>> (i1 &&& 31)) &&& (1 : Int32)) = 0 then (
    b_X6_isFinite_16 a S (0 : Int32)) else (
    b_X6_isFinite_16 a S (1 : Int32))
set_option maxHeartbeats 4000000 in
set_option maxRecDepth 100000 in
theorem c_X6_isFinite {l : Launch} {G : m_G} {nx : Nat} {κ : Nat → Nat} {a : Nat} {S : m_M} {i1 : Int32} {res : (Int32 × m_M)} (hT : m_Str κ) (hk_a : κ a = 7) (hm : f_X6_isFinite a S i1 = some res) : m_Ci l yX6_isFinite cX6_isFinite 2 (some .boolean) rm_X6_isFinite G nx κ [.ref a, .int i1] S res := by
  refine m_Ci.of (by decide) (Nat.le_of_ble_eq_true rfl) ?_
  intro p e s m args below meth c ls X hr hH hl
  have hx := X.1.1
  have hb := X.1.2.1
  have hS : m_S G s s.heap [] := va_S.rf
  have hl : lv_has ls 2 [(0, .ref a), (1, .int i1)] := hl
  rw [f_X6_isFinite] at hm
  refine lv_aload_n hx hb dX6_isFinite_0 rfl (lv_at hl 0 rfl) ?_
  refine r_geti X hH (k := 6) (a := a) (j := 1) hk_a (by decide) rfl m_wi6 (by decide) in_1_181 rfl rfl dX6_isFinite_1 ?_
  refine lv_iload_n hx hb dX6_isFinite_4 rfl (lv_at hl 1 rfl) ?_
  refine lv_ishr hx hb dX6_isFinite_5 ?_
  refine lv_iconst (v := (1 : Int32)) hx hb dX6_isFinite_6 (by decide) ?_
  refine lv_iand hx hb dX6_isFinite_7 ?_
  refine lv_if_eq (tgt := 15) hx hb dX6_isFinite_8 (by decide) (fun c1 => ?_) (fun c1 => ?_)
  · have hm := m_ite_t hm c1
    refine lv_iconst (v := (0 : Int32)) hx hb dX6_isFinite_15 (by decide) ?_
    exact k_X6_isFinite_16 (a := a) X hr hT hk_a   S (0 : Int32) _ _ _ hH hS (lv_sub hl [] rfl) hm
  · have hm := m_ite_f hm c1
    refine lv_iconst (v := (1 : Int32)) hx hb dX6_isFinite_11 (by decide) ?_
    refine lv_goto (tgt := 16) hx hb dX6_isFinite_12 (by decide) ?_
    exact k_X6_isFinite_16 (a := a) X hr hT hk_a   S (1 : Int32) _ _ _ hH hS (lv_sub hl [] rfl) hm
def rm_X6_reachOf : Room := { frames := 1, cells := 0, slots := 0, locals := 21 }
def b_X6_reachOf_18 (a : Nat)  (S : m_M) (t0 : Int32) : Option (Int32 × m_M) :=
    some (t0, S)
set_option maxHeartbeats 4000000 in
set_option maxRecDepth 100000 in
theorem k_X6_reachOf_18 {p : Program} {l : Launch} {e : Env} {s : State} {m : MethodId} {args : Array Value} {below : List Frame} {meth : Method} {c : Code} {G : m_G} {nx : Nat} {κ : Nat → Nat} {res : (Int32 × m_M)} {a : Nat} (X : m_Cx p s m args meth c cX6_reachOf 2 RX6 G) (hr : meth.sig.returnType = (some .int)) (hT : m_Str κ) (hk_a : κ a = 7)  : ∀ (S : m_M) (t0 : Int32) (H : Heap) (locs : List Loc) (ls : Array Slot), m_H G nx κ S H → m_S G s H locs → lv_has ls 2 [] → b_X6_reachOf_18 a S t0 = some res → W p l e rm_X6_reachOf s m args below meth c H locs 0 0 (m_Qi below args s G nx κ res) (F0 m 18 ls [.int t0]) := by
  have hx := X.1.1
  have hb := X.1.2.1
  intro S t0 H locs ls hH hS hl hm
  rw [b_X6_reachOf_18] at hm
  exact r_iret X hr hH hS hm dX6_reachOf_18
def f_X6_reachOf (a : Nat) (S : m_M) (i1 : Int32) : Option (Int32 × m_M) :=
    m_call (f_X6_has a S i1) fun v2 S1 =>
    if v2 = 0 then (
    b_X6_reachOf_18 a S1 (0 : Int32)) else (
    (m_ldi S1 (a + 5) 24 i1).bind fun v4 =>
    b_X6_reachOf_18 a S1 v4)
set_option maxHeartbeats 4000000 in
set_option maxRecDepth 100000 in
theorem c_X6_reachOf {l : Launch} {G : m_G} {nx : Nat} {κ : Nat → Nat} {a : Nat} {S : m_M} {i1 : Int32} {res : (Int32 × m_M)} (hT : m_Str κ) (hk_a : κ a = 7) (hm : f_X6_reachOf a S i1 = some res) : m_Ci l yX6_reachOf cX6_reachOf 2 (some .int) rm_X6_reachOf G nx κ [.ref a, .int i1] S res := by
  refine m_Ci.of (by decide) (Nat.le_of_ble_eq_true rfl) ?_
  intro p e s m args below meth c ls X hr hH hl
  have hx := X.1.1
  have hb := X.1.2.1
  have hS : m_S G s s.heap [] := va_S.rf
  have hl : lv_has ls 2 [(0, .ref a), (1, .int i1)] := hl
  rw [f_X6_reachOf] at hm
  refine lv_aload_n hx hb dX6_reachOf_0 rfl (lv_at hl 0 rfl) ?_
  refine lv_iload_n hx hb dX6_reachOf_1 rfl (lv_at hl 1 rfl) ?_
  obtain ⟨v2, S1, e_S1, hm⟩ := m_call_of hm
  refine n_cVi X hH hS (k := 6) (c_X6_has (a := a) hT hk_a e_S1) mw_X6_has in_4_89 hk_a (by decide) rfl rfl rfl ⟨rfl, rfl⟩ ⟨by decide, by decide⟩ ⟨Nat.zero_le _, Nat.zero_le _⟩ hl.1 (Nat.le_of_ble_eq_true rfl) dX6_reachOf_2 (fun H locs hH hS => ?_)
  refine lv_if_eq (tgt := 17) hx hb dX6_reachOf_5 (by decide) (fun c3 => ?_) (fun c3 => ?_)
  · have hm := m_ite_t hm c3
    refine lv_iconst (v := (0 : Int32)) hx hb dX6_reachOf_17 (by decide) ?_
    exact k_X6_reachOf_18 (a := a) X hr hT hk_a   S1 (0 : Int32) _ _ _ hH hS (lv_sub hl [] rfl) hm
  · have hm := m_ite_f hm c3
    refine lv_aload_n hx hb dX6_reachOf_8 rfl (lv_at hl 0 rfl) ?_
    refine r_getp X hH (k := 6) (a := a) (j := 6) (b := (a + 5)) (A := 5) (B := 0) hk_a (by decide) rfl m_wi6 (by decide) in_1_192 rfl rfl rfl dX6_reachOf_9 ?_
    refine lv_iload_n hx hb dX6_reachOf_12 rfl (lv_at hl 1 rfl) ?_
    obtain ⟨v4, h_v4, e_v4, hm⟩ := n_ldi hm
    refine n_iald X hH (n := 24) (m_lay_at hT hk_a (by decide) (i := 5) rfl) h_v4 e_v4 dX6_reachOf_13 ?_
    refine lv_goto (tgt := 18) hx hb dX6_reachOf_14 (by decide) ?_
    exact k_X6_reachOf_18 (a := a) X hr hT hk_a   S1 v4 _ _ _ hH hS (lv_sub hl [] rfl) hm
def rm_X6_reachOfVar : Room := { frames := 0, cells := 0, slots := 0, locals := 0 }
def f_X6_reachOfVar (a : Nat) (S : m_M) (i1 : Int32) (i2 : Int32) : Option (Int32 × m_M) :=
    (m_ldi S (a + 2) 135 ((i1 * (27 : Int32)) + i2)).bind fun v1 =>
    some (v1, S)
set_option maxHeartbeats 4000000 in
set_option maxRecDepth 100000 in
theorem c_X6_reachOfVar {l : Launch} {G : m_G} {nx : Nat} {κ : Nat → Nat} {a : Nat} {S : m_M} {i1 : Int32} {i2 : Int32} {res : (Int32 × m_M)} (hT : m_Str κ) (hk_a : κ a = 7) (hm : f_X6_reachOfVar a S i1 i2 = some res) : m_Ci l yX6_reachOfVar cX6_reachOfVar 3 (some .int) rm_X6_reachOfVar G nx κ [.ref a, .int i1, .int i2] S res := by
  refine m_Ci.of (by decide) (Nat.le_of_ble_eq_true rfl) ?_
  intro p e s m args below meth c ls X hr hH hl
  have hx := X.1.1
  have hb := X.1.2.1
  have hS : m_S G s s.heap [] := va_S.rf
  have hl : lv_has ls 3 [(0, .ref a), (1, .int i1), (2, .int i2)] := hl
  rw [f_X6_reachOfVar] at hm
  refine lv_aload_n hx hb dX6_reachOfVar_0 rfl (lv_at hl 0 rfl) ?_
  refine r_getp X hH (k := 6) (a := a) (j := 3) (b := (a + 2)) (A := 2) (B := 0) hk_a (by decide) rfl m_wi6 (by decide) in_1_185 rfl rfl rfl dX6_reachOfVar_1 ?_
  refine lv_iload_n hx hb dX6_reachOfVar_4 rfl (lv_at hl 1 rfl) ?_
  refine lv_bipush (v := (27 : Int32)) hx hb dX6_reachOfVar_5 (by decide) ?_
  refine lv_imul hx hb dX6_reachOfVar_7 ?_
  refine lv_iload_n hx hb dX6_reachOfVar_8 rfl (lv_at hl 2 rfl) ?_
  refine lv_iadd hx hb dX6_reachOfVar_9 ?_
  obtain ⟨v1, h_v1, e_v1, hm⟩ := n_ldi hm
  refine n_iald X hH (n := 135) (m_lay_at hT hk_a (by decide) (i := 2) rfl) h_v1 e_v1 dX6_reachOfVar_10 ?_
  exact r_iret X hr hH hS hm dX6_reachOfVar_11
def rm_X6_closeReach : Room := { frames := 2, cells := 0, slots := 0, locals := 42 }
def b_X6_closeReach_37 (a : Nat) (K_27 : m_M → Int32 → Option m_M) : Nat → m_M → Int32 → Int32 → Option m_M
  | 0, _, _, _ => none
  | n + 1, S, l1, l2 =>
    if (m_ri S a 0) ≤ l2 then (
    m_let (l1 + (1 : Int32)) fun v2 =>
    K_27 S v2) else (
    (m_ldi S (a + 5) 24 l2).bind fun v3 =>
    (m_ldi S (a + 3) 24 l2).bind fun v4 =>
    m_call (f_X6_reachOf a S v4) fun v6 S5 =>
    (m_ldi S5 (a + 4) 24 l2).bind fun v7 =>
    m_call (f_X6_reachOf a S5 v7) fun v9 S8 =>
    (m_sti S8 (a + 5) 24 l2 (v3 ||| (v6 ||| v9))).bind fun S10 =>
    m_let (l2 + (1 : Int32)) fun v11 =>
    b_X6_closeReach_37 a K_27 n S10 l1 v11)
set_option maxHeartbeats 4000000 in
set_option maxRecDepth 100000 in
theorem k_X6_closeReach_37 {p : Program} {l : Launch} {e : Env} {s : State} {m : MethodId} {args : Array Value} {below : List Frame} {meth : Method} {c : Code} {G : m_G} {nx : Nat} {κ : Nat → Nat} {res : m_M} {a : Nat} (X : m_Cx p s m args meth c cX6_closeReach 3 RX6 G) (hr : meth.sig.returnType = none) (hT : m_Str κ) (hk_a : κ a = 7) (K_27 : m_M → Int32 → Option m_M) (hK_27 : ∀ (S : m_M) (l1 : Int32) (H : Heap) (locs : List Loc) (ls : Array Slot), m_H G nx κ S H → m_S G s H locs → lv_has ls 3 [(0, .ref a), (1, .int l1)] → K_27 S l1 = some res → W p l e rm_X6_closeReach s m args below meth c H locs 0 0 (m_Qv below args s G nx κ res) (F0 m 27 ls [])) (n : Nat) : ∀ (S : m_M) (l1 : Int32) (l2 : Int32) (H : Heap) (locs : List Loc) (ls : Array Slot), m_H G nx κ S H → m_S G s H locs → lv_has ls 3 [(0, .ref a), (1, .int l1), (2, .int l2)] → b_X6_closeReach_37 a K_27 n S l1 l2 = some res → W p l e rm_X6_closeReach s m args below meth c H locs 0 0 (m_Qv below args s G nx κ res) (F0 m 37 ls []) := by
  have hx := X.1.1
  have hb := X.1.2.1
  induction n with
  | zero => intro S l1 l2 H locs ls hH hS hl hm; have hm : (none : Option m_M) = some res := hm; cases hm
  | succ n ih =>
    intro S l1 l2 H locs ls hH hS hl hm
    rw [b_X6_closeReach_37] at hm
    refine lv_iload_n hx hb dX6_closeReach_37 rfl (lv_at hl 2 rfl) ?_
    refine lv_aload_n hx hb dX6_closeReach_38 rfl (lv_at hl 0 rfl) ?_
    refine r_geti X hH (k := 6) (a := a) (j := 0) hk_a (by decide) rfl m_wi6 (by decide) in_1_178 rfl rfl dX6_closeReach_39 ?_
    refine lv_icmp_ge (tgt := 81) hx hb dX6_closeReach_42 (by decide) (fun c1 => ?_) (fun c1 => ?_)
    · have hm := m_ite_t hm c1
      obtain ⟨v2, e_v2, hm⟩ := m_let_of hm
      refine lv_iinc (v := v2) (lv' := [(1, .int v2), (0, .ref a), (2, .int l2)]) hx hb dX6_closeReach_81 hl (k := 1) rfl (by rw [← e_v2]; rfl) (by decide) rfl (fun ls hl => ?_)
      refine lv_goto (tgt := 27) hx hb dX6_closeReach_84 (by decide) ?_
      exact hK_27 S v2 _ _ _ hH hS (lv_sub hl [1, 0] rfl) hm
    · have hm := m_ite_f hm c1
      refine lv_aload_n hx hb dX6_closeReach_45 rfl (lv_at hl 0 rfl) ?_
      refine r_getp X hH (k := 6) (a := a) (j := 6) (b := (a + 5)) (A := 5) (B := 0) hk_a (by decide) rfl m_wi6 (by decide) in_1_192 rfl rfl rfl dX6_closeReach_46 ?_
      refine lv_iload_n hx hb dX6_closeReach_49 rfl (lv_at hl 2 rfl) ?_
      refine lv_dup2_11 hx hb dX6_closeReach_50 rfl rfl ?_
      obtain ⟨v3, h_v3, e_v3, hm⟩ := n_ldi hm
      refine n_iald X hH (n := 24) (m_lay_at hT hk_a (by decide) (i := 5) rfl) h_v3 e_v3 dX6_closeReach_51 ?_
      refine lv_aload_n hx hb dX6_closeReach_52 rfl (lv_at hl 0 rfl) ?_
      refine lv_aload_n hx hb dX6_closeReach_53 rfl (lv_at hl 0 rfl) ?_
      refine r_getp X hH (k := 6) (a := a) (j := 4) (b := (a + 3)) (A := 3) (B := 0) hk_a (by decide) rfl m_wi6 (by decide) in_1_186 rfl rfl rfl dX6_closeReach_54 ?_
      refine lv_iload_n hx hb dX6_closeReach_57 rfl (lv_at hl 2 rfl) ?_
      obtain ⟨v4, h_v4, e_v4, hm⟩ := n_ldi hm
      refine n_iald X hH (n := 24) (m_lay_at hT hk_a (by decide) (i := 3) rfl) h_v4 e_v4 dX6_closeReach_58 ?_
      obtain ⟨v6, S5, e_S5, hm⟩ := m_call_of hm
      refine n_cVi X hH hS (k := 6) (c_X6_reachOf (a := a) hT hk_a e_S5) mw_X6_reachOf in_4_85 hk_a (by decide) rfl rfl rfl ⟨rfl, rfl⟩ ⟨by decide, by decide⟩ ⟨Nat.zero_le _, Nat.zero_le _⟩ hl.1 (Nat.le_of_ble_eq_true rfl) dX6_closeReach_59 (fun H locs hH hS => ?_)
      refine lv_aload_n hx hb dX6_closeReach_62 rfl (lv_at hl 0 rfl) ?_
      refine lv_aload_n hx hb dX6_closeReach_63 rfl (lv_at hl 0 rfl) ?_
      refine r_getp X hH (k := 6) (a := a) (j := 5) (b := (a + 4)) (A := 4) (B := 0) hk_a (by decide) rfl m_wi6 (by decide) in_1_189 rfl rfl rfl dX6_closeReach_64 ?_
      refine lv_iload_n hx hb dX6_closeReach_67 rfl (lv_at hl 2 rfl) ?_
      obtain ⟨v7, h_v7, e_v7, hm⟩ := n_ldi hm
      refine n_iald X hH (n := 24) (m_lay_at hT hk_a (by decide) (i := 4) rfl) h_v7 e_v7 dX6_closeReach_68 ?_
      obtain ⟨v9, S8, e_S8, hm⟩ := m_call_of hm
      refine n_cVi X hH hS (k := 6) (c_X6_reachOf (a := a) hT hk_a e_S8) mw_X6_reachOf in_4_85 hk_a (by decide) rfl rfl rfl ⟨rfl, rfl⟩ ⟨by decide, by decide⟩ ⟨Nat.zero_le _, Nat.zero_le _⟩ hl.1 (Nat.le_of_ble_eq_true rfl) dX6_closeReach_69 (fun H locs hH hS => ?_)
      refine lv_ior hx hb dX6_closeReach_72 ?_
      refine lv_ior hx hb dX6_closeReach_73 ?_
      obtain ⟨S10, h_S10, e_S10, hm⟩ := n_sti hm
      refine n_iast X hH hS (n := 24) (m_lay_at hT hk_a (by decide) (i := 5) rfl) h_S10 e_S10 dX6_closeReach_74 (fun H locs hH hS => ?_)
      obtain ⟨v11, e_v11, hm⟩ := m_let_of hm
      refine lv_iinc (v := v11) (lv' := [(2, .int v11), (0, .ref a), (1, .int l1)]) hx hb dX6_closeReach_75 hl (k := 2) rfl (by rw [← e_v11]; rfl) (by decide) rfl (fun ls hl => ?_)
      refine lv_goto (tgt := 37) hx hb dX6_closeReach_78 (by decide) ?_
      exact ih S10 l1 v11 _ _ _ hH hS (lv_sub hl [1, 2, 0] rfl) hm
def b_X6_closeReach_27 (a : Nat)  : Nat → m_M → Int32 → Option m_M
  | 0, _, _ => none
  | n + 1, S, l1 =>
    if (m_ri S a 0) ≤ l1 then (
    some S) else (
    b_X6_closeReach_37 a (b_X6_closeReach_27 a n) m_fu S l1 (0 : Int32))
set_option maxHeartbeats 4000000 in
set_option maxRecDepth 100000 in
theorem k_X6_closeReach_27 {p : Program} {l : Launch} {e : Env} {s : State} {m : MethodId} {args : Array Value} {below : List Frame} {meth : Method} {c : Code} {G : m_G} {nx : Nat} {κ : Nat → Nat} {res : m_M} {a : Nat} (X : m_Cx p s m args meth c cX6_closeReach 3 RX6 G) (hr : meth.sig.returnType = none) (hT : m_Str κ) (hk_a : κ a = 7)  (n : Nat) : ∀ (S : m_M) (l1 : Int32) (H : Heap) (locs : List Loc) (ls : Array Slot), m_H G nx κ S H → m_S G s H locs → lv_has ls 3 [(0, .ref a), (1, .int l1)] → b_X6_closeReach_27 a n S l1 = some res → W p l e rm_X6_closeReach s m args below meth c H locs 0 0 (m_Qv below args s G nx κ res) (F0 m 27 ls []) := by
  have hx := X.1.1
  have hb := X.1.2.1
  induction n with
  | zero => intro S l1 H locs ls hH hS hl hm; have hm : (none : Option m_M) = some res := hm; cases hm
  | succ n ih =>
    intro S l1 H locs ls hH hS hl hm
    rw [b_X6_closeReach_27] at hm
    refine lv_iload_n hx hb dX6_closeReach_27 rfl (lv_at hl 1 rfl) ?_
    refine lv_aload_n hx hb dX6_closeReach_28 rfl (lv_at hl 0 rfl) ?_
    refine r_geti X hH (k := 6) (a := a) (j := 0) hk_a (by decide) rfl m_wi6 (by decide) in_1_178 rfl rfl dX6_closeReach_29 ?_
    refine lv_icmp_ge (tgt := 87) hx hb dX6_closeReach_32 (by decide) (fun c1 => ?_) (fun c1 => ?_)
    · have hm := m_ite_t hm c1
      exact r_vret X hr hH hS hm dX6_closeReach_87
    · have hm := m_ite_f hm c1
      refine lv_iconst (v := (0 : Int32)) hx hb dX6_closeReach_35 (by decide) ?_
      refine lv_istore_n (lv' := [(2, .int (0 : Int32)), (0, .ref a), (1, .int l1)]) hx hb dX6_closeReach_36 rfl hl (by decide) rfl (fun ls hl => ?_)
      exact k_X6_closeReach_37 (a := a) X hr hT hk_a (b_X6_closeReach_27 a n) ih m_fu S l1 (0 : Int32) _ _ _ hH hS (lv_sub hl [1, 2, 0] rfl) hm
def b_X6_closeReach_2 (a : Nat)  : Nat → m_M → Int32 → Option m_M
  | 0, _, _ => none
  | n + 1, S, l1 =>
    if (m_ri S a 0) ≤ l1 then (
    b_X6_closeReach_27 a m_fu S (0 : Int32)) else (
    (m_sti S (a + 5) 24 l1 ((1 : Int32) <<< (l1 &&& 31))).bind fun S2 =>
    m_let (l1 + (1 : Int32)) fun v3 =>
    b_X6_closeReach_2 a n S2 v3)
set_option maxHeartbeats 4000000 in
set_option maxRecDepth 100000 in
theorem k_X6_closeReach_2 {p : Program} {l : Launch} {e : Env} {s : State} {m : MethodId} {args : Array Value} {below : List Frame} {meth : Method} {c : Code} {G : m_G} {nx : Nat} {κ : Nat → Nat} {res : m_M} {a : Nat} (X : m_Cx p s m args meth c cX6_closeReach 3 RX6 G) (hr : meth.sig.returnType = none) (hT : m_Str κ) (hk_a : κ a = 7)  (n : Nat) : ∀ (S : m_M) (l1 : Int32) (H : Heap) (locs : List Loc) (ls : Array Slot), m_H G nx κ S H → m_S G s H locs → lv_has ls 3 [(0, .ref a), (1, .int l1)] → b_X6_closeReach_2 a n S l1 = some res → W p l e rm_X6_closeReach s m args below meth c H locs 0 0 (m_Qv below args s G nx κ res) (F0 m 2 ls []) := by
  have hx := X.1.1
  have hb := X.1.2.1
  induction n with
  | zero => intro S l1 H locs ls hH hS hl hm; have hm : (none : Option m_M) = some res := hm; cases hm
  | succ n ih =>
    intro S l1 H locs ls hH hS hl hm
    rw [b_X6_closeReach_2] at hm
    refine lv_iload_n hx hb dX6_closeReach_2 rfl (lv_at hl 1 rfl) ?_
    refine lv_aload_n hx hb dX6_closeReach_3 rfl (lv_at hl 0 rfl) ?_
    refine r_geti X hH (k := 6) (a := a) (j := 0) hk_a (by decide) rfl m_wi6 (by decide) in_1_178 rfl rfl dX6_closeReach_4 ?_
    refine lv_icmp_ge (tgt := 25) hx hb dX6_closeReach_7 (by decide) (fun c1 => ?_) (fun c1 => ?_)
    · have hm := m_ite_t hm c1
      refine lv_iconst (v := (0 : Int32)) hx hb dX6_closeReach_25 (by decide) ?_
      refine lv_istore_n (lv' := [(1, .int (0 : Int32)), (0, .ref a)]) hx hb dX6_closeReach_26 rfl hl (by decide) rfl (fun ls hl => ?_)
      exact k_X6_closeReach_27 (a := a) X hr hT hk_a  m_fu S (0 : Int32) _ _ _ hH hS (lv_sub hl [1, 0] rfl) hm
    · have hm := m_ite_f hm c1
      refine lv_aload_n hx hb dX6_closeReach_10 rfl (lv_at hl 0 rfl) ?_
      refine r_getp X hH (k := 6) (a := a) (j := 6) (b := (a + 5)) (A := 5) (B := 0) hk_a (by decide) rfl m_wi6 (by decide) in_1_192 rfl rfl rfl dX6_closeReach_11 ?_
      refine lv_iload_n hx hb dX6_closeReach_14 rfl (lv_at hl 1 rfl) ?_
      refine lv_iconst (v := (1 : Int32)) hx hb dX6_closeReach_15 (by decide) ?_
      refine lv_iload_n hx hb dX6_closeReach_16 rfl (lv_at hl 1 rfl) ?_
      refine lv_ishl hx hb dX6_closeReach_17 ?_
      obtain ⟨S2, h_S2, e_S2, hm⟩ := n_sti hm
      refine n_iast X hH hS (n := 24) (m_lay_at hT hk_a (by decide) (i := 5) rfl) h_S2 e_S2 dX6_closeReach_18 (fun H locs hH hS => ?_)
      obtain ⟨v3, e_v3, hm⟩ := m_let_of hm
      refine lv_iinc (v := v3) (lv' := [(1, .int v3), (0, .ref a)]) hx hb dX6_closeReach_19 hl (k := 1) rfl (by rw [← e_v3]; rfl) (by decide) rfl (fun ls hl => ?_)
      refine lv_goto (tgt := 2) hx hb dX6_closeReach_22 (by decide) ?_
      exact ih S2 v3 _ _ _ hH hS (lv_sub hl [1, 0] rfl) hm
def f_X6_closeReach (a : Nat) (S : m_M)  : Option m_M :=
    b_X6_closeReach_2 a m_fu S (0 : Int32)
set_option maxHeartbeats 4000000 in
set_option maxRecDepth 100000 in
theorem c_X6_closeReach {l : Launch} {G : m_G} {nx : Nat} {κ : Nat → Nat} {a : Nat} {S : m_M}  {res : m_M} (hT : m_Str κ) (hk_a : κ a = 7) (hm : f_X6_closeReach a S = some res) : m_Cv l yX6_closeReach cX6_closeReach 3 rm_X6_closeReach G nx κ [.ref a] S res := by
  refine m_Cv.of (by decide) (Nat.le_of_ble_eq_true rfl) ?_
  intro p e s m args below meth c ls X hr hH hl
  have hx := X.1.1
  have hb := X.1.2.1
  have hS : m_S G s s.heap [] := va_S.rf
  have hl : lv_has ls 3 [(0, .ref a)] := hl
  rw [f_X6_closeReach] at hm
  refine lv_iconst (v := (0 : Int32)) hx hb dX6_closeReach_0 (by decide) ?_
  refine lv_istore_n (lv' := [(1, .int (0 : Int32)), (0, .ref a)]) hx hb dX6_closeReach_1 rfl hl (by decide) rfl (fun ls hl => ?_)
  exact k_X6_closeReach_2 (a := a) X hr hT hk_a  m_fu S (0 : Int32) _ _ _ hH hS (lv_sub hl [1, 0] rfl) hm
def rm_X6_tellOwner : Room := { frames := 2, cells := 0, slots := 0, locals := 42 }
def b_X6_tellOwner_78 (a o1 : Nat) (K_8 : m_M → Int32 → Int32 → Int32 → Int32 → Option m_M) (S : m_M) (l2 : Int32) (l3 : Int32) (l4 : Int32) (l5 : Int32) : Option m_M :=
    m_let (l5 + (1 : Int32)) fun v1 =>
    K_8 S l2 l3 l4 v1
set_option maxHeartbeats 4000000 in
set_option maxRecDepth 100000 in
theorem k_X6_tellOwner_78 {p : Program} {l : Launch} {e : Env} {s : State} {m : MethodId} {args : Array Value} {below : List Frame} {meth : Method} {c : Code} {G : m_G} {nx : Nat} {κ : Nat → Nat} {res : m_M} {a o1 : Nat} (X : m_Cx p s m args meth c cX6_tellOwner 7 RX6 G) (hr : meth.sig.returnType = none) (hT : m_Str κ) (hk_a : κ a = 7) (hk_o1 : κ o1 = 4) (K_8 : m_M → Int32 → Int32 → Int32 → Int32 → Option m_M) (hK_8 : ∀ (S : m_M) (l2 : Int32) (l3 : Int32) (l4 : Int32) (l5 : Int32) (H : Heap) (locs : List Loc) (ls : Array Slot), m_H G nx κ S H → m_S G s H locs → lv_has ls 7 [(0, .ref a), (1, .ref o1), (2, .int l2), (3, .int l3), (4, .int l4), (5, .int l5)] → K_8 S l2 l3 l4 l5 = some res → W p l e rm_X6_tellOwner s m args below meth c H locs 0 0 (m_Qv below args s G nx κ res) (F0 m 8 ls [])) : ∀ (S : m_M) (l2 : Int32) (l3 : Int32) (l4 : Int32) (l5 : Int32) (H : Heap) (locs : List Loc) (ls : Array Slot), m_H G nx κ S H → m_S G s H locs → lv_has ls 7 [(0, .ref a), (1, .ref o1), (2, .int l2), (3, .int l3), (4, .int l4), (5, .int l5)] → b_X6_tellOwner_78 a o1 K_8 S l2 l3 l4 l5 = some res → W p l e rm_X6_tellOwner s m args below meth c H locs 0 0 (m_Qv below args s G nx κ res) (F0 m 78 ls []) := by
  have hx := X.1.1
  have hb := X.1.2.1
  intro S l2 l3 l4 l5 H locs ls hH hS hl hm
  rw [b_X6_tellOwner_78] at hm
  obtain ⟨v1, e_v1, hm⟩ := m_let_of hm
  refine lv_iinc (v := v1) (lv' := [(5, .int v1), (0, .ref a), (1, .ref o1), (2, .int l2), (3, .int l3), (4, .int l4)]) hx hb dX6_tellOwner_78 hl (k := 5) rfl (by rw [← e_v1]; rfl) (by decide) rfl (fun ls hl => ?_)
  refine lv_goto (tgt := 8) hx hb dX6_tellOwner_81 (by decide) ?_
  exact hK_8 S l2 l3 l4 v1 _ _ _ hH hS (lv_sub hl [1, 2, 3, 4, 5, 0] rfl) hm
def b_X6_tellOwner_71 (a o1 : Nat) (K_8 : m_M → Int32 → Int32 → Int32 → Int32 → Option m_M) (S : m_M) (l2 : Int32) (l3 : Int32) (l4 : Int32) (l5 : Int32) (l6 : Int32) : Option m_M :=
    m_let (l4 ||| l6) fun v1 =>
    b_X6_tellOwner_78 a o1 K_8 S l2 l3 v1 l5
set_option maxHeartbeats 4000000 in
set_option maxRecDepth 100000 in
theorem k_X6_tellOwner_71 {p : Program} {l : Launch} {e : Env} {s : State} {m : MethodId} {args : Array Value} {below : List Frame} {meth : Method} {c : Code} {G : m_G} {nx : Nat} {κ : Nat → Nat} {res : m_M} {a o1 : Nat} (X : m_Cx p s m args meth c cX6_tellOwner 7 RX6 G) (hr : meth.sig.returnType = none) (hT : m_Str κ) (hk_a : κ a = 7) (hk_o1 : κ o1 = 4) (K_8 : m_M → Int32 → Int32 → Int32 → Int32 → Option m_M) (hK_8 : ∀ (S : m_M) (l2 : Int32) (l3 : Int32) (l4 : Int32) (l5 : Int32) (H : Heap) (locs : List Loc) (ls : Array Slot), m_H G nx κ S H → m_S G s H locs → lv_has ls 7 [(0, .ref a), (1, .ref o1), (2, .int l2), (3, .int l3), (4, .int l4), (5, .int l5)] → K_8 S l2 l3 l4 l5 = some res → W p l e rm_X6_tellOwner s m args below meth c H locs 0 0 (m_Qv below args s G nx κ res) (F0 m 8 ls [])) : ∀ (S : m_M) (l2 : Int32) (l3 : Int32) (l4 : Int32) (l5 : Int32) (l6 : Int32) (H : Heap) (locs : List Loc) (ls : Array Slot), m_H G nx κ S H → m_S G s H locs → lv_has ls 7 [(0, .ref a), (1, .ref o1), (2, .int l2), (3, .int l3), (4, .int l4), (5, .int l5), (6, .int l6)] → b_X6_tellOwner_71 a o1 K_8 S l2 l3 l4 l5 l6 = some res → W p l e rm_X6_tellOwner s m args below meth c H locs 0 0 (m_Qv below args s G nx κ res) (F0 m 71 ls []) := by
  have hx := X.1.1
  have hb := X.1.2.1
  intro S l2 l3 l4 l5 l6 H locs ls hH hS hl hm
  rw [b_X6_tellOwner_71] at hm
  refine lv_iload hx hb dX6_tellOwner_71 (lv_at hl 4 rfl) ?_
  refine lv_iload hx hb dX6_tellOwner_73 (lv_at hl 6 rfl) ?_
  refine lv_ior hx hb dX6_tellOwner_75 ?_
  obtain ⟨v1, e_v1, hm⟩ := m_let_of hm
  refine n_topi e_v1 ?_
  refine lv_istore (lv' := [(4, .int v1), (0, .ref a), (1, .ref o1), (2, .int l2), (3, .int l3), (5, .int l5), (6, .int l6)]) hx hb dX6_tellOwner_76 hl (by decide) rfl (fun ls hl => ?_)
  exact k_X6_tellOwner_78 (a := a) (o1 := o1) X hr hT hk_a hk_o1 K_8 hK_8  S l2 l3 v1 l5 _ _ _ hH hS (lv_sub hl [1, 2, 3, 4, 0, 5] rfl) hm
def b_X6_tellOwner_8 (a o1 : Nat)  : Nat → m_M → Int32 → Int32 → Int32 → Int32 → Option m_M
  | 0, _, _, _, _, _ => none
  | n + 1, S, l2, l3, l4, l5 =>
    m_call (f_X3_varCount o1 S l2) fun v2 S1 =>
    if v2 ≤ l5 then (
    (m_sti S1 (a + 8) 5 l2 l4).bind fun S4 =>
    (m_sti S4 (a + 9) 5 l2 (l3 &&& (l4 ^^^ (-1 : Int32)))).bind fun S5 =>
    some S5) else (
    m_call (f_X6_pointedBy a S1 l2 l5) fun v7 S6 =>
    m_call (f_X6_reachOf a S6 v7) fun v9 S8 =>
    (m_sti S8 (a + 2) 135 ((l2 * (27 : Int32)) + l5) v9).bind fun S10 =>
    m_let (l3 ||| v9) fun v11 =>
    (m_ldi S10 (o1 + 2) 5 l2).bind fun v12 =>
    if l5 < v12 then (
    b_X6_tellOwner_71 a o1 (b_X6_tellOwner_8 a o1 n) S10 l2 v11 l4 l5 v9) else (
    m_call (f_X3_resultOf o1 S10 l2) fun v15 S14 =>
    if l5 = v15 then (
    b_X6_tellOwner_71 a o1 (b_X6_tellOwner_8 a o1 n) S14 l2 v11 l4 l5 v9) else (
    b_X6_tellOwner_78 a o1 (b_X6_tellOwner_8 a o1 n) S14 l2 v11 l4 l5)))
set_option maxHeartbeats 4000000 in
set_option maxRecDepth 100000 in
theorem k_X6_tellOwner_8 {p : Program} {l : Launch} {e : Env} {s : State} {m : MethodId} {args : Array Value} {below : List Frame} {meth : Method} {c : Code} {G : m_G} {nx : Nat} {κ : Nat → Nat} {res : m_M} {a o1 : Nat} (X : m_Cx p s m args meth c cX6_tellOwner 7 RX6 G) (hr : meth.sig.returnType = none) (hT : m_Str κ) (hk_a : κ a = 7) (hk_o1 : κ o1 = 4)  (n : Nat) : ∀ (S : m_M) (l2 : Int32) (l3 : Int32) (l4 : Int32) (l5 : Int32) (H : Heap) (locs : List Loc) (ls : Array Slot), m_H G nx κ S H → m_S G s H locs → lv_has ls 7 [(0, .ref a), (1, .ref o1), (2, .int l2), (3, .int l3), (4, .int l4), (5, .int l5)] → b_X6_tellOwner_8 a o1 n S l2 l3 l4 l5 = some res → W p l e rm_X6_tellOwner s m args below meth c H locs 0 0 (m_Qv below args s G nx κ res) (F0 m 8 ls []) := by
  have hx := X.1.1
  have hb := X.1.2.1
  induction n with
  | zero => intro S l2 l3 l4 l5 H locs ls hH hS hl hm; have hm : (none : Option m_M) = some res := hm; cases hm
  | succ n ih =>
    intro S l2 l3 l4 l5 H locs ls hH hS hl hm
    rw [b_X6_tellOwner_8] at hm
    refine lv_iload hx hb dX6_tellOwner_8 (lv_at hl 5 rfl) ?_
    refine lv_aload_n hx hb dX6_tellOwner_10 rfl (lv_at hl 1 rfl) ?_
    refine lv_iload_n hx hb dX6_tellOwner_11 rfl (lv_at hl 2 rfl) ?_
    obtain ⟨v2, S1, e_S1, hm⟩ := m_call_of hm
    refine n_cVi X hH hS (k := 3) (c_X3_varCount (a := o1) hT hk_o1 e_S1) mw_X3_varCount in_4_98 hk_o1 (by decide) rfl rfl rfl ⟨rfl, rfl⟩ ⟨by decide, by decide⟩ ⟨Nat.zero_le _, Nat.zero_le _⟩ hl.1 (Nat.le_of_ble_eq_true rfl) dX6_tellOwner_12 (fun H locs hH hS => ?_)
    refine lv_icmp_ge (tgt := 84) hx hb dX6_tellOwner_15 (by decide) (fun c3 => ?_) (fun c3 => ?_)
    · have hm := m_ite_t hm c3
      refine lv_aload_n hx hb dX6_tellOwner_84 rfl (lv_at hl 0 rfl) ?_
      refine r_getp X hH (k := 6) (a := a) (j := 9) (b := (a + 8)) (A := 8) (B := 0) hk_a (by decide) rfl m_wi6 (by decide) in_1_199 rfl rfl rfl dX6_tellOwner_85 ?_
      refine lv_iload_n hx hb dX6_tellOwner_88 rfl (lv_at hl 2 rfl) ?_
      refine lv_iload hx hb dX6_tellOwner_89 (lv_at hl 4 rfl) ?_
      obtain ⟨S4, h_S4, e_S4, hm⟩ := n_sti hm
      refine n_iast X hH hS (n := 5) (m_lay_at hT hk_a (by decide) (i := 8) rfl) h_S4 e_S4 dX6_tellOwner_91 (fun H locs hH hS => ?_)
      refine lv_aload_n hx hb dX6_tellOwner_92 rfl (lv_at hl 0 rfl) ?_
      refine r_getp X hH (k := 6) (a := a) (j := 10) (b := (a + 9)) (A := 9) (B := 0) hk_a (by decide) rfl m_wi6 (by decide) in_1_203 rfl rfl rfl dX6_tellOwner_93 ?_
      refine lv_iload_n hx hb dX6_tellOwner_96 rfl (lv_at hl 2 rfl) ?_
      refine lv_iload_n hx hb dX6_tellOwner_97 rfl (lv_at hl 3 rfl) ?_
      refine lv_iload hx hb dX6_tellOwner_98 (lv_at hl 4 rfl) ?_
      refine lv_iconst (v := (-1 : Int32)) hx hb dX6_tellOwner_100 (by decide) ?_
      refine lv_ixor hx hb dX6_tellOwner_101 ?_
      refine lv_iand hx hb dX6_tellOwner_102 ?_
      obtain ⟨S5, h_S5, e_S5, hm⟩ := n_sti hm
      refine n_iast X hH hS (n := 5) (m_lay_at hT hk_a (by decide) (i := 9) rfl) h_S5 e_S5 dX6_tellOwner_103 (fun H locs hH hS => ?_)
      exact r_vret X hr hH hS hm dX6_tellOwner_104
    · have hm := m_ite_f hm c3
      refine lv_aload_n hx hb dX6_tellOwner_18 rfl (lv_at hl 0 rfl) ?_
      refine lv_aload_n hx hb dX6_tellOwner_19 rfl (lv_at hl 0 rfl) ?_
      refine lv_iload_n hx hb dX6_tellOwner_20 rfl (lv_at hl 2 rfl) ?_
      refine lv_iload hx hb dX6_tellOwner_21 (lv_at hl 5 rfl) ?_
      obtain ⟨v7, S6, e_S6, hm⟩ := m_call_of hm
      refine n_cVi X hH hS (k := 6) (c_X6_pointedBy (a := a) hT hk_a e_S6) mw_X6_pointedBy in_4_99 hk_a (by decide) rfl rfl rfl ⟨rfl, rfl⟩ ⟨by decide, by decide⟩ ⟨Nat.zero_le _, Nat.zero_le _⟩ hl.1 (Nat.le_of_ble_eq_true rfl) dX6_tellOwner_23 (fun H locs hH hS => ?_)
      obtain ⟨v9, S8, e_S8, hm⟩ := m_call_of hm
      refine n_cVi X hH hS (k := 6) (c_X6_reachOf (a := a) hT hk_a e_S8) mw_X6_reachOf in_4_85 hk_a (by decide) rfl rfl rfl ⟨rfl, rfl⟩ ⟨by decide, by decide⟩ ⟨Nat.zero_le _, Nat.zero_le _⟩ hl.1 (Nat.le_of_ble_eq_true rfl) dX6_tellOwner_26 (fun H locs hH hS => ?_)
      refine lv_istore (lv' := [(6, .int v9), (0, .ref a), (1, .ref o1), (2, .int l2), (3, .int l3), (4, .int l4), (5, .int l5)]) hx hb dX6_tellOwner_29 hl (by decide) rfl (fun ls hl => ?_)
      refine lv_aload_n hx hb dX6_tellOwner_31 rfl (lv_at hl 1 rfl) ?_
      refine r_getp X hH (k := 6) (a := a) (j := 3) (b := (a + 2)) (A := 2) (B := 0) hk_a (by decide) rfl m_wi6 (by decide) in_1_185 rfl rfl rfl dX6_tellOwner_32 ?_
      refine lv_iload_n hx hb dX6_tellOwner_35 rfl (lv_at hl 3 rfl) ?_
      refine lv_bipush (v := (27 : Int32)) hx hb dX6_tellOwner_36 (by decide) ?_
      refine lv_imul hx hb dX6_tellOwner_38 ?_
      refine lv_iload hx hb dX6_tellOwner_39 (lv_at hl 6 rfl) ?_
      refine lv_iadd hx hb dX6_tellOwner_41 ?_
      refine lv_iload hx hb dX6_tellOwner_42 (lv_at hl 0 rfl) ?_
      obtain ⟨S10, h_S10, e_S10, hm⟩ := n_sti hm
      refine n_iast X hH hS (n := 135) (m_lay_at hT hk_a (by decide) (i := 2) rfl) h_S10 e_S10 dX6_tellOwner_44 (fun H locs hH hS => ?_)
      refine lv_iload_n hx hb dX6_tellOwner_45 rfl (lv_at hl 4 rfl) ?_
      refine lv_iload hx hb dX6_tellOwner_46 (lv_at hl 0 rfl) ?_
      refine lv_ior hx hb dX6_tellOwner_48 ?_
      obtain ⟨v11, e_v11, hm⟩ := m_let_of hm
      refine n_topi e_v11 ?_
      refine lv_istore_n (lv' := [(3, .int v11), (6, .int v9), (0, .ref a), (1, .ref o1), (2, .int l2), (4, .int l4), (5, .int l5)]) hx hb dX6_tellOwner_49 rfl hl (by decide) rfl (fun ls hl => ?_)
      refine lv_iload hx hb dX6_tellOwner_50 (lv_at hl 6 rfl) ?_
      refine lv_aload_n hx hb dX6_tellOwner_52 rfl (lv_at hl 3 rfl) ?_
      refine r_getp X hH (k := 3) (a := o1) (j := 3) (b := (o1 + 2)) (A := 2) (B := 0) hk_o1 (by decide) rfl m_wi3 (by decide) in_2_20 rfl rfl rfl dX6_tellOwner_53 ?_
      refine lv_iload_n hx hb dX6_tellOwner_56 rfl (lv_at hl 4 rfl) ?_
      obtain ⟨v12, h_v12, e_v12, hm⟩ := n_ldi hm
      refine n_iald X hH (n := 5) (m_lay_at hT hk_o1 (by decide) (i := 2) rfl) h_v12 e_v12 dX6_tellOwner_57 ?_
      refine lv_icmp_lt (tgt := 71) hx hb dX6_tellOwner_58 (by decide) (fun c13 => ?_) (fun c13 => ?_)
      · have hm := m_ite_t hm c13
        exact k_X6_tellOwner_71 (a := a) (o1 := o1) X hr hT hk_a hk_o1 (b_X6_tellOwner_8 a o1 n) ih  S10 l2 v11 l4 l5 v9 _ _ _ hH hS (lv_sub hl [2, 3, 4, 0, 5, 6, 1] rfl) hm
      · have hm := m_ite_f hm c13
        refine lv_iload hx hb dX6_tellOwner_61 (lv_at hl 6 rfl) ?_
        refine lv_aload_n hx hb dX6_tellOwner_63 rfl (lv_at hl 3 rfl) ?_
        refine lv_iload_n hx hb dX6_tellOwner_64 rfl (lv_at hl 4 rfl) ?_
        obtain ⟨v15, S14, e_S14, hm⟩ := m_call_of hm
        refine n_cVi X hH hS (k := 3) (c_X3_resultOf (a := o1) hT hk_o1 e_S14) mw_X3_resultOf in_4_103 hk_o1 (by decide) rfl rfl rfl ⟨rfl, rfl⟩ ⟨by decide, by decide⟩ ⟨Nat.zero_le _, Nat.zero_le _⟩ hl.1 (Nat.le_of_ble_eq_true rfl) dX6_tellOwner_65 (fun H locs hH hS => ?_)
        refine lv_icmp_ne (tgt := 78) hx hb dX6_tellOwner_68 (by decide) (fun c16 => ?_) (fun c16 => ?_)
        · have hm := m_ite_f hm c16
          exact k_X6_tellOwner_78 (a := a) (o1 := o1) X hr hT hk_a hk_o1 (b_X6_tellOwner_8 a o1 n) ih  S14 l2 v11 l4 l5 _ _ _ hH hS (lv_sub hl [2, 3, 4, 0, 5, 6] rfl) hm
        · have hm := m_ite_t hm c16
          exact k_X6_tellOwner_71 (a := a) (o1 := o1) X hr hT hk_a hk_o1 (b_X6_tellOwner_8 a o1 n) ih  S14 l2 v11 l4 l5 v9 _ _ _ hH hS (lv_sub hl [2, 3, 4, 0, 5, 6, 1] rfl) hm
def f_X6_tellOwner (a o1 : Nat) (S : m_M) (i2 : Int32) : Option m_M :=
    b_X6_tellOwner_8 a o1 m_fu S i2 (0 : Int32) (0 : Int32) (0 : Int32)
set_option maxHeartbeats 4000000 in
set_option maxRecDepth 100000 in
theorem c_X6_tellOwner {l : Launch} {G : m_G} {nx : Nat} {κ : Nat → Nat} {a o1 : Nat} {S : m_M} {i2 : Int32} {res : m_M} (hT : m_Str κ) (hk_a : κ a = 7) (hk_o1 : κ o1 = 4) (hm : f_X6_tellOwner a o1 S i2 = some res) : m_Cv l yX6_tellOwner cX6_tellOwner 7 rm_X6_tellOwner G nx κ [.ref a, .ref o1, .int i2] S res := by
  refine m_Cv.of (by decide) (Nat.le_of_ble_eq_true rfl) ?_
  intro p e s m args below meth c ls X hr hH hl
  have hx := X.1.1
  have hb := X.1.2.1
  have hS : m_S G s s.heap [] := va_S.rf
  have hl : lv_has ls 7 [(0, .ref a), (1, .ref o1), (2, .int i2)] := hl
  rw [f_X6_tellOwner] at hm
  refine lv_iconst (v := (0 : Int32)) hx hb dX6_tellOwner_0 (by decide) ?_
  refine lv_istore_n (lv' := [(3, .int (0 : Int32)), (0, .ref a), (1, .ref o1), (2, .int i2)]) hx hb dX6_tellOwner_1 rfl hl (by decide) rfl (fun ls hl => ?_)
  refine lv_iconst (v := (0 : Int32)) hx hb dX6_tellOwner_2 (by decide) ?_
  refine lv_istore (lv' := [(4, .int (0 : Int32)), (3, .int (0 : Int32)), (0, .ref a), (1, .ref o1), (2, .int i2)]) hx hb dX6_tellOwner_3 hl (by decide) rfl (fun ls hl => ?_)
  refine lv_iconst (v := (0 : Int32)) hx hb dX6_tellOwner_5 (by decide) ?_
  refine lv_istore (lv' := [(5, .int (0 : Int32)), (4, .int (0 : Int32)), (3, .int (0 : Int32)), (0, .ref a), (1, .ref o1), (2, .int i2)]) hx hb dX6_tellOwner_6 hl (by decide) rfl (fun ls hl => ?_)
  exact k_X6_tellOwner_8 (a := a) (o1 := o1) X hr hT hk_a hk_o1  m_fu S i2 (0 : Int32) (0 : Int32) (0 : Int32) _ _ _ hH hS (lv_sub hl [3, 4, 5, 2, 1, 0] rfl) hm
def rm_X6_tellFilled : Room := { frames := 1, cells := 0, slots := 0, locals := 22 }
def b_X6_tellFilled_69 (a o1 : Nat) (K_7 : m_M → Int32 → Int32 → Option m_M) (S : m_M) (l2 : Int32) (l3 : Int32) : Option m_M :=
    m_let (l3 + (1 : Int32)) fun v1 =>
    K_7 S l2 v1
set_option maxHeartbeats 4000000 in
set_option maxRecDepth 100000 in
theorem k_X6_tellFilled_69 {p : Program} {l : Launch} {e : Env} {s : State} {m : MethodId} {args : Array Value} {below : List Frame} {meth : Method} {c : Code} {G : m_G} {nx : Nat} {κ : Nat → Nat} {res : m_M} {a o1 : Nat} (X : m_Cx p s m args meth c cX6_tellFilled 5 RX6 G) (hr : meth.sig.returnType = none) (hT : m_Str κ) (hk_a : κ a = 7) (hk_o1 : κ o1 = 4) (K_7 : m_M → Int32 → Int32 → Option m_M) (hK_7 : ∀ (S : m_M) (l2 : Int32) (l3 : Int32) (H : Heap) (locs : List Loc) (ls : Array Slot), m_H G nx κ S H → m_S G s H locs → lv_has ls 5 [(0, .ref a), (1, .ref o1), (2, .int l2), (3, .int l3)] → K_7 S l2 l3 = some res → W p l e rm_X6_tellFilled s m args below meth c H locs 0 0 (m_Qv below args s G nx κ res) (F0 m 7 ls [])) : ∀ (S : m_M) (l2 : Int32) (l3 : Int32) (H : Heap) (locs : List Loc) (ls : Array Slot), m_H G nx κ S H → m_S G s H locs → lv_has ls 5 [(0, .ref a), (1, .ref o1), (2, .int l2), (3, .int l3)] → b_X6_tellFilled_69 a o1 K_7 S l2 l3 = some res → W p l e rm_X6_tellFilled s m args below meth c H locs 0 0 (m_Qv below args s G nx κ res) (F0 m 69 ls []) := by
  have hx := X.1.1
  have hb := X.1.2.1
  intro S l2 l3 H locs ls hH hS hl hm
  rw [b_X6_tellFilled_69] at hm
  obtain ⟨v1, e_v1, hm⟩ := m_let_of hm
  refine lv_iinc (v := v1) (lv' := [(3, .int v1), (0, .ref a), (1, .ref o1), (2, .int l2)]) hx hb dX6_tellFilled_69 hl (k := 3) rfl (by rw [← e_v1]; rfl) (by decide) rfl (fun ls hl => ?_)
  refine lv_goto (tgt := 7) hx hb dX6_tellFilled_72 (by decide) ?_
  exact hK_7 S l2 v1 _ _ _ hH hS (lv_sub hl [1, 2, 3, 0] rfl) hm
def b_X6_tellFilled_7 (a o1 : Nat)  : Nat → m_M → Int32 → Int32 → Option m_M
  | 0, _, _, _ => none
  | n + 1, S, l2, l3 =>
    (m_ldi S (o1 + 3) 5 l2).bind fun v1 =>
    (m_ldi S (o1 + 4) 5 l2).bind fun v2 =>
    if (v1 + v2) ≤ l3 then (
    some S) else (
    m_call (f_X3_varOfLine o1 S l2 l3) fun v5 S4 =>
    m_call (f_X6_pointedBy a S4 l2 v5) fun v7 S6 =>
    (m_ldi S6 (o1 + 5) 24 l3).bind fun v8 =>
    if v8 = (2 : Int32) then (
    m_call (f_X6_has a S6 v7) fun v11 S10 =>
    if v11 = 0 then (
    b_X6_tellFilled_69 a o1 (b_X6_tellFilled_7 a o1 n) S10 l2 l3) else (
    (m_ldi S10 (a + 7) 24 v7).bind fun v13 =>
    (m_sti S10 (a + 7) 24 v7 (v13 ||| ((1 : Int32) <<< (l2 &&& 31)))).bind fun S14 =>
    b_X6_tellFilled_69 a o1 (b_X6_tellFilled_7 a o1 n) S14 l2 l3)) else (
    b_X6_tellFilled_69 a o1 (b_X6_tellFilled_7 a o1 n) S6 l2 l3))
set_option maxHeartbeats 4000000 in
set_option maxRecDepth 100000 in
theorem k_X6_tellFilled_7 {p : Program} {l : Launch} {e : Env} {s : State} {m : MethodId} {args : Array Value} {below : List Frame} {meth : Method} {c : Code} {G : m_G} {nx : Nat} {κ : Nat → Nat} {res : m_M} {a o1 : Nat} (X : m_Cx p s m args meth c cX6_tellFilled 5 RX6 G) (hr : meth.sig.returnType = none) (hT : m_Str κ) (hk_a : κ a = 7) (hk_o1 : κ o1 = 4)  (n : Nat) : ∀ (S : m_M) (l2 : Int32) (l3 : Int32) (H : Heap) (locs : List Loc) (ls : Array Slot), m_H G nx κ S H → m_S G s H locs → lv_has ls 5 [(0, .ref a), (1, .ref o1), (2, .int l2), (3, .int l3)] → b_X6_tellFilled_7 a o1 n S l2 l3 = some res → W p l e rm_X6_tellFilled s m args below meth c H locs 0 0 (m_Qv below args s G nx κ res) (F0 m 7 ls []) := by
  have hx := X.1.1
  have hb := X.1.2.1
  induction n with
  | zero => intro S l2 l3 H locs ls hH hS hl hm; have hm : (none : Option m_M) = some res := hm; cases hm
  | succ n ih =>
    intro S l2 l3 H locs ls hH hS hl hm
    rw [b_X6_tellFilled_7] at hm
    refine lv_iload_n hx hb dX6_tellFilled_7 rfl (lv_at hl 3 rfl) ?_
    refine lv_aload_n hx hb dX6_tellFilled_8 rfl (lv_at hl 1 rfl) ?_
    refine r_getp X hH (k := 3) (a := o1) (j := 4) (b := (o1 + 3)) (A := 3) (B := 0) hk_o1 (by decide) rfl m_wi3 (by decide) in_2_24 rfl rfl rfl dX6_tellFilled_9 ?_
    refine lv_iload_n hx hb dX6_tellFilled_12 rfl (lv_at hl 2 rfl) ?_
    obtain ⟨v1, h_v1, e_v1, hm⟩ := n_ldi hm
    refine n_iald X hH (n := 5) (m_lay_at hT hk_o1 (by decide) (i := 3) rfl) h_v1 e_v1 dX6_tellFilled_13 ?_
    refine lv_aload_n hx hb dX6_tellFilled_14 rfl (lv_at hl 1 rfl) ?_
    refine r_getp X hH (k := 3) (a := o1) (j := 5) (b := (o1 + 4)) (A := 4) (B := 0) hk_o1 (by decide) rfl m_wi3 (by decide) in_2_30 rfl rfl rfl dX6_tellFilled_15 ?_
    refine lv_iload_n hx hb dX6_tellFilled_18 rfl (lv_at hl 2 rfl) ?_
    obtain ⟨v2, h_v2, e_v2, hm⟩ := n_ldi hm
    refine n_iald X hH (n := 5) (m_lay_at hT hk_o1 (by decide) (i := 4) rfl) h_v2 e_v2 dX6_tellFilled_19 ?_
    refine lv_iadd hx hb dX6_tellFilled_20 ?_
    refine lv_icmp_ge (tgt := 75) hx hb dX6_tellFilled_21 (by decide) (fun c3 => ?_) (fun c3 => ?_)
    · have hm := m_ite_t hm c3
      exact r_vret X hr hH hS hm dX6_tellFilled_75
    · have hm := m_ite_f hm c3
      refine lv_aload_n hx hb dX6_tellFilled_24 rfl (lv_at hl 0 rfl) ?_
      refine lv_iload_n hx hb dX6_tellFilled_25 rfl (lv_at hl 2 rfl) ?_
      refine lv_aload_n hx hb dX6_tellFilled_26 rfl (lv_at hl 1 rfl) ?_
      refine lv_iload_n hx hb dX6_tellFilled_27 rfl (lv_at hl 2 rfl) ?_
      refine lv_iload_n hx hb dX6_tellFilled_28 rfl (lv_at hl 3 rfl) ?_
      obtain ⟨v5, S4, e_S4, hm⟩ := m_call_of hm
      refine n_cVi X hH hS (k := 3) (c_X3_varOfLine (a := o1) hT hk_o1 e_S4) mw_X3_varOfLine in_4_108 hk_o1 (by decide) rfl rfl rfl ⟨rfl, rfl⟩ ⟨by decide, by decide⟩ ⟨Nat.zero_le _, Nat.zero_le _⟩ hl.1 (Nat.le_of_ble_eq_true rfl) dX6_tellFilled_29 (fun H locs hH hS => ?_)
      obtain ⟨v7, S6, e_S6, hm⟩ := m_call_of hm
      refine n_cVi X hH hS (k := 6) (c_X6_pointedBy (a := a) hT hk_a e_S6) mw_X6_pointedBy in_4_99 hk_a (by decide) rfl rfl rfl ⟨rfl, rfl⟩ ⟨by decide, by decide⟩ ⟨Nat.zero_le _, Nat.zero_le _⟩ hl.1 (Nat.le_of_ble_eq_true rfl) dX6_tellFilled_32 (fun H locs hH hS => ?_)
      refine lv_istore (lv' := [(4, .int v7), (0, .ref a), (1, .ref o1), (2, .int l2), (3, .int l3)]) hx hb dX6_tellFilled_35 hl (by decide) rfl (fun ls hl => ?_)
      refine lv_aload_n hx hb dX6_tellFilled_37 rfl (lv_at hl 2 rfl) ?_
      refine r_getp X hH (k := 3) (a := o1) (j := 6) (b := (o1 + 5)) (A := 5) (B := 0) hk_o1 (by decide) rfl m_wi3 (by decide) in_2_35 rfl rfl rfl dX6_tellFilled_38 ?_
      refine lv_iload_n hx hb dX6_tellFilled_41 rfl (lv_at hl 4 rfl) ?_
      obtain ⟨v8, h_v8, e_v8, hm⟩ := n_ldi hm
      refine n_iald X hH (n := 24) (m_lay_at hT hk_o1 (by decide) (i := 5) rfl) h_v8 e_v8 dX6_tellFilled_42 ?_
      refine lv_iconst (v := (2 : Int32)) hx hb dX6_tellFilled_43 (by decide) ?_
      refine lv_icmp_ne (tgt := 69) hx hb dX6_tellFilled_44 (by decide) (fun c9 => ?_) (fun c9 => ?_)
      · have hm := m_ite_f hm c9
        exact k_X6_tellFilled_69 (a := a) (o1 := o1) X hr hT hk_a hk_o1 (b_X6_tellFilled_7 a o1 n) ih  S6 l2 l3 _ _ _ hH hS (lv_sub hl [1, 2, 3, 4] rfl) hm
      · have hm := m_ite_t hm c9
        refine lv_aload_n hx hb dX6_tellFilled_47 rfl (lv_at hl 1 rfl) ?_
        refine lv_iload hx hb dX6_tellFilled_48 (lv_at hl 0 rfl) ?_
        obtain ⟨v11, S10, e_S10, hm⟩ := m_call_of hm
        refine n_cVi X hH hS (k := 6) (c_X6_has (a := a) hT hk_a e_S10) mw_X6_has in_4_89 hk_a (by decide) rfl rfl rfl ⟨rfl, rfl⟩ ⟨by decide, by decide⟩ ⟨Nat.zero_le _, Nat.zero_le _⟩ hl.1 (Nat.le_of_ble_eq_true rfl) dX6_tellFilled_50 (fun H locs hH hS => ?_)
        refine lv_if_eq (tgt := 69) hx hb dX6_tellFilled_53 (by decide) (fun c12 => ?_) (fun c12 => ?_)
        · have hm := m_ite_t hm c12
          exact k_X6_tellFilled_69 (a := a) (o1 := o1) X hr hT hk_a hk_o1 (b_X6_tellFilled_7 a o1 n) ih  S10 l2 l3 _ _ _ hH hS (lv_sub hl [1, 2, 3, 4] rfl) hm
        · have hm := m_ite_f hm c12
          refine lv_aload_n hx hb dX6_tellFilled_56 rfl (lv_at hl 1 rfl) ?_
          refine r_getp X hH (k := 6) (a := a) (j := 8) (b := (a + 7)) (A := 7) (B := 0) hk_a (by decide) rfl m_wi6 (by decide) in_1_196 rfl rfl rfl dX6_tellFilled_57 ?_
          refine lv_iload hx hb dX6_tellFilled_60 (lv_at hl 0 rfl) ?_
          refine lv_dup2_11 hx hb dX6_tellFilled_62 rfl rfl ?_
          obtain ⟨v13, h_v13, e_v13, hm⟩ := n_ldi hm
          refine n_iald X hH (n := 24) (m_lay_at hT hk_a (by decide) (i := 7) rfl) h_v13 e_v13 dX6_tellFilled_63 ?_
          refine lv_iconst (v := (1 : Int32)) hx hb dX6_tellFilled_64 (by decide) ?_
          refine lv_iload_n hx hb dX6_tellFilled_65 rfl (lv_at hl 3 rfl) ?_
          refine lv_ishl hx hb dX6_tellFilled_66 ?_
          refine lv_ior hx hb dX6_tellFilled_67 ?_
          obtain ⟨S14, h_S14, e_S14, hm⟩ := n_sti hm
          refine n_iast X hH hS (n := 24) (m_lay_at hT hk_a (by decide) (i := 7) rfl) h_S14 e_S14 dX6_tellFilled_68 (fun H locs hH hS => ?_)
          exact k_X6_tellFilled_69 (a := a) (o1 := o1) X hr hT hk_a hk_o1 (b_X6_tellFilled_7 a o1 n) ih  S14 l2 l3 _ _ _ hH hS (lv_sub hl [1, 2, 3, 4] rfl) hm
def f_X6_tellFilled (a o1 : Nat) (S : m_M) (i2 : Int32) : Option m_M :=
    (m_ldi S (o1 + 3) 5 i2).bind fun v1 =>
    b_X6_tellFilled_7 a o1 m_fu S i2 v1
set_option maxHeartbeats 4000000 in
set_option maxRecDepth 100000 in
theorem c_X6_tellFilled {l : Launch} {G : m_G} {nx : Nat} {κ : Nat → Nat} {a o1 : Nat} {S : m_M} {i2 : Int32} {res : m_M} (hT : m_Str κ) (hk_a : κ a = 7) (hk_o1 : κ o1 = 4) (hm : f_X6_tellFilled a o1 S i2 = some res) : m_Cv l yX6_tellFilled cX6_tellFilled 5 rm_X6_tellFilled G nx κ [.ref a, .ref o1, .int i2] S res := by
  refine m_Cv.of (by decide) (Nat.le_of_ble_eq_true rfl) ?_
  intro p e s m args below meth c ls X hr hH hl
  have hx := X.1.1
  have hb := X.1.2.1
  have hS : m_S G s s.heap [] := va_S.rf
  have hl : lv_has ls 5 [(0, .ref a), (1, .ref o1), (2, .int i2)] := hl
  rw [f_X6_tellFilled] at hm
  refine lv_aload_n hx hb dX6_tellFilled_0 rfl (lv_at hl 1 rfl) ?_
  refine r_getp X hH (k := 3) (a := o1) (j := 4) (b := (o1 + 3)) (A := 3) (B := 0) hk_o1 (by decide) rfl m_wi3 (by decide) in_2_24 rfl rfl rfl dX6_tellFilled_1 ?_
  refine lv_iload_n hx hb dX6_tellFilled_4 rfl (lv_at hl 2 rfl) ?_
  obtain ⟨v1, h_v1, e_v1, hm⟩ := n_ldi hm
  refine n_iald X hH (n := 5) (m_lay_at hT hk_o1 (by decide) (i := 3) rfl) h_v1 e_v1 dX6_tellFilled_5 ?_
  refine lv_istore_n (lv' := [(3, .int v1), (0, .ref a), (1, .ref o1), (2, .int i2)]) hx hb dX6_tellFilled_6 rfl hl (by decide) rfl (fun ls hl => ?_)
  exact k_X6_tellFilled_7 (a := a) (o1 := o1) X hr hT hk_a hk_o1  m_fu S i2 v1 _ _ _ hH hS (lv_sub hl [1, 2, 3, 0] rfl) hm
def rm_X6_reachOfLine : Room := { frames := 2, cells := 0, slots := 0, locals := 42 }
def b_X6_reachOfLine_16 (a o1 : Nat)  : Nat → m_M → Int32 → Int32 → Int32 → Int32 → Option (Int32 × m_M)
  | 0, _, _, _, _, _ => none
  | n + 1, S, l2, l3, l4, l5 =>
    m_call (f_X3_operandCount o1 S l3) fun v2 S1 =>
    if v2 ≤ l5 then (
    some (l4, S1)) else (
    m_call (f_X3_operandAt o1 S1 l3 l5) fun v5 S4 =>
    m_call (f_X6_reachOfVar a S4 l2 v5) fun v7 S6 =>
    m_let (l4 ||| v7) fun v8 =>
    m_let (l5 + (1 : Int32)) fun v9 =>
    b_X6_reachOfLine_16 a o1 n S6 l2 l3 v8 v9)
set_option maxHeartbeats 4000000 in
set_option maxRecDepth 100000 in
theorem k_X6_reachOfLine_16 {p : Program} {l : Launch} {e : Env} {s : State} {m : MethodId} {args : Array Value} {below : List Frame} {meth : Method} {c : Code} {G : m_G} {nx : Nat} {κ : Nat → Nat} {res : (Int32 × m_M)} {a o1 : Nat} (X : m_Cx p s m args meth c cX6_reachOfLine 6 RX6 G) (hr : meth.sig.returnType = (some .int)) (hT : m_Str κ) (hk_a : κ a = 7) (hk_o1 : κ o1 = 4)  (n : Nat) : ∀ (S : m_M) (l2 : Int32) (l3 : Int32) (l4 : Int32) (l5 : Int32) (H : Heap) (locs : List Loc) (ls : Array Slot), m_H G nx κ S H → m_S G s H locs → lv_has ls 6 [(0, .ref a), (1, .ref o1), (2, .int l2), (3, .int l3), (4, .int l4), (5, .int l5)] → b_X6_reachOfLine_16 a o1 n S l2 l3 l4 l5 = some res → W p l e rm_X6_reachOfLine s m args below meth c H locs 0 0 (m_Qi below args s G nx κ res) (F0 m 16 ls []) := by
  have hx := X.1.1
  have hb := X.1.2.1
  induction n with
  | zero => intro S l2 l3 l4 l5 H locs ls hH hS hl hm; have hm : (none : Option (Int32 × m_M)) = some res := hm; cases hm
  | succ n ih =>
    intro S l2 l3 l4 l5 H locs ls hH hS hl hm
    rw [b_X6_reachOfLine_16] at hm
    refine lv_iload hx hb dX6_reachOfLine_16 (lv_at hl 5 rfl) ?_
    refine lv_aload_n hx hb dX6_reachOfLine_18 rfl (lv_at hl 1 rfl) ?_
    refine lv_iload_n hx hb dX6_reachOfLine_19 rfl (lv_at hl 3 rfl) ?_
    obtain ⟨v2, S1, e_S1, hm⟩ := m_call_of hm
    refine n_cVi X hH hS (k := 3) (c_X3_operandCount (a := o1) hT hk_o1 e_S1) mw_X3_operandCount in_4_125 hk_o1 (by decide) rfl rfl rfl ⟨rfl, rfl⟩ ⟨by decide, by decide⟩ ⟨Nat.zero_le _, Nat.zero_le _⟩ hl.1 (Nat.le_of_ble_eq_true rfl) dX6_reachOfLine_20 (fun H locs hH hS => ?_)
    refine lv_icmp_ge (tgt := 49) hx hb dX6_reachOfLine_23 (by decide) (fun c3 => ?_) (fun c3 => ?_)
    · have hm := m_ite_t hm c3
      refine lv_iload hx hb dX6_reachOfLine_49 (lv_at hl 4 rfl) ?_
      exact r_iret X hr hH hS hm dX6_reachOfLine_51
    · have hm := m_ite_f hm c3
      refine lv_iload hx hb dX6_reachOfLine_26 (lv_at hl 4 rfl) ?_
      refine lv_aload_n hx hb dX6_reachOfLine_28 rfl (lv_at hl 0 rfl) ?_
      refine lv_iload_n hx hb dX6_reachOfLine_29 rfl (lv_at hl 2 rfl) ?_
      refine lv_aload_n hx hb dX6_reachOfLine_30 rfl (lv_at hl 1 rfl) ?_
      refine lv_iload_n hx hb dX6_reachOfLine_31 rfl (lv_at hl 3 rfl) ?_
      refine lv_iload hx hb dX6_reachOfLine_32 (lv_at hl 5 rfl) ?_
      obtain ⟨v5, S4, e_S4, hm⟩ := m_call_of hm
      refine n_cVi X hH hS (k := 3) (c_X3_operandAt (a := o1) hT hk_o1 e_S4) mw_X3_operandAt in_4_129 hk_o1 (by decide) rfl rfl rfl ⟨rfl, rfl⟩ ⟨by decide, by decide⟩ ⟨Nat.zero_le _, Nat.zero_le _⟩ hl.1 (Nat.le_of_ble_eq_true rfl) dX6_reachOfLine_34 (fun H locs hH hS => ?_)
      obtain ⟨v7, S6, e_S6, hm⟩ := m_call_of hm
      refine n_cVi X hH hS (k := 6) (c_X6_reachOfVar (a := a) hT hk_a e_S6) mw_X6_reachOfVar in_4_121 hk_a (by decide) rfl rfl rfl ⟨rfl, rfl⟩ ⟨by decide, by decide⟩ ⟨Nat.zero_le _, Nat.zero_le _⟩ hl.1 (Nat.le_of_ble_eq_true rfl) dX6_reachOfLine_37 (fun H locs hH hS => ?_)
      refine lv_ior hx hb dX6_reachOfLine_40 ?_
      obtain ⟨v8, e_v8, hm⟩ := m_let_of hm
      refine n_topi e_v8 ?_
      refine lv_istore (lv' := [(4, .int v8), (0, .ref a), (1, .ref o1), (2, .int l2), (3, .int l3), (5, .int l5)]) hx hb dX6_reachOfLine_41 hl (by decide) rfl (fun ls hl => ?_)
      obtain ⟨v9, e_v9, hm⟩ := m_let_of hm
      refine lv_iinc (v := v9) (lv' := [(5, .int v9), (4, .int v8), (0, .ref a), (1, .ref o1), (2, .int l2), (3, .int l3)]) hx hb dX6_reachOfLine_43 hl (k := 5) rfl (by rw [← e_v9]; rfl) (by decide) rfl (fun ls hl => ?_)
      refine lv_goto (tgt := 16) hx hb dX6_reachOfLine_46 (by decide) ?_
      exact ih S6 l2 l3 v8 v9 _ _ _ hH hS (lv_sub hl [2, 3, 4, 5, 1, 0] rfl) hm
def f_X6_reachOfLine (a o1 : Nat) (S : m_M) (i2 : Int32) (i3 : Int32) : Option (Int32 × m_M) :=
    m_call (f_X3_varOfLine o1 S i2 i3) fun v2 S1 =>
    m_call (f_X6_reachOfVar a S1 i2 v2) fun v4 S3 =>
    b_X6_reachOfLine_16 a o1 m_fu S3 i2 i3 v4 (0 : Int32)
set_option maxHeartbeats 4000000 in
set_option maxRecDepth 100000 in
theorem c_X6_reachOfLine {l : Launch} {G : m_G} {nx : Nat} {κ : Nat → Nat} {a o1 : Nat} {S : m_M} {i2 : Int32} {i3 : Int32} {res : (Int32 × m_M)} (hT : m_Str κ) (hk_a : κ a = 7) (hk_o1 : κ o1 = 4) (hm : f_X6_reachOfLine a o1 S i2 i3 = some res) : m_Ci l yX6_reachOfLine cX6_reachOfLine 6 (some .int) rm_X6_reachOfLine G nx κ [.ref a, .ref o1, .int i2, .int i3] S res := by
  refine m_Ci.of (by decide) (Nat.le_of_ble_eq_true rfl) ?_
  intro p e s m args below meth c ls X hr hH hl
  have hx := X.1.1
  have hb := X.1.2.1
  have hS : m_S G s s.heap [] := va_S.rf
  have hl : lv_has ls 6 [(0, .ref a), (1, .ref o1), (2, .int i2), (3, .int i3)] := hl
  rw [f_X6_reachOfLine] at hm
  refine lv_aload_n hx hb dX6_reachOfLine_0 rfl (lv_at hl 0 rfl) ?_
  refine lv_iload_n hx hb dX6_reachOfLine_1 rfl (lv_at hl 2 rfl) ?_
  refine lv_aload_n hx hb dX6_reachOfLine_2 rfl (lv_at hl 1 rfl) ?_
  refine lv_iload_n hx hb dX6_reachOfLine_3 rfl (lv_at hl 2 rfl) ?_
  refine lv_iload_n hx hb dX6_reachOfLine_4 rfl (lv_at hl 3 rfl) ?_
  obtain ⟨v2, S1, e_S1, hm⟩ := m_call_of hm
  refine n_cVi X hH hS (k := 3) (c_X3_varOfLine (a := o1) hT hk_o1 e_S1) mw_X3_varOfLine in_4_108 hk_o1 (by decide) rfl rfl rfl ⟨rfl, rfl⟩ ⟨by decide, by decide⟩ ⟨Nat.zero_le _, Nat.zero_le _⟩ hl.1 (Nat.le_of_ble_eq_true rfl) dX6_reachOfLine_5 (fun H locs hH hS => ?_)
  obtain ⟨v4, S3, e_S3, hm⟩ := m_call_of hm
  refine n_cVi X hH hS (k := 6) (c_X6_reachOfVar (a := a) hT hk_a e_S3) mw_X6_reachOfVar in_4_121 hk_a (by decide) rfl rfl rfl ⟨rfl, rfl⟩ ⟨by decide, by decide⟩ ⟨Nat.zero_le _, Nat.zero_le _⟩ hl.1 (Nat.le_of_ble_eq_true rfl) dX6_reachOfLine_8 (fun H locs hH hS => ?_)
  refine lv_istore (lv' := [(4, .int v4), (0, .ref a), (1, .ref o1), (2, .int i2), (3, .int i3)]) hx hb dX6_reachOfLine_11 hl (by decide) rfl (fun ls hl => ?_)
  refine lv_iconst (v := (0 : Int32)) hx hb dX6_reachOfLine_13 (by decide) ?_
  refine lv_istore (lv' := [(5, .int (0 : Int32)), (4, .int v4), (0, .ref a), (1, .ref o1), (2, .int i2), (3, .int i3)]) hx hb dX6_reachOfLine_14 hl (by decide) rfl (fun ls hl => ?_)
  exact k_X6_reachOfLine_16 (a := a) (o1 := o1) X hr hT hk_a hk_o1  m_fu S3 i2 i3 v4 (0 : Int32) _ _ _ hH hS (lv_sub hl [2, 3, 4, 5, 1, 0] rfl) hm
def rm_X6_tellSpan : Room := { frames := 3, cells := 0, slots := 0, locals := 67 }
def b_X6_tellSpan_66 (a o1 : Nat) (K_14 : m_M → Int32 → Int32 → Int32 → Int32 → Int32 → Option m_M) (S : m_M) (l2 : Int32) (l3 : Int32) (l4 : Int32) (l5 : Int32) (l6 : Int32) : Option m_M :=
    m_let (l6 + (1 : Int32)) fun v1 =>
    K_14 S l2 l3 l4 l5 v1
set_option maxHeartbeats 4000000 in
set_option maxRecDepth 100000 in
theorem k_X6_tellSpan_66 {p : Program} {l : Launch} {e : Env} {s : State} {m : MethodId} {args : Array Value} {below : List Frame} {meth : Method} {c : Code} {G : m_G} {nx : Nat} {κ : Nat → Nat} {res : m_M} {a o1 : Nat} (X : m_Cx p s m args meth c cX6_tellSpan 7 RX6 G) (hr : meth.sig.returnType = none) (hT : m_Str κ) (hk_a : κ a = 7) (hk_o1 : κ o1 = 4) (K_14 : m_M → Int32 → Int32 → Int32 → Int32 → Int32 → Option m_M) (hK_14 : ∀ (S : m_M) (l2 : Int32) (l3 : Int32) (l4 : Int32) (l5 : Int32) (l6 : Int32) (H : Heap) (locs : List Loc) (ls : Array Slot), m_H G nx κ S H → m_S G s H locs → lv_has ls 7 [(0, .ref a), (1, .ref o1), (2, .int l2), (3, .int l3), (4, .int l4), (5, .int l5), (6, .int l6)] → K_14 S l2 l3 l4 l5 l6 = some res → W p l e rm_X6_tellSpan s m args below meth c H locs 0 0 (m_Qv below args s G nx κ res) (F0 m 14 ls [])) : ∀ (S : m_M) (l2 : Int32) (l3 : Int32) (l4 : Int32) (l5 : Int32) (l6 : Int32) (H : Heap) (locs : List Loc) (ls : Array Slot), m_H G nx κ S H → m_S G s H locs → lv_has ls 7 [(0, .ref a), (1, .ref o1), (2, .int l2), (3, .int l3), (4, .int l4), (5, .int l5), (6, .int l6)] → b_X6_tellSpan_66 a o1 K_14 S l2 l3 l4 l5 l6 = some res → W p l e rm_X6_tellSpan s m args below meth c H locs 0 0 (m_Qv below args s G nx κ res) (F0 m 66 ls []) := by
  have hx := X.1.1
  have hb := X.1.2.1
  intro S l2 l3 l4 l5 l6 H locs ls hH hS hl hm
  rw [b_X6_tellSpan_66] at hm
  obtain ⟨v1, e_v1, hm⟩ := m_let_of hm
  refine lv_iinc (v := v1) (lv' := [(6, .int v1), (0, .ref a), (1, .ref o1), (2, .int l2), (3, .int l3), (4, .int l4), (5, .int l5)]) hx hb dX6_tellSpan_66 hl (k := 6) rfl (by rw [← e_v1]; rfl) (by decide) rfl (fun ls hl => ?_)
  refine lv_goto (tgt := 14) hx hb dX6_tellSpan_69 (by decide) ?_
  exact hK_14 S l2 l3 l4 l5 v1 _ _ _ hH hS (lv_sub hl [1, 2, 3, 4, 5, 6, 0] rfl) hm
def b_X6_tellSpan_60 (a o1 : Nat) (K_14 : m_M → Int32 → Int32 → Int32 → Int32 → Int32 → Option m_M) (S : m_M) (l2 : Int32) (l3 : Int32) (l6 : Int32) (t0 : Int32) : Option m_M :=
    b_X6_tellSpan_66 a o1 K_14 S l2 l3 t0 l6 l6
set_option maxHeartbeats 4000000 in
set_option maxRecDepth 100000 in
theorem k_X6_tellSpan_60 {p : Program} {l : Launch} {e : Env} {s : State} {m : MethodId} {args : Array Value} {below : List Frame} {meth : Method} {c : Code} {G : m_G} {nx : Nat} {κ : Nat → Nat} {res : m_M} {a o1 : Nat} (X : m_Cx p s m args meth c cX6_tellSpan 7 RX6 G) (hr : meth.sig.returnType = none) (hT : m_Str κ) (hk_a : κ a = 7) (hk_o1 : κ o1 = 4) (K_14 : m_M → Int32 → Int32 → Int32 → Int32 → Int32 → Option m_M) (hK_14 : ∀ (S : m_M) (l2 : Int32) (l3 : Int32) (l4 : Int32) (l5 : Int32) (l6 : Int32) (H : Heap) (locs : List Loc) (ls : Array Slot), m_H G nx κ S H → m_S G s H locs → lv_has ls 7 [(0, .ref a), (1, .ref o1), (2, .int l2), (3, .int l3), (4, .int l4), (5, .int l5), (6, .int l6)] → K_14 S l2 l3 l4 l5 l6 = some res → W p l e rm_X6_tellSpan s m args below meth c H locs 0 0 (m_Qv below args s G nx κ res) (F0 m 14 ls [])) : ∀ (S : m_M) (l2 : Int32) (l3 : Int32) (l6 : Int32) (t0 : Int32) (H : Heap) (locs : List Loc) (ls : Array Slot), m_H G nx κ S H → m_S G s H locs → lv_has ls 7 [(0, .ref a), (1, .ref o1), (2, .int l2), (3, .int l3), (6, .int l6)] → b_X6_tellSpan_60 a o1 K_14 S l2 l3 l6 t0 = some res → W p l e rm_X6_tellSpan s m args below meth c H locs 0 0 (m_Qv below args s G nx κ res) (F0 m 60 ls [.int t0]) := by
  have hx := X.1.1
  have hb := X.1.2.1
  intro S l2 l3 l6 t0 H locs ls hH hS hl hm
  rw [b_X6_tellSpan_60] at hm
  refine lv_istore (lv' := [(4, .int t0), (0, .ref a), (1, .ref o1), (2, .int l2), (3, .int l3), (6, .int l6)]) hx hb dX6_tellSpan_60 hl (by decide) rfl (fun ls hl => ?_)
  refine lv_iload hx hb dX6_tellSpan_62 (lv_at hl 5 rfl) ?_
  refine lv_istore (lv' := [(5, .int l6), (4, .int t0), (0, .ref a), (1, .ref o1), (2, .int l2), (3, .int l3), (6, .int l6)]) hx hb dX6_tellSpan_64 hl (by decide) rfl (fun ls hl => ?_)
  exact k_X6_tellSpan_66 (a := a) (o1 := o1) X hr hT hk_a hk_o1 K_14 hK_14  S l2 l3 t0 l6 l6 _ _ _ hH hS (lv_sub hl [2, 3, 4, 5, 1, 0, 6] rfl) hm
def b_X6_tellSpan_14 (a o1 : Nat)  : Nat → m_M → Int32 → Int32 → Int32 → Int32 → Int32 → Option m_M
  | 0, _, _, _, _, _, _ => none
  | n + 1, S, l2, l3, l4, l5, l6 =>
    (m_ldi S (o1 + 3) 5 l2).bind fun v1 =>
    (m_ldi S (o1 + 4) 5 l2).bind fun v2 =>
    if (v1 + v2) ≤ l6 then (
    if l4 = (-1 : Int32) then (
    some S) else (
    (m_ldi S (a + 12) 24 l4).bind fun v5 =>
    (m_sti S (a + 12) 24 l4 (v5 ||| ((1 : Int32) <<< (l3 &&& 31)))).bind fun S6 =>
    (m_ldi S6 (a + 13) 24 l5).bind fun v7 =>
    (m_sti S6 (a + 13) 24 l5 (v7 ||| ((1 : Int32) <<< (l3 &&& 31)))).bind fun S8 =>
    (m_ldi S8 (o1 + 3) 5 l2).bind fun v9 =>
    (m_sti S8 (a + 10) 120 ((l2 * (24 : Int32)) + l3) (l4 - v9)).bind fun S10 =>
    (m_ldi S10 (o1 + 3) 5 l2).bind fun v11 =>
    (m_sti S10 (a + 11) 120 ((l2 * (24 : Int32)) + l3) (l5 - v11)).bind fun S12 =>
    some S12)) else (
    m_call (f_X6_reachOfLine a o1 S l2 l6) fun v14 S13 =>
    if ((v14 >>> (l3 &&& 31)) &&& (1 : Int32)) = 0 then (
    b_X6_tellSpan_66 a o1 (b_X6_tellSpan_14 a o1 n) S13 l2 l3 l4 l5 l6) else (
    if l4 = (-1 : Int32) then (
    b_X6_tellSpan_60 a o1 (b_X6_tellSpan_14 a o1 n) S13 l2 l3 l6 l6) else (
    b_X6_tellSpan_60 a o1 (b_X6_tellSpan_14 a o1 n) S13 l2 l3 l6 l4)))
set_option maxHeartbeats 4000000 in
set_option maxRecDepth 100000 in
theorem k_X6_tellSpan_14 {p : Program} {l : Launch} {e : Env} {s : State} {m : MethodId} {args : Array Value} {below : List Frame} {meth : Method} {c : Code} {G : m_G} {nx : Nat} {κ : Nat → Nat} {res : m_M} {a o1 : Nat} (X : m_Cx p s m args meth c cX6_tellSpan 7 RX6 G) (hr : meth.sig.returnType = none) (hT : m_Str κ) (hk_a : κ a = 7) (hk_o1 : κ o1 = 4)  (n : Nat) : ∀ (S : m_M) (l2 : Int32) (l3 : Int32) (l4 : Int32) (l5 : Int32) (l6 : Int32) (H : Heap) (locs : List Loc) (ls : Array Slot), m_H G nx κ S H → m_S G s H locs → lv_has ls 7 [(0, .ref a), (1, .ref o1), (2, .int l2), (3, .int l3), (4, .int l4), (5, .int l5), (6, .int l6)] → b_X6_tellSpan_14 a o1 n S l2 l3 l4 l5 l6 = some res → W p l e rm_X6_tellSpan s m args below meth c H locs 0 0 (m_Qv below args s G nx κ res) (F0 m 14 ls []) := by
  have hx := X.1.1
  have hb := X.1.2.1
  induction n with
  | zero => intro S l2 l3 l4 l5 l6 H locs ls hH hS hl hm; have hm : (none : Option m_M) = some res := hm; cases hm
  | succ n ih =>
    intro S l2 l3 l4 l5 l6 H locs ls hH hS hl hm
    rw [b_X6_tellSpan_14] at hm
    refine lv_iload hx hb dX6_tellSpan_14 (lv_at hl 6 rfl) ?_
    refine lv_aload_n hx hb dX6_tellSpan_16 rfl (lv_at hl 1 rfl) ?_
    refine r_getp X hH (k := 3) (a := o1) (j := 4) (b := (o1 + 3)) (A := 3) (B := 0) hk_o1 (by decide) rfl m_wi3 (by decide) in_2_24 rfl rfl rfl dX6_tellSpan_17 ?_
    refine lv_iload_n hx hb dX6_tellSpan_20 rfl (lv_at hl 2 rfl) ?_
    obtain ⟨v1, h_v1, e_v1, hm⟩ := n_ldi hm
    refine n_iald X hH (n := 5) (m_lay_at hT hk_o1 (by decide) (i := 3) rfl) h_v1 e_v1 dX6_tellSpan_21 ?_
    refine lv_aload_n hx hb dX6_tellSpan_22 rfl (lv_at hl 1 rfl) ?_
    refine r_getp X hH (k := 3) (a := o1) (j := 5) (b := (o1 + 4)) (A := 4) (B := 0) hk_o1 (by decide) rfl m_wi3 (by decide) in_2_30 rfl rfl rfl dX6_tellSpan_23 ?_
    refine lv_iload_n hx hb dX6_tellSpan_26 rfl (lv_at hl 2 rfl) ?_
    obtain ⟨v2, h_v2, e_v2, hm⟩ := n_ldi hm
    refine n_iald X hH (n := 5) (m_lay_at hT hk_o1 (by decide) (i := 4) rfl) h_v2 e_v2 dX6_tellSpan_27 ?_
    refine lv_iadd hx hb dX6_tellSpan_28 ?_
    refine lv_icmp_ge (tgt := 72) hx hb dX6_tellSpan_29 (by decide) (fun c3 => ?_) (fun c3 => ?_)
    · have hm := m_ite_t hm c3
      refine lv_iload hx hb dX6_tellSpan_72 (lv_at hl 4 rfl) ?_
      refine lv_iconst (v := (-1 : Int32)) hx hb dX6_tellSpan_74 (by decide) ?_
      refine lv_icmp_ne (tgt := 79) hx hb dX6_tellSpan_75 (by decide) (fun c4 => ?_) (fun c4 => ?_)
      · have hm := m_ite_f hm c4
        refine lv_aload_n hx hb dX6_tellSpan_79 rfl (lv_at hl 0 rfl) ?_
        refine r_getp X hH (k := 6) (a := a) (j := 13) (b := (a + 12)) (A := 12) (B := 0) hk_a (by decide) rfl m_wi6 (by decide) in_1_209 rfl rfl rfl dX6_tellSpan_80 ?_
        refine lv_iload hx hb dX6_tellSpan_83 (lv_at hl 4 rfl) ?_
        refine lv_dup2_11 hx hb dX6_tellSpan_85 rfl rfl ?_
        obtain ⟨v5, h_v5, e_v5, hm⟩ := n_ldi hm
        refine n_iald X hH (n := 24) (m_lay_at hT hk_a (by decide) (i := 12) rfl) h_v5 e_v5 dX6_tellSpan_86 ?_
        refine lv_iconst (v := (1 : Int32)) hx hb dX6_tellSpan_87 (by decide) ?_
        refine lv_iload_n hx hb dX6_tellSpan_88 rfl (lv_at hl 3 rfl) ?_
        refine lv_ishl hx hb dX6_tellSpan_89 ?_
        refine lv_ior hx hb dX6_tellSpan_90 ?_
        obtain ⟨S6, h_S6, e_S6, hm⟩ := n_sti hm
        refine n_iast X hH hS (n := 24) (m_lay_at hT hk_a (by decide) (i := 12) rfl) h_S6 e_S6 dX6_tellSpan_91 (fun H locs hH hS => ?_)
        refine lv_aload_n hx hb dX6_tellSpan_92 rfl (lv_at hl 0 rfl) ?_
        refine r_getp X hH (k := 6) (a := a) (j := 14) (b := (a + 13)) (A := 13) (B := 0) hk_a (by decide) rfl m_wi6 (by decide) in_1_211 rfl rfl rfl dX6_tellSpan_93 ?_
        refine lv_iload hx hb dX6_tellSpan_96 (lv_at hl 5 rfl) ?_
        refine lv_dup2_11 hx hb dX6_tellSpan_98 rfl rfl ?_
        obtain ⟨v7, h_v7, e_v7, hm⟩ := n_ldi hm
        refine n_iald X hH (n := 24) (m_lay_at hT hk_a (by decide) (i := 13) rfl) h_v7 e_v7 dX6_tellSpan_99 ?_
        refine lv_iconst (v := (1 : Int32)) hx hb dX6_tellSpan_100 (by decide) ?_
        refine lv_iload_n hx hb dX6_tellSpan_101 rfl (lv_at hl 3 rfl) ?_
        refine lv_ishl hx hb dX6_tellSpan_102 ?_
        refine lv_ior hx hb dX6_tellSpan_103 ?_
        obtain ⟨S8, h_S8, e_S8, hm⟩ := n_sti hm
        refine n_iast X hH hS (n := 24) (m_lay_at hT hk_a (by decide) (i := 13) rfl) h_S8 e_S8 dX6_tellSpan_104 (fun H locs hH hS => ?_)
        refine lv_aload_n hx hb dX6_tellSpan_105 rfl (lv_at hl 0 rfl) ?_
        refine r_getp X hH (k := 6) (a := a) (j := 11) (b := (a + 10)) (A := 10) (B := 0) hk_a (by decide) rfl m_wi6 (by decide) in_1_205 rfl rfl rfl dX6_tellSpan_106 ?_
        refine lv_iload_n hx hb dX6_tellSpan_109 rfl (lv_at hl 2 rfl) ?_
        refine lv_bipush (v := (24 : Int32)) hx hb dX6_tellSpan_110 (by decide) ?_
        refine lv_imul hx hb dX6_tellSpan_112 ?_
        refine lv_iload_n hx hb dX6_tellSpan_113 rfl (lv_at hl 3 rfl) ?_
        refine lv_iadd hx hb dX6_tellSpan_114 ?_
        refine lv_iload hx hb dX6_tellSpan_115 (lv_at hl 4 rfl) ?_
        refine lv_aload_n hx hb dX6_tellSpan_117 rfl (lv_at hl 1 rfl) ?_
        refine r_getp X hH (k := 3) (a := o1) (j := 4) (b := (o1 + 3)) (A := 3) (B := 0) hk_o1 (by decide) rfl m_wi3 (by decide) in_2_24 rfl rfl rfl dX6_tellSpan_118 ?_
        refine lv_iload_n hx hb dX6_tellSpan_121 rfl (lv_at hl 2 rfl) ?_
        obtain ⟨v9, h_v9, e_v9, hm⟩ := n_ldi hm
        refine n_iald X hH (n := 5) (m_lay_at hT hk_o1 (by decide) (i := 3) rfl) h_v9 e_v9 dX6_tellSpan_122 ?_
        refine lv_isub hx hb dX6_tellSpan_123 ?_
        obtain ⟨S10, h_S10, e_S10, hm⟩ := n_sti hm
        refine n_iast X hH hS (n := 120) (m_lay_at hT hk_a (by decide) (i := 10) rfl) h_S10 e_S10 dX6_tellSpan_124 (fun H locs hH hS => ?_)
        refine lv_aload_n hx hb dX6_tellSpan_125 rfl (lv_at hl 0 rfl) ?_
        refine r_getp X hH (k := 6) (a := a) (j := 12) (b := (a + 11)) (A := 11) (B := 0) hk_a (by decide) rfl m_wi6 (by decide) in_1_207 rfl rfl rfl dX6_tellSpan_126 ?_
        refine lv_iload_n hx hb dX6_tellSpan_129 rfl (lv_at hl 2 rfl) ?_
        refine lv_bipush (v := (24 : Int32)) hx hb dX6_tellSpan_130 (by decide) ?_
        refine lv_imul hx hb dX6_tellSpan_132 ?_
        refine lv_iload_n hx hb dX6_tellSpan_133 rfl (lv_at hl 3 rfl) ?_
        refine lv_iadd hx hb dX6_tellSpan_134 ?_
        refine lv_iload hx hb dX6_tellSpan_135 (lv_at hl 5 rfl) ?_
        refine lv_aload_n hx hb dX6_tellSpan_137 rfl (lv_at hl 1 rfl) ?_
        refine r_getp X hH (k := 3) (a := o1) (j := 4) (b := (o1 + 3)) (A := 3) (B := 0) hk_o1 (by decide) rfl m_wi3 (by decide) in_2_24 rfl rfl rfl dX6_tellSpan_138 ?_
        refine lv_iload_n hx hb dX6_tellSpan_141 rfl (lv_at hl 2 rfl) ?_
        obtain ⟨v11, h_v11, e_v11, hm⟩ := n_ldi hm
        refine n_iald X hH (n := 5) (m_lay_at hT hk_o1 (by decide) (i := 3) rfl) h_v11 e_v11 dX6_tellSpan_142 ?_
        refine lv_isub hx hb dX6_tellSpan_143 ?_
        obtain ⟨S12, h_S12, e_S12, hm⟩ := n_sti hm
        refine n_iast X hH hS (n := 120) (m_lay_at hT hk_a (by decide) (i := 11) rfl) h_S12 e_S12 dX6_tellSpan_144 (fun H locs hH hS => ?_)
        exact r_vret X hr hH hS hm dX6_tellSpan_145
      · have hm := m_ite_t hm c4
        exact r_vret X hr hH hS hm dX6_tellSpan_78
    · have hm := m_ite_f hm c3
      refine lv_aload_n hx hb dX6_tellSpan_32 rfl (lv_at hl 0 rfl) ?_
      refine lv_aload_n hx hb dX6_tellSpan_33 rfl (lv_at hl 1 rfl) ?_
      refine lv_iload_n hx hb dX6_tellSpan_34 rfl (lv_at hl 2 rfl) ?_
      refine lv_iload hx hb dX6_tellSpan_35 (lv_at hl 6 rfl) ?_
      obtain ⟨v14, S13, e_S13, hm⟩ := m_call_of hm
      refine n_cVi X hH hS (k := 6) (c_X6_reachOfLine (a := a) (o1 := o1) hT hk_a hk_o1 e_S13) mw_X6_reachOfLine in_4_117 hk_a (by decide) rfl rfl rfl ⟨rfl, rfl⟩ ⟨by decide, by decide⟩ ⟨Nat.zero_le _, Nat.zero_le _⟩ hl.1 (Nat.le_of_ble_eq_true rfl) dX6_tellSpan_37 (fun H locs hH hS => ?_)
      refine lv_iload_n hx hb dX6_tellSpan_40 rfl (lv_at hl 3 rfl) ?_
      refine lv_ishr hx hb dX6_tellSpan_41 ?_
      refine lv_iconst (v := (1 : Int32)) hx hb dX6_tellSpan_42 (by decide) ?_
      refine lv_iand hx hb dX6_tellSpan_43 ?_
      refine lv_if_eq (tgt := 66) hx hb dX6_tellSpan_44 (by decide) (fun c15 => ?_) (fun c15 => ?_)
      · have hm := m_ite_t hm c15
        exact k_X6_tellSpan_66 (a := a) (o1 := o1) X hr hT hk_a hk_o1 (b_X6_tellSpan_14 a o1 n) ih  S13 l2 l3 l4 l5 l6 _ _ _ hH hS hl hm
      · have hm := m_ite_f hm c15
        refine lv_iload hx hb dX6_tellSpan_47 (lv_at hl 4 rfl) ?_
        refine lv_iconst (v := (-1 : Int32)) hx hb dX6_tellSpan_49 (by decide) ?_
        refine lv_icmp_ne (tgt := 58) hx hb dX6_tellSpan_50 (by decide) (fun c16 => ?_) (fun c16 => ?_)
        · have hm := m_ite_f hm c16
          refine lv_iload hx hb dX6_tellSpan_58 (lv_at hl 4 rfl) ?_
          exact k_X6_tellSpan_60 (a := a) (o1 := o1) X hr hT hk_a hk_o1 (b_X6_tellSpan_14 a o1 n) ih  S13 l2 l3 l6 l4 _ _ _ hH hS (lv_sub hl [0, 1, 2, 3, 6] rfl) hm
        · have hm := m_ite_t hm c16
          refine lv_iload hx hb dX6_tellSpan_53 (lv_at hl 6 rfl) ?_
          refine lv_goto (tgt := 60) hx hb dX6_tellSpan_55 (by decide) ?_
          exact k_X6_tellSpan_60 (a := a) (o1 := o1) X hr hT hk_a hk_o1 (b_X6_tellSpan_14 a o1 n) ih  S13 l2 l3 l6 l6 _ _ _ hH hS (lv_sub hl [0, 1, 2, 3, 6] rfl) hm
def f_X6_tellSpan (a o1 : Nat) (S : m_M) (i2 : Int32) (i3 : Int32) : Option m_M :=
    (m_ldi S (o1 + 3) 5 i2).bind fun v1 =>
    b_X6_tellSpan_14 a o1 m_fu S i2 i3 (-1 : Int32) (-1 : Int32) v1
set_option maxHeartbeats 4000000 in
set_option maxRecDepth 100000 in
theorem c_X6_tellSpan {l : Launch} {G : m_G} {nx : Nat} {κ : Nat → Nat} {a o1 : Nat} {S : m_M} {i2 : Int32} {i3 : Int32} {res : m_M} (hT : m_Str κ) (hk_a : κ a = 7) (hk_o1 : κ o1 = 4) (hm : f_X6_tellSpan a o1 S i2 i3 = some res) : m_Cv l yX6_tellSpan cX6_tellSpan 7 rm_X6_tellSpan G nx κ [.ref a, .ref o1, .int i2, .int i3] S res := by
  refine m_Cv.of (by decide) (Nat.le_of_ble_eq_true rfl) ?_
  intro p e s m args below meth c ls X hr hH hl
  have hx := X.1.1
  have hb := X.1.2.1
  have hS : m_S G s s.heap [] := va_S.rf
  have hl : lv_has ls 7 [(0, .ref a), (1, .ref o1), (2, .int i2), (3, .int i3)] := hl
  rw [f_X6_tellSpan] at hm
  refine lv_iconst (v := (-1 : Int32)) hx hb dX6_tellSpan_0 (by decide) ?_
  refine lv_istore (lv' := [(4, .int (-1 : Int32)), (0, .ref a), (1, .ref o1), (2, .int i2), (3, .int i3)]) hx hb dX6_tellSpan_1 hl (by decide) rfl (fun ls hl => ?_)
  refine lv_iconst (v := (-1 : Int32)) hx hb dX6_tellSpan_3 (by decide) ?_
  refine lv_istore (lv' := [(5, .int (-1 : Int32)), (4, .int (-1 : Int32)), (0, .ref a), (1, .ref o1), (2, .int i2), (3, .int i3)]) hx hb dX6_tellSpan_4 hl (by decide) rfl (fun ls hl => ?_)
  refine lv_aload_n hx hb dX6_tellSpan_6 rfl (lv_at hl 3 rfl) ?_
  refine r_getp X hH (k := 3) (a := o1) (j := 4) (b := (o1 + 3)) (A := 3) (B := 0) hk_o1 (by decide) rfl m_wi3 (by decide) in_2_24 rfl rfl rfl dX6_tellSpan_7 ?_
  refine lv_iload_n hx hb dX6_tellSpan_10 rfl (lv_at hl 4 rfl) ?_
  obtain ⟨v1, h_v1, e_v1, hm⟩ := n_ldi hm
  refine n_iald X hH (n := 5) (m_lay_at hT hk_o1 (by decide) (i := 3) rfl) h_v1 e_v1 dX6_tellSpan_11 ?_
  refine lv_istore (lv' := [(6, .int v1), (5, .int (-1 : Int32)), (4, .int (-1 : Int32)), (0, .ref a), (1, .ref o1), (2, .int i2), (3, .int i3)]) hx hb dX6_tellSpan_12 hl (by decide) rfl (fun ls hl => ?_)
  exact k_X6_tellSpan_14 (a := a) (o1 := o1) X hr hT hk_a hk_o1  m_fu S i2 i3 (-1 : Int32) (-1 : Int32) v1 _ _ _ hH hS (lv_sub hl [3, 4, 5, 6, 2, 1, 0] rfl) hm
def rm_J6_bitCount_0f7a4 : Room := { frames := 0, cells := 0, slots := 0, locals := 0 }
def f_J6_bitCount_0f7a4 (S : m_M) (i0 : Int32) : Option (Int32 × m_M) :=
    m_let (i0 - ((i0.toUInt32 >>> ((1 : Int32).toUInt32 &&& Int32.toUInt32 31)).toInt32 &&& (1431655765 : Int32))) fun v1 =>
    m_let ((v1 &&& (858993459 : Int32)) + ((v1.toUInt32 >>> ((2 : Int32).toUInt32 &&& Int32.toUInt32 31)).toInt32 &&& (858993459 : Int32))) fun v2 =>
    m_let ((v2 + (v2.toUInt32 >>> ((4 : Int32).toUInt32 &&& Int32.toUInt32 31)).toInt32) &&& (252645135 : Int32)) fun v3 =>
    m_let (v3 + (v3.toUInt32 >>> ((8 : Int32).toUInt32 &&& Int32.toUInt32 31)).toInt32) fun v4 =>
    m_let (v4 + (v4.toUInt32 >>> ((16 : Int32).toUInt32 &&& Int32.toUInt32 31)).toInt32) fun v5 =>
    some ((v5 &&& (63 : Int32)), S)
set_option maxHeartbeats 4000000 in
set_option maxRecDepth 100000 in
theorem c_J6_bitCount_0f7a4 {l : Launch} {G : m_G} {nx : Nat} {κ : Nat → Nat} {S : m_M} {i0 : Int32} {res : (Int32 × m_M)} (hT : m_Str κ)  (hm : f_J6_bitCount_0f7a4 S i0 = some res) : m_Ci l yJ6_bitCount_0f7a4 cJ6_bitCount_0f7a4 1 (some .int) rm_J6_bitCount_0f7a4 G nx κ [.int i0] S res := by
  refine m_Ci.of (by decide) (Nat.le_of_ble_eq_true rfl) ?_
  intro p e s m args below meth c ls X hr hH hl
  have hx := X.1.1
  have hb := X.1.2.1
  have hS : m_S G s s.heap [] := va_S.rf
  have hl : lv_has ls 1 [(0, .int i0)] := hl
  rw [f_J6_bitCount_0f7a4] at hm
  refine lv_iload_n hx hb dJ6_bitCount_0f7a4_0 rfl (lv_at hl 0 rfl) ?_
  refine lv_iload_n hx hb dJ6_bitCount_0f7a4_1 rfl (lv_at hl 0 rfl) ?_
  refine lv_iconst (v := (1 : Int32)) hx hb dJ6_bitCount_0f7a4_2 (by decide) ?_
  refine lv_iushr hx hb dJ6_bitCount_0f7a4_3 rfl ?_
  refine lv_ldcw hx hb X.1.2.2.2.1 (m_w X in_4_137) dJ6_bitCount_0f7a4_4 ?_
  refine lv_iand hx hb dJ6_bitCount_0f7a4_7 ?_
  refine lv_isub hx hb dJ6_bitCount_0f7a4_8 ?_
  obtain ⟨v1, e_v1, hm⟩ := m_let_of hm
  refine n_topi e_v1 ?_
  refine lv_istore_n (lv' := [(0, .int v1)]) hx hb dJ6_bitCount_0f7a4_9 rfl hl (by decide) rfl (fun ls hl => ?_)
  refine lv_iload_n hx hb dJ6_bitCount_0f7a4_10 rfl (lv_at hl 0 rfl) ?_
  refine lv_ldcw hx hb X.1.2.2.2.1 (m_w X in_4_138) dJ6_bitCount_0f7a4_11 ?_
  refine lv_iand hx hb dJ6_bitCount_0f7a4_14 ?_
  refine lv_iload_n hx hb dJ6_bitCount_0f7a4_15 rfl (lv_at hl 0 rfl) ?_
  refine lv_iconst (v := (2 : Int32)) hx hb dJ6_bitCount_0f7a4_16 (by decide) ?_
  refine lv_iushr hx hb dJ6_bitCount_0f7a4_17 rfl ?_
  refine lv_ldcw hx hb X.1.2.2.2.1 (m_w X in_4_138) dJ6_bitCount_0f7a4_18 ?_
  refine lv_iand hx hb dJ6_bitCount_0f7a4_21 ?_
  refine lv_iadd hx hb dJ6_bitCount_0f7a4_22 ?_
  obtain ⟨v2, e_v2, hm⟩ := m_let_of hm
  refine n_topi e_v2 ?_
  refine lv_istore_n (lv' := [(0, .int v2)]) hx hb dJ6_bitCount_0f7a4_23 rfl hl (by decide) rfl (fun ls hl => ?_)
  refine lv_iload_n hx hb dJ6_bitCount_0f7a4_24 rfl (lv_at hl 0 rfl) ?_
  refine lv_iload_n hx hb dJ6_bitCount_0f7a4_25 rfl (lv_at hl 0 rfl) ?_
  refine lv_iconst (v := (4 : Int32)) hx hb dJ6_bitCount_0f7a4_26 (by decide) ?_
  refine lv_iushr hx hb dJ6_bitCount_0f7a4_27 rfl ?_
  refine lv_iadd hx hb dJ6_bitCount_0f7a4_28 ?_
  refine lv_ldcw hx hb X.1.2.2.2.1 (m_w X in_4_139) dJ6_bitCount_0f7a4_29 ?_
  refine lv_iand hx hb dJ6_bitCount_0f7a4_32 ?_
  obtain ⟨v3, e_v3, hm⟩ := m_let_of hm
  refine n_topi e_v3 ?_
  refine lv_istore_n (lv' := [(0, .int v3)]) hx hb dJ6_bitCount_0f7a4_33 rfl hl (by decide) rfl (fun ls hl => ?_)
  refine lv_iload_n hx hb dJ6_bitCount_0f7a4_34 rfl (lv_at hl 0 rfl) ?_
  refine lv_iload_n hx hb dJ6_bitCount_0f7a4_35 rfl (lv_at hl 0 rfl) ?_
  refine lv_bipush (v := (8 : Int32)) hx hb dJ6_bitCount_0f7a4_36 (by decide) ?_
  refine lv_iushr hx hb dJ6_bitCount_0f7a4_38 rfl ?_
  refine lv_iadd hx hb dJ6_bitCount_0f7a4_39 ?_
  obtain ⟨v4, e_v4, hm⟩ := m_let_of hm
  refine n_topi e_v4 ?_
  refine lv_istore_n (lv' := [(0, .int v4)]) hx hb dJ6_bitCount_0f7a4_40 rfl hl (by decide) rfl (fun ls hl => ?_)
  refine lv_iload_n hx hb dJ6_bitCount_0f7a4_41 rfl (lv_at hl 0 rfl) ?_
  refine lv_iload_n hx hb dJ6_bitCount_0f7a4_42 rfl (lv_at hl 0 rfl) ?_
  refine lv_bipush (v := (16 : Int32)) hx hb dJ6_bitCount_0f7a4_43 (by decide) ?_
  refine lv_iushr hx hb dJ6_bitCount_0f7a4_45 rfl ?_
  refine lv_iadd hx hb dJ6_bitCount_0f7a4_46 ?_
  obtain ⟨v5, e_v5, hm⟩ := m_let_of hm
  refine n_topi e_v5 ?_
  refine lv_istore_n (lv' := [(0, .int v5)]) hx hb dJ6_bitCount_0f7a4_47 rfl hl (by decide) rfl (fun ls hl => ?_)
  refine lv_iload_n hx hb dJ6_bitCount_0f7a4_48 rfl (lv_at hl 0 rfl) ?_
  refine lv_bipush (v := (63 : Int32)) hx hb dJ6_bitCount_0f7a4_49 (by decide) ?_
  refine lv_iand hx hb dJ6_bitCount_0f7a4_51 ?_
  exact r_iret X hr hH hS hm dJ6_bitCount_0f7a4_52
def rm_X6_tellFinite : Room := { frames := 1, cells := 0, slots := 0, locals := 20 }
def b_X6_tellFinite_103 (a o1 : Nat) (K_7 : m_M → Int32 → Option m_M) (S : m_M) (l2 : Int32) : Option m_M :=
    m_let (l2 + (1 : Int32)) fun v1 =>
    K_7 S v1
set_option maxHeartbeats 4000000 in
set_option maxRecDepth 100000 in
theorem k_X6_tellFinite_103 {p : Program} {l : Launch} {e : Env} {s : State} {m : MethodId} {args : Array Value} {below : List Frame} {meth : Method} {c : Code} {G : m_G} {nx : Nat} {κ : Nat → Nat} {res : m_M} {a o1 : Nat} (X : m_Cx p s m args meth c cX6_tellFinite 5 RX6 G) (hr : meth.sig.returnType = none) (hT : m_Str κ) (hk_a : κ a = 7) (hk_o1 : κ o1 = 4) (K_7 : m_M → Int32 → Option m_M) (hK_7 : ∀ (S : m_M) (l2 : Int32) (H : Heap) (locs : List Loc) (ls : Array Slot), m_H G nx κ S H → m_S G s H locs → lv_has ls 5 [(0, .ref a), (1, .ref o1), (2, .int l2)] → K_7 S l2 = some res → W p l e rm_X6_tellFinite s m args below meth c H locs 0 0 (m_Qv below args s G nx κ res) (F0 m 7 ls [])) : ∀ (S : m_M) (l2 : Int32) (H : Heap) (locs : List Loc) (ls : Array Slot), m_H G nx κ S H → m_S G s H locs → lv_has ls 5 [(0, .ref a), (1, .ref o1), (2, .int l2)] → b_X6_tellFinite_103 a o1 K_7 S l2 = some res → W p l e rm_X6_tellFinite s m args below meth c H locs 0 0 (m_Qv below args s G nx κ res) (F0 m 103 ls []) := by
  have hx := X.1.1
  have hb := X.1.2.1
  intro S l2 H locs ls hH hS hl hm
  rw [b_X6_tellFinite_103] at hm
  obtain ⟨v1, e_v1, hm⟩ := m_let_of hm
  refine lv_iinc (v := v1) (lv' := [(2, .int v1), (0, .ref a), (1, .ref o1)]) hx hb dX6_tellFinite_103 hl (k := 2) rfl (by rw [← e_v1]; rfl) (by decide) rfl (fun ls hl => ?_)
  refine lv_goto (tgt := 7) hx hb dX6_tellFinite_106 (by decide) ?_
  exact hK_7 S v1 _ _ _ hH hS (lv_sub hl [1, 2, 0] rfl) hm
def b_X6_tellFinite_64 (a o1 : Nat) (K_7 : m_M → Int32 → Option m_M) (S : m_M) (l2 : Int32) (l3 : Int32) (t0 : Int32) : Option m_M :=
    if l3 = 0 then (
    if t0 = 0 then (
    b_X6_tellFinite_103 a o1 K_7 S l2) else (
    (m_ldi S (a + 7) 24 l2).bind fun v3 =>
    (m_ldi S (a + 6) 24 l2).bind fun v4 =>
    if (v3 &&& v4) = 0 then (
    b_X6_tellFinite_103 a o1 K_7 S l2) else (
    m_let (m_si S a 1 ((m_ri S a 1) ||| ((1 : Int32) <<< (l2 &&& 31)))) fun S6 =>
    b_X6_tellFinite_103 a o1 K_7 S6 l2))) else (
    b_X6_tellFinite_103 a o1 K_7 S l2)
set_option maxHeartbeats 4000000 in
set_option maxRecDepth 100000 in
theorem k_X6_tellFinite_64 {p : Program} {l : Launch} {e : Env} {s : State} {m : MethodId} {args : Array Value} {below : List Frame} {meth : Method} {c : Code} {G : m_G} {nx : Nat} {κ : Nat → Nat} {res : m_M} {a o1 : Nat} (X : m_Cx p s m args meth c cX6_tellFinite 5 RX6 G) (hr : meth.sig.returnType = none) (hT : m_Str κ) (hk_a : κ a = 7) (hk_o1 : κ o1 = 4) (K_7 : m_M → Int32 → Option m_M) (hK_7 : ∀ (S : m_M) (l2 : Int32) (H : Heap) (locs : List Loc) (ls : Array Slot), m_H G nx κ S H → m_S G s H locs → lv_has ls 5 [(0, .ref a), (1, .ref o1), (2, .int l2)] → K_7 S l2 = some res → W p l e rm_X6_tellFinite s m args below meth c H locs 0 0 (m_Qv below args s G nx κ res) (F0 m 7 ls [])) : ∀ (S : m_M) (l2 : Int32) (l3 : Int32) (t0 : Int32) (H : Heap) (locs : List Loc) (ls : Array Slot), m_H G nx κ S H → m_S G s H locs → lv_has ls 5 [(0, .ref a), (1, .ref o1), (2, .int l2), (3, .int l3)] → b_X6_tellFinite_64 a o1 K_7 S l2 l3 t0 = some res → W p l e rm_X6_tellFinite s m args below meth c H locs 0 0 (m_Qv below args s G nx κ res) (F0 m 64 ls [.int t0]) := by
  have hx := X.1.1
  have hb := X.1.2.1
  intro S l2 l3 t0 H locs ls hH hS hl hm
  rw [b_X6_tellFinite_64] at hm
  refine lv_istore (lv' := [(4, .int t0), (0, .ref a), (1, .ref o1), (2, .int l2), (3, .int l3)]) hx hb dX6_tellFinite_64 hl (by decide) rfl (fun ls hl => ?_)
  refine lv_iload_n hx hb dX6_tellFinite_66 rfl (lv_at hl 4 rfl) ?_
  refine lv_if_ne (tgt := 103) hx hb dX6_tellFinite_67 (by decide) (fun c1 => ?_) (fun c1 => ?_)
  · have hm := m_ite_f hm c1
    exact k_X6_tellFinite_103 (a := a) (o1 := o1) X hr hT hk_a hk_o1 K_7 hK_7  S l2 _ _ _ hH hS (lv_sub hl [1, 2, 3] rfl) hm
  · have hm := m_ite_t hm c1
    refine lv_iload hx hb dX6_tellFinite_70 (lv_at hl 0 rfl) ?_
    refine lv_if_eq (tgt := 103) hx hb dX6_tellFinite_72 (by decide) (fun c2 => ?_) (fun c2 => ?_)
    · have hm := m_ite_t hm c2
      exact k_X6_tellFinite_103 (a := a) (o1 := o1) X hr hT hk_a hk_o1 K_7 hK_7  S l2 _ _ _ hH hS (lv_sub hl [1, 2, 3] rfl) hm
    · have hm := m_ite_f hm c2
      refine lv_aload_n hx hb dX6_tellFinite_75 rfl (lv_at hl 1 rfl) ?_
      refine r_getp X hH (k := 6) (a := a) (j := 8) (b := (a + 7)) (A := 7) (B := 0) hk_a (by decide) rfl m_wi6 (by decide) in_1_196 rfl rfl rfl dX6_tellFinite_76 ?_
      refine lv_iload_n hx hb dX6_tellFinite_79 rfl (lv_at hl 3 rfl) ?_
      obtain ⟨v3, h_v3, e_v3, hm⟩ := n_ldi hm
      refine n_iald X hH (n := 24) (m_lay_at hT hk_a (by decide) (i := 7) rfl) h_v3 e_v3 dX6_tellFinite_80 ?_
      refine lv_aload_n hx hb dX6_tellFinite_81 rfl (lv_at hl 1 rfl) ?_
      refine r_getp X hH (k := 6) (a := a) (j := 7) (b := (a + 6)) (A := 6) (B := 0) hk_a (by decide) rfl m_wi6 (by decide) in_1_193 rfl rfl rfl dX6_tellFinite_82 ?_
      refine lv_iload_n hx hb dX6_tellFinite_85 rfl (lv_at hl 3 rfl) ?_
      obtain ⟨v4, h_v4, e_v4, hm⟩ := n_ldi hm
      refine n_iald X hH (n := 24) (m_lay_at hT hk_a (by decide) (i := 6) rfl) h_v4 e_v4 dX6_tellFinite_86 ?_
      refine lv_iand hx hb dX6_tellFinite_87 ?_
      refine lv_if_eq (tgt := 103) hx hb dX6_tellFinite_88 (by decide) (fun c5 => ?_) (fun c5 => ?_)
      · have hm := m_ite_t hm c5
        exact k_X6_tellFinite_103 (a := a) (o1 := o1) X hr hT hk_a hk_o1 K_7 hK_7  S l2 _ _ _ hH hS (lv_sub hl [1, 2, 3] rfl) hm
      · have hm := m_ite_f hm c5
        refine lv_aload_n hx hb dX6_tellFinite_91 rfl (lv_at hl 1 rfl) ?_
        refine lv_dup hx hb dX6_tellFinite_92 rfl ?_
        refine r_geti X hH (k := 6) (a := a) (j := 1) hk_a (by decide) rfl m_wi6 (by decide) in_1_181 rfl rfl dX6_tellFinite_93 ?_
        refine lv_iconst (v := (1 : Int32)) hx hb dX6_tellFinite_96 (by decide) ?_
        refine lv_iload_n hx hb dX6_tellFinite_97 rfl (lv_at hl 3 rfl) ?_
        refine lv_ishl hx hb dX6_tellFinite_98 ?_
        refine lv_ior hx hb dX6_tellFinite_99 ?_
        obtain ⟨S6, e_S6, hm⟩ := m_let_of hm
        refine n_puti X hH hS tyX6 (k := 6) (a := a) (j := 1) hk_a (by decide) rfl m_wi6 tyX6_ok nmX6 (by decide) in_1_181 rfl rfl rfl ⟨rfl, rfl⟩ e_S6 dX6_tellFinite_100 (fun H locs hH hS => ?_)
        exact k_X6_tellFinite_103 (a := a) (o1 := o1) X hr hT hk_a hk_o1 K_7 hK_7  S6 l2 _ _ _ hH hS (lv_sub hl [1, 2, 3] rfl) hm
def b_X6_tellFinite_45 (a o1 : Nat) (K_7 : m_M → Int32 → Option m_M) (S : m_M) (l2 : Int32) (t0 : Int32) : Option m_M :=
    (m_ldi S (a + 7) 24 l2).bind fun v1 =>
    m_call (f_J6_bitCount_0f7a4 S v1) fun v3 S2 =>
    if v3 = (1 : Int32) then (
    b_X6_tellFinite_64 a o1 K_7 S2 l2 t0 (1 : Int32)) else (
    b_X6_tellFinite_64 a o1 K_7 S2 l2 t0 (0 : Int32))
set_option maxHeartbeats 4000000 in
set_option maxRecDepth 100000 in
theorem k_X6_tellFinite_45 {p : Program} {l : Launch} {e : Env} {s : State} {m : MethodId} {args : Array Value} {below : List Frame} {meth : Method} {c : Code} {G : m_G} {nx : Nat} {κ : Nat → Nat} {res : m_M} {a o1 : Nat} (X : m_Cx p s m args meth c cX6_tellFinite 5 RX6 G) (hr : meth.sig.returnType = none) (hT : m_Str κ) (hk_a : κ a = 7) (hk_o1 : κ o1 = 4) (K_7 : m_M → Int32 → Option m_M) (hK_7 : ∀ (S : m_M) (l2 : Int32) (H : Heap) (locs : List Loc) (ls : Array Slot), m_H G nx κ S H → m_S G s H locs → lv_has ls 5 [(0, .ref a), (1, .ref o1), (2, .int l2)] → K_7 S l2 = some res → W p l e rm_X6_tellFinite s m args below meth c H locs 0 0 (m_Qv below args s G nx κ res) (F0 m 7 ls [])) : ∀ (S : m_M) (l2 : Int32) (t0 : Int32) (H : Heap) (locs : List Loc) (ls : Array Slot), m_H G nx κ S H → m_S G s H locs → lv_has ls 5 [(0, .ref a), (1, .ref o1), (2, .int l2)] → b_X6_tellFinite_45 a o1 K_7 S l2 t0 = some res → W p l e rm_X6_tellFinite s m args below meth c H locs 0 0 (m_Qv below args s G nx κ res) (F0 m 45 ls [.int t0]) := by
  have hx := X.1.1
  have hb := X.1.2.1
  intro S l2 t0 H locs ls hH hS hl hm
  rw [b_X6_tellFinite_45] at hm
  refine lv_istore_n (lv' := [(3, .int t0), (0, .ref a), (1, .ref o1), (2, .int l2)]) hx hb dX6_tellFinite_45 rfl hl (by decide) rfl (fun ls hl => ?_)
  refine lv_aload_n hx hb dX6_tellFinite_46 rfl (lv_at hl 1 rfl) ?_
  refine r_getp X hH (k := 6) (a := a) (j := 8) (b := (a + 7)) (A := 7) (B := 0) hk_a (by decide) rfl m_wi6 (by decide) in_1_196 rfl rfl rfl dX6_tellFinite_47 ?_
  refine lv_iload_n hx hb dX6_tellFinite_50 rfl (lv_at hl 3 rfl) ?_
  obtain ⟨v1, h_v1, e_v1, hm⟩ := n_ldi hm
  refine n_iald X hH (n := 24) (m_lay_at hT hk_a (by decide) (i := 7) rfl) h_v1 e_v1 dX6_tellFinite_51 ?_
  obtain ⟨v3, S2, e_S2, hm⟩ := m_call_of hm
  refine n_cSi X hH hS (c_J6_bitCount_0f7a4  hT  e_S2) mw_J6_bitCount_0f7a4 in_4_134 rfl ⟨rfl, rfl⟩ ⟨by decide, by decide⟩ ⟨Nat.zero_le _, Nat.zero_le _⟩ hl.1 (Nat.le_of_ble_eq_true rfl) dX6_tellFinite_52 (fun H locs hH hS => ?_)
  refine lv_iconst (v := (1 : Int32)) hx hb dX6_tellFinite_55 (by decide) ?_
  refine lv_icmp_ne (tgt := 63) hx hb dX6_tellFinite_56 (by decide) (fun c4 => ?_) (fun c4 => ?_)
  · have hm := m_ite_f hm c4
    refine lv_iconst (v := (0 : Int32)) hx hb dX6_tellFinite_63 (by decide) ?_
    exact k_X6_tellFinite_64 (a := a) (o1 := o1) X hr hT hk_a hk_o1 K_7 hK_7  S2 l2 t0 (0 : Int32) _ _ _ hH hS (lv_sub hl [1, 2, 3, 0] rfl) hm
  · have hm := m_ite_t hm c4
    refine lv_iconst (v := (1 : Int32)) hx hb dX6_tellFinite_59 (by decide) ?_
    refine lv_goto (tgt := 64) hx hb dX6_tellFinite_60 (by decide) ?_
    exact k_X6_tellFinite_64 (a := a) (o1 := o1) X hr hT hk_a hk_o1 K_7 hK_7  S2 l2 t0 (1 : Int32) _ _ _ hH hS (lv_sub hl [1, 2, 3, 0] rfl) hm
def b_X6_tellFinite_44 (a o1 : Nat) (K_7 : m_M → Int32 → Option m_M) (S : m_M) (l2 : Int32) : Option m_M :=
    b_X6_tellFinite_45 a o1 K_7 S l2 (0 : Int32)
set_option maxHeartbeats 4000000 in
set_option maxRecDepth 100000 in
theorem k_X6_tellFinite_44 {p : Program} {l : Launch} {e : Env} {s : State} {m : MethodId} {args : Array Value} {below : List Frame} {meth : Method} {c : Code} {G : m_G} {nx : Nat} {κ : Nat → Nat} {res : m_M} {a o1 : Nat} (X : m_Cx p s m args meth c cX6_tellFinite 5 RX6 G) (hr : meth.sig.returnType = none) (hT : m_Str κ) (hk_a : κ a = 7) (hk_o1 : κ o1 = 4) (K_7 : m_M → Int32 → Option m_M) (hK_7 : ∀ (S : m_M) (l2 : Int32) (H : Heap) (locs : List Loc) (ls : Array Slot), m_H G nx κ S H → m_S G s H locs → lv_has ls 5 [(0, .ref a), (1, .ref o1), (2, .int l2)] → K_7 S l2 = some res → W p l e rm_X6_tellFinite s m args below meth c H locs 0 0 (m_Qv below args s G nx κ res) (F0 m 7 ls [])) : ∀ (S : m_M) (l2 : Int32) (H : Heap) (locs : List Loc) (ls : Array Slot), m_H G nx κ S H → m_S G s H locs → lv_has ls 5 [(0, .ref a), (1, .ref o1), (2, .int l2)] → b_X6_tellFinite_44 a o1 K_7 S l2 = some res → W p l e rm_X6_tellFinite s m args below meth c H locs 0 0 (m_Qv below args s G nx κ res) (F0 m 44 ls []) := by
  have hx := X.1.1
  have hb := X.1.2.1
  intro S l2 H locs ls hH hS hl hm
  rw [b_X6_tellFinite_44] at hm
  refine lv_iconst (v := (0 : Int32)) hx hb dX6_tellFinite_44 (by decide) ?_
  exact k_X6_tellFinite_45 (a := a) (o1 := o1) X hr hT hk_a hk_o1 K_7 hK_7  S l2 (0 : Int32) _ _ _ hH hS hl hm
def b_X6_tellFinite_7 (a o1 : Nat)  : Nat → m_M → Int32 → Option m_M
  | 0, _, _ => none
  | n + 1, S, l2 =>
    if (m_ri S a 0) ≤ l2 then (
    some S) else (
    if (m_ri S o1 0) ≤ 0 then (
    b_X6_tellFinite_44 a o1 (b_X6_tellFinite_7 a o1 n) S l2) else (
    (m_ldi S (a + 8) 5 ((m_ri S o1 0) - (1 : Int32))).bind fun v3 =>
    if ((v3 >>> (l2 &&& 31)) &&& (1 : Int32)) = 0 then (
    b_X6_tellFinite_44 a o1 (b_X6_tellFinite_7 a o1 n) S l2) else (
    b_X6_tellFinite_45 a o1 (b_X6_tellFinite_7 a o1 n) S l2 (1 : Int32))))
set_option maxHeartbeats 4000000 in
set_option maxRecDepth 100000 in
theorem k_X6_tellFinite_7 {p : Program} {l : Launch} {e : Env} {s : State} {m : MethodId} {args : Array Value} {below : List Frame} {meth : Method} {c : Code} {G : m_G} {nx : Nat} {κ : Nat → Nat} {res : m_M} {a o1 : Nat} (X : m_Cx p s m args meth c cX6_tellFinite 5 RX6 G) (hr : meth.sig.returnType = none) (hT : m_Str κ) (hk_a : κ a = 7) (hk_o1 : κ o1 = 4)  (n : Nat) : ∀ (S : m_M) (l2 : Int32) (H : Heap) (locs : List Loc) (ls : Array Slot), m_H G nx κ S H → m_S G s H locs → lv_has ls 5 [(0, .ref a), (1, .ref o1), (2, .int l2)] → b_X6_tellFinite_7 a o1 n S l2 = some res → W p l e rm_X6_tellFinite s m args below meth c H locs 0 0 (m_Qv below args s G nx κ res) (F0 m 7 ls []) := by
  have hx := X.1.1
  have hb := X.1.2.1
  induction n with
  | zero => intro S l2 H locs ls hH hS hl hm; have hm : (none : Option m_M) = some res := hm; cases hm
  | succ n ih =>
    intro S l2 H locs ls hH hS hl hm
    rw [b_X6_tellFinite_7] at hm
    refine lv_iload_n hx hb dX6_tellFinite_7 rfl (lv_at hl 2 rfl) ?_
    refine lv_aload_n hx hb dX6_tellFinite_8 rfl (lv_at hl 0 rfl) ?_
    refine r_geti X hH (k := 6) (a := a) (j := 0) hk_a (by decide) rfl m_wi6 (by decide) in_1_178 rfl rfl dX6_tellFinite_9 ?_
    refine lv_icmp_ge (tgt := 109) hx hb dX6_tellFinite_12 (by decide) (fun c1 => ?_) (fun c1 => ?_)
    · have hm := m_ite_t hm c1
      exact r_vret X hr hH hS hm dX6_tellFinite_109
    · have hm := m_ite_f hm c1
      refine lv_aload_n hx hb dX6_tellFinite_15 rfl (lv_at hl 1 rfl) ?_
      refine r_geti X hH (k := 3) (a := o1) (j := 0) hk_o1 (by decide) rfl m_wi3 (by decide) in_2_11 rfl rfl dX6_tellFinite_16 ?_
      refine lv_if_le (tgt := 44) hx hb dX6_tellFinite_19 (by decide) (fun c2 => ?_) (fun c2 => ?_)
      · have hm := m_ite_t hm c2
        exact k_X6_tellFinite_44 (a := a) (o1 := o1) X hr hT hk_a hk_o1 (b_X6_tellFinite_7 a o1 n) ih  S l2 _ _ _ hH hS hl hm
      · have hm := m_ite_f hm c2
        refine lv_aload_n hx hb dX6_tellFinite_22 rfl (lv_at hl 0 rfl) ?_
        refine r_getp X hH (k := 6) (a := a) (j := 9) (b := (a + 8)) (A := 8) (B := 0) hk_a (by decide) rfl m_wi6 (by decide) in_1_199 rfl rfl rfl dX6_tellFinite_23 ?_
        refine lv_aload_n hx hb dX6_tellFinite_26 rfl (lv_at hl 1 rfl) ?_
        refine r_geti X hH (k := 3) (a := o1) (j := 0) hk_o1 (by decide) rfl m_wi3 (by decide) in_2_11 rfl rfl dX6_tellFinite_27 ?_
        refine lv_iconst (v := (1 : Int32)) hx hb dX6_tellFinite_30 (by decide) ?_
        refine lv_isub hx hb dX6_tellFinite_31 ?_
        obtain ⟨v3, h_v3, e_v3, hm⟩ := n_ldi hm
        refine n_iald X hH (n := 5) (m_lay_at hT hk_a (by decide) (i := 8) rfl) h_v3 e_v3 dX6_tellFinite_32 ?_
        refine lv_iload_n hx hb dX6_tellFinite_33 rfl (lv_at hl 2 rfl) ?_
        refine lv_ishr hx hb dX6_tellFinite_34 ?_
        refine lv_iconst (v := (1 : Int32)) hx hb dX6_tellFinite_35 (by decide) ?_
        refine lv_iand hx hb dX6_tellFinite_36 ?_
        refine lv_if_eq (tgt := 44) hx hb dX6_tellFinite_37 (by decide) (fun c4 => ?_) (fun c4 => ?_)
        · have hm := m_ite_t hm c4
          exact k_X6_tellFinite_44 (a := a) (o1 := o1) X hr hT hk_a hk_o1 (b_X6_tellFinite_7 a o1 n) ih  S l2 _ _ _ hH hS hl hm
        · have hm := m_ite_f hm c4
          refine lv_iconst (v := (1 : Int32)) hx hb dX6_tellFinite_40 (by decide) ?_
          refine lv_goto (tgt := 45) hx hb dX6_tellFinite_41 (by decide) ?_
          exact k_X6_tellFinite_45 (a := a) (o1 := o1) X hr hT hk_a hk_o1 (b_X6_tellFinite_7 a o1 n) ih  S l2 (1 : Int32) _ _ _ hH hS hl hm
def f_X6_tellFinite (a o1 : Nat) (S : m_M)  : Option m_M :=
    m_let (m_si S a 1 (0 : Int32)) fun S1 =>
    b_X6_tellFinite_7 a o1 m_fu S1 (0 : Int32)
set_option maxHeartbeats 4000000 in
set_option maxRecDepth 100000 in
theorem c_X6_tellFinite {l : Launch} {G : m_G} {nx : Nat} {κ : Nat → Nat} {a o1 : Nat} {S : m_M}  {res : m_M} (hT : m_Str κ) (hk_a : κ a = 7) (hk_o1 : κ o1 = 4) (hm : f_X6_tellFinite a o1 S = some res) : m_Cv l yX6_tellFinite cX6_tellFinite 5 rm_X6_tellFinite G nx κ [.ref a, .ref o1] S res := by
  refine m_Cv.of (by decide) (Nat.le_of_ble_eq_true rfl) ?_
  intro p e s m args below meth c ls X hr hH hl
  have hx := X.1.1
  have hb := X.1.2.1
  have hS : m_S G s s.heap [] := va_S.rf
  have hl : lv_has ls 5 [(0, .ref a), (1, .ref o1)] := hl
  rw [f_X6_tellFinite] at hm
  refine lv_aload_n hx hb dX6_tellFinite_0 rfl (lv_at hl 0 rfl) ?_
  refine lv_iconst (v := (0 : Int32)) hx hb dX6_tellFinite_1 (by decide) ?_
  obtain ⟨S1, e_S1, hm⟩ := m_let_of hm
  refine n_puti X hH hS tyX6 (k := 6) (a := a) (j := 1) hk_a (by decide) rfl m_wi6 tyX6_ok nmX6 (by decide) in_1_181 rfl rfl rfl ⟨rfl, rfl⟩ e_S1 dX6_tellFinite_2 (fun H locs hH hS => ?_)
  refine lv_iconst (v := (0 : Int32)) hx hb dX6_tellFinite_5 (by decide) ?_
  refine lv_istore_n (lv' := [(2, .int (0 : Int32)), (0, .ref a), (1, .ref o1)]) hx hb dX6_tellFinite_6 rfl hl (by decide) rfl (fun ls hl => ?_)
  exact k_X6_tellFinite_7 (a := a) (o1 := o1) X hr hT hk_a hk_o1  m_fu S1 (0 : Int32) _ _ _ hH hS (lv_sub hl [1, 2, 0] rfl) hm
def rm_X6_derive : Room := { frames := 4, cells := 0, slots := 0, locals := 93 }
def b_X6_derive_96 (a o1 : Nat) (K_38 : m_M → Int32 → Option m_M) (K_60 : m_M → Int32 → Int32 → Option m_M) (S : m_M) (l2 : Int32) (l3 : Int32) : Option m_M :=
    m_let (l3 + (1 : Int32)) fun v1 =>
    K_60 S l2 v1
set_option maxHeartbeats 4000000 in
set_option maxRecDepth 100000 in
theorem k_X6_derive_96 {p : Program} {l : Launch} {e : Env} {s : State} {m : MethodId} {args : Array Value} {below : List Frame} {meth : Method} {c : Code} {G : m_G} {nx : Nat} {κ : Nat → Nat} {res : m_M} {a o1 : Nat} (X : m_Cx p s m args meth c cX6_derive 4 RX6 G) (hr : meth.sig.returnType = none) (hT : m_Str κ) (hk_a : κ a = 7) (hk_o1 : κ o1 = 4) (K_38 : m_M → Int32 → Option m_M) (hK_38 : ∀ (S : m_M) (l2 : Int32) (H : Heap) (locs : List Loc) (ls : Array Slot), m_H G nx κ S H → m_S G s H locs → lv_has ls 4 [(0, .ref a), (1, .ref o1), (2, .int l2)] → K_38 S l2 = some res → W p l e rm_X6_derive s m args below meth c H locs 0 0 (m_Qv below args s G nx κ res) (F0 m 38 ls [])) (K_60 : m_M → Int32 → Int32 → Option m_M) (hK_60 : ∀ (S : m_M) (l2 : Int32) (l3 : Int32) (H : Heap) (locs : List Loc) (ls : Array Slot), m_H G nx κ S H → m_S G s H locs → lv_has ls 4 [(0, .ref a), (1, .ref o1), (2, .int l2), (3, .int l3)] → K_60 S l2 l3 = some res → W p l e rm_X6_derive s m args below meth c H locs 0 0 (m_Qv below args s G nx κ res) (F0 m 60 ls [])) : ∀ (S : m_M) (l2 : Int32) (l3 : Int32) (H : Heap) (locs : List Loc) (ls : Array Slot), m_H G nx κ S H → m_S G s H locs → lv_has ls 4 [(0, .ref a), (1, .ref o1), (2, .int l2), (3, .int l3)] → b_X6_derive_96 a o1 K_38 K_60 S l2 l3 = some res → W p l e rm_X6_derive s m args below meth c H locs 0 0 (m_Qv below args s G nx κ res) (F0 m 96 ls []) := by
  have hx := X.1.1
  have hb := X.1.2.1
  intro S l2 l3 H locs ls hH hS hl hm
  rw [b_X6_derive_96] at hm
  obtain ⟨v1, e_v1, hm⟩ := m_let_of hm
  refine lv_iinc (v := v1) (lv' := [(3, .int v1), (0, .ref a), (1, .ref o1), (2, .int l2)]) hx hb dX6_derive_96 hl (k := 3) rfl (by rw [← e_v1]; rfl) (by decide) rfl (fun ls hl => ?_)
  refine lv_goto (tgt := 60) hx hb dX6_derive_99 (by decide) ?_
  exact hK_60 S l2 v1 _ _ _ hH hS (lv_sub hl [1, 2, 3, 0] rfl) hm
def b_X6_derive_60 (a o1 : Nat) (K_38 : m_M → Int32 → Option m_M) : Nat → m_M → Int32 → Int32 → Option m_M
  | 0, _, _, _ => none
  | n + 1, S, l2, l3 =>
    if (m_ri S a 0) ≤ l3 then (
    m_let (l2 + (1 : Int32)) fun v2 =>
    K_38 S v2) else (
    m_call (f_X6_isOwned a S l2 l3) fun v4 S3 =>
    if v4 = 0 then (
    b_X6_derive_96 a o1 K_38 (b_X6_derive_60 a o1 K_38 n) S3 l2 l3) else (
    (m_ldi S3 (a + 6) 24 l3).bind fun v6 =>
    (m_sti S3 (a + 6) 24 l3 (v6 ||| ((1 : Int32) <<< (l2 &&& 31)))).bind fun S7 =>
    m_cal0 (f_X6_tellSpan a o1 S7 l2 l3) fun S8 =>
    b_X6_derive_96 a o1 K_38 (b_X6_derive_60 a o1 K_38 n) S8 l2 l3))
set_option maxHeartbeats 4000000 in
set_option maxRecDepth 100000 in
theorem k_X6_derive_60 {p : Program} {l : Launch} {e : Env} {s : State} {m : MethodId} {args : Array Value} {below : List Frame} {meth : Method} {c : Code} {G : m_G} {nx : Nat} {κ : Nat → Nat} {res : m_M} {a o1 : Nat} (X : m_Cx p s m args meth c cX6_derive 4 RX6 G) (hr : meth.sig.returnType = none) (hT : m_Str κ) (hk_a : κ a = 7) (hk_o1 : κ o1 = 4) (K_38 : m_M → Int32 → Option m_M) (hK_38 : ∀ (S : m_M) (l2 : Int32) (H : Heap) (locs : List Loc) (ls : Array Slot), m_H G nx κ S H → m_S G s H locs → lv_has ls 4 [(0, .ref a), (1, .ref o1), (2, .int l2)] → K_38 S l2 = some res → W p l e rm_X6_derive s m args below meth c H locs 0 0 (m_Qv below args s G nx κ res) (F0 m 38 ls [])) (n : Nat) : ∀ (S : m_M) (l2 : Int32) (l3 : Int32) (H : Heap) (locs : List Loc) (ls : Array Slot), m_H G nx κ S H → m_S G s H locs → lv_has ls 4 [(0, .ref a), (1, .ref o1), (2, .int l2), (3, .int l3)] → b_X6_derive_60 a o1 K_38 n S l2 l3 = some res → W p l e rm_X6_derive s m args below meth c H locs 0 0 (m_Qv below args s G nx κ res) (F0 m 60 ls []) := by
  have hx := X.1.1
  have hb := X.1.2.1
  induction n with
  | zero => intro S l2 l3 H locs ls hH hS hl hm; have hm : (none : Option m_M) = some res := hm; cases hm
  | succ n ih =>
    intro S l2 l3 H locs ls hH hS hl hm
    rw [b_X6_derive_60] at hm
    refine lv_iload_n hx hb dX6_derive_60 rfl (lv_at hl 3 rfl) ?_
    refine lv_aload_n hx hb dX6_derive_61 rfl (lv_at hl 0 rfl) ?_
    refine r_geti X hH (k := 6) (a := a) (j := 0) hk_a (by decide) rfl m_wi6 (by decide) in_1_178 rfl rfl dX6_derive_62 ?_
    refine lv_icmp_ge (tgt := 102) hx hb dX6_derive_65 (by decide) (fun c1 => ?_) (fun c1 => ?_)
    · have hm := m_ite_t hm c1
      obtain ⟨v2, e_v2, hm⟩ := m_let_of hm
      refine lv_iinc (v := v2) (lv' := [(2, .int v2), (0, .ref a), (1, .ref o1), (3, .int l3)]) hx hb dX6_derive_102 hl (k := 2) rfl (by rw [← e_v2]; rfl) (by decide) rfl (fun ls hl => ?_)
      refine lv_goto (tgt := 38) hx hb dX6_derive_105 (by decide) ?_
      exact hK_38 S v2 _ _ _ hH hS (lv_sub hl [1, 2, 0] rfl) hm
    · have hm := m_ite_f hm c1
      refine lv_aload_n hx hb dX6_derive_68 rfl (lv_at hl 0 rfl) ?_
      refine lv_iload_n hx hb dX6_derive_69 rfl (lv_at hl 2 rfl) ?_
      refine lv_iload_n hx hb dX6_derive_70 rfl (lv_at hl 3 rfl) ?_
      obtain ⟨v4, S3, e_S3, hm⟩ := m_call_of hm
      refine n_cVi X hH hS (k := 6) (c_X6_isOwned (a := a) hT hk_a e_S3) mw_X6_isOwned in_4_109 hk_a (by decide) rfl rfl rfl ⟨rfl, rfl⟩ ⟨by decide, by decide⟩ ⟨Nat.zero_le _, Nat.zero_le _⟩ hl.1 (Nat.le_of_ble_eq_true rfl) dX6_derive_71 (fun H locs hH hS => ?_)
      refine lv_if_eq (tgt := 96) hx hb dX6_derive_74 (by decide) (fun c5 => ?_) (fun c5 => ?_)
      · have hm := m_ite_t hm c5
        exact k_X6_derive_96 (a := a) (o1 := o1) X hr hT hk_a hk_o1 K_38 hK_38 (b_X6_derive_60 a o1 K_38 n) ih  S3 l2 l3 _ _ _ hH hS hl hm
      · have hm := m_ite_f hm c5
        refine lv_aload_n hx hb dX6_derive_77 rfl (lv_at hl 0 rfl) ?_
        refine r_getp X hH (k := 6) (a := a) (j := 7) (b := (a + 6)) (A := 6) (B := 0) hk_a (by decide) rfl m_wi6 (by decide) in_1_193 rfl rfl rfl dX6_derive_78 ?_
        refine lv_iload_n hx hb dX6_derive_81 rfl (lv_at hl 3 rfl) ?_
        refine lv_dup2_11 hx hb dX6_derive_82 rfl rfl ?_
        obtain ⟨v6, h_v6, e_v6, hm⟩ := n_ldi hm
        refine n_iald X hH (n := 24) (m_lay_at hT hk_a (by decide) (i := 6) rfl) h_v6 e_v6 dX6_derive_83 ?_
        refine lv_iconst (v := (1 : Int32)) hx hb dX6_derive_84 (by decide) ?_
        refine lv_iload_n hx hb dX6_derive_85 rfl (lv_at hl 2 rfl) ?_
        refine lv_ishl hx hb dX6_derive_86 ?_
        refine lv_ior hx hb dX6_derive_87 ?_
        obtain ⟨S7, h_S7, e_S7, hm⟩ := n_sti hm
        refine n_iast X hH hS (n := 24) (m_lay_at hT hk_a (by decide) (i := 6) rfl) h_S7 e_S7 dX6_derive_88 (fun H locs hH hS => ?_)
        refine lv_aload_n hx hb dX6_derive_89 rfl (lv_at hl 0 rfl) ?_
        refine lv_aload_n hx hb dX6_derive_90 rfl (lv_at hl 1 rfl) ?_
        refine lv_iload_n hx hb dX6_derive_91 rfl (lv_at hl 2 rfl) ?_
        refine lv_iload_n hx hb dX6_derive_92 rfl (lv_at hl 3 rfl) ?_
        obtain ⟨S8, e_S8, hm⟩ := m_cal0_of hm
        refine r_cVv X hH hS (k := 6) (c_X6_tellSpan (a := a) (o1 := o1) hT hk_a hk_o1 e_S8) mw_X6_tellSpan in_4_113 hk_a (by decide) rfl rfl rfl ⟨rfl, rfl⟩ ⟨by decide, by decide⟩ ⟨Nat.zero_le _, Nat.zero_le _⟩ hl.1 (Nat.le_of_ble_eq_true rfl) dX6_derive_93 (fun H locs hH hS => ?_)
        exact k_X6_derive_96 (a := a) (o1 := o1) X hr hT hk_a hk_o1 K_38 hK_38 (b_X6_derive_60 a o1 K_38 n) ih  S8 l2 l3 _ _ _ hH hS hl hm
def b_X6_derive_38 (a o1 : Nat)  : Nat → m_M → Int32 → Option m_M
  | 0, _, _ => none
  | n + 1, S, l2 =>
    if (m_ri S o1 0) ≤ l2 then (
    m_cal0 (f_X6_tellFinite a o1 S) fun S2 =>
    some S2) else (
    m_cal0 (f_X6_tellOwner a o1 S l2) fun S3 =>
    m_cal0 (f_X6_tellFilled a o1 S3 l2) fun S4 =>
    b_X6_derive_60 a o1 (b_X6_derive_38 a o1 n) m_fu S4 l2 (0 : Int32))
set_option maxHeartbeats 4000000 in
set_option maxRecDepth 100000 in
theorem k_X6_derive_38 {p : Program} {l : Launch} {e : Env} {s : State} {m : MethodId} {args : Array Value} {below : List Frame} {meth : Method} {c : Code} {G : m_G} {nx : Nat} {κ : Nat → Nat} {res : m_M} {a o1 : Nat} (X : m_Cx p s m args meth c cX6_derive 4 RX6 G) (hr : meth.sig.returnType = none) (hT : m_Str κ) (hk_a : κ a = 7) (hk_o1 : κ o1 = 4)  (n : Nat) : ∀ (S : m_M) (l2 : Int32) (H : Heap) (locs : List Loc) (ls : Array Slot), m_H G nx κ S H → m_S G s H locs → lv_has ls 4 [(0, .ref a), (1, .ref o1), (2, .int l2)] → b_X6_derive_38 a o1 n S l2 = some res → W p l e rm_X6_derive s m args below meth c H locs 0 0 (m_Qv below args s G nx κ res) (F0 m 38 ls []) := by
  have hx := X.1.1
  have hb := X.1.2.1
  induction n with
  | zero => intro S l2 H locs ls hH hS hl hm; have hm : (none : Option m_M) = some res := hm; cases hm
  | succ n ih =>
    intro S l2 H locs ls hH hS hl hm
    rw [b_X6_derive_38] at hm
    refine lv_iload_n hx hb dX6_derive_38 rfl (lv_at hl 2 rfl) ?_
    refine lv_aload_n hx hb dX6_derive_39 rfl (lv_at hl 1 rfl) ?_
    refine r_geti X hH (k := 3) (a := o1) (j := 0) hk_o1 (by decide) rfl m_wi3 (by decide) in_2_11 rfl rfl dX6_derive_40 ?_
    refine lv_icmp_ge (tgt := 108) hx hb dX6_derive_43 (by decide) (fun c1 => ?_) (fun c1 => ?_)
    · have hm := m_ite_t hm c1
      refine lv_aload_n hx hb dX6_derive_108 rfl (lv_at hl 0 rfl) ?_
      refine lv_aload_n hx hb dX6_derive_109 rfl (lv_at hl 1 rfl) ?_
      obtain ⟨S2, e_S2, hm⟩ := m_cal0_of hm
      refine r_cVv X hH hS (k := 6) (c_X6_tellFinite (a := a) (o1 := o1) hT hk_a hk_o1 e_S2) mw_X6_tellFinite in_4_130 hk_a (by decide) rfl rfl rfl ⟨rfl, rfl⟩ ⟨by decide, by decide⟩ ⟨Nat.zero_le _, Nat.zero_le _⟩ hl.1 (Nat.le_of_ble_eq_true rfl) dX6_derive_110 (fun H locs hH hS => ?_)
      exact r_vret X hr hH hS hm dX6_derive_113
    · have hm := m_ite_f hm c1
      refine lv_aload_n hx hb dX6_derive_46 rfl (lv_at hl 0 rfl) ?_
      refine lv_aload_n hx hb dX6_derive_47 rfl (lv_at hl 1 rfl) ?_
      refine lv_iload_n hx hb dX6_derive_48 rfl (lv_at hl 2 rfl) ?_
      obtain ⟨S3, e_S3, hm⟩ := m_cal0_of hm
      refine r_cVv X hH hS (k := 6) (c_X6_tellOwner (a := a) (o1 := o1) hT hk_a hk_o1 e_S3) mw_X6_tellOwner in_4_94 hk_a (by decide) rfl rfl rfl ⟨rfl, rfl⟩ ⟨by decide, by decide⟩ ⟨Nat.zero_le _, Nat.zero_le _⟩ hl.1 (Nat.le_of_ble_eq_true rfl) dX6_derive_49 (fun H locs hH hS => ?_)
      refine lv_aload_n hx hb dX6_derive_52 rfl (lv_at hl 0 rfl) ?_
      refine lv_aload_n hx hb dX6_derive_53 rfl (lv_at hl 1 rfl) ?_
      refine lv_iload_n hx hb dX6_derive_54 rfl (lv_at hl 2 rfl) ?_
      obtain ⟨S4, e_S4, hm⟩ := m_cal0_of hm
      refine r_cVv X hH hS (k := 6) (c_X6_tellFilled (a := a) (o1 := o1) hT hk_a hk_o1 e_S4) mw_X6_tellFilled in_4_104 hk_a (by decide) rfl rfl rfl ⟨rfl, rfl⟩ ⟨by decide, by decide⟩ ⟨Nat.zero_le _, Nat.zero_le _⟩ hl.1 (Nat.le_of_ble_eq_true rfl) dX6_derive_55 (fun H locs hH hS => ?_)
      refine lv_iconst (v := (0 : Int32)) hx hb dX6_derive_58 (by decide) ?_
      refine lv_istore_n (lv' := [(3, .int (0 : Int32)), (0, .ref a), (1, .ref o1), (2, .int l2)]) hx hb dX6_derive_59 rfl hl (by decide) rfl (fun ls hl => ?_)
      exact k_X6_derive_60 (a := a) (o1 := o1) X hr hT hk_a hk_o1 (b_X6_derive_38 a o1 n) ih m_fu S4 l2 (0 : Int32) _ _ _ hH hS (lv_sub hl [1, 2, 3, 0] rfl) hm
def f_X6_derive (a o1 : Nat) (S : m_M)  : Option m_M :=
    m_cal0 (f_X6_closeReach a S) fun S1 =>
    m_cal0 (f_J7_fill_53178 (a + 6) 24 S1 (0 : Int32)) fun S2 =>
    m_cal0 (f_J7_fill_53178 (a + 7) 24 S2 (0 : Int32)) fun S3 =>
    m_cal0 (f_J7_fill_53178 (a + 12) 24 S3 (0 : Int32)) fun S4 =>
    m_cal0 (f_J7_fill_53178 (a + 13) 24 S4 (0 : Int32)) fun S5 =>
    b_X6_derive_38 a o1 m_fu S5 (0 : Int32)
set_option maxHeartbeats 4000000 in
set_option maxRecDepth 100000 in
theorem c_X6_derive {l : Launch} {G : m_G} {nx : Nat} {κ : Nat → Nat} {a o1 : Nat} {S : m_M}  {res : m_M} (hT : m_Str κ) (hk_a : κ a = 7) (hk_o1 : κ o1 = 4) (hm : f_X6_derive a o1 S = some res) : m_Cv l yX6_derive cX6_derive 4 rm_X6_derive G nx κ [.ref a, .ref o1] S res := by
  refine m_Cv.of (by decide) (Nat.le_of_ble_eq_true rfl) ?_
  intro p e s m args below meth c ls X hr hH hl
  have hx := X.1.1
  have hb := X.1.2.1
  have hS : m_S G s s.heap [] := va_S.rf
  have hl : lv_has ls 4 [(0, .ref a), (1, .ref o1)] := hl
  rw [f_X6_derive] at hm
  refine lv_aload_n hx hb dX6_derive_0 rfl (lv_at hl 0 rfl) ?_
  obtain ⟨S1, e_S1, hm⟩ := m_cal0_of hm
  refine r_cVv X hH hS (k := 6) (c_X6_closeReach (a := a) hT hk_a e_S1) mw_X6_closeReach in_4_81 hk_a (by decide) rfl rfl rfl ⟨rfl, rfl⟩ ⟨by decide, by decide⟩ ⟨Nat.zero_le _, Nat.zero_le _⟩ hl.1 (Nat.le_of_ble_eq_true rfl) dX6_derive_1 (fun H locs hH hS => ?_)
  refine lv_aload_n hx hb dX6_derive_4 rfl (lv_at hl 0 rfl) ?_
  refine r_getp X hH (k := 6) (a := a) (j := 7) (b := (a + 6)) (A := 6) (B := 0) hk_a (by decide) rfl m_wi6 (by decide) in_1_193 rfl rfl rfl dX6_derive_5 ?_
  refine lv_iconst (v := (0 : Int32)) hx hb dX6_derive_8 (by decide) ?_
  obtain ⟨S2, e_S2, hm⟩ := m_cal0_of hm
  refine r_cSv X hH hS (c_J7_fill_53178 (o0 := (a + 6)) (n0 := 24) hT (m_lay_at hT hk_a (by decide) (i := 6) rfl) e_S2) mw_J7_fill_53178 in_4_93 rfl ⟨rfl, rfl⟩ ⟨by decide, by decide⟩ ⟨Nat.zero_le _, Nat.zero_le _⟩ hl.1 (Nat.le_of_ble_eq_true rfl) dX6_derive_9 (fun H locs hH hS => ?_)
  refine lv_aload_n hx hb dX6_derive_12 rfl (lv_at hl 0 rfl) ?_
  refine r_getp X hH (k := 6) (a := a) (j := 8) (b := (a + 7)) (A := 7) (B := 0) hk_a (by decide) rfl m_wi6 (by decide) in_1_196 rfl rfl rfl dX6_derive_13 ?_
  refine lv_iconst (v := (0 : Int32)) hx hb dX6_derive_16 (by decide) ?_
  obtain ⟨S3, e_S3, hm⟩ := m_cal0_of hm
  refine r_cSv X hH hS (c_J7_fill_53178 (o0 := (a + 7)) (n0 := 24) hT (m_lay_at hT hk_a (by decide) (i := 7) rfl) e_S3) mw_J7_fill_53178 in_4_93 rfl ⟨rfl, rfl⟩ ⟨by decide, by decide⟩ ⟨Nat.zero_le _, Nat.zero_le _⟩ hl.1 (Nat.le_of_ble_eq_true rfl) dX6_derive_17 (fun H locs hH hS => ?_)
  refine lv_aload_n hx hb dX6_derive_20 rfl (lv_at hl 0 rfl) ?_
  refine r_getp X hH (k := 6) (a := a) (j := 13) (b := (a + 12)) (A := 12) (B := 0) hk_a (by decide) rfl m_wi6 (by decide) in_1_209 rfl rfl rfl dX6_derive_21 ?_
  refine lv_iconst (v := (0 : Int32)) hx hb dX6_derive_24 (by decide) ?_
  obtain ⟨S4, e_S4, hm⟩ := m_cal0_of hm
  refine r_cSv X hH hS (c_J7_fill_53178 (o0 := (a + 12)) (n0 := 24) hT (m_lay_at hT hk_a (by decide) (i := 12) rfl) e_S4) mw_J7_fill_53178 in_4_93 rfl ⟨rfl, rfl⟩ ⟨by decide, by decide⟩ ⟨Nat.zero_le _, Nat.zero_le _⟩ hl.1 (Nat.le_of_ble_eq_true rfl) dX6_derive_25 (fun H locs hH hS => ?_)
  refine lv_aload_n hx hb dX6_derive_28 rfl (lv_at hl 0 rfl) ?_
  refine r_getp X hH (k := 6) (a := a) (j := 14) (b := (a + 13)) (A := 13) (B := 0) hk_a (by decide) rfl m_wi6 (by decide) in_1_211 rfl rfl rfl dX6_derive_29 ?_
  refine lv_iconst (v := (0 : Int32)) hx hb dX6_derive_32 (by decide) ?_
  obtain ⟨S5, e_S5, hm⟩ := m_cal0_of hm
  refine r_cSv X hH hS (c_J7_fill_53178 (o0 := (a + 13)) (n0 := 24) hT (m_lay_at hT hk_a (by decide) (i := 13) rfl) e_S5) mw_J7_fill_53178 in_4_93 rfl ⟨rfl, rfl⟩ ⟨by decide, by decide⟩ ⟨Nat.zero_le _, Nat.zero_le _⟩ hl.1 (Nat.le_of_ble_eq_true rfl) dX6_derive_33 (fun H locs hH hS => ?_)
  refine lv_iconst (v := (0 : Int32)) hx hb dX6_derive_36 (by decide) ?_
  refine lv_istore_n (lv' := [(2, .int (0 : Int32)), (0, .ref a), (1, .ref o1)]) hx hb dX6_derive_37 rfl hl (by decide) rfl (fun ls hl => ?_)
  exact k_X6_derive_38 (a := a) (o1 := o1) X hr hT hk_a hk_o1  m_fu S5 (0 : Int32) _ _ _ hH hS (lv_sub hl [1, 2, 0] rfl) hm
