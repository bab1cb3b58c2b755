def rm_X12_spelt : Room := { frames := 0, cells := 0, slots := 0, locals := 0 }
def b_X12_spelt_99  (S : m_M) (l6 : Int64) : Option (Int64 × m_M) :=
    some (l6, S)
set_option maxHeartbeats 4000000 in
set_option maxRecDepth 100000 in
theorem k_X12_spelt_99 {p : Program} {l : Launch} {e : Env} {s : State} {m : MethodId} {args : Array Value} {below : List Frame} {meth : Method} {c : Code} {G : m_G} {nx : Nat} {κ : Nat → Nat} {res : (Int64 × m_M)} (X : m_Cx p s m args meth c cX12_spelt 8 RX12 G) (hr : meth.sig.returnType = (some .long)) (hT : m_Str κ)  : ∀ (S : m_M) (l6 : Int64) (H : Heap) (locs : List Loc) (ls : Array Slot), m_H G nx κ S H → m_S G s H locs → lv_has ls 8 [(6, .long l6)] → b_X12_spelt_99  S l6 = some res → W p l e rm_X12_spelt s m args below meth c H locs 0 0 (m_Ql below args s G nx κ res) (F0 m 99 ls []) := by
  have hx := X.1.1
  have hb := X.1.2.1
  intro S l6 H locs ls hH hS hl hm
  rw [b_X12_spelt_99] at hm
  refine lv_lload hx hb dX12_spelt_99 (lv_at hl 0 rfl) ?_
  exact r_lret X hr hH hS hm dX12_spelt_101
def b_X12_spelt_78  (S : m_M) (l5 : Int32) (l6 : Int64) : Option (Int64 × m_M) :=
    if l5 ≤ 0 then (
    b_X12_spelt_99 S l6) else (
    m_let ((((27 : Int64) * l6) + l5.toInt64) - (96 : Int64)) fun v2 =>
    b_X12_spelt_99 S v2)
set_option maxHeartbeats 4000000 in
set_option maxRecDepth 100000 in
theorem k_X12_spelt_78 {p : Program} {l : Launch} {e : Env} {s : State} {m : MethodId} {args : Array Value} {below : List Frame} {meth : Method} {c : Code} {G : m_G} {nx : Nat} {κ : Nat → Nat} {res : (Int64 × m_M)} (X : m_Cx p s m args meth c cX12_spelt 8 RX12 G) (hr : meth.sig.returnType = (some .long)) (hT : m_Str κ)  : ∀ (S : m_M) (l5 : Int32) (l6 : Int64) (H : Heap) (locs : List Loc) (ls : Array Slot), m_H G nx κ S H → m_S G s H locs → lv_has ls 8 [(5, .int l5), (6, .long l6)] → b_X12_spelt_78  S l5 l6 = some res → W p l e rm_X12_spelt s m args below meth c H locs 0 0 (m_Ql below args s G nx κ res) (F0 m 78 ls []) := by
  have hx := X.1.1
  have hb := X.1.2.1
  intro S l5 l6 H locs ls hH hS hl hm
  rw [b_X12_spelt_78] at hm
  refine lv_iload hx hb dX12_spelt_78 (lv_at hl 0 rfl) ?_
  refine lv_if_le (tgt := 99) hx hb dX12_spelt_80 (by decide) (fun c1 => ?_) (fun c1 => ?_)
  · have hm := m_ite_t hm c1
    exact k_X12_spelt_99  X hr hT    S l6 _ _ _ hH hS (lv_sub hl [1] rfl) hm
  · have hm := m_ite_f hm c1
    refine lv_ldc2 hx hb X.1.2.2.2.1 (m_w X in_7_195) dX12_spelt_83 ?_
    refine lv_lload hx hb dX12_spelt_86 (lv_at hl 1 rfl) ?_
    refine lv_lmul hx hb dX12_spelt_88 ?_
    refine lv_iload hx hb dX12_spelt_89 (lv_at hl 0 rfl) ?_
    refine lv_i2l hx hb dX12_spelt_91 rfl ?_
    refine lv_ladd hx hb dX12_spelt_92 ?_
    refine lv_ldc2 hx hb X.1.2.2.2.1 (m_w X in_7_196) dX12_spelt_93 ?_
    refine lv_lsub hx hb dX12_spelt_96 ?_
    obtain ⟨v2, e_v2, hm⟩ := m_let_of hm
    refine n_topl e_v2 ?_
    refine lv_lstore (lv' := [(6, .long v2), (5, .int l5)]) hx hb dX12_spelt_97 hl (by decide) rfl (fun ls hl => ?_)
    exact k_X12_spelt_99  X hr hT    S v2 _ _ _ hH hS (lv_sub hl [0] rfl) hm
def b_X12_spelt_57  (S : m_M) (l4 : Int32) (l5 : Int32) (l6 : Int64) : Option (Int64 × m_M) :=
    if l4 ≤ 0 then (
    b_X12_spelt_78 S l5 l6) else (
    m_let ((((27 : Int64) * l6) + l4.toInt64) - (96 : Int64)) fun v2 =>
    b_X12_spelt_78 S l5 v2)
set_option maxHeartbeats 4000000 in
set_option maxRecDepth 100000 in
theorem k_X12_spelt_57 {p : Program} {l : Launch} {e : Env} {s : State} {m : MethodId} {args : Array Value} {below : List Frame} {meth : Method} {c : Code} {G : m_G} {nx : Nat} {κ : Nat → Nat} {res : (Int64 × m_M)} (X : m_Cx p s m args meth c cX12_spelt 8 RX12 G) (hr : meth.sig.returnType = (some .long)) (hT : m_Str κ)  : ∀ (S : m_M) (l4 : Int32) (l5 : Int32) (l6 : Int64) (H : Heap) (locs : List Loc) (ls : Array Slot), m_H G nx κ S H → m_S G s H locs → lv_has ls 8 [(4, .int l4), (5, .int l5), (6, .long l6)] → b_X12_spelt_57  S l4 l5 l6 = some res → W p l e rm_X12_spelt s m args below meth c H locs 0 0 (m_Ql below args s G nx κ res) (F0 m 57 ls []) := by
  have hx := X.1.1
  have hb := X.1.2.1
  intro S l4 l5 l6 H locs ls hH hS hl hm
  rw [b_X12_spelt_57] at hm
  refine lv_iload hx hb dX12_spelt_57 (lv_at hl 0 rfl) ?_
  refine lv_if_le (tgt := 78) hx hb dX12_spelt_59 (by decide) (fun c1 => ?_) (fun c1 => ?_)
  · have hm := m_ite_t hm c1
    exact k_X12_spelt_78  X hr hT    S l5 l6 _ _ _ hH hS (lv_sub hl [1, 2] rfl) hm
  · have hm := m_ite_f hm c1
    refine lv_ldc2 hx hb X.1.2.2.2.1 (m_w X in_7_195) dX12_spelt_62 ?_
    refine lv_lload hx hb dX12_spelt_65 (lv_at hl 2 rfl) ?_
    refine lv_lmul hx hb dX12_spelt_67 ?_
    refine lv_iload hx hb dX12_spelt_68 (lv_at hl 0 rfl) ?_
    refine lv_i2l hx hb dX12_spelt_70 rfl ?_
    refine lv_ladd hx hb dX12_spelt_71 ?_
    refine lv_ldc2 hx hb X.1.2.2.2.1 (m_w X in_7_196) dX12_spelt_72 ?_
    refine lv_lsub hx hb dX12_spelt_75 ?_
    obtain ⟨v2, e_v2, hm⟩ := m_let_of hm
    refine n_topl e_v2 ?_
    refine lv_lstore (lv' := [(6, .long v2), (4, .int l4), (5, .int l5)]) hx hb dX12_spelt_76 hl (by decide) rfl (fun ls hl => ?_)
    exact k_X12_spelt_78  X hr hT    S l5 v2 _ _ _ hH hS (lv_sub hl [2, 0] rfl) hm
def b_X12_spelt_38  (S : m_M) (l3 : Int32) (l4 : Int32) (l5 : Int32) (l6 : Int64) : Option (Int64 × m_M) :=
    if l3 ≤ 0 then (
    b_X12_spelt_57 S l4 l5 l6) else (
    m_let ((((27 : Int64) * l6) + l3.toInt64) - (96 : Int64)) fun v2 =>
    b_X12_spelt_57 S l4 l5 v2)
set_option maxHeartbeats 4000000 in
set_option maxRecDepth 100000 in
theorem k_X12_spelt_38 {p : Program} {l : Launch} {e : Env} {s : State} {m : MethodId} {args : Array Value} {below : List Frame} {meth : Method} {c : Code} {G : m_G} {nx : Nat} {κ : Nat → Nat} {res : (Int64 × m_M)} (X : m_Cx p s m args meth c cX12_spelt 8 RX12 G) (hr : meth.sig.returnType = (some .long)) (hT : m_Str κ)  : ∀ (S : m_M) (l3 : Int32) (l4 : Int32) (l5 : Int32) (l6 : Int64) (H : Heap) (locs : List Loc) (ls : Array Slot), m_H G nx κ S H → m_S G s H locs → lv_has ls 8 [(3, .int l3), (4, .int l4), (5, .int l5), (6, .long l6)] → b_X12_spelt_38  S l3 l4 l5 l6 = some res → W p l e rm_X12_spelt s m args below meth c H locs 0 0 (m_Ql below args s G nx κ res) (F0 m 38 ls []) := by
  have hx := X.1.1
  have hb := X.1.2.1
  intro S l3 l4 l5 l6 H locs ls hH hS hl hm
  rw [b_X12_spelt_38] at hm
  refine lv_iload_n hx hb dX12_spelt_38 rfl (lv_at hl 0 rfl) ?_
  refine lv_if_le (tgt := 57) hx hb dX12_spelt_39 (by decide) (fun c1 => ?_) (fun c1 => ?_)
  · have hm := m_ite_t hm c1
    exact k_X12_spelt_57  X hr hT    S l4 l5 l6 _ _ _ hH hS (lv_sub hl [1, 2, 3] rfl) hm
  · have hm := m_ite_f hm c1
    refine lv_ldc2 hx hb X.1.2.2.2.1 (m_w X in_7_195) dX12_spelt_42 ?_
    refine lv_lload hx hb dX12_spelt_45 (lv_at hl 3 rfl) ?_
    refine lv_lmul hx hb dX12_spelt_47 ?_
    refine lv_iload_n hx hb dX12_spelt_48 rfl (lv_at hl 0 rfl) ?_
    refine lv_i2l hx hb dX12_spelt_49 rfl ?_
    refine lv_ladd hx hb dX12_spelt_50 ?_
    refine lv_ldc2 hx hb X.1.2.2.2.1 (m_w X in_7_196) dX12_spelt_51 ?_
    refine lv_lsub hx hb dX12_spelt_54 ?_
    obtain ⟨v2, e_v2, hm⟩ := m_let_of hm
    refine n_topl e_v2 ?_
    refine lv_lstore (lv' := [(6, .long v2), (3, .int l3), (4, .int l4), (5, .int l5)]) hx hb dX12_spelt_55 hl (by decide) rfl (fun ls hl => ?_)
    exact k_X12_spelt_57  X hr hT    S l4 l5 v2 _ _ _ hH hS (lv_sub hl [2, 3, 0] rfl) hm
def f_X12_spelt (S : m_M) (i0 : Int32) (i1 : Int32) (i2 : Int32) (i3 : Int32) (i4 : Int32) (i5 : Int32) : Option (Int64 × m_M) :=
    m_let ((((27 : Int64) * (i0.toInt64 - (96 : Int64))) + i1.toInt64) - (96 : Int64)) fun v1 =>
    if i2 ≤ 0 then (
    b_X12_spelt_38 S i3 i4 i5 v1) else (
    m_let ((((27 : Int64) * v1) + i2.toInt64) - (96 : Int64)) fun v3 =>
    b_X12_spelt_38 S i3 i4 i5 v3)
set_option maxHeartbeats 4000000 in
set_option maxRecDepth 100000 in
theorem c_X12_spelt {l : Launch} {G : m_G} {nx : Nat} {κ : Nat → Nat} {S : m_M} {i0 : Int32} {i1 : Int32} {i2 : Int32} {i3 : Int32} {i4 : Int32} {i5 : Int32} {res : (Int64 × m_M)} (hT : m_Str κ)  (hm : f_X12_spelt S i0 i1 i2 i3 i4 i5 = some res) : m_Cl l yX12_spelt cX12_spelt 8 (some .long) rm_X12_spelt G nx κ [.int i0, .int i1, .int i2, .int i3, .int i4, .int i5] S res := by
  refine m_Cl.of (by decide) (Nat.le_of_ble_eq_true rfl) ?_
  intro p e s m args below meth c ls X hr hH hl
  have hx := X.1.1
  have hb := X.1.2.1
  have hS : m_S G s s.heap [] := va_S.rf
  have hl : lv_has ls 8 [(0, .int i0), (1, .int i1), (2, .int i2), (3, .int i3), (4, .int i4), (5, .int i5)] := hl
  rw [f_X12_spelt] at hm
  refine lv_ldc2 hx hb X.1.2.2.2.1 (m_w X in_7_195) dX12_spelt_0 ?_
  refine lv_iload_n hx hb dX12_spelt_3 rfl (lv_at hl 0 rfl) ?_
  refine lv_i2l hx hb dX12_spelt_4 rfl ?_
  refine lv_ldc2 hx hb X.1.2.2.2.1 (m_w X in_7_196) dX12_spelt_5 ?_
  refine lv_lsub hx hb dX12_spelt_8 ?_
  refine lv_lmul hx hb dX12_spelt_9 ?_
  refine lv_iload_n hx hb dX12_spelt_10 rfl (lv_at hl 1 rfl) ?_
  refine lv_i2l hx hb dX12_spelt_11 rfl ?_
  refine lv_ladd hx hb dX12_spelt_12 ?_
  refine lv_ldc2 hx hb X.1.2.2.2.1 (m_w X in_7_196) dX12_spelt_13 ?_
  refine lv_lsub hx hb dX12_spelt_16 ?_
  obtain ⟨v1, e_v1, hm⟩ := m_let_of hm
  refine n_topl e_v1 ?_
  refine lv_lstore (lv' := [(6, .long v1), (0, .int i0), (1, .int i1), (2, .int i2), (3, .int i3), (4, .int i4), (5, .int i5)]) hx hb dX12_spelt_17 hl (by decide) rfl (fun ls hl => ?_)
  refine lv_iload_n hx hb dX12_spelt_19 rfl (lv_at hl 3 rfl) ?_
  refine lv_if_le (tgt := 38) hx hb dX12_spelt_20 (by decide) (fun c2 => ?_) (fun c2 => ?_)
  · have hm := m_ite_t hm c2
    exact k_X12_spelt_38  X hr hT    S i3 i4 i5 v1 _ _ _ hH hS (lv_sub hl [4, 5, 6, 0] rfl) hm
  · have hm := m_ite_f hm c2
    refine lv_ldc2 hx hb X.1.2.2.2.1 (m_w X in_7_195) dX12_spelt_23 ?_
    refine lv_lload hx hb dX12_spelt_26 (lv_at hl 0 rfl) ?_
    refine lv_lmul hx hb dX12_spelt_28 ?_
    refine lv_iload_n hx hb dX12_spelt_29 rfl (lv_at hl 3 rfl) ?_
    refine lv_i2l hx hb dX12_spelt_30 rfl ?_
    refine lv_ladd hx hb dX12_spelt_31 ?_
    refine lv_ldc2 hx hb X.1.2.2.2.1 (m_w X in_7_196) dX12_spelt_32 ?_
    refine lv_lsub hx hb dX12_spelt_35 ?_
    obtain ⟨v3, e_v3, hm⟩ := m_let_of hm
    refine n_topl e_v3 ?_
    refine lv_lstore (lv' := [(6, .long v3), (0, .int i0), (1, .int i1), (2, .int i2), (3, .int i3), (4, .int i4), (5, .int i5)]) hx hb dX12_spelt_36 hl (by decide) rfl (fun ls hl => ?_)
    exact k_X12_spelt_38  X hr hT    S i3 i4 i5 v3 _ _ _ hH hS (lv_sub hl [4, 5, 6, 0] rfl) hm
def rm_X12_wordOf : Room := { frames := 1, cells := 0, slots := 0, locals := 27 }
def f_X12_wordOf (S : m_M) (i0 : Int32) : Option (Int64 × m_M) :=
    if i0 = (0 : Int32) then (
    m_call (f_X12_spelt S (102 : Int32) (117 : Int32) (110 : Int32) (0 : Int32) (0 : Int32) (0 : Int32)) fun v3 S2 =>
    some (v3, S2)) else (
    if i0 = (1 : Int32) then (
    m_call (f_X12_spelt S (105 : Int32) (115 : Int32) (0 : Int32) (0 : Int32) (0 : Int32) (0 : Int32)) fun v6 S5 =>
    some (v6, S5)) else (
    if i0 = (2 : Int32) then (
    m_call (f_X12_spelt S (112 : Int32) (97 : Int32) (105 : Int32) (114 : Int32) (0 : Int32) (0 : Int32)) fun v9 S8 =>
    some (v9, S8)) else (
    if i0 = (3 : Int32) then (
    m_call (f_X12_spelt S (108 : Int32) (101 : Int32) (102 : Int32) (116 : Int32) (0 : Int32) (0 : Int32)) fun v12 S11 =>
    some (v12, S11)) else (
    if i0 = (4 : Int32) then (
    m_call (f_X12_spelt S (114 : Int32) (105 : Int32) (103 : Int32) (104 : Int32) (116 : Int32) (0 : Int32)) fun v15 S14 =>
    some (v15, S14)) else (
    if i0 = (5 : Int32) then (
    m_call (f_X12_spelt S (115 : Int32) (117 : Int32) (109 : Int32) (0 : Int32) (0 : Int32) (0 : Int32)) fun v18 S17 =>
    some (v18, S17)) else (
    if i0 = (6 : Int32) then (
    m_call (f_X12_spelt S (108 : Int32) (101 : Int32) (115 : Int32) (115 : Int32) (0 : Int32) (0 : Int32)) fun v21 S20 =>
    some (v21, S20)) else (
    if i0 = (7 : Int32) then (
    m_call (f_X12_spelt S (112 : Int32) (105 : Int32) (99 : Int32) (107 : Int32) (0 : Int32) (0 : Int32)) fun v24 S23 =>
    some (v24, S23)) else (
    if i0 = (8 : Int32) then (
    m_call (f_X12_spelt S (99 : Int32) (97 : Int32) (108 : Int32) (108 : Int32) (0 : Int32) (0 : Int32)) fun v27 S26 =>
    some (v27, S26)) else (
    if i0 = (9 : Int32) then (
    m_call (f_X12_spelt S (119 : Int32) (104 : Int32) (101 : Int32) (110 : Int32) (0 : Int32) (0 : Int32)) fun v30 S29 =>
    some (v30, S29)) else (
    if i0 = (10 : Int32) then (
    m_call (f_X12_spelt S (101 : Int32) (108 : Int32) (115 : Int32) (101 : Int32) (0 : Int32) (0 : Int32)) fun v33 S32 =>
    some (v33, S32)) else (
    if i0 = (11 : Int32) then (
    m_call (f_X12_spelt S (111 : Int32) (114 : Int32) (0 : Int32) (0 : Int32) (0 : Int32) (0 : Int32)) fun v36 S35 =>
    some (v36, S35)) else (
    if i0 = (12 : Int32) then (
    m_call (f_X12_spelt S (97 : Int32) (110 : Int32) (100 : Int32) (0 : Int32) (0 : Int32) (0 : Int32)) fun v39 S38 =>
    some (v39, S38)) else (
    if i0 = (13 : Int32) then (
    m_call (f_X12_spelt S (110 : Int32) (111 : Int32) (116 : Int32) (0 : Int32) (0 : Int32) (0 : Int32)) fun v42 S41 =>
    some (v42, S41)) else (
    if i0 = (14 : Int32) then (
    m_call (f_X12_spelt S (102 : Int32) (105 : Int32) (110 : Int32) (105 : Int32) (116 : Int32) (101 : Int32)) fun v45 S44 =>
    some (v45, S44)) else (
    if i0 = (15 : Int32) then (
    m_call (f_X12_spelt S (111 : Int32) (117 : Int32) (116 : Int32) (101 : Int32) (114 : Int32) (0 : Int32)) fun v48 S47 =>
    some (v48, S47)) else (
    if i0 = (16 : Int32) then (
    m_call (f_X12_spelt S (108 : Int32) (105 : Int32) (118 : Int32) (101 : Int32) (0 : Int32) (0 : Int32)) fun v51 S50 =>
    some (v51, S50)) else (
    if i0 = (17 : Int32) then (
    m_call (f_X12_spelt S (111 : Int32) (119 : Int32) (110 : Int32) (101 : Int32) (100 : Int32) (0 : Int32)) fun v54 S53 =>
    some (v54, S53)) else (
    if i0 = (18 : Int32) then (
    m_call (f_X12_spelt S (102 : Int32) (105 : Int32) (108 : Int32) (108 : Int32) (101 : Int32) (100 : Int32)) fun v57 S56 =>
    some (v57, S56)) else (
    if i0 = (19 : Int32) then (
    m_call (f_X12_spelt S (99 : Int32) (101 : Int32) (108 : Int32) (108 : Int32) (115 : Int32) (0 : Int32)) fun v60 S59 =>
    some (v60, S59)) else (
    if i0 = (20 : Int32) then (
    m_call (f_X12_spelt S (114 : Int32) (111 : Int32) (111 : Int32) (109 : Int32) (115 : Int32) (0 : Int32)) fun v63 S62 =>
    some (v63, S62)) else (
    m_call (f_X12_spelt S (110 : Int32) (117 : Int32) (109 : Int32) (98 : Int32) (101 : Int32) (114 : Int32)) fun v65 S64 =>
    some (v65, S64))))))))))))))))))))))
set_option maxHeartbeats 4000000 in
set_option maxRecDepth 100000 in
theorem c_X12_wordOf {l : Launch} {G : m_G} {nx : Nat} {κ : Nat → Nat} {S : m_M} {i0 : Int32} {res : (Int64 × m_M)} (hT : m_Str κ)  (hm : f_X12_wordOf S i0 = some res) : m_Cl l yX12_wordOf cX12_wordOf 1 (some .long) rm_X12_wordOf G nx κ [.int i0] S res := by
  refine m_Cl.of (by decide) (Nat.le_of_ble_eq_true rfl) ?_
  intro p e s m args below meth c ls X hr hH hl
  have hx := X.1.1
  have hb := X.1.2.1
  have hS : m_S G s s.heap [] := va_S.rf
  have hl : lv_has ls 1 [(0, .int i0)] := hl
  rw [f_X12_wordOf] at hm
  refine lv_iload_n hx hb dX12_wordOf_0 rfl (lv_at hl 0 rfl) ?_
  by_cases c1 : i0 = (0 : Int32)
  · have hm := m_ite_t hm c1
    refine lv_tableIn (off := 99) (tgt := 100) hx hb dX12_wordOf_1 (by rw [c1]; decide) (by rw [c1]; decide) (by rw [c1]; rfl) (by decide) ?_
    refine lv_bipush (v := (102 : Int32)) hx hb dX12_wordOf_100 (by decide) ?_
    refine lv_bipush (v := (117 : Int32)) hx hb dX12_wordOf_102 (by decide) ?_
    refine lv_bipush (v := (110 : Int32)) hx hb dX12_wordOf_104 (by decide) ?_
    refine lv_iconst (v := (0 : Int32)) hx hb dX12_wordOf_106 (by decide) ?_
    refine lv_iconst (v := (0 : Int32)) hx hb dX12_wordOf_107 (by decide) ?_
    refine lv_iconst (v := (0 : Int32)) hx hb dX12_wordOf_108 (by decide) ?_
    obtain ⟨v3, S2, e_S2, hm⟩ := m_call_of hm
    refine n_cSl X hH hS (c_X12_spelt  hT  e_S2) mw_X12_spelt in_7_204 rfl ⟨rfl, rfl⟩ ⟨Nat.le_of_ble_eq_true rfl, Nat.le_of_ble_eq_true rfl⟩ ⟨Nat.zero_le _, Nat.zero_le _⟩ hl.1 (Nat.le_of_ble_eq_true rfl) dX12_wordOf_109 (fun H locs hH hS => ?_)
    exact r_lret X hr hH hS hm dX12_wordOf_112
  · have hm := m_ite_f hm c1
    by_cases c4 : i0 = (1 : Int32)
    · have hm := m_ite_t hm c4
      refine lv_tableIn (off := 112) (tgt := 113) hx hb dX12_wordOf_1 (by rw [c4]; decide) (by rw [c4]; decide) (by rw [c4]; rfl) (by decide) ?_
      refine lv_bipush (v := (105 : Int32)) hx hb dX12_wordOf_113 (by decide) ?_
      refine lv_bipush (v := (115 : Int32)) hx hb dX12_wordOf_115 (by decide) ?_
      refine lv_iconst (v := (0 : Int32)) hx hb dX12_wordOf_117 (by decide) ?_
      refine lv_iconst (v := (0 : Int32)) hx hb dX12_wordOf_118 (by decide) ?_
      refine lv_iconst (v := (0 : Int32)) hx hb dX12_wordOf_119 (by decide) ?_
      refine lv_iconst (v := (0 : Int32)) hx hb dX12_wordOf_120 (by decide) ?_
      obtain ⟨v6, S5, e_S5, hm⟩ := m_call_of hm
      refine n_cSl X hH hS (c_X12_spelt  hT  e_S5) mw_X12_spelt in_7_204 rfl ⟨rfl, rfl⟩ ⟨Nat.le_of_ble_eq_true rfl, Nat.le_of_ble_eq_true rfl⟩ ⟨Nat.zero_le _, Nat.zero_le _⟩ hl.1 (Nat.le_of_ble_eq_true rfl) dX12_wordOf_121 (fun H locs hH hS => ?_)
      exact r_lret X hr hH hS hm dX12_wordOf_124
    · have hm := m_ite_f hm c4
      by_cases c7 : i0 = (2 : Int32)
      · have hm := m_ite_t hm c7
        refine lv_tableIn (off := 124) (tgt := 125) hx hb dX12_wordOf_1 (by rw [c7]; decide) (by rw [c7]; decide) (by rw [c7]; rfl) (by decide) ?_
        refine lv_bipush (v := (112 : Int32)) hx hb dX12_wordOf_125 (by decide) ?_
        refine lv_bipush (v := (97 : Int32)) hx hb dX12_wordOf_127 (by decide) ?_
        refine lv_bipush (v := (105 : Int32)) hx hb dX12_wordOf_129 (by decide) ?_
        refine lv_bipush (v := (114 : Int32)) hx hb dX12_wordOf_131 (by decide) ?_
        refine lv_iconst (v := (0 : Int32)) hx hb dX12_wordOf_133 (by decide) ?_
        refine lv_iconst (v := (0 : Int32)) hx hb dX12_wordOf_134 (by decide) ?_
        obtain ⟨v9, S8, e_S8, hm⟩ := m_call_of hm
        refine n_cSl X hH hS (c_X12_spelt  hT  e_S8) mw_X12_spelt in_7_204 rfl ⟨rfl, rfl⟩ ⟨Nat.le_of_ble_eq_true rfl, Nat.le_of_ble_eq_true rfl⟩ ⟨Nat.zero_le _, Nat.zero_le _⟩ hl.1 (Nat.le_of_ble_eq_true rfl) dX12_wordOf_135 (fun H locs hH hS => ?_)
        exact r_lret X hr hH hS hm dX12_wordOf_138
      · have hm := m_ite_f hm c7
        by_cases c10 : i0 = (3 : Int32)
        · have hm := m_ite_t hm c10
          refine lv_tableIn (off := 138) (tgt := 139) hx hb dX12_wordOf_1 (by rw [c10]; decide) (by rw [c10]; decide) (by rw [c10]; rfl) (by decide) ?_
          refine lv_bipush (v := (108 : Int32)) hx hb dX12_wordOf_139 (by decide) ?_
          refine lv_bipush (v := (101 : Int32)) hx hb dX12_wordOf_141 (by decide) ?_
          refine lv_bipush (v := (102 : Int32)) hx hb dX12_wordOf_143 (by decide) ?_
          refine lv_bipush (v := (116 : Int32)) hx hb dX12_wordOf_145 (by decide) ?_
          refine lv_iconst (v := (0 : Int32)) hx hb dX12_wordOf_147 (by decide) ?_
          refine lv_iconst (v := (0 : Int32)) hx hb dX12_wordOf_148 (by decide) ?_
          obtain ⟨v12, S11, e_S11, hm⟩ := m_call_of hm
          refine n_cSl X hH hS (c_X12_spelt  hT  e_S11) mw_X12_spelt in_7_204 rfl ⟨rfl, rfl⟩ ⟨Nat.le_of_ble_eq_true rfl, Nat.le_of_ble_eq_true rfl⟩ ⟨Nat.zero_le _, Nat.zero_le _⟩ hl.1 (Nat.le_of_ble_eq_true rfl) dX12_wordOf_149 (fun H locs hH hS => ?_)
          exact r_lret X hr hH hS hm dX12_wordOf_152
        · have hm := m_ite_f hm c10
          by_cases c13 : i0 = (4 : Int32)
          · have hm := m_ite_t hm c13
            refine lv_tableIn (off := 152) (tgt := 153) hx hb dX12_wordOf_1 (by rw [c13]; decide) (by rw [c13]; decide) (by rw [c13]; rfl) (by decide) ?_
            refine lv_bipush (v := (114 : Int32)) hx hb dX12_wordOf_153 (by decide) ?_
            refine lv_bipush (v := (105 : Int32)) hx hb dX12_wordOf_155 (by decide) ?_
            refine lv_bipush (v := (103 : Int32)) hx hb dX12_wordOf_157 (by decide) ?_
            refine lv_bipush (v := (104 : Int32)) hx hb dX12_wordOf_159 (by decide) ?_
            refine lv_bipush (v := (116 : Int32)) hx hb dX12_wordOf_161 (by decide) ?_
            refine lv_iconst (v := (0 : Int32)) hx hb dX12_wordOf_163 (by decide) ?_
            obtain ⟨v15, S14, e_S14, hm⟩ := m_call_of hm
            refine n_cSl X hH hS (c_X12_spelt  hT  e_S14) mw_X12_spelt in_7_204 rfl ⟨rfl, rfl⟩ ⟨Nat.le_of_ble_eq_true rfl, Nat.le_of_ble_eq_true rfl⟩ ⟨Nat.zero_le _, Nat.zero_le _⟩ hl.1 (Nat.le_of_ble_eq_true rfl) dX12_wordOf_164 (fun H locs hH hS => ?_)
            exact r_lret X hr hH hS hm dX12_wordOf_167
          · have hm := m_ite_f hm c13
            by_cases c16 : i0 = (5 : Int32)
            · have hm := m_ite_t hm c16
              refine lv_tableIn (off := 167) (tgt := 168) hx hb dX12_wordOf_1 (by rw [c16]; decide) (by rw [c16]; decide) (by rw [c16]; rfl) (by decide) ?_
              refine lv_bipush (v := (115 : Int32)) hx hb dX12_wordOf_168 (by decide) ?_
              refine lv_bipush (v := (117 : Int32)) hx hb dX12_wordOf_170 (by decide) ?_
              refine lv_bipush (v := (109 : Int32)) hx hb dX12_wordOf_172 (by decide) ?_
              refine lv_iconst (v := (0 : Int32)) hx hb dX12_wordOf_174 (by decide) ?_
              refine lv_iconst (v := (0 : Int32)) hx hb dX12_wordOf_175 (by decide) ?_
              refine lv_iconst (v := (0 : Int32)) hx hb dX12_wordOf_176 (by decide) ?_
              obtain ⟨v18, S17, e_S17, hm⟩ := m_call_of hm
              refine n_cSl X hH hS (c_X12_spelt  hT  e_S17) mw_X12_spelt in_7_204 rfl ⟨rfl, rfl⟩ ⟨Nat.le_of_ble_eq_true rfl, Nat.le_of_ble_eq_true rfl⟩ ⟨Nat.zero_le _, Nat.zero_le _⟩ hl.1 (Nat.le_of_ble_eq_true rfl) dX12_wordOf_177 (fun H locs hH hS => ?_)
              exact r_lret X hr hH hS hm dX12_wordOf_180
            · have hm := m_ite_f hm c16
              by_cases c19 : i0 = (6 : Int32)
              · have hm := m_ite_t hm c19
                refine lv_tableIn (off := 180) (tgt := 181) hx hb dX12_wordOf_1 (by rw [c19]; decide) (by rw [c19]; decide) (by rw [c19]; rfl) (by decide) ?_
                refine lv_bipush (v := (108 : Int32)) hx hb dX12_wordOf_181 (by decide) ?_
                refine lv_bipush (v := (101 : Int32)) hx hb dX12_wordOf_183 (by decide) ?_
                refine lv_bipush (v := (115 : Int32)) hx hb dX12_wordOf_185 (by decide) ?_
                refine lv_bipush (v := (115 : Int32)) hx hb dX12_wordOf_187 (by decide) ?_
                refine lv_iconst (v := (0 : Int32)) hx hb dX12_wordOf_189 (by decide) ?_
                refine lv_iconst (v := (0 : Int32)) hx hb dX12_wordOf_190 (by decide) ?_
                obtain ⟨v21, S20, e_S20, hm⟩ := m_call_of hm
                refine n_cSl X hH hS (c_X12_spelt  hT  e_S20) mw_X12_spelt in_7_204 rfl ⟨rfl, rfl⟩ ⟨Nat.le_of_ble_eq_true rfl, Nat.le_of_ble_eq_true rfl⟩ ⟨Nat.zero_le _, Nat.zero_le _⟩ hl.1 (Nat.le_of_ble_eq_true rfl) dX12_wordOf_191 (fun H locs hH hS => ?_)
                exact r_lret X hr hH hS hm dX12_wordOf_194
              · have hm := m_ite_f hm c19
                by_cases c22 : i0 = (7 : Int32)
                · have hm := m_ite_t hm c22
                  refine lv_tableIn (off := 194) (tgt := 195) hx hb dX12_wordOf_1 (by rw [c22]; decide) (by rw [c22]; decide) (by rw [c22]; rfl) (by decide) ?_
                  refine lv_bipush (v := (112 : Int32)) hx hb dX12_wordOf_195 (by decide) ?_
                  refine lv_bipush (v := (105 : Int32)) hx hb dX12_wordOf_197 (by decide) ?_
                  refine lv_bipush (v := (99 : Int32)) hx hb dX12_wordOf_199 (by decide) ?_
                  refine lv_bipush (v := (107 : Int32)) hx hb dX12_wordOf_201 (by decide) ?_
                  refine lv_iconst (v := (0 : Int32)) hx hb dX12_wordOf_203 (by decide) ?_
                  refine lv_iconst (v := (0 : Int32)) hx hb dX12_wordOf_204 (by decide) ?_
                  obtain ⟨v24, S23, e_S23, hm⟩ := m_call_of hm
                  refine n_cSl X hH hS (c_X12_spelt  hT  e_S23) mw_X12_spelt in_7_204 rfl ⟨rfl, rfl⟩ ⟨Nat.le_of_ble_eq_true rfl, Nat.le_of_ble_eq_true rfl⟩ ⟨Nat.zero_le _, Nat.zero_le _⟩ hl.1 (Nat.le_of_ble_eq_true rfl) dX12_wordOf_205 (fun H locs hH hS => ?_)
                  exact r_lret X hr hH hS hm dX12_wordOf_208
                · have hm := m_ite_f hm c22
                  by_cases c25 : i0 = (8 : Int32)
                  · have hm := m_ite_t hm c25
                    refine lv_tableIn (off := 208) (tgt := 209) hx hb dX12_wordOf_1 (by rw [c25]; decide) (by rw [c25]; decide) (by rw [c25]; rfl) (by decide) ?_
                    refine lv_bipush (v := (99 : Int32)) hx hb dX12_wordOf_209 (by decide) ?_
                    refine lv_bipush (v := (97 : Int32)) hx hb dX12_wordOf_211 (by decide) ?_
                    refine lv_bipush (v := (108 : Int32)) hx hb dX12_wordOf_213 (by decide) ?_
                    refine lv_bipush (v := (108 : Int32)) hx hb dX12_wordOf_215 (by decide) ?_
                    refine lv_iconst (v := (0 : Int32)) hx hb dX12_wordOf_217 (by decide) ?_
                    refine lv_iconst (v := (0 : Int32)) hx hb dX12_wordOf_218 (by decide) ?_
                    obtain ⟨v27, S26, e_S26, hm⟩ := m_call_of hm
                    refine n_cSl X hH hS (c_X12_spelt  hT  e_S26) mw_X12_spelt in_7_204 rfl ⟨rfl, rfl⟩ ⟨Nat.le_of_ble_eq_true rfl, Nat.le_of_ble_eq_true rfl⟩ ⟨Nat.zero_le _, Nat.zero_le _⟩ hl.1 (Nat.le_of_ble_eq_true rfl) dX12_wordOf_219 (fun H locs hH hS => ?_)
                    exact r_lret X hr hH hS hm dX12_wordOf_222
                  · have hm := m_ite_f hm c25
                    by_cases c28 : i0 = (9 : Int32)
                    · have hm := m_ite_t hm c28
                      refine lv_tableIn (off := 222) (tgt := 223) hx hb dX12_wordOf_1 (by rw [c28]; decide) (by rw [c28]; decide) (by rw [c28]; rfl) (by decide) ?_
                      refine lv_bipush (v := (119 : Int32)) hx hb dX12_wordOf_223 (by decide) ?_
                      refine lv_bipush (v := (104 : Int32)) hx hb dX12_wordOf_225 (by decide) ?_
                      refine lv_bipush (v := (101 : Int32)) hx hb dX12_wordOf_227 (by decide) ?_
                      refine lv_bipush (v := (110 : Int32)) hx hb dX12_wordOf_229 (by decide) ?_
                      refine lv_iconst (v := (0 : Int32)) hx hb dX12_wordOf_231 (by decide) ?_
                      refine lv_iconst (v := (0 : Int32)) hx hb dX12_wordOf_232 (by decide) ?_
                      obtain ⟨v30, S29, e_S29, hm⟩ := m_call_of hm
                      refine n_cSl X hH hS (c_X12_spelt  hT  e_S29) mw_X12_spelt in_7_204 rfl ⟨rfl, rfl⟩ ⟨Nat.le_of_ble_eq_true rfl, Nat.le_of_ble_eq_true rfl⟩ ⟨Nat.zero_le _, Nat.zero_le _⟩ hl.1 (Nat.le_of_ble_eq_true rfl) dX12_wordOf_233 (fun H locs hH hS => ?_)
                      exact r_lret X hr hH hS hm dX12_wordOf_236
                    · have hm := m_ite_f hm c28
                      by_cases c31 : i0 = (10 : Int32)
                      · have hm := m_ite_t hm c31
                        refine lv_tableIn (off := 236) (tgt := 237) hx hb dX12_wordOf_1 (by rw [c31]; decide) (by rw [c31]; decide) (by rw [c31]; rfl) (by decide) ?_
                        refine lv_bipush (v := (101 : Int32)) hx hb dX12_wordOf_237 (by decide) ?_
                        refine lv_bipush (v := (108 : Int32)) hx hb dX12_wordOf_239 (by decide) ?_
                        refine lv_bipush (v := (115 : Int32)) hx hb dX12_wordOf_241 (by decide) ?_
                        refine lv_bipush (v := (101 : Int32)) hx hb dX12_wordOf_243 (by decide) ?_
                        refine lv_iconst (v := (0 : Int32)) hx hb dX12_wordOf_245 (by decide) ?_
                        refine lv_iconst (v := (0 : Int32)) hx hb dX12_wordOf_246 (by decide) ?_
                        obtain ⟨v33, S32, e_S32, hm⟩ := m_call_of hm
                        refine n_cSl X hH hS (c_X12_spelt  hT  e_S32) mw_X12_spelt in_7_204 rfl ⟨rfl, rfl⟩ ⟨Nat.le_of_ble_eq_true rfl, Nat.le_of_ble_eq_true rfl⟩ ⟨Nat.zero_le _, Nat.zero_le _⟩ hl.1 (Nat.le_of_ble_eq_true rfl) dX12_wordOf_247 (fun H locs hH hS => ?_)
                        exact r_lret X hr hH hS hm dX12_wordOf_250
                      · have hm := m_ite_f hm c31
                        by_cases c34 : i0 = (11 : Int32)
                        · have hm := m_ite_t hm c34
                          refine lv_tableIn (off := 250) (tgt := 251) hx hb dX12_wordOf_1 (by rw [c34]; decide) (by rw [c34]; decide) (by rw [c34]; rfl) (by decide) ?_
                          refine lv_bipush (v := (111 : Int32)) hx hb dX12_wordOf_251 (by decide) ?_
                          refine lv_bipush (v := (114 : Int32)) hx hb dX12_wordOf_253 (by decide) ?_
                          refine lv_iconst (v := (0 : Int32)) hx hb dX12_wordOf_255 (by decide) ?_
                          refine lv_iconst (v := (0 : Int32)) hx hb dX12_wordOf_256 (by decide) ?_
                          refine lv_iconst (v := (0 : Int32)) hx hb dX12_wordOf_257 (by decide) ?_
                          refine lv_iconst (v := (0 : Int32)) hx hb dX12_wordOf_258 (by decide) ?_
                          obtain ⟨v36, S35, e_S35, hm⟩ := m_call_of hm
                          refine n_cSl X hH hS (c_X12_spelt  hT  e_S35) mw_X12_spelt in_7_204 rfl ⟨rfl, rfl⟩ ⟨Nat.le_of_ble_eq_true rfl, Nat.le_of_ble_eq_true rfl⟩ ⟨Nat.zero_le _, Nat.zero_le _⟩ hl.1 (Nat.le_of_ble_eq_true rfl) dX12_wordOf_259 (fun H locs hH hS => ?_)
                          exact r_lret X hr hH hS hm dX12_wordOf_262
                        · have hm := m_ite_f hm c34
                          by_cases c37 : i0 = (12 : Int32)
                          · have hm := m_ite_t hm c37
                            refine lv_tableIn (off := 262) (tgt := 263) hx hb dX12_wordOf_1 (by rw [c37]; decide) (by rw [c37]; decide) (by rw [c37]; rfl) (by decide) ?_
                            refine lv_bipush (v := (97 : Int32)) hx hb dX12_wordOf_263 (by decide) ?_
                            refine lv_bipush (v := (110 : Int32)) hx hb dX12_wordOf_265 (by decide) ?_
                            refine lv_bipush (v := (100 : Int32)) hx hb dX12_wordOf_267 (by decide) ?_
                            refine lv_iconst (v := (0 : Int32)) hx hb dX12_wordOf_269 (by decide) ?_
                            refine lv_iconst (v := (0 : Int32)) hx hb dX12_wordOf_270 (by decide) ?_
                            refine lv_iconst (v := (0 : Int32)) hx hb dX12_wordOf_271 (by decide) ?_
                            obtain ⟨v39, S38, e_S38, hm⟩ := m_call_of hm
                            refine n_cSl X hH hS (c_X12_spelt  hT  e_S38) mw_X12_spelt in_7_204 rfl ⟨rfl, rfl⟩ ⟨Nat.le_of_ble_eq_true rfl, Nat.le_of_ble_eq_true rfl⟩ ⟨Nat.zero_le _, Nat.zero_le _⟩ hl.1 (Nat.le_of_ble_eq_true rfl) dX12_wordOf_272 (fun H locs hH hS => ?_)
                            exact r_lret X hr hH hS hm dX12_wordOf_275
                          · have hm := m_ite_f hm c37
                            by_cases c40 : i0 = (13 : Int32)
                            · have hm := m_ite_t hm c40
                              refine lv_tableIn (off := 275) (tgt := 276) hx hb dX12_wordOf_1 (by rw [c40]; decide) (by rw [c40]; decide) (by rw [c40]; rfl) (by decide) ?_
                              refine lv_bipush (v := (110 : Int32)) hx hb dX12_wordOf_276 (by decide) ?_
                              refine lv_bipush (v := (111 : Int32)) hx hb dX12_wordOf_278 (by decide) ?_
                              refine lv_bipush (v := (116 : Int32)) hx hb dX12_wordOf_280 (by decide) ?_
                              refine lv_iconst (v := (0 : Int32)) hx hb dX12_wordOf_282 (by decide) ?_
                              refine lv_iconst (v := (0 : Int32)) hx hb dX12_wordOf_283 (by decide) ?_
                              refine lv_iconst (v := (0 : Int32)) hx hb dX12_wordOf_284 (by decide) ?_
                              obtain ⟨v42, S41, e_S41, hm⟩ := m_call_of hm
                              refine n_cSl X hH hS (c_X12_spelt  hT  e_S41) mw_X12_spelt in_7_204 rfl ⟨rfl, rfl⟩ ⟨Nat.le_of_ble_eq_true rfl, Nat.le_of_ble_eq_true rfl⟩ ⟨Nat.zero_le _, Nat.zero_le _⟩ hl.1 (Nat.le_of_ble_eq_true rfl) dX12_wordOf_285 (fun H locs hH hS => ?_)
                              exact r_lret X hr hH hS hm dX12_wordOf_288
                            · have hm := m_ite_f hm c40
                              by_cases c43 : i0 = (14 : Int32)
                              · have hm := m_ite_t hm c43
                                refine lv_tableIn (off := 288) (tgt := 289) hx hb dX12_wordOf_1 (by rw [c43]; decide) (by rw [c43]; decide) (by rw [c43]; rfl) (by decide) ?_
                                refine lv_bipush (v := (102 : Int32)) hx hb dX12_wordOf_289 (by decide) ?_
                                refine lv_bipush (v := (105 : Int32)) hx hb dX12_wordOf_291 (by decide) ?_
                                refine lv_bipush (v := (110 : Int32)) hx hb dX12_wordOf_293 (by decide) ?_
                                refine lv_bipush (v := (105 : Int32)) hx hb dX12_wordOf_295 (by decide) ?_
                                refine lv_bipush (v := (116 : Int32)) hx hb dX12_wordOf_297 (by decide) ?_
                                refine lv_bipush (v := (101 : Int32)) hx hb dX12_wordOf_299 (by decide) ?_
                                obtain ⟨v45, S44, e_S44, hm⟩ := m_call_of hm
                                refine n_cSl X hH hS (c_X12_spelt  hT  e_S44) mw_X12_spelt in_7_204 rfl ⟨rfl, rfl⟩ ⟨Nat.le_of_ble_eq_true rfl, Nat.le_of_ble_eq_true rfl⟩ ⟨Nat.zero_le _, Nat.zero_le _⟩ hl.1 (Nat.le_of_ble_eq_true rfl) dX12_wordOf_301 (fun H locs hH hS => ?_)
                                exact r_lret X hr hH hS hm dX12_wordOf_304
                              · have hm := m_ite_f hm c43
                                by_cases c46 : i0 = (15 : Int32)
                                · have hm := m_ite_t hm c46
                                  refine lv_tableIn (off := 304) (tgt := 305) hx hb dX12_wordOf_1 (by rw [c46]; decide) (by rw [c46]; decide) (by rw [c46]; rfl) (by decide) ?_
                                  refine lv_bipush (v := (111 : Int32)) hx hb dX12_wordOf_305 (by decide) ?_
                                  refine lv_bipush (v := (117 : Int32)) hx hb dX12_wordOf_307 (by decide) ?_
                                  refine lv_bipush (v := (116 : Int32)) hx hb dX12_wordOf_309 (by decide) ?_
                                  refine lv_bipush (v := (101 : Int32)) hx hb dX12_wordOf_311 (by decide) ?_
                                  refine lv_bipush (v := (114 : Int32)) hx hb dX12_wordOf_313 (by decide) ?_
                                  refine lv_iconst (v := (0 : Int32)) hx hb dX12_wordOf_315 (by decide) ?_
                                  obtain ⟨v48, S47, e_S47, hm⟩ := m_call_of hm
                                  refine n_cSl X hH hS (c_X12_spelt  hT  e_S47) mw_X12_spelt in_7_204 rfl ⟨rfl, rfl⟩ ⟨Nat.le_of_ble_eq_true rfl, Nat.le_of_ble_eq_true rfl⟩ ⟨Nat.zero_le _, Nat.zero_le _⟩ hl.1 (Nat.le_of_ble_eq_true rfl) dX12_wordOf_316 (fun H locs hH hS => ?_)
                                  exact r_lret X hr hH hS hm dX12_wordOf_319
                                · have hm := m_ite_f hm c46
                                  by_cases c49 : i0 = (16 : Int32)
                                  · have hm := m_ite_t hm c49
                                    refine lv_tableIn (off := 319) (tgt := 320) hx hb dX12_wordOf_1 (by rw [c49]; decide) (by rw [c49]; decide) (by rw [c49]; rfl) (by decide) ?_
                                    refine lv_bipush (v := (108 : Int32)) hx hb dX12_wordOf_320 (by decide) ?_
                                    refine lv_bipush (v := (105 : Int32)) hx hb dX12_wordOf_322 (by decide) ?_
                                    refine lv_bipush (v := (118 : Int32)) hx hb dX12_wordOf_324 (by decide) ?_
                                    refine lv_bipush (v := (101 : Int32)) hx hb dX12_wordOf_326 (by decide) ?_
                                    refine lv_iconst (v := (0 : Int32)) hx hb dX12_wordOf_328 (by decide) ?_
                                    refine lv_iconst (v := (0 : Int32)) hx hb dX12_wordOf_329 (by decide) ?_
                                    obtain ⟨v51, S50, e_S50, hm⟩ := m_call_of hm
                                    refine n_cSl X hH hS (c_X12_spelt  hT  e_S50) mw_X12_spelt in_7_204 rfl ⟨rfl, rfl⟩ ⟨Nat.le_of_ble_eq_true rfl, Nat.le_of_ble_eq_true rfl⟩ ⟨Nat.zero_le _, Nat.zero_le _⟩ hl.1 (Nat.le_of_ble_eq_true rfl) dX12_wordOf_330 (fun H locs hH hS => ?_)
                                    exact r_lret X hr hH hS hm dX12_wordOf_333
                                  · have hm := m_ite_f hm c49
                                    by_cases c52 : i0 = (17 : Int32)
                                    · have hm := m_ite_t hm c52
                                      refine lv_tableIn (off := 333) (tgt := 334) hx hb dX12_wordOf_1 (by rw [c52]; decide) (by rw [c52]; decide) (by rw [c52]; rfl) (by decide) ?_
                                      refine lv_bipush (v := (111 : Int32)) hx hb dX12_wordOf_334 (by decide) ?_
                                      refine lv_bipush (v := (119 : Int32)) hx hb dX12_wordOf_336 (by decide) ?_
                                      refine lv_bipush (v := (110 : Int32)) hx hb dX12_wordOf_338 (by decide) ?_
                                      refine lv_bipush (v := (101 : Int32)) hx hb dX12_wordOf_340 (by decide) ?_
                                      refine lv_bipush (v := (100 : Int32)) hx hb dX12_wordOf_342 (by decide) ?_
                                      refine lv_iconst (v := (0 : Int32)) hx hb dX12_wordOf_344 (by decide) ?_
                                      obtain ⟨v54, S53, e_S53, hm⟩ := m_call_of hm
                                      refine n_cSl X hH hS (c_X12_spelt  hT  e_S53) mw_X12_spelt in_7_204 rfl ⟨rfl, rfl⟩ ⟨Nat.le_of_ble_eq_true rfl, Nat.le_of_ble_eq_true rfl⟩ ⟨Nat.zero_le _, Nat.zero_le _⟩ hl.1 (Nat.le_of_ble_eq_true rfl) dX12_wordOf_345 (fun H locs hH hS => ?_)
                                      exact r_lret X hr hH hS hm dX12_wordOf_348
                                    · have hm := m_ite_f hm c52
                                      by_cases c55 : i0 = (18 : Int32)
                                      · have hm := m_ite_t hm c55
                                        refine lv_tableIn (off := 348) (tgt := 349) hx hb dX12_wordOf_1 (by rw [c55]; decide) (by rw [c55]; decide) (by rw [c55]; rfl) (by decide) ?_
                                        refine lv_bipush (v := (102 : Int32)) hx hb dX12_wordOf_349 (by decide) ?_
                                        refine lv_bipush (v := (105 : Int32)) hx hb dX12_wordOf_351 (by decide) ?_
                                        refine lv_bipush (v := (108 : Int32)) hx hb dX12_wordOf_353 (by decide) ?_
                                        refine lv_bipush (v := (108 : Int32)) hx hb dX12_wordOf_355 (by decide) ?_
                                        refine lv_bipush (v := (101 : Int32)) hx hb dX12_wordOf_357 (by decide) ?_
                                        refine lv_bipush (v := (100 : Int32)) hx hb dX12_wordOf_359 (by decide) ?_
                                        obtain ⟨v57, S56, e_S56, hm⟩ := m_call_of hm
                                        refine n_cSl X hH hS (c_X12_spelt  hT  e_S56) mw_X12_spelt in_7_204 rfl ⟨rfl, rfl⟩ ⟨Nat.le_of_ble_eq_true rfl, Nat.le_of_ble_eq_true rfl⟩ ⟨Nat.zero_le _, Nat.zero_le _⟩ hl.1 (Nat.le_of_ble_eq_true rfl) dX12_wordOf_361 (fun H locs hH hS => ?_)
                                        exact r_lret X hr hH hS hm dX12_wordOf_364
                                      · have hm := m_ite_f hm c55
                                        by_cases c58 : i0 = (19 : Int32)
                                        · have hm := m_ite_t hm c58
                                          refine lv_tableIn (off := 364) (tgt := 365) hx hb dX12_wordOf_1 (by rw [c58]; decide) (by rw [c58]; decide) (by rw [c58]; rfl) (by decide) ?_
                                          refine lv_bipush (v := (99 : Int32)) hx hb dX12_wordOf_365 (by decide) ?_
                                          refine lv_bipush (v := (101 : Int32)) hx hb dX12_wordOf_367 (by decide) ?_
                                          refine lv_bipush (v := (108 : Int32)) hx hb dX12_wordOf_369 (by decide) ?_
                                          refine lv_bipush (v := (108 : Int32)) hx hb dX12_wordOf_371 (by decide) ?_
                                          refine lv_bipush (v := (115 : Int32)) hx hb dX12_wordOf_373 (by decide) ?_
                                          refine lv_iconst (v := (0 : Int32)) hx hb dX12_wordOf_375 (by decide) ?_
                                          obtain ⟨v60, S59, e_S59, hm⟩ := m_call_of hm
                                          refine n_cSl X hH hS (c_X12_spelt  hT  e_S59) mw_X12_spelt in_7_204 rfl ⟨rfl, rfl⟩ ⟨Nat.le_of_ble_eq_true rfl, Nat.le_of_ble_eq_true rfl⟩ ⟨Nat.zero_le _, Nat.zero_le _⟩ hl.1 (Nat.le_of_ble_eq_true rfl) dX12_wordOf_376 (fun H locs hH hS => ?_)
                                          exact r_lret X hr hH hS hm dX12_wordOf_379
                                        · have hm := m_ite_f hm c58
                                          by_cases c61 : i0 = (20 : Int32)
                                          · have hm := m_ite_t hm c61
                                            refine lv_tableIn (off := 379) (tgt := 380) hx hb dX12_wordOf_1 (by rw [c61]; decide) (by rw [c61]; decide) (by rw [c61]; rfl) (by decide) ?_
                                            refine lv_bipush (v := (114 : Int32)) hx hb dX12_wordOf_380 (by decide) ?_
                                            refine lv_bipush (v := (111 : Int32)) hx hb dX12_wordOf_382 (by decide) ?_
                                            refine lv_bipush (v := (111 : Int32)) hx hb dX12_wordOf_384 (by decide) ?_
                                            refine lv_bipush (v := (109 : Int32)) hx hb dX12_wordOf_386 (by decide) ?_
                                            refine lv_bipush (v := (115 : Int32)) hx hb dX12_wordOf_388 (by decide) ?_
                                            refine lv_iconst (v := (0 : Int32)) hx hb dX12_wordOf_390 (by decide) ?_
                                            obtain ⟨v63, S62, e_S62, hm⟩ := m_call_of hm
                                            refine n_cSl X hH hS (c_X12_spelt  hT  e_S62) mw_X12_spelt in_7_204 rfl ⟨rfl, rfl⟩ ⟨Nat.le_of_ble_eq_true rfl, Nat.le_of_ble_eq_true rfl⟩ ⟨Nat.zero_le _, Nat.zero_le _⟩ hl.1 (Nat.le_of_ble_eq_true rfl) dX12_wordOf_391 (fun H locs hH hS => ?_)
                                            exact r_lret X hr hH hS hm dX12_wordOf_394
                                          · have hm := m_ite_f hm c61
                                            refine lv_tableOut (tgt := 395) hx hb dX12_wordOf_1 (by have h_c1 := lv_neT (a := 0) c1 rfl; have h_c4 := lv_neT (a := 1) c4 rfl; have h_c7 := lv_neT (a := 2) c7 rfl; have h_c10 := lv_neT (a := 3) c10 rfl; have h_c13 := lv_neT (a := 4) c13 rfl; have h_c16 := lv_neT (a := 5) c16 rfl; have h_c19 := lv_neT (a := 6) c19 rfl; have h_c22 := lv_neT (a := 7) c22 rfl; have h_c25 := lv_neT (a := 8) c25 rfl; have h_c28 := lv_neT (a := 9) c28 rfl; have h_c31 := lv_neT (a := 10) c31 rfl; have h_c34 := lv_neT (a := 11) c34 rfl; have h_c37 := lv_neT (a := 12) c37 rfl; have h_c40 := lv_neT (a := 13) c40 rfl; have h_c43 := lv_neT (a := 14) c43 rfl; have h_c46 := lv_neT (a := 15) c46 rfl; have h_c49 := lv_neT (a := 16) c49 rfl; have h_c52 := lv_neT (a := 17) c52 rfl; have h_c55 := lv_neT (a := 18) c55 rfl; have h_c58 := lv_neT (a := 19) c58 rfl; have h_c61 := lv_neT (a := 20) c61 rfl; omega) (by decide) ?_
                                            refine lv_bipush (v := (110 : Int32)) hx hb dX12_wordOf_395 (by decide) ?_
                                            refine lv_bipush (v := (117 : Int32)) hx hb dX12_wordOf_397 (by decide) ?_
                                            refine lv_bipush (v := (109 : Int32)) hx hb dX12_wordOf_399 (by decide) ?_
                                            refine lv_bipush (v := (98 : Int32)) hx hb dX12_wordOf_401 (by decide) ?_
                                            refine lv_bipush (v := (101 : Int32)) hx hb dX12_wordOf_403 (by decide) ?_
                                            refine lv_bipush (v := (114 : Int32)) hx hb dX12_wordOf_405 (by decide) ?_
                                            obtain ⟨v65, S64, e_S64, hm⟩ := m_call_of hm
                                            refine n_cSl X hH hS (c_X12_spelt  hT  e_S64) mw_X12_spelt in_7_204 rfl ⟨rfl, rfl⟩ ⟨Nat.le_of_ble_eq_true rfl, Nat.le_of_ble_eq_true rfl⟩ ⟨Nat.zero_le _, Nat.zero_le _⟩ hl.1 (Nat.le_of_ble_eq_true rfl) dX12_wordOf_407 (fun H locs hH hS => ?_)
                                            exact r_lret X hr hH hS hm dX12_wordOf_410
def rm_X12_isWord : Room := { frames := 2, cells := 0, slots := 0, locals := 47 }
def b_X12_isWord_25 (a : Nat)  (S : m_M) (t0 : Int32) : Option (Int32 × m_M) :=
    if t0 = 0 ∨ t0 = 1 then some (t0, S) else none
set_option maxHeartbeats 4000000 in
set_option maxRecDepth 100000 in
theorem k_X12_isWord_25 {p : Program} {l : Launch} {e : Env} {s : State} {m : MethodId} {args : Array Value} {below : List Frame} {meth : Method} {c : Code} {G : m_G} {nx : Nat} {κ : Nat → Nat} {res : (Int32 × m_M)} {a : Nat} (X : m_Cx p s m args meth c cX12_isWord 2 RX12 G) (hr : meth.sig.returnType = (some .boolean)) (hT : m_Str κ) (hk_a : κ a = 13)  : ∀ (S : m_M) (t0 : Int32) (H : Heap) (locs : List Loc) (ls : Array Slot), m_H G nx κ S H → m_S G s H locs → lv_has ls 2 [] → b_X12_isWord_25 a S t0 = some res → W p l e rm_X12_isWord s m args below meth c H locs 0 0 (m_Qi below args s G nx κ res) (F0 m 25 ls [.int t0]) := by
  have hx := X.1.1
  have hb := X.1.2.1
  intro S t0 H locs ls hH hS hl hm
  rw [b_X12_isWord_25] at hm
  exact r_zret X hr hH hS hm dX12_isWord_25
def b_X12_isWord_24 (a : Nat)  (S : m_M)  : Option (Int32 × m_M) :=
    b_X12_isWord_25 a S (0 : Int32)
set_option maxHeartbeats 4000000 in
set_option maxRecDepth 100000 in
theorem k_X12_isWord_24 {p : Program} {l : Launch} {e : Env} {s : State} {m : MethodId} {args : Array Value} {below : List Frame} {meth : Method} {c : Code} {G : m_G} {nx : Nat} {κ : Nat → Nat} {res : (Int32 × m_M)} {a : Nat} (X : m_Cx p s m args meth c cX12_isWord 2 RX12 G) (hr : meth.sig.returnType = (some .boolean)) (hT : m_Str κ) (hk_a : κ a = 13)  : ∀ (S : m_M)  (H : Heap) (locs : List Loc) (ls : Array Slot), m_H G nx κ S H → m_S G s H locs → lv_has ls 2 [] → b_X12_isWord_24 a S  = some res → W p l e rm_X12_isWord s m args below meth c H locs 0 0 (m_Qi below args s G nx κ res) (F0 m 24 ls []) := by
  have hx := X.1.1
  have hb := X.1.2.1
  intro S H locs ls hH hS hl hm
  rw [b_X12_isWord_24] at hm
  refine lv_iconst (v := (0 : Int32)) hx hb dX12_isWord_24 (by decide) ?_
  exact k_X12_isWord_25 (a := a) X hr hT hk_a   S (0 : Int32) _ _ _ hH hS hl hm
def f_X12_isWord (a : Nat) (S : m_M) (i1 : Int32) : Option (Int32 × m_M) :=
    if (m_ri S a 7) = (2 : Int32) then (
    m_call (f_X12_wordOf S i1) fun v3 S2 =>
    if (lg_cmp (m_rj S a 12) v3) = 0 then (
    b_X12_isWord_25 a S2 (1 : Int32)) else (
    b_X12_isWord_24 a S2)) else (
    b_X12_isWord_24 a S)
set_option maxHeartbeats 4000000 in
set_option maxRecDepth 100000 in
theorem c_X12_isWord {l : Launch} {G : m_G} {nx : Nat} {κ : Nat → Nat} {a : Nat} {S : m_M} {i1 : Int32} {res : (Int32 × m_M)} (hT : m_Str κ) (hk_a : κ a = 13) (hm : f_X12_isWord a S i1 = some res) : m_Ci l yX12_isWord cX12_isWord 2 (some .boolean) rm_X12_isWord G nx κ [.ref a, .int i1] S res := by
  refine m_Ci.of (by decide) (Nat.le_of_ble_eq_true rfl) ?_
  intro p e s m args below meth c ls X hr hH hl
  have hx := X.1.1
  have hb := X.1.2.1
  have hS : m_S G s s.heap [] := va_S.rf
  have hl : lv_has ls 2 [(0, .ref a), (1, .int i1)] := hl
  rw [f_X12_isWord] at hm
  refine lv_aload_n hx hb dX12_isWord_0 rfl (lv_at hl 0 rfl) ?_
  refine r_geti X hH (k := 12) (a := a) (j := 7) hk_a (by decide) rfl m_wi12 (by decide) in_7_22 rfl rfl dX12_isWord_1 ?_
  refine lv_iconst (v := (2 : Int32)) hx hb dX12_isWord_4 (by decide) ?_
  refine lv_icmp_ne (tgt := 24) hx hb dX12_isWord_5 (by decide) (fun c1 => ?_) (fun c1 => ?_)
  · have hm := m_ite_f hm c1
    exact k_X12_isWord_24 (a := a) X hr hT hk_a   S _ _ _ hH hS (lv_sub hl [] rfl) hm
  · have hm := m_ite_t hm c1
    refine lv_aload_n hx hb dX12_isWord_8 rfl (lv_at hl 0 rfl) ?_
    refine r_getj X hH (k := 12) (a := a) (j := 12) hk_a (by decide) rfl m_wi12 (by decide) in_7_27 rfl rfl dX12_isWord_9 ?_
    refine lv_iload_n hx hb dX12_isWord_12 rfl (lv_at hl 1 rfl) ?_
    obtain ⟨v3, S2, e_S2, hm⟩ := m_call_of hm
    refine n_cSl X hH hS (c_X12_wordOf  hT  e_S2) mw_X12_wordOf in_7_201 rfl ⟨rfl, rfl⟩ ⟨Nat.le_of_ble_eq_true rfl, Nat.le_of_ble_eq_true rfl⟩ ⟨Nat.zero_le _, Nat.zero_le _⟩ hl.1 (Nat.le_of_ble_eq_true rfl) dX12_isWord_13 (fun H locs hH hS => ?_)
    refine W.lcmp hx hb dX12_isWord_16 ?_
    refine lv_if_ne (tgt := 24) hx hb dX12_isWord_17 (by decide) (fun c4 => ?_) (fun c4 => ?_)
    · have hm := m_ite_f hm c4
      exact k_X12_isWord_24 (a := a) X hr hT hk_a   S2 _ _ _ hH hS (lv_sub hl [] rfl) hm
    · have hm := m_ite_t hm c4
      refine lv_iconst (v := (1 : Int32)) hx hb dX12_isWord_20 (by decide) ?_
      refine lv_goto (tgt := 25) hx hb dX12_isWord_21 (by decide) ?_
      exact k_X12_isWord_25 (a := a) X hr hT hk_a   S2 (1 : Int32) _ _ _ hH hS (lv_sub hl [] rfl) hm
def rm_X12_isSign : Room := { frames := 0, cells := 0, slots := 0, locals := 0 }
def b_X12_isSign_21 (a : Nat)  (S : m_M) (t0 : Int32) : Option (Int32 × m_M) :=
    if t0 = 0 ∨ t0 = 1 then some (t0, S) else none
set_option maxHeartbeats 4000000 in
set_option maxRecDepth 100000 in
theorem k_X12_isSign_21 {p : Program} {l : Launch} {e : Env} {s : State} {m : MethodId} {args : Array Value} {below : List Frame} {meth : Method} {c : Code} {G : m_G} {nx : Nat} {κ : Nat → Nat} {res : (Int32 × m_M)} {a : Nat} (X : m_Cx p s m args meth c cX12_isSign 2 RX12 G) (hr : meth.sig.returnType = (some .boolean)) (hT : m_Str κ) (hk_a : κ a = 13)  : ∀ (S : m_M) (t0 : Int32) (H : Heap) (locs : List Loc) (ls : Array Slot), m_H G nx κ S H → m_S G s H locs → lv_has ls 2 [] → b_X12_isSign_21 a S t0 = some res → W p l e rm_X12_isSign s m args below meth c H locs 0 0 (m_Qi below args s G nx κ res) (F0 m 21 ls [.int t0]) := by
  have hx := X.1.1
  have hb := X.1.2.1
  intro S t0 H locs ls hH hS hl hm
  rw [b_X12_isSign_21] at hm
  exact r_zret X hr hH hS hm dX12_isSign_21
def b_X12_isSign_20 (a : Nat)  (S : m_M)  : Option (Int32 × m_M) :=
    b_X12_isSign_21 a S (0 : Int32)
set_option maxHeartbeats 4000000 in
set_option maxRecDepth 100000 in
theorem k_X12_isSign_20 {p : Program} {l : Launch} {e : Env} {s : State} {m : MethodId} {args : Array Value} {below : List Frame} {meth : Method} {c : Code} {G : m_G} {nx : Nat} {κ : Nat → Nat} {res : (Int32 × m_M)} {a : Nat} (X : m_Cx p s m args meth c cX12_isSign 2 RX12 G) (hr : meth.sig.returnType = (some .boolean)) (hT : m_Str κ) (hk_a : κ a = 13)  : ∀ (S : m_M)  (H : Heap) (locs : List Loc) (ls : Array Slot), m_H G nx κ S H → m_S G s H locs → lv_has ls 2 [] → b_X12_isSign_20 a S  = some res → W p l e rm_X12_isSign s m args below meth c H locs 0 0 (m_Qi below args s G nx κ res) (F0 m 20 ls []) := by
  have hx := X.1.1
  have hb := X.1.2.1
  intro S H locs ls hH hS hl hm
  rw [b_X12_isSign_20] at hm
  refine lv_iconst (v := (0 : Int32)) hx hb dX12_isSign_20 (by decide) ?_
  exact k_X12_isSign_21 (a := a) X hr hT hk_a   S (0 : Int32) _ _ _ hH hS hl hm
def f_X12_isSign (a : Nat) (S : m_M) (i1 : Int32) : Option (Int32 × m_M) :=
    if (m_ri S a 7) = (4 : Int32) then (
    if (m_ri S a 9) = i1 then (
    b_X12_isSign_21 a S (1 : Int32)) else (
    b_X12_isSign_20 a S)) else (
    b_X12_isSign_20 a S)
set_option maxHeartbeats 4000000 in
set_option maxRecDepth 100000 in
theorem c_X12_isSign {l : Launch} {G : m_G} {nx : Nat} {κ : Nat → Nat} {a : Nat} {S : m_M} {i1 : Int32} {res : (Int32 × m_M)} (hT : m_Str κ) (hk_a : κ a = 13) (hm : f_X12_isSign a S i1 = some res) : m_Ci l yX12_isSign cX12_isSign 2 (some .boolean) rm_X12_isSign G nx κ [.ref a, .int i1] S res := by
  refine m_Ci.of (by decide) (Nat.le_of_ble_eq_true rfl) ?_
  intro p e s m args below meth c ls X hr hH hl
  have hx := X.1.1
  have hb := X.1.2.1
  have hS : m_S G s s.heap [] := va_S.rf
  have hl : lv_has ls 2 [(0, .ref a), (1, .int i1)] := hl
  rw [f_X12_isSign] at hm
  refine lv_aload_n hx hb dX12_isSign_0 rfl (lv_at hl 0 rfl) ?_
  refine r_geti X hH (k := 12) (a := a) (j := 7) hk_a (by decide) rfl m_wi12 (by decide) in_7_22 rfl rfl dX12_isSign_1 ?_
  refine lv_iconst (v := (4 : Int32)) hx hb dX12_isSign_4 (by decide) ?_
  refine lv_icmp_ne (tgt := 20) hx hb dX12_isSign_5 (by decide) (fun c1 => ?_) (fun c1 => ?_)
  · have hm := m_ite_f hm c1
    exact k_X12_isSign_20 (a := a) X hr hT hk_a   S _ _ _ hH hS (lv_sub hl [] rfl) hm
  · have hm := m_ite_t hm c1
    refine lv_aload_n hx hb dX12_isSign_8 rfl (lv_at hl 0 rfl) ?_
    refine r_geti X hH (k := 12) (a := a) (j := 9) hk_a (by decide) rfl m_wi12 (by decide) in_7_24 rfl rfl dX12_isSign_9 ?_
    refine lv_iload_n hx hb dX12_isSign_12 rfl (lv_at hl 1 rfl) ?_
    refine lv_icmp_ne (tgt := 20) hx hb dX12_isSign_13 (by decide) (fun c2 => ?_) (fun c2 => ?_)
    · have hm := m_ite_f hm c2
      exact k_X12_isSign_20 (a := a) X hr hT hk_a   S _ _ _ hH hS (lv_sub hl [] rfl) hm
    · have hm := m_ite_t hm c2
      refine lv_iconst (v := (1 : Int32)) hx hb dX12_isSign_16 (by decide) ?_
      refine lv_goto (tgt := 21) hx hb dX12_isSign_17 (by decide) ?_
      exact k_X12_isSign_21 (a := a) X hr hT hk_a   S (1 : Int32) _ _ _ hH hS (lv_sub hl [] rfl) hm
def rm_X12_isName : Room := { frames := 2, cells := 0, slots := 0, locals := 47 }
def b_X12_isName_12 (a : Nat)  : Nat → m_M → Int32 → Option (Int32 × m_M)
  | 0, _, _ => none
  | n + 1, S, l1 =>
    if (21 : Int32) < l1 then (
    if (1 : Int32) = 0 ∨ (1 : Int32) = 1 then some ((1 : Int32), S) else none) else (
    m_call (f_X12_wordOf S l1) fun v3 S2 =>
    if (lg_cmp (m_rj S a 12) v3) = 0 then (
    if (0 : Int32) = 0 ∨ (0 : Int32) = 1 then some ((0 : Int32), S2) else none) else (
    m_let (l1 + (1 : Int32)) fun v5 =>
    b_X12_isName_12 a n S2 v5))
set_option maxHeartbeats 4000000 in
set_option maxRecDepth 100000 in
theorem k_X12_isName_12 {p : Program} {l : Launch} {e : Env} {s : State} {m : MethodId} {args : Array Value} {below : List Frame} {meth : Method} {c : Code} {G : m_G} {nx : Nat} {κ : Nat → Nat} {res : (Int32 × m_M)} {a : Nat} (X : m_Cx p s m args meth c cX12_isName 2 RX12 G) (hr : meth.sig.returnType = (some .boolean)) (hT : m_Str κ) (hk_a : κ a = 13)  (n : Nat) : ∀ (S : m_M) (l1 : Int32) (H : Heap) (locs : List Loc) (ls : Array Slot), m_H G nx κ S H → m_S G s H locs → lv_has ls 2 [(0, .ref a), (1, .int l1)] → b_X12_isName_12 a n S l1 = some res → W p l e rm_X12_isName s m args below meth c H locs 0 0 (m_Qi below args s G nx κ res) (F0 m 12 ls []) := by
  have hx := X.1.1
  have hb := X.1.2.1
  induction n with
  | zero => intro S l1 H locs ls hH hS hl hm; have hm : (none : Option (Int32 × m_M)) = some res := hm; cases hm
  | succ n ih =>
    intro S l1 H locs ls hH hS hl hm
    rw [b_X12_isName_12] at hm
    refine lv_iload_n hx hb dX12_isName_12 rfl (lv_at hl 1 rfl) ?_
    refine lv_bipush (v := (21 : Int32)) hx hb dX12_isName_13 (by decide) ?_
    refine lv_icmp_gt (tgt := 38) hx hb dX12_isName_15 (by decide) (fun c1 => ?_) (fun c1 => ?_)
    · have hm := m_ite_t hm c1
      refine lv_iconst (v := (1 : Int32)) hx hb dX12_isName_38 (by decide) ?_
      exact r_zret X hr hH hS hm dX12_isName_39
    · have hm := m_ite_f hm c1
      refine lv_aload_n hx hb dX12_isName_18 rfl (lv_at hl 0 rfl) ?_
      refine r_getj X hH (k := 12) (a := a) (j := 12) hk_a (by decide) rfl m_wi12 (by decide) in_7_27 rfl rfl dX12_isName_19 ?_
      refine lv_iload_n hx hb dX12_isName_22 rfl (lv_at hl 1 rfl) ?_
      obtain ⟨v3, S2, e_S2, hm⟩ := m_call_of hm
      refine n_cSl X hH hS (c_X12_wordOf  hT  e_S2) mw_X12_wordOf in_7_201 rfl ⟨rfl, rfl⟩ ⟨Nat.le_of_ble_eq_true rfl, Nat.le_of_ble_eq_true rfl⟩ ⟨Nat.zero_le _, Nat.zero_le _⟩ hl.1 (Nat.le_of_ble_eq_true rfl) dX12_isName_23 (fun H locs hH hS => ?_)
      refine W.lcmp hx hb dX12_isName_26 ?_
      refine lv_if_ne (tgt := 32) hx hb dX12_isName_27 (by decide) (fun c4 => ?_) (fun c4 => ?_)
      · have hm := m_ite_f hm c4
        obtain ⟨v5, e_v5, hm⟩ := m_let_of hm
        refine lv_iinc (v := v5) (lv' := [(1, .int v5), (0, .ref a)]) hx hb dX12_isName_32 hl (k := 1) rfl (by rw [← e_v5]; rfl) (by decide) rfl (fun ls hl => ?_)
        refine lv_goto (tgt := 12) hx hb dX12_isName_35 (by decide) ?_
        exact ih S2 v5 _ _ _ hH hS (lv_sub hl [1, 0] rfl) hm
      · have hm := m_ite_t hm c4
        refine lv_iconst (v := (0 : Int32)) hx hb dX12_isName_30 (by decide) ?_
        exact r_zret X hr hH hS hm dX12_isName_31
def f_X12_isName (a : Nat) (S : m_M)  : Option (Int32 × m_M) :=
    if (m_ri S a 7) = (2 : Int32) then (
    b_X12_isName_12 a m_fu S (0 : Int32)) else (
    if (0 : Int32) = 0 ∨ (0 : Int32) = 1 then some ((0 : Int32), S) else none)
set_option maxHeartbeats 4000000 in
set_option maxRecDepth 100000 in
theorem c_X12_isName {l : Launch} {G : m_G} {nx : Nat} {κ : Nat → Nat} {a : Nat} {S : m_M}  {res : (Int32 × m_M)} (hT : m_Str κ) (hk_a : κ a = 13) (hm : f_X12_isName a S = some res) : m_Ci l yX12_isName cX12_isName 2 (some .boolean) rm_X12_isName G nx κ [.ref a] S res := by
  refine m_Ci.of (by decide) (Nat.le_of_ble_eq_true rfl) ?_
  intro p e s m args below meth c ls X hr hH hl
  have hx := X.1.1
  have hb := X.1.2.1
  have hS : m_S G s s.heap [] := va_S.rf
  have hl : lv_has ls 2 [(0, .ref a)] := hl
  rw [f_X12_isName] at hm
  refine lv_aload_n hx hb dX12_isName_0 rfl (lv_at hl 0 rfl) ?_
  refine r_geti X hH (k := 12) (a := a) (j := 7) hk_a (by decide) rfl m_wi12 (by decide) in_7_22 rfl rfl dX12_isName_1 ?_
  refine lv_iconst (v := (2 : Int32)) hx hb dX12_isName_4 (by decide) ?_
  refine lv_icmp_eq (tgt := 10) hx hb dX12_isName_5 (by decide) (fun c1 => ?_) (fun c1 => ?_)
  · have hm := m_ite_t hm c1
    refine lv_iconst (v := (0 : Int32)) hx hb dX12_isName_10 (by decide) ?_
    refine lv_istore_n (lv' := [(1, .int (0 : Int32)), (0, .ref a)]) hx hb dX12_isName_11 rfl hl (by decide) rfl (fun ls hl => ?_)
    exact k_X12_isName_12 (a := a) X hr hT hk_a  m_fu S (0 : Int32) _ _ _ hH hS (lv_sub hl [1, 0] rfl) hm
  · have hm := m_ite_f hm c1
    refine lv_iconst (v := (0 : Int32)) hx hb dX12_isName_8 (by decide) ?_
    exact r_zret X hr hH hS hm dX12_isName_9
def rm_X12_bad : Room := { frames := 0, cells := 0, slots := 0, locals := 0 }
def b_X12_bad_14 (a : Nat)  (S : m_M) (t1 : Int32) : Option (Int32 × m_M) :=
    m_let (m_si S a 10 t1) fun S1 =>
    m_let (m_si S1 a 11 (m_ri S1 a 6)) fun S2 =>
    if (0 : Int32) = 0 ∨ (0 : Int32) = 1 then some ((0 : Int32), S2) else none
set_option maxHeartbeats 4000000 in
set_option maxRecDepth 100000 in
theorem k_X12_bad_14 {p : Program} {l : Launch} {e : Env} {s : State} {m : MethodId} {args : Array Value} {below : List Frame} {meth : Method} {c : Code} {G : m_G} {nx : Nat} {κ : Nat → Nat} {res : (Int32 × m_M)} {a : Nat} (X : m_Cx p s m args meth c cX12_bad 2 RX12 G) (hr : meth.sig.returnType = (some .boolean)) (hT : m_Str κ) (hk_a : κ a = 13)  : ∀ (S : m_M) (t1 : Int32) (H : Heap) (locs : List Loc) (ls : Array Slot), m_H G nx κ S H → m_S G s H locs → lv_has ls 2 [(0, .ref a)] → b_X12_bad_14 a S t1 = some res → W p l e rm_X12_bad s m args below meth c H locs 0 0 (m_Qi below args s G nx κ res) (F0 m 14 ls [.int t1, .ref a]) := by
  have hx := X.1.1
  have hb := X.1.2.1
  intro S t1 H locs ls hH hS hl hm
  rw [b_X12_bad_14] at hm
  obtain ⟨S1, e_S1, hm⟩ := m_let_of hm
  refine n_puti X hH hS tyX12 (k := 12) (a := a) (j := 10) hk_a (by decide) rfl m_wi12 tyX12_ok nmX12 (by decide) in_7_25 rfl rfl rfl ⟨rfl, rfl⟩ e_S1 dX12_bad_14 (fun H locs hH hS => ?_)
  refine lv_aload_n hx hb dX12_bad_17 rfl (lv_at hl 0 rfl) ?_
  refine lv_aload_n hx hb dX12_bad_18 rfl (lv_at hl 0 rfl) ?_
  refine r_geti X hH (k := 12) (a := a) (j := 6) hk_a (by decide) rfl m_wi12 (by decide) in_7_21 rfl rfl dX12_bad_19 ?_
  obtain ⟨S2, e_S2, hm⟩ := m_let_of hm
  refine n_puti X hH hS tyX12 (k := 12) (a := a) (j := 11) hk_a (by decide) rfl m_wi12 tyX12_ok nmX12 (by decide) in_7_26 rfl rfl rfl ⟨rfl, rfl⟩ e_S2 dX12_bad_22 (fun H locs hH hS => ?_)
  refine lv_iconst (v := (0 : Int32)) hx hb dX12_bad_25 (by decide) ?_
  exact r_zret X hr hH hS hm dX12_bad_26
def f_X12_bad (a : Nat) (S : m_M) (i1 : Int32) : Option (Int32 × m_M) :=
    if (m_ri S a 7) = (1 : Int32) then (
    b_X12_bad_14 a S (1 : Int32)) else (
    b_X12_bad_14 a S i1)
set_option maxHeartbeats 4000000 in
set_option maxRecDepth 100000 in
theorem c_X12_bad {l : Launch} {G : m_G} {nx : Nat} {κ : Nat → Nat} {a : Nat} {S : m_M} {i1 : Int32} {res : (Int32 × m_M)} (hT : m_Str κ) (hk_a : κ a = 13) (hm : f_X12_bad a S i1 = some res) : m_Ci l yX12_bad cX12_bad 2 (some .boolean) rm_X12_bad G nx κ [.ref a, .int i1] S res := by
  refine m_Ci.of (by decide) (Nat.le_of_ble_eq_true rfl) ?_
  intro p e s m args below meth c ls X hr hH hl
  have hx := X.1.1
  have hb := X.1.2.1
  have hS : m_S G s s.heap [] := va_S.rf
  have hl : lv_has ls 2 [(0, .ref a), (1, .int i1)] := hl
  rw [f_X12_bad] at hm
  refine lv_aload_n hx hb dX12_bad_0 rfl (lv_at hl 0 rfl) ?_
  refine lv_aload_n hx hb dX12_bad_1 rfl (lv_at hl 0 rfl) ?_
  refine r_geti X hH (k := 12) (a := a) (j := 7) hk_a (by decide) rfl m_wi12 (by decide) in_7_22 rfl rfl dX12_bad_2 ?_
  refine lv_iconst (v := (1 : Int32)) hx hb dX12_bad_5 (by decide) ?_
  refine lv_icmp_ne (tgt := 13) hx hb dX12_bad_6 (by decide) (fun c1 => ?_) (fun c1 => ?_)
  · have hm := m_ite_f hm c1
    refine lv_iload_n hx hb dX12_bad_13 rfl (lv_at hl 1 rfl) ?_
    exact k_X12_bad_14 (a := a) X hr hT hk_a   S i1 _ _ _ hH hS (lv_sub hl [0] rfl) hm
  · have hm := m_ite_t hm c1
    refine lv_iconst (v := (1 : Int32)) hx hb dX12_bad_9 (by decide) ?_
    refine lv_goto (tgt := 14) hx hb dX12_bad_10 (by decide) ?_
    exact k_X12_bad_14 (a := a) X hr hT hk_a   S (1 : Int32) _ _ _ hH hS (lv_sub hl [0] rfl) hm
def rm_X12_readNumber : Room := { frames := 2, cells := 0, slots := 0, locals := 45 }
def f_X12_readNumber (a : Nat) (S : m_M) (i1 : Int32) (i2 : Int32) : Option (Int32 × m_M) :=
    if (m_ri S a 7) = (3 : Int32) then (
    m_call (f_X12_isIn S (m_ri S a 8) i1 i2) fun v3 S2 =>
    if v3 = 0 then (
    m_call (f_X12_bad a S2 (2 : Int32)) fun v8 S7 =>
    if v8 = 0 ∨ v8 = 1 then some (v8, S7) else none) else (
    m_let (m_si S2 a 13 (m_ri S2 a 8)) fun S5 =>
    m_cal0 (f_X12_go a S5) fun S6 =>
    if (1 : Int32) = 0 ∨ (1 : Int32) = 1 then some ((1 : Int32), S6) else none)) else (
    m_call (f_X12_bad a S (1 : Int32)) fun v10 S9 =>
    if v10 = 0 ∨ v10 = 1 then some (v10, S9) else none)
set_option maxHeartbeats 4000000 in
set_option maxRecDepth 100000 in
theorem c_X12_readNumber {l : Launch} {G : m_G} {nx : Nat} {κ : Nat → Nat} {a : Nat} {S : m_M} {i1 : Int32} {i2 : Int32} {res : (Int32 × m_M)} (hT : m_Str κ) (hk_a : κ a = 13) (hm : f_X12_readNumber a S i1 i2 = some res) : m_Ci l yX12_readNumber cX12_readNumber 3 (some .boolean) rm_X12_readNumber G nx κ [.ref a, .int i1, .int i2] S res := by
  refine m_Ci.of (by decide) (Nat.le_of_ble_eq_true rfl) ?_
  intro p e s m args below meth c ls X hr hH hl
  have hx := X.1.1
  have hb := X.1.2.1
  have hS : m_S G s s.heap [] := va_S.rf
  have hl : lv_has ls 3 [(0, .ref a), (1, .int i1), (2, .int i2)] := hl
  rw [f_X12_readNumber] at hm
  refine lv_aload_n hx hb dX12_readNumber_0 rfl (lv_at hl 0 rfl) ?_
  refine r_geti X hH (k := 12) (a := a) (j := 7) hk_a (by decide) rfl m_wi12 (by decide) in_7_22 rfl rfl dX12_readNumber_1 ?_
  refine lv_iconst (v := (3 : Int32)) hx hb dX12_readNumber_4 (by decide) ?_
  refine lv_icmp_eq (tgt := 14) hx hb dX12_readNumber_5 (by decide) (fun c1 => ?_) (fun c1 => ?_)
  · have hm := m_ite_t hm c1
    refine lv_aload_n hx hb dX12_readNumber_14 rfl (lv_at hl 0 rfl) ?_
    refine r_geti X hH (k := 12) (a := a) (j := 8) hk_a (by decide) rfl m_wi12 (by decide) in_7_23 rfl rfl dX12_readNumber_15 ?_
    refine lv_iload_n hx hb dX12_readNumber_18 rfl (lv_at hl 1 rfl) ?_
    refine lv_iload_n hx hb dX12_readNumber_19 rfl (lv_at hl 2 rfl) ?_
    obtain ⟨v3, S2, e_S2, hm⟩ := m_call_of hm
    refine n_cSi X hH hS (c_X12_isIn  hT  e_S2) mw_X12_isIn in_8_42 rfl ⟨rfl, rfl⟩ ⟨Nat.le_of_ble_eq_true rfl, Nat.le_of_ble_eq_true rfl⟩ ⟨Nat.zero_le _, Nat.zero_le _⟩ hl.1 (Nat.le_of_ble_eq_true rfl) dX12_readNumber_20 (fun H locs hH hS => ?_)
    refine lv_if_ne (tgt := 32) hx hb dX12_readNumber_23 (by decide) (fun c4 => ?_) (fun c4 => ?_)
    · have hm := m_ite_f hm c4
      refine lv_aload_n hx hb dX12_readNumber_32 rfl (lv_at hl 0 rfl) ?_
      refine lv_aload_n hx hb dX12_readNumber_33 rfl (lv_at hl 0 rfl) ?_
      refine r_geti X hH (k := 12) (a := a) (j := 8) hk_a (by decide) rfl m_wi12 (by decide) in_7_23 rfl rfl dX12_readNumber_34 ?_
      obtain ⟨S5, e_S5, hm⟩ := m_let_of hm
      refine n_puti X hH hS tyX12 (k := 12) (a := a) (j := 13) hk_a (by decide) rfl m_wi12 tyX12_ok nmX12 (by decide) in_7_28 rfl rfl rfl ⟨rfl, rfl⟩ e_S5 dX12_readNumber_37 (fun H locs hH hS => ?_)
      refine lv_aload_n hx hb dX12_readNumber_40 rfl (lv_at hl 0 rfl) ?_
      obtain ⟨S6, e_S6, hm⟩ := m_cal0_of hm
      refine r_cVv X hH hS (k := 12) (c_X12_go (a := a) hT hk_a e_S6) mw_X12_go in_7_181 hk_a (by decide) rfl rfl rfl ⟨rfl, rfl⟩ ⟨Nat.le_of_ble_eq_true rfl, Nat.le_of_ble_eq_true rfl⟩ ⟨Nat.zero_le _, Nat.zero_le _⟩ hl.1 (Nat.le_of_ble_eq_true rfl) dX12_readNumber_41 (fun H locs hH hS => ?_)
      refine lv_iconst (v := (1 : Int32)) hx hb dX12_readNumber_44 (by decide) ?_
      exact r_zret X hr hH hS hm dX12_readNumber_45
    · have hm := m_ite_t hm c4
      refine lv_aload_n hx hb dX12_readNumber_26 rfl (lv_at hl 0 rfl) ?_
      refine lv_iconst (v := (2 : Int32)) hx hb dX12_readNumber_27 (by decide) ?_
      obtain ⟨v8, S7, e_S7, hm⟩ := m_call_of hm
      refine n_cVi X hH hS (k := 12) (c_X12_bad (a := a) hT hk_a e_S7) mw_X12_bad in_7_219 hk_a (by decide) rfl rfl rfl ⟨rfl, rfl⟩ ⟨Nat.le_of_ble_eq_true rfl, Nat.le_of_ble_eq_true rfl⟩ ⟨Nat.zero_le _, Nat.zero_le _⟩ hl.1 (Nat.le_of_ble_eq_true rfl) dX12_readNumber_28 (fun H locs hH hS => ?_)
      exact r_zret X hr hH hS hm dX12_readNumber_31
  · have hm := m_ite_f hm c1
    refine lv_aload_n hx hb dX12_readNumber_8 rfl (lv_at hl 0 rfl) ?_
    refine lv_iconst (v := (1 : Int32)) hx hb dX12_readNumber_9 (by decide) ?_
    obtain ⟨v10, S9, e_S9, hm⟩ := m_call_of hm
    refine n_cVi X hH hS (k := 12) (c_X12_bad (a := a) hT hk_a e_S9) mw_X12_bad in_7_219 hk_a (by decide) rfl rfl rfl ⟨rfl, rfl⟩ ⟨Nat.le_of_ble_eq_true rfl, Nat.le_of_ble_eq_true rfl⟩ ⟨Nat.zero_le _, Nat.zero_le _⟩ hl.1 (Nat.le_of_ble_eq_true rfl) dX12_readNumber_10 (fun H locs hH hS => ?_)
    exact r_zret X hr hH hS hm dX12_readNumber_13
def rm_X12_readEnd : Room := { frames := 2, cells := 0, slots := 0, locals := 45 }
def f_X12_readEnd (a : Nat) (S : m_M)  : Option (Int32 × m_M) :=
    m_call (f_X12_isSign a S (59 : Int32)) fun v2 S1 =>
    if v2 = 0 then (
    m_call (f_X12_bad a S1 (1 : Int32)) fun v6 S5 =>
    if v6 = 0 ∨ v6 = 1 then some (v6, S5) else none) else (
    m_cal0 (f_X12_go a S1) fun S4 =>
    if (1 : Int32) = 0 ∨ (1 : Int32) = 1 then some ((1 : Int32), S4) else none)
set_option maxHeartbeats 4000000 in
set_option maxRecDepth 100000 in
theorem c_X12_readEnd {l : Launch} {G : m_G} {nx : Nat} {κ : Nat → Nat} {a : Nat} {S : m_M}  {res : (Int32 × m_M)} (hT : m_Str κ) (hk_a : κ a = 13) (hm : f_X12_readEnd a S = some res) : m_Ci l yX12_readEnd cX12_readEnd 1 (some .boolean) rm_X12_readEnd G nx κ [.ref a] S res := by
  refine m_Ci.of (by decide) (Nat.le_of_ble_eq_true rfl) ?_
  intro p e s m args below meth c ls X hr hH hl
  have hx := X.1.1
  have hb := X.1.2.1
  have hS : m_S G s s.heap [] := va_S.rf
  have hl : lv_has ls 1 [(0, .ref a)] := hl
  rw [f_X12_readEnd] at hm
  refine lv_aload_n hx hb dX12_readEnd_0 rfl (lv_at hl 0 rfl) ?_
  refine lv_bipush (v := (59 : Int32)) hx hb dX12_readEnd_1 (by decide) ?_
  obtain ⟨v2, S1, e_S1, hm⟩ := m_call_of hm
  refine n_cVi X hH hS (k := 12) (c_X12_isSign (a := a) hT hk_a e_S1) mw_X12_isSign in_8_26 hk_a (by decide) rfl rfl rfl ⟨rfl, rfl⟩ ⟨Nat.le_of_ble_eq_true rfl, Nat.le_of_ble_eq_true rfl⟩ ⟨Nat.zero_le _, Nat.zero_le _⟩ hl.1 (Nat.le_of_ble_eq_true rfl) dX12_readEnd_3 (fun H locs hH hS => ?_)
  refine lv_if_ne (tgt := 15) hx hb dX12_readEnd_6 (by decide) (fun c3 => ?_) (fun c3 => ?_)
  · have hm := m_ite_f hm c3
    refine lv_aload_n hx hb dX12_readEnd_15 rfl (lv_at hl 0 rfl) ?_
    obtain ⟨S4, e_S4, hm⟩ := m_cal0_of hm
    refine r_cVv X hH hS (k := 12) (c_X12_go (a := a) hT hk_a e_S4) mw_X12_go in_7_181 hk_a (by decide) rfl rfl rfl ⟨rfl, rfl⟩ ⟨Nat.le_of_ble_eq_true rfl, Nat.le_of_ble_eq_true rfl⟩ ⟨Nat.zero_le _, Nat.zero_le _⟩ hl.1 (Nat.le_of_ble_eq_true rfl) dX12_readEnd_16 (fun H locs hH hS => ?_)
    refine lv_iconst (v := (1 : Int32)) hx hb dX12_readEnd_19 (by decide) ?_
    exact r_zret X hr hH hS hm dX12_readEnd_20
  · have hm := m_ite_t hm c3
    refine lv_aload_n hx hb dX12_readEnd_9 rfl (lv_at hl 0 rfl) ?_
    refine lv_iconst (v := (1 : Int32)) hx hb dX12_readEnd_10 (by decide) ?_
    obtain ⟨v6, S5, e_S5, hm⟩ := m_call_of hm
    refine n_cVi X hH hS (k := 12) (c_X12_bad (a := a) hT hk_a e_S5) mw_X12_bad in_7_219 hk_a (by decide) rfl rfl rfl ⟨rfl, rfl⟩ ⟨Nat.le_of_ble_eq_true rfl, Nat.le_of_ble_eq_true rfl⟩ ⟨Nat.zero_le _, Nat.zero_le _⟩ hl.1 (Nat.le_of_ble_eq_true rfl) dX12_readEnd_11 (fun H locs hH hS => ?_)
    exact r_zret X hr hH hS hm dX12_readEnd_14
def rm_X12_begin : Room := { frames := 2, cells := 0, slots := 0, locals := 45 }
def f_X12_begin (a : Nat) (S : m_M) (i1 : Int32) : Option m_M :=
    m_let (m_si S a 0 (0 : Int32)) fun S1 =>
    m_call (f_X12_take a S1) fun v3 S2 =>
    m_let (m_si S2 a 3 v3) fun S4 =>
    m_let (m_si S4 a 4 i1) fun S5 =>
    m_let (m_si S5 a 10 (0 : Int32)) fun S6 =>
    m_let (m_si S6 a 5 (0 : Int32)) fun S7 =>
    m_cal0 (f_X12_go a S7) fun S8 =>
    some S8
set_option maxHeartbeats 4000000 in
set_option maxRecDepth 100000 in
theorem c_X12_begin {l : Launch} {G : m_G} {nx : Nat} {κ : Nat → Nat} {a : Nat} {S : m_M} {i1 : Int32} {res : m_M} (hT : m_Str κ) (hk_a : κ a = 13) (hm : f_X12_begin a S i1 = some res) : m_Cv l yX12_begin cX12_begin 2 rm_X12_begin G nx κ [.ref a, .int i1] S res := by
  refine m_Cv.of (by decide) (Nat.le_of_ble_eq_true rfl) ?_
  intro p e s m args below meth c ls X hr hH hl
  have hx := X.1.1
  have hb := X.1.2.1
  have hS : m_S G s s.heap [] := va_S.rf
  have hl : lv_has ls 2 [(0, .ref a), (1, .int i1)] := hl
  rw [f_X12_begin] at hm
  refine lv_aload_n hx hb dX12_begin_0 rfl (lv_at hl 0 rfl) ?_
  refine lv_iconst (v := (0 : Int32)) hx hb dX12_begin_1 (by decide) ?_
  obtain ⟨S1, e_S1, hm⟩ := m_let_of hm
  refine n_puti X hH hS tyX12 (k := 12) (a := a) (j := 0) hk_a (by decide) rfl m_wi12 tyX12_ok nmX12 (by decide) in_7_15 rfl rfl rfl ⟨rfl, rfl⟩ e_S1 dX12_begin_2 (fun H locs hH hS => ?_)
  refine lv_aload_n hx hb dX12_begin_5 rfl (lv_at hl 0 rfl) ?_
  refine lv_aload_n hx hb dX12_begin_6 rfl (lv_at hl 0 rfl) ?_
  obtain ⟨v3, S2, e_S2, hm⟩ := m_call_of hm
  refine n_cVi X hH hS (k := 12) (c_X12_take (a := a) hT hk_a e_S2) mw_X12_take in_7_177 hk_a (by decide) rfl rfl rfl ⟨rfl, rfl⟩ ⟨Nat.le_of_ble_eq_true rfl, Nat.le_of_ble_eq_true rfl⟩ ⟨Nat.zero_le _, Nat.zero_le _⟩ hl.1 (Nat.le_of_ble_eq_true rfl) dX12_begin_7 (fun H locs hH hS => ?_)
  obtain ⟨S4, e_S4, hm⟩ := m_let_of hm
  refine n_puti X hH hS tyX12 (k := 12) (a := a) (j := 3) hk_a (by decide) rfl m_wi12 tyX12_ok nmX12 (by decide) in_7_18 rfl rfl rfl ⟨rfl, rfl⟩ e_S4 dX12_begin_10 (fun H locs hH hS => ?_)
  refine lv_aload_n hx hb dX12_begin_13 rfl (lv_at hl 0 rfl) ?_
  refine lv_iload_n hx hb dX12_begin_14 rfl (lv_at hl 1 rfl) ?_
  obtain ⟨S5, e_S5, hm⟩ := m_let_of hm
  refine n_puti X hH hS tyX12 (k := 12) (a := a) (j := 4) hk_a (by decide) rfl m_wi12 tyX12_ok nmX12 (by decide) in_7_19 rfl rfl rfl ⟨rfl, rfl⟩ e_S5 dX12_begin_15 (fun H locs hH hS => ?_)
  refine lv_aload_n hx hb dX12_begin_18 rfl (lv_at hl 0 rfl) ?_
  refine lv_iconst (v := (0 : Int32)) hx hb dX12_begin_19 (by decide) ?_
  obtain ⟨S6, e_S6, hm⟩ := m_let_of hm
  refine n_puti X hH hS tyX12 (k := 12) (a := a) (j := 10) hk_a (by decide) rfl m_wi12 tyX12_ok nmX12 (by decide) in_7_25 rfl rfl rfl ⟨rfl, rfl⟩ e_S6 dX12_begin_20 (fun H locs hH hS => ?_)
  refine lv_aload_n hx hb dX12_begin_23 rfl (lv_at hl 0 rfl) ?_
  refine lv_iconst (v := (0 : Int32)) hx hb dX12_begin_24 (by decide) ?_
  obtain ⟨S7, e_S7, hm⟩ := m_let_of hm
  refine n_puti X hH hS tyX12 (k := 12) (a := a) (j := 5) hk_a (by decide) rfl m_wi12 tyX12_ok nmX12 (by decide) in_7_20 rfl rfl rfl ⟨rfl, rfl⟩ e_S7 dX12_begin_25 (fun H locs hH hS => ?_)
  refine lv_aload_n hx hb dX12_begin_28 rfl (lv_at hl 0 rfl) ?_
  obtain ⟨S8, e_S8, hm⟩ := m_cal0_of hm
  refine r_cVv X hH hS (k := 12) (c_X12_go (a := a) hT hk_a e_S8) mw_X12_go in_7_181 hk_a (by decide) rfl rfl rfl ⟨rfl, rfl⟩ ⟨Nat.le_of_ble_eq_true rfl, Nat.le_of_ble_eq_true rfl⟩ ⟨Nat.zero_le _, Nat.zero_le _⟩ hl.1 (Nat.le_of_ble_eq_true rfl) dX12_begin_29 (fun H locs hH hS => ?_)
  exact r_vret X hr hH hS hm dX12_begin_32
def rm_X12_madeBy : Room := { frames := 0, cells := 0, slots := 0, locals := 0 }
def f_X12_madeBy (a : Nat) (S : m_M) (i1 : Int32) (i2 : Int32) : Option (Int32 × m_M) :=
    (m_ldi S (a + 2) 2647 ((3 : Int32) + i1)).bind fun v1 =>
    (m_ldi S (a + 2) 2647 ((8 : Int32) + i1)).bind fun v2 =>
    some (((v1 + i2) - v2), S)
set_option maxHeartbeats 4000000 in
set_option maxRecDepth 100000 in
theorem c_X12_madeBy {l : Launch} {G : m_G} {nx : Nat} {κ : Nat → Nat} {a : Nat} {S : m_M} {i1 : Int32} {i2 : Int32} {res : (Int32 × m_M)} (hT : m_Str κ) (hk_a : κ a = 13) (hm : f_X12_madeBy a S i1 i2 = some res) : m_Ci l yX12_madeBy cX12_madeBy 3 (some .int) rm_X12_madeBy G nx κ [.ref a, .int i1, .int i2] S res := by
  refine m_Ci.of (by decide) (Nat.le_of_ble_eq_true rfl) ?_
  intro p e s m args below meth c ls X hr hH hl
  have hx := X.1.1
  have hb := X.1.2.1
  have hS : m_S G s s.heap [] := va_S.rf
  have hl : lv_has ls 3 [(0, .ref a), (1, .int i1), (2, .int i2)] := hl
  rw [f_X12_madeBy] at hm
  refine lv_aload_n hx hb dX12_madeBy_0 rfl (lv_at hl 0 rfl) ?_
  refine r_getp X hH (k := 12) (a := a) (j := 14) (b := (a + 2)) (A := 2) (B := 0) hk_a (by decide) rfl m_wi12 (by decide) in_7_29 rfl rfl rfl dX12_madeBy_1 ?_
  refine lv_iconst (v := (3 : Int32)) hx hb dX12_madeBy_4 (by decide) ?_
  refine lv_iload_n hx hb dX12_madeBy_5 rfl (lv_at hl 1 rfl) ?_
  refine lv_iadd hx hb dX12_madeBy_6 ?_
  obtain ⟨v1, h_v1, e_v1, hm⟩ := n_ldi hm
  refine n_iald X hH (n := 2647) (m_lay_at hT hk_a (by decide) (i := 2) rfl) h_v1 e_v1 dX12_madeBy_7 ?_
  refine lv_iload_n hx hb dX12_madeBy_8 rfl (lv_at hl 2 rfl) ?_
  refine lv_iadd hx hb dX12_madeBy_9 ?_
  refine lv_aload_n hx hb dX12_madeBy_10 rfl (lv_at hl 0 rfl) ?_
  refine r_getp X hH (k := 12) (a := a) (j := 14) (b := (a + 2)) (A := 2) (B := 0) hk_a (by decide) rfl m_wi12 (by decide) in_7_29 rfl rfl rfl dX12_madeBy_11 ?_
  refine lv_bipush (v := (8 : Int32)) hx hb dX12_madeBy_14 (by decide) ?_
  refine lv_iload_n hx hb dX12_madeBy_16 rfl (lv_at hl 1 rfl) ?_
  refine lv_iadd hx hb dX12_madeBy_17 ?_
  obtain ⟨v2, h_v2, e_v2, hm⟩ := n_ldi hm
  refine n_iald X hH (n := 2647) (m_lay_at hT hk_a (by decide) (i := 2) rfl) h_v2 e_v2 dX12_madeBy_18 ?_
  refine lv_isub hx hb dX12_madeBy_19 ?_
  exact r_iret X hr hH hS hm dX12_madeBy_20
def rm_X12_node : Room := { frames := 0, cells := 0, slots := 0, locals := 0 }
def f_X12_node (a : Nat) (S : m_M) (i1 : Int32) (i2 : Int32) : Option (Int32 × m_M) :=
    some ((((27 : Int32) * i1) + i2), S)
set_option maxHeartbeats 4000000 in
set_option maxRecDepth 100000 in
theorem c_X12_node {l : Launch} {G : m_G} {nx : Nat} {κ : Nat → Nat} {a : Nat} {S : m_M} {i1 : Int32} {i2 : Int32} {res : (Int32 × m_M)} (hT : m_Str κ) (hk_a : κ a = 13) (hm : f_X12_node a S i1 i2 = some res) : m_Ci l yX12_node cX12_node 3 (some .int) rm_X12_node G nx κ [.ref a, .int i1, .int i2] S res := by
  refine m_Ci.of (by decide) (Nat.le_of_ble_eq_true rfl) ?_
  intro p e s m args below meth c ls X hr hH hl
  have hx := X.1.1
  have hb := X.1.2.1
  have hS : m_S G s s.heap [] := va_S.rf
  have hl : lv_has ls 3 [(0, .ref a), (1, .int i1), (2, .int i2)] := hl
  rw [f_X12_node] at hm
  refine lv_bipush (v := (27 : Int32)) hx hb dX12_node_0 (by decide) ?_
  refine lv_iload_n hx hb dX12_node_2 rfl (lv_at hl 1 rfl) ?_
  refine lv_imul hx hb dX12_node_3 ?_
  refine lv_iload_n hx hb dX12_node_4 rfl (lv_at hl 2 rfl) ?_
  refine lv_iadd hx hb dX12_node_5 ?_
  exact r_iret X hr hH hS hm dX12_node_6
def rm_X12_var : Room := { frames := 0, cells := 0, slots := 0, locals := 0 }
def f_X12_var (a : Nat) (S : m_M) (i1 : Int32) (i2 : Int32) : Option (Int32 × m_M) :=
    (m_ldi S (a + 2) 2647 (((66 : Int32) + ((5 : Int32) * i1)) + i2)).bind fun v1 =>
    some (v1, S)
set_option maxHeartbeats 4000000 in
set_option maxRecDepth 100000 in
theorem c_X12_var {l : Launch} {G : m_G} {nx : Nat} {κ : Nat → Nat} {a : Nat} {S : m_M} {i1 : Int32} {i2 : Int32} {res : (Int32 × m_M)} (hT : m_Str κ) (hk_a : κ a = 13) (hm : f_X12_var a S i1 i2 = some res) : m_Ci l yX12_var cX12_var 3 (some .int) rm_X12_var G nx κ [.ref a, .int i1, .int i2] S res := by
  refine m_Ci.of (by decide) (Nat.le_of_ble_eq_true rfl) ?_
  intro p e s m args below meth c ls X hr hH hl
  have hx := X.1.1
  have hb := X.1.2.1
  have hS : m_S G s s.heap [] := va_S.rf
  have hl : lv_has ls 3 [(0, .ref a), (1, .int i1), (2, .int i2)] := hl
  rw [f_X12_var] at hm
  refine lv_aload_n hx hb dX12_var_0 rfl (lv_at hl 0 rfl) ?_
  refine r_getp X hH (k := 12) (a := a) (j := 14) (b := (a + 2)) (A := 2) (B := 0) hk_a (by decide) rfl m_wi12 (by decide) in_7_29 rfl rfl rfl dX12_var_1 ?_
  refine lv_bipush (v := (66 : Int32)) hx hb dX12_var_4 (by decide) ?_
  refine lv_iconst (v := (5 : Int32)) hx hb dX12_var_6 (by decide) ?_
  refine lv_iload_n hx hb dX12_var_7 rfl (lv_at hl 1 rfl) ?_
  refine lv_imul hx hb dX12_var_8 ?_
  refine lv_iadd hx hb dX12_var_9 ?_
  refine lv_iload_n hx hb dX12_var_10 rfl (lv_at hl 2 rfl) ?_
  refine lv_iadd hx hb dX12_var_11 ?_
  obtain ⟨v1, h_v1, e_v1, hm⟩ := n_ldi hm
  refine n_iald X hH (n := 2647) (m_lay_at hT hk_a (by decide) (i := 2) rfl) h_v1 e_v1 dX12_var_12 ?_
  exact r_iret X hr hH hS hm dX12_var_13
def rm_X12_topOf : Room := { frames := 0, cells := 0, slots := 0, locals := 0 }
def b_X12_topOf_2 (a : Nat)  : Nat → m_M → Int32 → Option (Int32 × m_M)
  | 0, _, _ => none
  | n + 1, S, l2 =>
    (m_ldi S (a + 12) 183 l2).bind fun v1 =>
    if v1 = l2 then (
    some (l2, S)) else (
    (m_ldi S (a + 12) 183 l2).bind fun v3 =>
    b_X12_topOf_2 a n S v3)
set_option maxHeartbeats 4000000 in
set_option maxRecDepth 100000 in
theorem k_X12_topOf_2 {p : Program} {l : Launch} {e : Env} {s : State} {m : MethodId} {args : Array Value} {below : List Frame} {meth : Method} {c : Code} {G : m_G} {nx : Nat} {κ : Nat → Nat} {res : (Int32 × m_M)} {a : Nat} (X : m_Cx p s m args meth c cX12_topOf 3 RX12 G) (hr : meth.sig.returnType = (some .int)) (hT : m_Str κ) (hk_a : κ a = 13)  (n : Nat) : ∀ (S : m_M) (l2 : Int32) (H : Heap) (locs : List Loc) (ls : Array Slot), m_H G nx κ S H → m_S G s H locs → lv_has ls 3 [(0, .ref a), (2, .int l2)] → b_X12_topOf_2 a n S l2 = some res → W p l e rm_X12_topOf s m args below meth c H locs 0 0 (m_Qi below args s G nx κ res) (F0 m 2 ls []) := by
  have hx := X.1.1
  have hb := X.1.2.1
  induction n with
  | zero => intro S l2 H locs ls hH hS hl hm; have hm : (none : Option (Int32 × m_M)) = some res := hm; cases hm
  | succ n ih =>
    intro S l2 H locs ls hH hS hl hm
    rw [b_X12_topOf_2] at hm
    refine lv_aload_n hx hb dX12_topOf_2 rfl (lv_at hl 0 rfl) ?_
    refine r_getp X hH (k := 12) (a := a) (j := 25) (b := (a + 12)) (A := 12) (B := 0) hk_a (by decide) rfl m_wi12 (by decide) in_7_40 rfl rfl rfl dX12_topOf_3 ?_
    refine lv_iload_n hx hb dX12_topOf_6 rfl (lv_at hl 1 rfl) ?_
    obtain ⟨v1, h_v1, e_v1, hm⟩ := n_ldi hm
    refine n_iald X hH (n := 183) (m_lay_at hT hk_a (by decide) (i := 12) rfl) h_v1 e_v1 dX12_topOf_7 ?_
    refine lv_iload_n hx hb dX12_topOf_8 rfl (lv_at hl 1 rfl) ?_
    refine lv_icmp_eq (tgt := 22) hx hb dX12_topOf_9 (by decide) (fun c2 => ?_) (fun c2 => ?_)
    · have hm := m_ite_t hm c2
      refine lv_iload_n hx hb dX12_topOf_22 rfl (lv_at hl 1 rfl) ?_
      exact r_iret X hr hH hS hm dX12_topOf_23
    · have hm := m_ite_f hm c2
      refine lv_aload_n hx hb dX12_topOf_12 rfl (lv_at hl 0 rfl) ?_
      refine r_getp X hH (k := 12) (a := a) (j := 25) (b := (a + 12)) (A := 12) (B := 0) hk_a (by decide) rfl m_wi12 (by decide) in_7_40 rfl rfl rfl dX12_topOf_13 ?_
      refine lv_iload_n hx hb dX12_topOf_16 rfl (lv_at hl 1 rfl) ?_
      obtain ⟨v3, h_v3, e_v3, hm⟩ := n_ldi hm
      refine n_iald X hH (n := 183) (m_lay_at hT hk_a (by decide) (i := 12) rfl) h_v3 e_v3 dX12_topOf_17 ?_
      refine lv_istore_n (lv' := [(2, .int v3), (0, .ref a)]) hx hb dX12_topOf_18 rfl hl (by decide) rfl (fun ls hl => ?_)
      refine lv_goto (tgt := 2) hx hb dX12_topOf_19 (by decide) ?_
      exact ih S v3 _ _ _ hH hS (lv_sub hl [1, 0] rfl) hm
def f_X12_topOf (a : Nat) (S : m_M) (i1 : Int32) : Option (Int32 × m_M) :=
    b_X12_topOf_2 a m_fu S i1
set_option maxHeartbeats 4000000 in
set_option maxRecDepth 100000 in
theorem c_X12_topOf {l : Launch} {G : m_G} {nx : Nat} {κ : Nat → Nat} {a : Nat} {S : m_M} {i1 : Int32} {res : (Int32 × m_M)} (hT : m_Str κ) (hk_a : κ a = 13) (hm : f_X12_topOf a S i1 = some res) : m_Ci l yX12_topOf cX12_topOf 3 (some .int) rm_X12_topOf G nx κ [.ref a, .int i1] S res := by
  refine m_Ci.of (by decide) (Nat.le_of_ble_eq_true rfl) ?_
  intro p e s m args below meth c ls X hr hH hl
  have hx := X.1.1
  have hb := X.1.2.1
  have hS : m_S G s s.heap [] := va_S.rf
  have hl : lv_has ls 3 [(0, .ref a), (1, .int i1)] := hl
  rw [f_X12_topOf] at hm
  refine lv_iload_n hx hb dX12_topOf_0 rfl (lv_at hl 1 rfl) ?_
  refine lv_istore_n (lv' := [(2, .int i1), (0, .ref a), (1, .int i1)]) hx hb dX12_topOf_1 rfl hl (by decide) rfl (fun ls hl => ?_)
  exact k_X12_topOf_2 (a := a) X hr hT hk_a  m_fu S i1 _ _ _ hH hS (lv_sub hl [1, 0] rfl) hm
def rm_X12_sideNode : Room := { frames := 0, cells := 0, slots := 0, locals := 0 }
def f_X12_sideNode (a : Nat) (S : m_M) (i1 : Int32) (i2 : Int32) : Option (Int32 × m_M) :=
    some ((((135 : Int32) + ((2 : Int32) * i1)) + i2), S)
set_option maxHeartbeats 4000000 in
set_option maxRecDepth 100000 in
theorem c_X12_sideNode {l : Launch} {G : m_G} {nx : Nat} {κ : Nat → Nat} {a : Nat} {S : m_M} {i1 : Int32} {i2 : Int32} {res : (Int32 × m_M)} (hT : m_Str κ) (hk_a : κ a = 13) (hm : f_X12_sideNode a S i1 i2 = some res) : m_Ci l yX12_sideNode cX12_sideNode 3 (some .int) rm_X12_sideNode G nx κ [.ref a, .int i1, .int i2] S res := by
  refine m_Ci.of (by decide) (Nat.le_of_ble_eq_true rfl) ?_
  intro p e s m args below meth c ls X hr hH hl
  have hx := X.1.1
  have hb := X.1.2.1
  have hS : m_S G s s.heap [] := va_S.rf
  have hl : lv_has ls 3 [(0, .ref a), (1, .int i1), (2, .int i2)] := hl
  rw [f_X12_sideNode] at hm
  refine lv_sipush (v := (135 : Int32)) hx hb dX12_sideNode_0 (by decide) ?_
  refine lv_iconst (v := (2 : Int32)) hx hb dX12_sideNode_3 (by decide) ?_
  refine lv_iload_n hx hb dX12_sideNode_4 rfl (lv_at hl 1 rfl) ?_
  refine lv_imul hx hb dX12_sideNode_5 ?_
  refine lv_iadd hx hb dX12_sideNode_6 ?_
  refine lv_iload_n hx hb dX12_sideNode_7 rfl (lv_at hl 2 rfl) ?_
  refine lv_iadd hx hb dX12_sideNode_8 ?_
  exact r_iret X hr hH hS hm dX12_sideNode_9
def rm_X12_join_ (r : Room) : Room := { frames := r.frames + 1, cells := 0, slots := 0, locals := r.locals + 26 }
def b_X12_join_71 (F : Nat → m_M → Int32 → Int32 → Option m_M) (a : Nat)  (S : m_M)  : Option m_M :=
    some S
set_option maxHeartbeats 4000000 in
set_option maxRecDepth 100000 in
theorem k_X12_join_71 {p : Program} {l : Launch} {e : Env} {s : State} {m : MethodId} {args : Array Value} {below : List Frame} {meth : Method} {c : Code} {G : m_G} {nx : Nat} {κ : Nat → Nat} {res : m_M} {F : Nat → m_M → Int32 → Int32 → Option m_M} {a : Nat} (X : m_Cx p s m args meth c cX12_join 7 RX12 G) (hr : meth.sig.returnType = none) (hT : m_Str κ) (rF : Room) (hrF : rF.cells = 0 ∧ rF.slots = 0) (hF : ∀ (a : Nat) (S : m_M) (i1 : Int32) (i2 : Int32) (res : m_M), κ a = 13 → F a S i1 i2 = some res → m_Cv l yX12_join cX12_join 7 rF G nx κ [.ref a, .int i1, .int i2] S res) (hk_a : κ a = 13)  : ∀ (S : m_M)  (H : Heap) (locs : List Loc) (ls : Array Slot), m_H G nx κ S H → m_S G s H locs → lv_has ls 7 [] → b_X12_join_71 F a S  = some res → W p l e (rm_X12_join_ rF) s m args below meth c H locs 0 0 (m_Qv below args s G nx κ res) (F0 m 71 ls []) := by
  have hx := X.1.1
  have hb := X.1.2.1
  intro S H locs ls hH hS hl hm
  rw [b_X12_join_71] at hm
  exact r_vret X hr hH hS hm dX12_join_71
def b_X12_join_59 (F : Nat → m_M → Int32 → Int32 → Option m_M) (a : Nat)  (S : m_M) (l5 : Int32) (l6 : Int32) : Option m_M :=
    if l5 = (-1 : Int32) then (
    b_X12_join_71 F a S) else (
    if l6 = (-1 : Int32) then (
    b_X12_join_71 F a S) else (
    m_call (f_X12_sideNode a S l5 (0 : Int32)) fun v4 S3 =>
    m_call (f_X12_sideNode a S3 l6 (0 : Int32)) fun v6 S5 =>
    m_cal0 (F a S5 v4 v6) fun S7 =>
    m_call (f_X12_sideNode a S7 l5 (1 : Int32)) fun v9 S8 =>
    m_call (f_X12_sideNode a S8 l6 (1 : Int32)) fun v11 S10 =>
    m_cal0 (F a S10 v9 v11) fun S12 =>
    some S12))
set_option maxHeartbeats 4000000 in
set_option maxRecDepth 100000 in
theorem k_X12_join_59 {p : Program} {l : Launch} {e : Env} {s : State} {m : MethodId} {args : Array Value} {below : List Frame} {meth : Method} {c : Code} {G : m_G} {nx : Nat} {κ : Nat → Nat} {res : m_M} {F : Nat → m_M → Int32 → Int32 → Option m_M} {a : Nat} (X : m_Cx p s m args meth c cX12_join 7 RX12 G) (hr : meth.sig.returnType = none) (hT : m_Str κ) (rF : Room) (hrF : rF.cells = 0 ∧ rF.slots = 0) (hF : ∀ (a : Nat) (S : m_M) (i1 : Int32) (i2 : Int32) (res : m_M), κ a = 13 → F a S i1 i2 = some res → m_Cv l yX12_join cX12_join 7 rF G nx κ [.ref a, .int i1, .int i2] S res) (hk_a : κ a = 13)  : ∀ (S : m_M) (l5 : Int32) (l6 : Int32) (H : Heap) (locs : List Loc) (ls : Array Slot), m_H G nx κ S H → m_S G s H locs → lv_has ls 7 [(0, .ref a), (5, .int l5), (6, .int l6)] → b_X12_join_59 F a S l5 l6 = some res → W p l e (rm_X12_join_ rF) s m args below meth c H locs 0 0 (m_Qv below args s G nx κ res) (F0 m 59 ls []) := by
  have hx := X.1.1
  have hb := X.1.2.1
  intro S l5 l6 H locs ls hH hS hl hm
  rw [b_X12_join_59] at hm
  refine lv_iload hx hb dX12_join_59 (lv_at hl 1 rfl) ?_
  refine lv_iconst (v := (-1 : Int32)) hx hb dX12_join_61 (by decide) ?_
  refine lv_icmp_eq (tgt := 71) hx hb dX12_join_62 (by decide) (fun c1 => ?_) (fun c1 => ?_)
  · have hm := m_ite_t hm c1
    exact k_X12_join_71 (F := F) (a := a) X hr hT rF hrF hF hk_a   S _ _ _ hH hS (lv_sub hl [] rfl) hm
  · have hm := m_ite_f hm c1
    refine lv_iload hx hb dX12_join_65 (lv_at hl 2 rfl) ?_
    refine lv_iconst (v := (-1 : Int32)) hx hb dX12_join_67 (by decide) ?_
    refine lv_icmp_ne (tgt := 72) hx hb dX12_join_68 (by decide) (fun c2 => ?_) (fun c2 => ?_)
    · have hm := m_ite_f hm c2
      refine lv_aload_n hx hb dX12_join_72 rfl (lv_at hl 0 rfl) ?_
      refine lv_aload_n hx hb dX12_join_73 rfl (lv_at hl 0 rfl) ?_
      refine lv_iload hx hb dX12_join_74 (lv_at hl 1 rfl) ?_
      refine lv_iconst (v := (0 : Int32)) hx hb dX12_join_76 (by decide) ?_
      obtain ⟨v4, S3, e_S3, hm⟩ := m_call_of hm
      refine n_cVi X hH hS (k := 12) (c_X12_sideNode (a := a) hT hk_a e_S3) mw_X12_sideNode in_6_216 hk_a (by decide) rfl rfl rfl ⟨rfl, rfl⟩ ⟨by simp only [rm_X12_join_, rm_X12_sideNode]; omega, by simp only [rm_X12_join_, rm_X12_sideNode]; omega⟩ ⟨Nat.zero_le _, Nat.zero_le _⟩ hl.1 (Nat.le_of_ble_eq_true rfl) dX12_join_77 (fun H locs hH hS => ?_)
      refine lv_aload_n hx hb dX12_join_80 rfl (lv_at hl 0 rfl) ?_
      refine lv_iload hx hb dX12_join_81 (lv_at hl 2 rfl) ?_
      refine lv_iconst (v := (0 : Int32)) hx hb dX12_join_83 (by decide) ?_
      obtain ⟨v6, S5, e_S5, hm⟩ := m_call_of hm
      refine n_cVi X hH hS (k := 12) (c_X12_sideNode (a := a) hT hk_a e_S5) mw_X12_sideNode in_6_216 hk_a (by decide) rfl rfl rfl ⟨rfl, rfl⟩ ⟨by simp only [rm_X12_join_, rm_X12_sideNode]; omega, by simp only [rm_X12_join_, rm_X12_sideNode]; omega⟩ ⟨Nat.zero_le _, Nat.zero_le _⟩ hl.1 (Nat.le_of_ble_eq_true rfl) dX12_join_84 (fun H locs hH hS => ?_)
      obtain ⟨S7, e_S7, hm⟩ := m_cal0_of hm
      refine r_cVv X hH hS (k := 12) (hF a S5 v4 v6 _ hk_a e_S7) mw_X12_join in_6_208 hk_a (by decide) rfl rfl rfl hrF ⟨by simp only [rm_X12_join_]; omega, by simp only [rm_X12_join_]; omega⟩ ⟨Nat.zero_le _, Nat.zero_le _⟩ hl.1 (Nat.le_of_ble_eq_true rfl) dX12_join_87 (fun H locs hH hS => ?_)
      refine lv_aload_n hx hb dX12_join_90 rfl (lv_at hl 0 rfl) ?_
      refine lv_aload_n hx hb dX12_join_91 rfl (lv_at hl 0 rfl) ?_
      refine lv_iload hx hb dX12_join_92 (lv_at hl 1 rfl) ?_
      refine lv_iconst (v := (1 : Int32)) hx hb dX12_join_94 (by decide) ?_
      obtain ⟨v9, S8, e_S8, hm⟩ := m_call_of hm
      refine n_cVi X hH hS (k := 12) (c_X12_sideNode (a := a) hT hk_a e_S8) mw_X12_sideNode in_6_216 hk_a (by decide) rfl rfl rfl ⟨rfl, rfl⟩ ⟨by simp only [rm_X12_join_, rm_X12_sideNode]; omega, by simp only [rm_X12_join_, rm_X12_sideNode]; omega⟩ ⟨Nat.zero_le _, Nat.zero_le _⟩ hl.1 (Nat.le_of_ble_eq_true rfl) dX12_join_95 (fun H locs hH hS => ?_)
      refine lv_aload_n hx hb dX12_join_98 rfl (lv_at hl 0 rfl) ?_
      refine lv_iload hx hb dX12_join_99 (lv_at hl 2 rfl) ?_
      refine lv_iconst (v := (1 : Int32)) hx hb dX12_join_101 (by decide) ?_
      obtain ⟨v11, S10, e_S10, hm⟩ := m_call_of hm
      refine n_cVi X hH hS (k := 12) (c_X12_sideNode (a := a) hT hk_a e_S10) mw_X12_sideNode in_6_216 hk_a (by decide) rfl rfl rfl ⟨rfl, rfl⟩ ⟨by simp only [rm_X12_join_, rm_X12_sideNode]; omega, by simp only [rm_X12_join_, rm_X12_sideNode]; omega⟩ ⟨Nat.zero_le _, Nat.zero_le _⟩ hl.1 (Nat.le_of_ble_eq_true rfl) dX12_join_102 (fun H locs hH hS => ?_)
      obtain ⟨S12, e_S12, hm⟩ := m_cal0_of hm
      refine r_cVv X hH hS (k := 12) (hF a S10 v9 v11 _ hk_a e_S12) mw_X12_join in_6_208 hk_a (by decide) rfl rfl rfl hrF ⟨by simp only [rm_X12_join_]; omega, by simp only [rm_X12_join_]; omega⟩ ⟨Nat.zero_le _, Nat.zero_le _⟩ hl.1 (Nat.le_of_ble_eq_true rfl) dX12_join_105 (fun H locs hH hS => ?_)
      exact r_vret X hr hH hS hm dX12_join_108
    · have hm := m_ite_t hm c2
      exact k_X12_join_71 (F := F) (a := a) X hr hT rF hrF hF hk_a   S _ _ _ hH hS (lv_sub hl [] rfl) hm
def g_X12_join (F : Nat → m_M → Int32 → Int32 → Option m_M) (a : Nat) (S : m_M) (i1 : Int32) (i2 : Int32) : Option m_M :=
    m_call (f_X12_topOf a S i1) fun v2 S1 =>
    m_call (f_X12_topOf a S1 i2) fun v4 S3 =>
    if v2 = v4 then (
    some S3) else (
    (m_sti S3 (a + 12) 183 v4 v2).bind fun S6 =>
    (m_ldi S6 (a + 13) 183 v2).bind fun v7 =>
    (m_ldi S6 (a + 13) 183 v4).bind fun v8 =>
    if v7 = (-1 : Int32) then (
    (m_sti S6 (a + 13) 183 v2 v8).bind fun S10 =>
    b_X12_join_59 F a S10 v7 v8) else (
    b_X12_join_59 F a S6 v7 v8))
set_option maxHeartbeats 4000000 in
set_option maxRecDepth 100000 in
theorem cg_X12_join {l : Launch} {G : m_G} {nx : Nat} {κ : Nat → Nat} {F : Nat → m_M → Int32 → Int32 → Option m_M} {rF : Room} (hrF : rF.cells = 0 ∧ rF.slots = 0) (hF : ∀ (a : Nat) (S : m_M) (i1 : Int32) (i2 : Int32) (res : m_M), κ a = 13 → F a S i1 i2 = some res → m_Cv l yX12_join cX12_join 7 rF G nx κ [.ref a, .int i1, .int i2] S res) {a : Nat} {S : m_M} {i1 : Int32} {i2 : Int32} {res : m_M} (hT : m_Str κ) (hk_a : κ a = 13) (hm : g_X12_join F a S i1 i2 = some res) : m_Cv l yX12_join cX12_join 7 (rm_X12_join_ rF) G nx κ [.ref a, .int i1, .int i2] S res := by
  refine m_Cv.of (by decide) (Nat.le_of_ble_eq_true rfl) ?_
  intro p e s m args below meth c ls X hr hH hl
  have hx := X.1.1
  have hb := X.1.2.1
  have hS : m_S G s s.heap [] := va_S.rf
  have hl : lv_has ls 7 [(0, .ref a), (1, .int i1), (2, .int i2)] := hl
  rw [g_X12_join] at hm
  refine lv_aload_n hx hb dX12_join_0 rfl (lv_at hl 0 rfl) ?_
  refine lv_iload_n hx hb dX12_join_1 rfl (lv_at hl 1 rfl) ?_
  obtain ⟨v2, S1, e_S1, hm⟩ := m_call_of hm
  refine n_cVi X hH hS (k := 12) (c_X12_topOf (a := a) hT hk_a e_S1) mw_X12_topOf in_6_212 hk_a (by decide) rfl rfl rfl ⟨rfl, rfl⟩ ⟨by simp only [rm_X12_join_, rm_X12_topOf]; omega, by simp only [rm_X12_join_, rm_X12_topOf]; omega⟩ ⟨Nat.zero_le _, Nat.zero_le _⟩ hl.1 (Nat.le_of_ble_eq_true rfl) dX12_join_2 (fun H locs hH hS => ?_)
  refine lv_istore_n (lv' := [(3, .int v2), (0, .ref a), (1, .int i1), (2, .int i2)]) hx hb dX12_join_5 rfl hl (by decide) rfl (fun ls hl => ?_)
  refine lv_aload_n hx hb dX12_join_6 rfl (lv_at hl 1 rfl) ?_
  refine lv_iload_n hx hb dX12_join_7 rfl (lv_at hl 3 rfl) ?_
  obtain ⟨v4, S3, e_S3, hm⟩ := m_call_of hm
  refine n_cVi X hH hS (k := 12) (c_X12_topOf (a := a) hT hk_a e_S3) mw_X12_topOf in_6_212 hk_a (by decide) rfl rfl rfl ⟨rfl, rfl⟩ ⟨by simp only [rm_X12_join_, rm_X12_topOf]; omega, by simp only [rm_X12_join_, rm_X12_topOf]; omega⟩ ⟨Nat.zero_le _, Nat.zero_le _⟩ hl.1 (Nat.le_of_ble_eq_true rfl) dX12_join_8 (fun H locs hH hS => ?_)
  refine lv_istore (lv' := [(4, .int v4), (3, .int v2), (0, .ref a), (1, .int i1), (2, .int i2)]) hx hb dX12_join_11 hl (by decide) rfl (fun ls hl => ?_)
  refine lv_iload_n hx hb dX12_join_13 rfl (lv_at hl 1 rfl) ?_
  refine lv_iload hx hb dX12_join_14 (lv_at hl 0 rfl) ?_
  refine lv_icmp_ne (tgt := 20) hx hb dX12_join_16 (by decide) (fun c5 => ?_) (fun c5 => ?_)
  · have hm := m_ite_f hm c5
    refine lv_aload_n hx hb dX12_join_20 rfl (lv_at hl 2 rfl) ?_
    refine r_getp X hH (k := 12) (a := a) (j := 25) (b := (a + 12)) (A := 12) (B := 0) hk_a (by decide) rfl m_wi12 (by decide) in_7_40 rfl rfl rfl dX12_join_21 ?_
    refine lv_iload hx hb dX12_join_24 (lv_at hl 0 rfl) ?_
    refine lv_iload_n hx hb dX12_join_26 rfl (lv_at hl 1 rfl) ?_
    obtain ⟨S6, h_S6, e_S6, hm⟩ := n_sti hm
    refine n_iast X hH hS (n := 183) (m_lay_at hT hk_a (by decide) (i := 12) rfl) h_S6 e_S6 dX12_join_27 (fun H locs hH hS => ?_)
    refine lv_aload_n hx hb dX12_join_28 rfl (lv_at hl 2 rfl) ?_
    refine r_getp X hH (k := 12) (a := a) (j := 26) (b := (a + 13)) (A := 13) (B := 0) hk_a (by decide) rfl m_wi12 (by decide) in_7_41 rfl rfl rfl dX12_join_29 ?_
    refine lv_iload_n hx hb dX12_join_32 rfl (lv_at hl 1 rfl) ?_
    obtain ⟨v7, h_v7, e_v7, hm⟩ := n_ldi hm
    refine n_iald X hH (n := 183) (m_lay_at hT hk_a (by decide) (i := 13) rfl) h_v7 e_v7 dX12_join_33 ?_
    refine lv_istore (lv' := [(5, .int v7), (4, .int v4), (3, .int v2), (0, .ref a), (1, .int i1), (2, .int i2)]) hx hb dX12_join_34 hl (by decide) rfl (fun ls hl => ?_)
    refine lv_aload_n hx hb dX12_join_36 rfl (lv_at hl 3 rfl) ?_
    refine r_getp X hH (k := 12) (a := a) (j := 26) (b := (a + 13)) (A := 13) (B := 0) hk_a (by decide) rfl m_wi12 (by decide) in_7_41 rfl rfl rfl dX12_join_37 ?_
    refine lv_iload hx hb dX12_join_40 (lv_at hl 1 rfl) ?_
    obtain ⟨v8, h_v8, e_v8, hm⟩ := n_ldi hm
    refine n_iald X hH (n := 183) (m_lay_at hT hk_a (by decide) (i := 13) rfl) h_v8 e_v8 dX12_join_42 ?_
    refine lv_istore (lv' := [(6, .int v8), (5, .int v7), (4, .int v4), (3, .int v2), (0, .ref a), (1, .int i1), (2, .int i2)]) hx hb dX12_join_43 hl (by decide) rfl (fun ls hl => ?_)
    refine lv_iload hx hb dX12_join_45 (lv_at hl 1 rfl) ?_
    refine lv_iconst (v := (-1 : Int32)) hx hb dX12_join_47 (by decide) ?_
    refine lv_icmp_ne (tgt := 59) hx hb dX12_join_48 (by decide) (fun c9 => ?_) (fun c9 => ?_)
    · have hm := m_ite_f hm c9
      exact k_X12_join_59 (F := F) (a := a) X hr hT rF hrF hF hk_a   S6 v7 v8 _ _ _ hH hS (lv_sub hl [4, 1, 0] rfl) hm
    · have hm := m_ite_t hm c9
      refine lv_aload_n hx hb dX12_join_51 rfl (lv_at hl 4 rfl) ?_
      refine r_getp X hH (k := 12) (a := a) (j := 26) (b := (a + 13)) (A := 13) (B := 0) hk_a (by decide) rfl m_wi12 (by decide) in_7_41 rfl rfl rfl dX12_join_52 ?_
      refine lv_iload_n hx hb dX12_join_55 rfl (lv_at hl 3 rfl) ?_
      refine lv_iload hx hb dX12_join_56 (lv_at hl 0 rfl) ?_
      obtain ⟨S10, h_S10, e_S10, hm⟩ := n_sti hm
      refine n_iast X hH hS (n := 183) (m_lay_at hT hk_a (by decide) (i := 13) rfl) h_S10 e_S10 dX12_join_58 (fun H locs hH hS => ?_)
      exact k_X12_join_59 (F := F) (a := a) X hr hT rF hrF hF hk_a   S10 v7 v8 _ _ _ hH hS (lv_sub hl [4, 1, 0] rfl) hm
  · have hm := m_ite_t hm c5
    exact r_vret X hr hH hS hm dX12_join_19
def f_X12_join : Nat → Nat → m_M → Int32 → Int32 → Option m_M
  | 0, _, _, _, _ => none
  | d + 1, a, S, i1, i2 => g_X12_join (f_X12_join d) a S i1 i2
def rm_X12_join : Nat → Room
  | 0 => { frames := 0, cells := 0, slots := 0, locals := 0 }
  | d + 1 => rm_X12_join_ (rm_X12_join d)
theorem rd_X12_join (d : Nat) : (rm_X12_join d).cells = 0 ∧ (rm_X12_join d).slots = 0 := by cases d <;> exact ⟨rfl, rfl⟩
theorem c_X12_join {l : Launch} {G : m_G} {nx : Nat} {κ : Nat → Nat} (d : Nat) (hT : m_Str κ) : ∀ (a : Nat) (S : m_M) (i1 : Int32) (i2 : Int32) (res : m_M), κ a = 13 → f_X12_join d a S i1 i2 = some res → m_Cv l yX12_join cX12_join 7 (rm_X12_join d) G nx κ [.ref a, .int i1, .int i2] S res := by
  induction d with
  | zero => intro a S i1 i2 res hk_a hm; have hm : (none : Option m_M) = some res := hm; cases hm
  | succ d ih => intro a S i1 i2 res hk_a hm; exact cg_X12_join (F := f_X12_join d) (rF := rm_X12_join d) (rd_X12_join d) ih hT hk_a hm
def rm_X12_pointFrom : Room := { frames := 1, cells := 0, slots := 0, locals := 22 }
def b_X12_pointFrom_36 (a : Nat)  (S : m_M) (l2 : Int32) : Option (Int32 × m_M) :=
    (m_ldi S (a + 13) 183 l2).bind fun v1 =>
    some (v1, S)
set_option maxHeartbeats 4000000 in
set_option maxRecDepth 100000 in
theorem k_X12_pointFrom_36 {p : Program} {l : Launch} {e : Env} {s : State} {m : MethodId} {args : Array Value} {below : List Frame} {meth : Method} {c : Code} {G : m_G} {nx : Nat} {κ : Nat → Nat} {res : (Int32 × m_M)} {a : Nat} (X : m_Cx p s m args meth c cX12_pointFrom 3 RX12 G) (hr : meth.sig.returnType = (some .int)) (hT : m_Str κ) (hk_a : κ a = 13)  : ∀ (S : m_M) (l2 : Int32) (H : Heap) (locs : List Loc) (ls : Array Slot), m_H G nx κ S H → m_S G s H locs → lv_has ls 3 [(0, .ref a), (2, .int l2)] → b_X12_pointFrom_36 a S l2 = some res → W p l e rm_X12_pointFrom s m args below meth c H locs 0 0 (m_Qi below args s G nx κ res) (F0 m 36 ls []) := by
  have hx := X.1.1
  have hb := X.1.2.1
  intro S l2 H locs ls hH hS hl hm
  rw [b_X12_pointFrom_36] at hm
  refine lv_aload_n hx hb dX12_pointFrom_36 rfl (lv_at hl 0 rfl) ?_
  refine r_getp X hH (k := 12) (a := a) (j := 26) (b := (a + 13)) (A := 13) (B := 0) hk_a (by decide) rfl m_wi12 (by decide) in_7_41 rfl rfl rfl dX12_pointFrom_37 ?_
  refine lv_iload_n hx hb dX12_pointFrom_40 rfl (lv_at hl 1 rfl) ?_
  obtain ⟨v1, h_v1, e_v1, hm⟩ := n_ldi hm
  refine n_iald X hH (n := 183) (m_lay_at hT hk_a (by decide) (i := 13) rfl) h_v1 e_v1 dX12_pointFrom_41 ?_
  exact r_iret X hr hH hS hm dX12_pointFrom_42
def f_X12_pointFrom (a : Nat) (S : m_M) (i1 : Int32) : Option (Int32 × m_M) :=
    m_call (f_X12_topOf a S i1) fun v2 S1 =>
    (m_ldi S1 (a + 13) 183 v2).bind fun v3 =>
    if v3 = (-1 : Int32) then (
    (m_sti S1 (a + 13) 183 v2 (m_ri S1 a 36)).bind fun S5 =>
    m_let (m_si S5 a 36 ((m_ri S5 a 36) + (1 : Int32))) fun S6 =>
    b_X12_pointFrom_36 a S6 v2) else (
    b_X12_pointFrom_36 a S1 v2)
set_option maxHeartbeats 4000000 in
set_option maxRecDepth 100000 in
theorem c_X12_pointFrom {l : Launch} {G : m_G} {nx : Nat} {κ : Nat → Nat} {a : Nat} {S : m_M} {i1 : Int32} {res : (Int32 × m_M)} (hT : m_Str κ) (hk_a : κ a = 13) (hm : f_X12_pointFrom a S i1 = some res) : m_Ci l yX12_pointFrom cX12_pointFrom 3 (some .int) rm_X12_pointFrom G nx κ [.ref a, .int i1] S res := by
  refine m_Ci.of (by decide) (Nat.le_of_ble_eq_true rfl) ?_
  intro p e s m args below meth c ls X hr hH hl
  have hx := X.1.1
  have hb := X.1.2.1
  have hS : m_S G s s.heap [] := va_S.rf
  have hl : lv_has ls 3 [(0, .ref a), (1, .int i1)] := hl
  rw [f_X12_pointFrom] at hm
  refine lv_aload_n hx hb dX12_pointFrom_0 rfl (lv_at hl 0 rfl) ?_
  refine lv_iload_n hx hb dX12_pointFrom_1 rfl (lv_at hl 1 rfl) ?_
  obtain ⟨v2, S1, e_S1, hm⟩ := m_call_of hm
  refine n_cVi X hH hS (k := 12) (c_X12_topOf (a := a) hT hk_a e_S1) mw_X12_topOf in_6_212 hk_a (by decide) rfl rfl rfl ⟨rfl, rfl⟩ ⟨Nat.le_of_ble_eq_true rfl, Nat.le_of_ble_eq_true rfl⟩ ⟨Nat.zero_le _, Nat.zero_le _⟩ hl.1 (Nat.le_of_ble_eq_true rfl) dX12_pointFrom_2 (fun H locs hH hS => ?_)
  refine lv_istore_n (lv' := [(2, .int v2), (0, .ref a), (1, .int i1)]) hx hb dX12_pointFrom_5 rfl hl (by decide) rfl (fun ls hl => ?_)
  refine lv_aload_n hx hb dX12_pointFrom_6 rfl (lv_at hl 1 rfl) ?_
  refine r_getp X hH (k := 12) (a := a) (j := 26) (b := (a + 13)) (A := 13) (B := 0) hk_a (by decide) rfl m_wi12 (by decide) in_7_41 rfl rfl rfl dX12_pointFrom_7 ?_
  refine lv_iload_n hx hb dX12_pointFrom_10 rfl (lv_at hl 0 rfl) ?_
  obtain ⟨v3, h_v3, e_v3, hm⟩ := n_ldi hm
  refine n_iald X hH (n := 183) (m_lay_at hT hk_a (by decide) (i := 13) rfl) h_v3 e_v3 dX12_pointFrom_11 ?_
  refine lv_iconst (v := (-1 : Int32)) hx hb dX12_pointFrom_12 (by decide) ?_
  refine lv_icmp_ne (tgt := 36) hx hb dX12_pointFrom_13 (by decide) (fun c4 => ?_) (fun c4 => ?_)
  · have hm := m_ite_f hm c4
    exact k_X12_pointFrom_36 (a := a) X hr hT hk_a   S1 v2 _ _ _ hH hS (lv_sub hl [1, 0] rfl) hm
  · have hm := m_ite_t hm c4
    refine lv_aload_n hx hb dX12_pointFrom_16 rfl (lv_at hl 1 rfl) ?_
    refine r_getp X hH (k := 12) (a := a) (j := 26) (b := (a + 13)) (A := 13) (B := 0) hk_a (by decide) rfl m_wi12 (by decide) in_7_41 rfl rfl rfl dX12_pointFrom_17 ?_
    refine lv_iload_n hx hb dX12_pointFrom_20 rfl (lv_at hl 0 rfl) ?_
    refine lv_aload_n hx hb dX12_pointFrom_21 rfl (lv_at hl 1 rfl) ?_
    refine r_geti X hH (k := 12) (a := a) (j := 36) hk_a (by decide) rfl m_wi12 (by decide) in_7_51 rfl rfl dX12_pointFrom_22 ?_
    obtain ⟨S5, h_S5, e_S5, hm⟩ := n_sti hm
    refine n_iast X hH hS (n := 183) (m_lay_at hT hk_a (by decide) (i := 13) rfl) h_S5 e_S5 dX12_pointFrom_25 (fun H locs hH hS => ?_)
    refine lv_aload_n hx hb dX12_pointFrom_26 rfl (lv_at hl 1 rfl) ?_
    refine lv_dup hx hb dX12_pointFrom_27 rfl ?_
    refine r_geti X hH (k := 12) (a := a) (j := 36) hk_a (by decide) rfl m_wi12 (by decide) in_7_51 rfl rfl dX12_pointFrom_28 ?_
    refine lv_iconst (v := (1 : Int32)) hx hb dX12_pointFrom_31 (by decide) ?_
    refine lv_iadd hx hb dX12_pointFrom_32 ?_
    obtain ⟨S6, e_S6, hm⟩ := m_let_of hm
    refine n_puti X hH hS tyX12 (k := 12) (a := a) (j := 36) hk_a (by decide) rfl m_wi12 tyX12_ok nmX12 (by decide) in_7_51 rfl rfl rfl ⟨rfl, rfl⟩ e_S6 dX12_pointFrom_33 (fun H locs hH hS => ?_)
    exact k_X12_pointFrom_36 (a := a) X hr hT hk_a   S6 v2 _ _ _ hH hS (lv_sub hl [1, 0] rfl) hm
def rm_X12_varsOf : Room := { frames := 0, cells := 0, slots := 0, locals := 0 }
def f_X12_varsOf (a o1 n1 : Nat) (S : m_M) (i2 : Int32) : Option (Int32 × m_M) :=
    (m_ldi S o1 n1 ((3 : Int32) + i2)).bind fun v1 =>
    (m_ldi S o1 n1 ((13 : Int32) + i2)).bind fun v2 =>
    some ((v1 + v2), S)
set_option maxHeartbeats 4000000 in
set_option maxRecDepth 100000 in
theorem c_X12_varsOf {l : Launch} {G : m_G} {nx : Nat} {κ : Nat → Nat} {a o1 n1 : Nat} {S : m_M} {i2 : Int32} {res : (Int32 × m_M)} (hT : m_Str κ) (hk_a : κ a = 13) (hk_o1 : κ o1 = m_ac 1 n1) (hm : f_X12_varsOf a o1 n1 S i2 = some res) : m_Ci l yX12_varsOf cX12_varsOf 3 (some .int) rm_X12_varsOf G nx κ [.ref a, .ref o1, .int i2] S res := by
  refine m_Ci.of (by decide) (Nat.le_of_ble_eq_true rfl) ?_
  intro p e s m args below meth c ls X hr hH hl
  have hx := X.1.1
  have hb := X.1.2.1
  have hS : m_S G s s.heap [] := va_S.rf
  have hl : lv_has ls 3 [(0, .ref a), (1, .ref o1), (2, .int i2)] := hl
  rw [f_X12_varsOf] at hm
  refine lv_aload_n hx hb dX12_varsOf_0 rfl (lv_at hl 1 rfl) ?_
  refine lv_iconst (v := (3 : Int32)) hx hb dX12_varsOf_1 (by decide) ?_
  refine lv_iload_n hx hb dX12_varsOf_2 rfl (lv_at hl 2 rfl) ?_
  refine lv_iadd hx hb dX12_varsOf_3 ?_
  obtain ⟨v1, h_v1, e_v1, hm⟩ := n_ldi hm
  refine n_iald X hH (n := n1) hk_o1 h_v1 e_v1 dX12_varsOf_4 ?_
  refine lv_aload_n hx hb dX12_varsOf_5 rfl (lv_at hl 1 rfl) ?_
  refine lv_bipush (v := (13 : Int32)) hx hb dX12_varsOf_6 (by decide) ?_
  refine lv_iload_n hx hb dX12_varsOf_8 rfl (lv_at hl 2 rfl) ?_
  refine lv_iadd hx hb dX12_varsOf_9 ?_
  obtain ⟨v2, h_v2, e_v2, hm⟩ := n_ldi hm
  refine n_iald X hH (n := n1) hk_o1 h_v2 e_v2 dX12_varsOf_10 ?_
  refine lv_iadd hx hb dX12_varsOf_11 ?_
  exact r_iret X hr hH hS hm dX12_varsOf_12
def rm_X12_joinLine : Room := { frames := 201, cells := 0, slots := 0, locals := 5226 }
def b_X12_joinLine_148 (a : Nat)  (S : m_M) (l1 : Int32) (l2 : Int32) (l3 : Int32) (l4 : Int32) : Option m_M :=
    m_call (f_X12_var a S l2 (0 : Int32)) fun v2 S1 =>
    m_call (f_X12_node a S1 l1 v2) fun v4 S3 =>
    m_call (f_X12_pointFrom a S3 v4) fun v6 S5 =>
    m_call (f_X12_sideNode a S5 v6 (l4 - (3 : Int32))) fun v8 S7 =>
    m_cal0 (f_X12_join 200 a S7 v8 l3) fun S9 =>
    some S9
set_option maxHeartbeats 4000000 in
set_option maxRecDepth 100000 in
theorem k_X12_joinLine_148 {p : Program} {l : Launch} {e : Env} {s : State} {m : MethodId} {args : Array Value} {below : List Frame} {meth : Method} {c : Code} {G : m_G} {nx : Nat} {κ : Nat → Nat} {res : m_M} {a : Nat} (X : m_Cx p s m args meth c cX12_joinLine 8 RX12 G) (hr : meth.sig.returnType = none) (hT : m_Str κ) (hk_a : κ a = 13)  : ∀ (S : m_M) (l1 : Int32) (l2 : Int32) (l3 : Int32) (l4 : Int32) (H : Heap) (locs : List Loc) (ls : Array Slot), m_H G nx κ S H → m_S G s H locs → lv_has ls 8 [(0, .ref a), (1, .int l1), (2, .int l2), (3, .int l3), (4, .int l4)] → b_X12_joinLine_148 a S l1 l2 l3 l4 = some res → W p l e rm_X12_joinLine s m args below meth c H locs 0 0 (m_Qv below args s G nx κ res) (F0 m 148 ls []) := by
  have hx := X.1.1
  have hb := X.1.2.1
  intro S l1 l2 l3 l4 H locs ls hH hS hl hm
  rw [b_X12_joinLine_148] at hm
  refine lv_aload_n hx hb dX12_joinLine_148 rfl (lv_at hl 0 rfl) ?_
  refine lv_aload_n hx hb dX12_joinLine_149 rfl (lv_at hl 0 rfl) ?_
  refine lv_aload_n hx hb dX12_joinLine_150 rfl (lv_at hl 0 rfl) ?_
  refine lv_aload_n hx hb dX12_joinLine_151 rfl (lv_at hl 0 rfl) ?_
  refine lv_iload_n hx hb dX12_joinLine_152 rfl (lv_at hl 1 rfl) ?_
  refine lv_aload_n hx hb dX12_joinLine_153 rfl (lv_at hl 0 rfl) ?_
  refine lv_iload_n hx hb dX12_joinLine_154 rfl (lv_at hl 2 rfl) ?_
  refine lv_iconst (v := (0 : Int32)) hx hb dX12_joinLine_155 (by decide) ?_
  obtain ⟨v2, S1, e_S1, hm⟩ := m_call_of hm
  refine n_cVi X hH hS (k := 12) (c_X12_var (a := a) hT hk_a e_S1) mw_X12_var in_6_204 hk_a (by decide) rfl rfl rfl ⟨rfl, rfl⟩ ⟨Nat.le_of_ble_eq_true rfl, Nat.le_of_ble_eq_true rfl⟩ ⟨Nat.zero_le _, Nat.zero_le _⟩ hl.1 (Nat.le_of_ble_eq_true rfl) dX12_joinLine_156 (fun H locs hH hS => ?_)
  obtain ⟨v4, S3, e_S3, hm⟩ := m_call_of hm
  refine n_cVi X hH hS (k := 12) (c_X12_node (a := a) hT hk_a e_S3) mw_X12_node in_6_200 hk_a (by decide) rfl rfl rfl ⟨rfl, rfl⟩ ⟨Nat.le_of_ble_eq_true rfl, Nat.le_of_ble_eq_true rfl⟩ ⟨Nat.zero_le _, Nat.zero_le _⟩ hl.1 (Nat.le_of_ble_eq_true rfl) dX12_joinLine_159 (fun H locs hH hS => ?_)
  obtain ⟨v6, S5, e_S5, hm⟩ := m_call_of hm
  refine n_cVi X hH hS (k := 12) (c_X12_pointFrom (a := a) hT hk_a e_S5) mw_X12_pointFrom in_6_220 hk_a (by decide) rfl rfl rfl ⟨rfl, rfl⟩ ⟨Nat.le_of_ble_eq_true rfl, Nat.le_of_ble_eq_true rfl⟩ ⟨Nat.zero_le _, Nat.zero_le _⟩ hl.1 (Nat.le_of_ble_eq_true rfl) dX12_joinLine_162 (fun H locs hH hS => ?_)
  refine lv_iload hx hb dX12_joinLine_165 (lv_at hl 4 rfl) ?_
  refine lv_iconst (v := (3 : Int32)) hx hb dX12_joinLine_167 (by decide) ?_
  refine lv_isub hx hb dX12_joinLine_168 ?_
  obtain ⟨v8, S7, e_S7, hm⟩ := m_call_of hm
  refine n_cVi X hH hS (k := 12) (c_X12_sideNode (a := a) hT hk_a e_S7) mw_X12_sideNode in_6_216 hk_a (by decide) rfl rfl rfl ⟨rfl, rfl⟩ ⟨Nat.le_of_ble_eq_true rfl, Nat.le_of_ble_eq_true rfl⟩ ⟨Nat.zero_le _, Nat.zero_le _⟩ hl.1 (Nat.le_of_ble_eq_true rfl) dX12_joinLine_169 (fun H locs hH hS => ?_)
  refine lv_iload_n hx hb dX12_joinLine_172 rfl (lv_at hl 3 rfl) ?_
  obtain ⟨S9, e_S9, hm⟩ := m_cal0_of hm
  refine r_cVv X hH hS (k := 12) (c_X12_join 200 hT a S7 v8 l3 _ hk_a e_S9) mw_X12_join in_6_208 hk_a (by decide) rfl rfl rfl (rd_X12_join 200) ⟨Nat.le_of_ble_eq_true rfl, Nat.le_of_ble_eq_true rfl⟩ ⟨Nat.zero_le _, Nat.zero_le _⟩ hl.1 (Nat.le_of_ble_eq_true rfl) dX12_joinLine_173 (fun H locs hH hS => ?_)
  exact r_vret X hr hH hS hm dX12_joinLine_176
def b_X12_joinLine_331 (a : Nat)  (S : m_M)  : Option m_M :=
    some S
set_option maxHeartbeats 4000000 in
set_option maxRecDepth 100000 in
theorem k_X12_joinLine_331 {p : Program} {l : Launch} {e : Env} {s : State} {m : MethodId} {args : Array Value} {below : List Frame} {meth : Method} {c : Code} {G : m_G} {nx : Nat} {κ : Nat → Nat} {res : m_M} {a : Nat} (X : m_Cx p s m args meth c cX12_joinLine 8 RX12 G) (hr : meth.sig.returnType = none) (hT : m_Str κ) (hk_a : κ a = 13)  : ∀ (S : m_M)  (H : Heap) (locs : List Loc) (ls : Array Slot), m_H G nx κ S H → m_S G s H locs → lv_has ls 8 [] → b_X12_joinLine_331 a S  = some res → W p l e rm_X12_joinLine s m args below meth c H locs 0 0 (m_Qv below args s G nx κ res) (F0 m 331 ls []) := by
  have hx := X.1.1
  have hb := X.1.2.1
  intro S H locs ls hH hS hl hm
  rw [b_X12_joinLine_331] at hm
  exact r_vret X hr hH hS hm dX12_joinLine_331
def b_X12_joinLine_238 (a : Nat)  : Nat → m_M → Int32 → Int32 → Int32 → Int32 → Int32 → Int32 → Int32 → Option m_M
  | 0, _, _, _, _, _, _, _, _ => none
  | n + 1, S, l1, l2, l3, l4, l5, l6, l7 =>
    (m_ldi S (a + 2) 2647 ((3 : Int32) + l5)).bind fun v1 =>
    if v1 ≤ l7 then (
    m_call (f_X12_varsOf a (a + 2) 2647 S l5) fun v4 S3 =>
    m_call (f_X12_node a S3 l5 (v4 - (1 : Int32))) fun v6 S5 =>
    m_cal0 (f_X12_join 200 a S5 l3 v6) fun S7 =>
    if l4 = (9 : Int32) then (
    m_call (f_X12_var a S7 l2 (4 : Int32)) fun v10 S9 =>
    m_call (f_X12_node a S9 l1 v10) fun v12 S11 =>
    m_cal0 (f_X12_join 200 a S11 l3 v12) fun S13 =>
    b_X12_joinLine_331 a S13) else (
    b_X12_joinLine_331 a S7)) else (
    m_call (f_X12_var a S l2 (l6 + l7)) fun v15 S14 =>
    m_call (f_X12_node a S14 l1 v15) fun v17 S16 =>
    m_call (f_X12_node a S16 l5 l7) fun v19 S18 =>
    m_cal0 (f_X12_join 200 a S18 v17 v19) fun S20 =>
    m_let (l7 + (1 : Int32)) fun v21 =>
    b_X12_joinLine_238 a n S20 l1 l2 l3 l4 l5 l6 v21)
set_option maxHeartbeats 4000000 in
set_option maxRecDepth 100000 in
theorem k_X12_joinLine_238 {p : Program} {l : Launch} {e : Env} {s : State} {m : MethodId} {args : Array Value} {below : List Frame} {meth : Method} {c : Code} {G : m_G} {nx : Nat} {κ : Nat → Nat} {res : m_M} {a : Nat} (X : m_Cx p s m args meth c cX12_joinLine 8 RX12 G) (hr : meth.sig.returnType = none) (hT : m_Str κ) (hk_a : κ a = 13)  (n : Nat) : ∀ (S : m_M) (l1 : Int32) (l2 : Int32) (l3 : Int32) (l4 : Int32) (l5 : Int32) (l6 : Int32) (l7 : Int32) (H : Heap) (locs : List Loc) (ls : Array Slot), m_H G nx κ S H → m_S G s H locs → lv_has ls 8 [(0, .ref a), (1, .int l1), (2, .int l2), (3, .int l3), (4, .int l4), (5, .int l5), (6, .int l6), (7, .int l7)] → b_X12_joinLine_238 a n S l1 l2 l3 l4 l5 l6 l7 = some res → W p l e rm_X12_joinLine s m args below meth c H locs 0 0 (m_Qv below args s G nx κ res) (F0 m 238 ls []) := by
  have hx := X.1.1
  have hb := X.1.2.1
  induction n with
  | zero => intro S l1 l2 l3 l4 l5 l6 l7 H locs ls hH hS hl hm; have hm : (none : Option m_M) = some res := hm; cases hm
  | succ n ih =>
    intro S l1 l2 l3 l4 l5 l6 l7 H locs ls hH hS hl hm
    rw [b_X12_joinLine_238] at hm
    refine lv_iload hx hb dX12_joinLine_238 (lv_at hl 7 rfl) ?_
    refine lv_aload_n hx hb dX12_joinLine_240 rfl (lv_at hl 0 rfl) ?_
    refine r_getp X hH (k := 12) (a := a) (j := 14) (b := (a + 2)) (A := 2) (B := 0) hk_a (by decide) rfl m_wi12 (by decide) in_7_29 rfl rfl rfl dX12_joinLine_241 ?_
    refine lv_iconst (v := (3 : Int32)) hx hb dX12_joinLine_244 (by decide) ?_
    refine lv_iload hx hb dX12_joinLine_245 (lv_at hl 5 rfl) ?_
    refine lv_iadd hx hb dX12_joinLine_247 ?_
    obtain ⟨v1, h_v1, e_v1, hm⟩ := n_ldi hm
    refine n_iald X hH (n := 2647) (m_lay_at hT hk_a (by decide) (i := 2) rfl) h_v1 e_v1 dX12_joinLine_248 ?_
    refine lv_icmp_ge (tgt := 285) hx hb dX12_joinLine_249 (by decide) (fun c2 => ?_) (fun c2 => ?_)
    · have hm := m_ite_t hm c2
      refine lv_aload_n hx hb dX12_joinLine_285 rfl (lv_at hl 0 rfl) ?_
      refine lv_iload_n hx hb dX12_joinLine_286 rfl (lv_at hl 3 rfl) ?_
      refine lv_aload_n hx hb dX12_joinLine_287 rfl (lv_at hl 0 rfl) ?_
      refine lv_iload hx hb dX12_joinLine_288 (lv_at hl 5 rfl) ?_
      refine lv_aload_n hx hb dX12_joinLine_290 rfl (lv_at hl 0 rfl) ?_
      refine lv_aload_n hx hb dX12_joinLine_291 rfl (lv_at hl 0 rfl) ?_
      refine r_getp X hH (k := 12) (a := a) (j := 14) (b := (a + 2)) (A := 2) (B := 0) hk_a (by decide) rfl m_wi12 (by decide) in_7_29 rfl rfl rfl dX12_joinLine_292 ?_
      refine lv_iload hx hb dX12_joinLine_295 (lv_at hl 5 rfl) ?_
      obtain ⟨v4, S3, e_S3, hm⟩ := m_call_of hm
      refine n_cVi X hH hS (k := 12) (c_X12_varsOf (a := a) (o1 := (a + 2)) (n1 := 2647) hT hk_a (m_lay_at hT hk_a (by decide) (i := 2) rfl) e_S3) mw_X12_varsOf in_6_224 hk_a (by decide) rfl rfl rfl ⟨rfl, rfl⟩ ⟨Nat.le_of_ble_eq_true rfl, Nat.le_of_ble_eq_true rfl⟩ ⟨Nat.zero_le _, Nat.zero_le _⟩ hl.1 (Nat.le_of_ble_eq_true rfl) dX12_joinLine_297 (fun H locs hH hS => ?_)
      refine lv_iconst (v := (1 : Int32)) hx hb dX12_joinLine_300 (by decide) ?_
      refine lv_isub hx hb dX12_joinLine_301 ?_
      obtain ⟨v6, S5, e_S5, hm⟩ := m_call_of hm
      refine n_cVi X hH hS (k := 12) (c_X12_node (a := a) hT hk_a e_S5) mw_X12_node in_6_200 hk_a (by decide) rfl rfl rfl ⟨rfl, rfl⟩ ⟨Nat.le_of_ble_eq_true rfl, Nat.le_of_ble_eq_true rfl⟩ ⟨Nat.zero_le _, Nat.zero_le _⟩ hl.1 (Nat.le_of_ble_eq_true rfl) dX12_joinLine_302 (fun H locs hH hS => ?_)
      obtain ⟨S7, e_S7, hm⟩ := m_cal0_of hm
      refine r_cVv X hH hS (k := 12) (c_X12_join 200 hT a S5 l3 v6 _ hk_a e_S7) mw_X12_join in_6_208 hk_a (by decide) rfl rfl rfl (rd_X12_join 200) ⟨Nat.le_of_ble_eq_true rfl, Nat.le_of_ble_eq_true rfl⟩ ⟨Nat.zero_le _, Nat.zero_le _⟩ hl.1 (Nat.le_of_ble_eq_true rfl) dX12_joinLine_305 (fun H locs hH hS => ?_)
      refine lv_iload hx hb dX12_joinLine_308 (lv_at hl 4 rfl) ?_
      refine lv_bipush (v := (9 : Int32)) hx hb dX12_joinLine_310 (by decide) ?_
      refine lv_icmp_ne (tgt := 331) hx hb dX12_joinLine_312 (by decide) (fun c8 => ?_) (fun c8 => ?_)
      · have hm := m_ite_f hm c8
        exact k_X12_joinLine_331 (a := a) X hr hT hk_a   S7 _ _ _ hH hS (lv_sub hl [] rfl) hm
      · have hm := m_ite_t hm c8
        refine lv_aload_n hx hb dX12_joinLine_315 rfl (lv_at hl 0 rfl) ?_
        refine lv_iload_n hx hb dX12_joinLine_316 rfl (lv_at hl 3 rfl) ?_
        refine lv_aload_n hx hb dX12_joinLine_317 rfl (lv_at hl 0 rfl) ?_
        refine lv_iload_n hx hb dX12_joinLine_318 rfl (lv_at hl 1 rfl) ?_
        refine lv_aload_n hx hb dX12_joinLine_319 rfl (lv_at hl 0 rfl) ?_
        refine lv_iload_n hx hb dX12_joinLine_320 rfl (lv_at hl 2 rfl) ?_
        refine lv_iconst (v := (4 : Int32)) hx hb dX12_joinLine_321 (by decide) ?_
        obtain ⟨v10, S9, e_S9, hm⟩ := m_call_of hm
        refine n_cVi X hH hS (k := 12) (c_X12_var (a := a) hT hk_a e_S9) mw_X12_var in_6_204 hk_a (by decide) rfl rfl rfl ⟨rfl, rfl⟩ ⟨Nat.le_of_ble_eq_true rfl, Nat.le_of_ble_eq_true rfl⟩ ⟨Nat.zero_le _, Nat.zero_le _⟩ hl.1 (Nat.le_of_ble_eq_true rfl) dX12_joinLine_322 (fun H locs hH hS => ?_)
        obtain ⟨v12, S11, e_S11, hm⟩ := m_call_of hm
        refine n_cVi X hH hS (k := 12) (c_X12_node (a := a) hT hk_a e_S11) mw_X12_node in_6_200 hk_a (by decide) rfl rfl rfl ⟨rfl, rfl⟩ ⟨Nat.le_of_ble_eq_true rfl, Nat.le_of_ble_eq_true rfl⟩ ⟨Nat.zero_le _, Nat.zero_le _⟩ hl.1 (Nat.le_of_ble_eq_true rfl) dX12_joinLine_325 (fun H locs hH hS => ?_)
        obtain ⟨S13, e_S13, hm⟩ := m_cal0_of hm
        refine r_cVv X hH hS (k := 12) (c_X12_join 200 hT a S11 l3 v12 _ hk_a e_S13) mw_X12_join in_6_208 hk_a (by decide) rfl rfl rfl (rd_X12_join 200) ⟨Nat.le_of_ble_eq_true rfl, Nat.le_of_ble_eq_true rfl⟩ ⟨Nat.zero_le _, Nat.zero_le _⟩ hl.1 (Nat.le_of_ble_eq_true rfl) dX12_joinLine_328 (fun H locs hH hS => ?_)
        exact k_X12_joinLine_331 (a := a) X hr hT hk_a   S13 _ _ _ hH hS (lv_sub hl [] rfl) hm
    · have hm := m_ite_f hm c2
      refine lv_aload_n hx hb dX12_joinLine_252 rfl (lv_at hl 0 rfl) ?_
      refine lv_aload_n hx hb dX12_joinLine_253 rfl (lv_at hl 0 rfl) ?_
      refine lv_iload_n hx hb dX12_joinLine_254 rfl (lv_at hl 1 rfl) ?_
      refine lv_aload_n hx hb dX12_joinLine_255 rfl (lv_at hl 0 rfl) ?_
      refine lv_iload_n hx hb dX12_joinLine_256 rfl (lv_at hl 2 rfl) ?_
      refine lv_iload hx hb dX12_joinLine_257 (lv_at hl 6 rfl) ?_
      refine lv_iload hx hb dX12_joinLine_259 (lv_at hl 7 rfl) ?_
      refine lv_iadd hx hb dX12_joinLine_261 ?_
      obtain ⟨v15, S14, e_S14, hm⟩ := m_call_of hm
      refine n_cVi X hH hS (k := 12) (c_X12_var (a := a) hT hk_a e_S14) mw_X12_var in_6_204 hk_a (by decide) rfl rfl rfl ⟨rfl, rfl⟩ ⟨Nat.le_of_ble_eq_true rfl, Nat.le_of_ble_eq_true rfl⟩ ⟨Nat.zero_le _, Nat.zero_le _⟩ hl.1 (Nat.le_of_ble_eq_true rfl) dX12_joinLine_262 (fun H locs hH hS => ?_)
      obtain ⟨v17, S16, e_S16, hm⟩ := m_call_of hm
      refine n_cVi X hH hS (k := 12) (c_X12_node (a := a) hT hk_a e_S16) mw_X12_node in_6_200 hk_a (by decide) rfl rfl rfl ⟨rfl, rfl⟩ ⟨Nat.le_of_ble_eq_true rfl, Nat.le_of_ble_eq_true rfl⟩ ⟨Nat.zero_le _, Nat.zero_le _⟩ hl.1 (Nat.le_of_ble_eq_true rfl) dX12_joinLine_265 (fun H locs hH hS => ?_)
      refine lv_aload_n hx hb dX12_joinLine_268 rfl (lv_at hl 0 rfl) ?_
      refine lv_iload hx hb dX12_joinLine_269 (lv_at hl 5 rfl) ?_
      refine lv_iload hx hb dX12_joinLine_271 (lv_at hl 7 rfl) ?_
      obtain ⟨v19, S18, e_S18, hm⟩ := m_call_of hm
      refine n_cVi X hH hS (k := 12) (c_X12_node (a := a) hT hk_a e_S18) mw_X12_node in_6_200 hk_a (by decide) rfl rfl rfl ⟨rfl, rfl⟩ ⟨Nat.le_of_ble_eq_true rfl, Nat.le_of_ble_eq_true rfl⟩ ⟨Nat.zero_le _, Nat.zero_le _⟩ hl.1 (Nat.le_of_ble_eq_true rfl) dX12_joinLine_273 (fun H locs hH hS => ?_)
      obtain ⟨S20, e_S20, hm⟩ := m_cal0_of hm
      refine r_cVv X hH hS (k := 12) (c_X12_join 200 hT a S18 v17 v19 _ hk_a e_S20) mw_X12_join in_6_208 hk_a (by decide) rfl rfl rfl (rd_X12_join 200) ⟨Nat.le_of_ble_eq_true rfl, Nat.le_of_ble_eq_true rfl⟩ ⟨Nat.zero_le _, Nat.zero_le _⟩ hl.1 (Nat.le_of_ble_eq_true rfl) dX12_joinLine_276 (fun H locs hH hS => ?_)
      obtain ⟨v21, e_v21, hm⟩ := m_let_of hm
      refine lv_iinc (v := v21) (lv' := [(7, .int v21), (0, .ref a), (1, .int l1), (2, .int l2), (3, .int l3), (4, .int l4), (5, .int l5), (6, .int l6)]) hx hb dX12_joinLine_279 hl (k := 7) rfl (by rw [← e_v21]; rfl) (by decide) rfl (fun ls hl => ?_)
      refine lv_goto (tgt := 238) hx hb dX12_joinLine_282 (by decide) ?_
      exact ih S20 l1 l2 l3 l4 l5 l6 v21 _ _ _ hH hS (lv_sub hl [1, 2, 3, 4, 5, 6, 7, 0] rfl) hm
def b_X12_joinLine_233 (a : Nat)  (S : m_M) (l1 : Int32) (l2 : Int32) (l3 : Int32) (l4 : Int32) (l5 : Int32) (t0 : Int32) : Option m_M :=
    b_X12_joinLine_238 a m_fu S l1 l2 l3 l4 l5 t0 (0 : Int32)
set_option maxHeartbeats 4000000 in
set_option maxRecDepth 100000 in
theorem k_X12_joinLine_233 {p : Program} {l : Launch} {e : Env} {s : State} {m : MethodId} {args : Array Value} {below : List Frame} {meth : Method} {c : Code} {G : m_G} {nx : Nat} {κ : Nat → Nat} {res : m_M} {a : Nat} (X : m_Cx p s m args meth c cX12_joinLine 8 RX12 G) (hr : meth.sig.returnType = none) (hT : m_Str κ) (hk_a : κ a = 13)  : ∀ (S : m_M) (l1 : Int32) (l2 : Int32) (l3 : Int32) (l4 : Int32) (l5 : Int32) (t0 : Int32) (H : Heap) (locs : List Loc) (ls : Array Slot), m_H G nx κ S H → m_S G s H locs → lv_has ls 8 [(0, .ref a), (1, .int l1), (2, .int l2), (3, .int l3), (4, .int l4), (5, .int l5)] → b_X12_joinLine_233 a S l1 l2 l3 l4 l5 t0 = some res → W p l e rm_X12_joinLine s m args below meth c H locs 0 0 (m_Qv below args s G nx κ res) (F0 m 233 ls [.int t0]) := by
  have hx := X.1.1
  have hb := X.1.2.1
  intro S l1 l2 l3 l4 l5 t0 H locs ls hH hS hl hm
  rw [b_X12_joinLine_233] at hm
  refine lv_istore (lv' := [(6, .int t0), (0, .ref a), (1, .int l1), (2, .int l2), (3, .int l3), (4, .int l4), (5, .int l5)]) hx hb dX12_joinLine_233 hl (by decide) rfl (fun ls hl => ?_)
  refine lv_iconst (v := (0 : Int32)) hx hb dX12_joinLine_235 (by decide) ?_
  refine lv_istore (lv' := [(7, .int (0 : Int32)), (6, .int t0), (0, .ref a), (1, .int l1), (2, .int l2), (3, .int l3), (4, .int l4), (5, .int l5)]) hx hb dX12_joinLine_236 hl (by decide) rfl (fun ls hl => ?_)
  exact k_X12_joinLine_238 (a := a) X hr hT hk_a  m_fu S l1 l2 l3 l4 l5 t0 (0 : Int32) _ _ _ hH hS (lv_sub hl [2, 3, 4, 5, 6, 7, 1, 0] rfl) hm
def b_X12_joinLine_210 (a : Nat)  (S : m_M) (l1 : Int32) (l2 : Int32) (l3 : Int32) (l4 : Int32) : Option m_M :=
    (m_ldi S (a + 2) 2647 ((42 : Int32) + l2)).bind fun v1 =>
    if l4 = (8 : Int32) then (
    b_X12_joinLine_233 a S l1 l2 l3 l4 v1 (0 : Int32)) else (
    b_X12_joinLine_233 a S l1 l2 l3 l4 v1 (1 : Int32))
set_option maxHeartbeats 4000000 in
set_option maxRecDepth 100000 in
theorem k_X12_joinLine_210 {p : Program} {l : Launch} {e : Env} {s : State} {m : MethodId} {args : Array Value} {below : List Frame} {meth : Method} {c : Code} {G : m_G} {nx : Nat} {κ : Nat → Nat} {res : m_M} {a : Nat} (X : m_Cx p s m args meth c cX12_joinLine 8 RX12 G) (hr : meth.sig.returnType = none) (hT : m_Str κ) (hk_a : κ a = 13)  : ∀ (S : m_M) (l1 : Int32) (l2 : Int32) (l3 : Int32) (l4 : Int32) (H : Heap) (locs : List Loc) (ls : Array Slot), m_H G nx κ S H → m_S G s H locs → lv_has ls 8 [(0, .ref a), (1, .int l1), (2, .int l2), (3, .int l3), (4, .int l4)] → b_X12_joinLine_210 a S l1 l2 l3 l4 = some res → W p l e rm_X12_joinLine s m args below meth c H locs 0 0 (m_Qv below args s G nx κ res) (F0 m 210 ls []) := by
  have hx := X.1.1
  have hb := X.1.2.1
  intro S l1 l2 l3 l4 H locs ls hH hS hl hm
  rw [b_X12_joinLine_210] at hm
  refine lv_aload_n hx hb dX12_joinLine_210 rfl (lv_at hl 0 rfl) ?_
  refine r_getp X hH (k := 12) (a := a) (j := 14) (b := (a + 2)) (A := 2) (B := 0) hk_a (by decide) rfl m_wi12 (by decide) in_7_29 rfl rfl rfl dX12_joinLine_211 ?_
  refine lv_bipush (v := (42 : Int32)) hx hb dX12_joinLine_214 (by decide) ?_
  refine lv_iload_n hx hb dX12_joinLine_216 rfl (lv_at hl 2 rfl) ?_
  refine lv_iadd hx hb dX12_joinLine_217 ?_
  obtain ⟨v1, h_v1, e_v1, hm⟩ := n_ldi hm
  refine n_iald X hH (n := 2647) (m_lay_at hT hk_a (by decide) (i := 2) rfl) h_v1 e_v1 dX12_joinLine_218 ?_
  refine lv_istore (lv' := [(5, .int v1), (0, .ref a), (1, .int l1), (2, .int l2), (3, .int l3), (4, .int l4)]) hx hb dX12_joinLine_219 hl (by decide) rfl (fun ls hl => ?_)
  refine lv_iload hx hb dX12_joinLine_221 (lv_at hl 5 rfl) ?_
  refine lv_bipush (v := (8 : Int32)) hx hb dX12_joinLine_223 (by decide) ?_
  refine lv_icmp_ne (tgt := 232) hx hb dX12_joinLine_225 (by decide) (fun c2 => ?_) (fun c2 => ?_)
  · have hm := m_ite_f hm c2
    refine lv_iconst (v := (1 : Int32)) hx hb dX12_joinLine_232 (by decide) ?_
    exact k_X12_joinLine_233 (a := a) X hr hT hk_a   S l1 l2 l3 l4 v1 (1 : Int32) _ _ _ hH hS (lv_sub hl [1, 2, 3, 4, 5, 0] rfl) hm
  · have hm := m_ite_t hm c2
    refine lv_iconst (v := (0 : Int32)) hx hb dX12_joinLine_228 (by decide) ?_
    refine lv_goto (tgt := 233) hx hb dX12_joinLine_229 (by decide) ?_
    exact k_X12_joinLine_233 (a := a) X hr hT hk_a   S l1 l2 l3 l4 v1 (0 : Int32) _ _ _ hH hS (lv_sub hl [1, 2, 3, 4, 5, 0] rfl) hm
def b_X12_joinLine_332 (a : Nat)  (S : m_M)  : Option m_M :=
    some S
set_option maxHeartbeats 4000000 in
set_option maxRecDepth 100000 in
theorem k_X12_joinLine_332 {p : Program} {l : Launch} {e : Env} {s : State} {m : MethodId} {args : Array Value} {below : List Frame} {meth : Method} {c : Code} {G : m_G} {nx : Nat} {κ : Nat → Nat} {res : m_M} {a : Nat} (X : m_Cx p s m args meth c cX12_joinLine 8 RX12 G) (hr : meth.sig.returnType = none) (hT : m_Str κ) (hk_a : κ a = 13)  : ∀ (S : m_M)  (H : Heap) (locs : List Loc) (ls : Array Slot), m_H G nx κ S H → m_S G s H locs → lv_has ls 8 [] → b_X12_joinLine_332 a S  = some res → W p l e rm_X12_joinLine s m args below meth c H locs 0 0 (m_Qv below args s G nx κ res) (F0 m 332 ls []) := by
  have hx := X.1.1
  have hb := X.1.2.1
  intro S H locs ls hH hS hl hm
  rw [b_X12_joinLine_332] at hm
  exact r_vret X hr hH hS hm dX12_joinLine_332
def f_X12_joinLine (a : Nat) (S : m_M) (i1 : Int32) (i2 : Int32) : Option m_M :=
    m_call (f_X12_madeBy a S i1 i2) fun v2 S1 =>
    m_call (f_X12_node a S1 i1 v2) fun v4 S3 =>
    (m_ldi S3 (a + 2) 2647 ((18 : Int32) + i2)).bind fun v5 =>
    if v5 = (1 : Int32) then (
    m_call (f_X12_var a S3 i2 (0 : Int32)) fun v8 S7 =>
    m_call (f_X12_node a S7 i1 v8) fun v10 S9 =>
    m_cal0 (f_X12_join 200 a S9 v4 v10) fun S11 =>
    some S11) else (
    if v5 = (2 : Int32) then (
    m_call (f_X12_pointFrom a S3 v4) fun v14 S13 =>
    m_call (f_X12_sideNode a S13 v14 (0 : Int32)) fun v16 S15 =>
    m_call (f_X12_var a S15 i2 (0 : Int32)) fun v18 S17 =>
    m_call (f_X12_node a S17 i1 v18) fun v20 S19 =>
    m_cal0 (f_X12_join 200 a S19 v16 v20) fun S21 =>
    m_call (f_X12_pointFrom a S21 v4) fun v23 S22 =>
    m_call (f_X12_sideNode a S22 v23 (1 : Int32)) fun v25 S24 =>
    m_call (f_X12_var a S24 i2 (1 : Int32)) fun v27 S26 =>
    m_call (f_X12_node a S26 i1 v27) fun v29 S28 =>
    m_cal0 (f_X12_join 200 a S28 v25 v29) fun S30 =>
    some S30) else (
    if v5 = (3 : Int32) then (
    b_X12_joinLine_148 a S3 i1 i2 v4 v5) else (
    if v5 = (4 : Int32) then (
    b_X12_joinLine_148 a S3 i1 i2 v4 v5) else (
    if v5 = (5 : Int32) then (
    b_X12_joinLine_332 a S3) else (
    if v5 = (6 : Int32) then (
    b_X12_joinLine_332 a S3) else (
    if v5 = (7 : Int32) then (
    m_call (f_X12_var a S3 i2 (1 : Int32)) fun v37 S36 =>
    m_call (f_X12_node a S36 i1 v37) fun v39 S38 =>
    m_cal0 (f_X12_join 200 a S38 v4 v39) fun S40 =>
    m_call (f_X12_var a S40 i2 (2 : Int32)) fun v42 S41 =>
    m_call (f_X12_node a S41 i1 v42) fun v44 S43 =>
    m_cal0 (f_X12_join 200 a S43 v4 v44) fun S45 =>
    some S45) else (
    if v5 = (8 : Int32) then (
    b_X12_joinLine_210 a S3 i1 i2 v4 v5) else (
    if v5 = (9 : Int32) then (
    b_X12_joinLine_210 a S3 i1 i2 v4 v5) else (
    b_X12_joinLine_332 a S3)))))))))
set_option maxHeartbeats 4000000 in
set_option maxRecDepth 100000 in
theorem c_X12_joinLine {l : Launch} {G : m_G} {nx : Nat} {κ : Nat → Nat} {a : Nat} {S : m_M} {i1 : Int32} {i2 : Int32} {res : m_M} (hT : m_Str κ) (hk_a : κ a = 13) (hm : f_X12_joinLine a S i1 i2 = some res) : m_Cv l yX12_joinLine cX12_joinLine 8 rm_X12_joinLine G nx κ [.ref a, .int i1, .int i2] S res := by
  refine m_Cv.of (by decide) (Nat.le_of_ble_eq_true rfl) ?_
  intro p e s m args below meth c ls X hr hH hl
  have hx := X.1.1
  have hb := X.1.2.1
  have hS : m_S G s s.heap [] := va_S.rf
  have hl : lv_has ls 8 [(0, .ref a), (1, .int i1), (2, .int i2)] := hl
  rw [f_X12_joinLine] at hm
  refine lv_aload_n hx hb dX12_joinLine_0 rfl (lv_at hl 0 rfl) ?_
  refine lv_iload_n hx hb dX12_joinLine_1 rfl (lv_at hl 1 rfl) ?_
  refine lv_aload_n hx hb dX12_joinLine_2 rfl (lv_at hl 0 rfl) ?_
  refine lv_iload_n hx hb dX12_joinLine_3 rfl (lv_at hl 1 rfl) ?_
  refine lv_iload_n hx hb dX12_joinLine_4 rfl (lv_at hl 2 rfl) ?_
  obtain ⟨v2, S1, e_S1, hm⟩ := m_call_of hm
  refine n_cVi X hH hS (k := 12) (c_X12_madeBy (a := a) hT hk_a e_S1) mw_X12_madeBy in_6_196 hk_a (by decide) rfl rfl rfl ⟨rfl, rfl⟩ ⟨Nat.le_of_ble_eq_true rfl, Nat.le_of_ble_eq_true rfl⟩ ⟨Nat.zero_le _, Nat.zero_le _⟩ hl.1 (Nat.le_of_ble_eq_true rfl) dX12_joinLine_5 (fun H locs hH hS => ?_)
  obtain ⟨v4, S3, e_S3, hm⟩ := m_call_of hm
  refine n_cVi X hH hS (k := 12) (c_X12_node (a := a) hT hk_a e_S3) mw_X12_node in_6_200 hk_a (by decide) rfl rfl rfl ⟨rfl, rfl⟩ ⟨Nat.le_of_ble_eq_true rfl, Nat.le_of_ble_eq_true rfl⟩ ⟨Nat.zero_le _, Nat.zero_le _⟩ hl.1 (Nat.le_of_ble_eq_true rfl) dX12_joinLine_8 (fun H locs hH hS => ?_)
  refine lv_istore_n (lv' := [(3, .int v4), (0, .ref a), (1, .int i1), (2, .int i2)]) hx hb dX12_joinLine_11 rfl hl (by decide) rfl (fun ls hl => ?_)
  refine lv_aload_n hx hb dX12_joinLine_12 rfl (lv_at hl 1 rfl) ?_
  refine r_getp X hH (k := 12) (a := a) (j := 14) (b := (a + 2)) (A := 2) (B := 0) hk_a (by decide) rfl m_wi12 (by decide) in_7_29 rfl rfl rfl dX12_joinLine_13 ?_
  refine lv_bipush (v := (18 : Int32)) hx hb dX12_joinLine_16 (by decide) ?_
  refine lv_iload_n hx hb dX12_joinLine_18 rfl (lv_at hl 3 rfl) ?_
  refine lv_iadd hx hb dX12_joinLine_19 ?_
  obtain ⟨v5, h_v5, e_v5, hm⟩ := n_ldi hm
  refine n_iald X hH (n := 2647) (m_lay_at hT hk_a (by decide) (i := 2) rfl) h_v5 e_v5 dX12_joinLine_20 ?_
  refine lv_istore (lv' := [(4, .int v5), (3, .int v4), (0, .ref a), (1, .int i1), (2, .int i2)]) hx hb dX12_joinLine_21 hl (by decide) rfl (fun ls hl => ?_)
  refine lv_iload hx hb dX12_joinLine_23 (lv_at hl 0 rfl) ?_
  by_cases c6 : v5 = (1 : Int32)
  · have hm := m_ite_t hm c6
    refine lv_tableIn (off := 51) (tgt := 76) hx hb dX12_joinLine_25 (by rw [c6]; decide) (by rw [c6]; decide) (by rw [c6]; rfl) (by decide) ?_
    refine lv_aload_n hx hb dX12_joinLine_76 rfl (lv_at hl 2 rfl) ?_
    refine lv_iload_n hx hb dX12_joinLine_77 rfl (lv_at hl 1 rfl) ?_
    refine lv_aload_n hx hb dX12_joinLine_78 rfl (lv_at hl 2 rfl) ?_
    refine lv_iload_n hx hb dX12_joinLine_79 rfl (lv_at hl 3 rfl) ?_
    refine lv_aload_n hx hb dX12_joinLine_80 rfl (lv_at hl 2 rfl) ?_
    refine lv_iload_n hx hb dX12_joinLine_81 rfl (lv_at hl 4 rfl) ?_
    refine lv_iconst (v := (0 : Int32)) hx hb dX12_joinLine_82 (by decide) ?_
    obtain ⟨v8, S7, e_S7, hm⟩ := m_call_of hm
    refine n_cVi X hH hS (k := 12) (c_X12_var (a := a) hT hk_a e_S7) mw_X12_var in_6_204 hk_a (by decide) rfl rfl rfl ⟨rfl, rfl⟩ ⟨Nat.le_of_ble_eq_true rfl, Nat.le_of_ble_eq_true rfl⟩ ⟨Nat.zero_le _, Nat.zero_le _⟩ hl.1 (Nat.le_of_ble_eq_true rfl) dX12_joinLine_83 (fun H locs hH hS => ?_)
    obtain ⟨v10, S9, e_S9, hm⟩ := m_call_of hm
    refine n_cVi X hH hS (k := 12) (c_X12_node (a := a) hT hk_a e_S9) mw_X12_node in_6_200 hk_a (by decide) rfl rfl rfl ⟨rfl, rfl⟩ ⟨Nat.le_of_ble_eq_true rfl, Nat.le_of_ble_eq_true rfl⟩ ⟨Nat.zero_le _, Nat.zero_le _⟩ hl.1 (Nat.le_of_ble_eq_true rfl) dX12_joinLine_86 (fun H locs hH hS => ?_)
    obtain ⟨S11, e_S11, hm⟩ := m_cal0_of hm
    refine r_cVv X hH hS (k := 12) (c_X12_join 200 hT a S9 v4 v10 _ hk_a e_S11) mw_X12_join in_6_208 hk_a (by decide) rfl rfl rfl (rd_X12_join 200) ⟨Nat.le_of_ble_eq_true rfl, Nat.le_of_ble_eq_true rfl⟩ ⟨Nat.zero_le _, Nat.zero_le _⟩ hl.1 (Nat.le_of_ble_eq_true rfl) dX12_joinLine_89 (fun H locs hH hS => ?_)
    exact r_vret X hr hH hS hm dX12_joinLine_92
  · have hm := m_ite_f hm c6
    by_cases c12 : v5 = (2 : Int32)
    · have hm := m_ite_t hm c12
      refine lv_tableIn (off := 68) (tgt := 93) hx hb dX12_joinLine_25 (by rw [c12]; decide) (by rw [c12]; decide) (by rw [c12]; rfl) (by decide) ?_
      refine lv_aload_n hx hb dX12_joinLine_93 rfl (lv_at hl 2 rfl) ?_
      refine lv_iload_n hx hb dX12_joinLine_94 rfl (lv_at hl 1 rfl) ?_
      obtain ⟨v14, S13, e_S13, hm⟩ := m_call_of hm
      refine n_cVi X hH hS (k := 12) (c_X12_pointFrom (a := a) hT hk_a e_S13) mw_X12_pointFrom in_6_220 hk_a (by decide) rfl rfl rfl ⟨rfl, rfl⟩ ⟨Nat.le_of_ble_eq_true rfl, Nat.le_of_ble_eq_true rfl⟩ ⟨Nat.zero_le _, Nat.zero_le _⟩ hl.1 (Nat.le_of_ble_eq_true rfl) dX12_joinLine_95 (fun H locs hH hS => ?_)
      refine lv_istore (lv' := [(5, .int v14), (4, .int v5), (3, .int v4), (0, .ref a), (1, .int i1), (2, .int i2)]) hx hb dX12_joinLine_98 hl (by decide) rfl (fun ls hl => ?_)
      refine lv_aload_n hx hb dX12_joinLine_100 rfl (lv_at hl 3 rfl) ?_
      refine lv_aload_n hx hb dX12_joinLine_101 rfl (lv_at hl 3 rfl) ?_
      refine lv_iload hx hb dX12_joinLine_102 (lv_at hl 0 rfl) ?_
      refine lv_iconst (v := (0 : Int32)) hx hb dX12_joinLine_104 (by decide) ?_
      obtain ⟨v16, S15, e_S15, hm⟩ := m_call_of hm
      refine n_cVi X hH hS (k := 12) (c_X12_sideNode (a := a) hT hk_a e_S15) mw_X12_sideNode in_6_216 hk_a (by decide) rfl rfl rfl ⟨rfl, rfl⟩ ⟨Nat.le_of_ble_eq_true rfl, Nat.le_of_ble_eq_true rfl⟩ ⟨Nat.zero_le _, Nat.zero_le _⟩ hl.1 (Nat.le_of_ble_eq_true rfl) dX12_joinLine_105 (fun H locs hH hS => ?_)
      refine lv_aload_n hx hb dX12_joinLine_108 rfl (lv_at hl 3 rfl) ?_
      refine lv_iload_n hx hb dX12_joinLine_109 rfl (lv_at hl 4 rfl) ?_
      refine lv_aload_n hx hb dX12_joinLine_110 rfl (lv_at hl 3 rfl) ?_
      refine lv_iload_n hx hb dX12_joinLine_111 rfl (lv_at hl 5 rfl) ?_
      refine lv_iconst (v := (0 : Int32)) hx hb dX12_joinLine_112 (by decide) ?_
      obtain ⟨v18, S17, e_S17, hm⟩ := m_call_of hm
      refine n_cVi X hH hS (k := 12) (c_X12_var (a := a) hT hk_a e_S17) mw_X12_var in_6_204 hk_a (by decide) rfl rfl rfl ⟨rfl, rfl⟩ ⟨Nat.le_of_ble_eq_true rfl, Nat.le_of_ble_eq_true rfl⟩ ⟨Nat.zero_le _, Nat.zero_le _⟩ hl.1 (Nat.le_of_ble_eq_true rfl) dX12_joinLine_113 (fun H locs hH hS => ?_)
      obtain ⟨v20, S19, e_S19, hm⟩ := m_call_of hm
      refine n_cVi X hH hS (k := 12) (c_X12_node (a := a) hT hk_a e_S19) mw_X12_node in_6_200 hk_a (by decide) rfl rfl rfl ⟨rfl, rfl⟩ ⟨Nat.le_of_ble_eq_true rfl, Nat.le_of_ble_eq_true rfl⟩ ⟨Nat.zero_le _, Nat.zero_le _⟩ hl.1 (Nat.le_of_ble_eq_true rfl) dX12_joinLine_116 (fun H locs hH hS => ?_)
      obtain ⟨S21, e_S21, hm⟩ := m_cal0_of hm
      refine r_cVv X hH hS (k := 12) (c_X12_join 200 hT a S19 v16 v20 _ hk_a e_S21) mw_X12_join in_6_208 hk_a (by decide) rfl rfl rfl (rd_X12_join 200) ⟨Nat.le_of_ble_eq_true rfl, Nat.le_of_ble_eq_true rfl⟩ ⟨Nat.zero_le _, Nat.zero_le _⟩ hl.1 (Nat.le_of_ble_eq_true rfl) dX12_joinLine_119 (fun H locs hH hS => ?_)
      refine lv_aload_n hx hb dX12_joinLine_122 rfl (lv_at hl 3 rfl) ?_
      refine lv_aload_n hx hb dX12_joinLine_123 rfl (lv_at hl 3 rfl) ?_
      refine lv_aload_n hx hb dX12_joinLine_124 rfl (lv_at hl 3 rfl) ?_
      refine lv_iload_n hx hb dX12_joinLine_125 rfl (lv_at hl 2 rfl) ?_
      obtain ⟨v23, S22, e_S22, hm⟩ := m_call_of hm
      refine n_cVi X hH hS (k := 12) (c_X12_pointFrom (a := a) hT hk_a e_S22) mw_X12_pointFrom in_6_220 hk_a (by decide) rfl rfl rfl ⟨rfl, rfl⟩ ⟨Nat.le_of_ble_eq_true rfl, Nat.le_of_ble_eq_true rfl⟩ ⟨Nat.zero_le _, Nat.zero_le _⟩ hl.1 (Nat.le_of_ble_eq_true rfl) dX12_joinLine_126 (fun H locs hH hS => ?_)
      refine lv_iconst (v := (1 : Int32)) hx hb dX12_joinLine_129 (by decide) ?_
      obtain ⟨v25, S24, e_S24, hm⟩ := m_call_of hm
      refine n_cVi X hH hS (k := 12) (c_X12_sideNode (a := a) hT hk_a e_S24) mw_X12_sideNode in_6_216 hk_a (by decide) rfl rfl rfl ⟨rfl, rfl⟩ ⟨Nat.le_of_ble_eq_true rfl, Nat.le_of_ble_eq_true rfl⟩ ⟨Nat.zero_le _, Nat.zero_le _⟩ hl.1 (Nat.le_of_ble_eq_true rfl) dX12_joinLine_130 (fun H locs hH hS => ?_)
      refine lv_aload_n hx hb dX12_joinLine_133 rfl (lv_at hl 3 rfl) ?_
      refine lv_iload_n hx hb dX12_joinLine_134 rfl (lv_at hl 4 rfl) ?_
      refine lv_aload_n hx hb dX12_joinLine_135 rfl (lv_at hl 3 rfl) ?_
      refine lv_iload_n hx hb dX12_joinLine_136 rfl (lv_at hl 5 rfl) ?_
      refine lv_iconst (v := (1 : Int32)) hx hb dX12_joinLine_137 (by decide) ?_
      obtain ⟨v27, S26, e_S26, hm⟩ := m_call_of hm
      refine n_cVi X hH hS (k := 12) (c_X12_var (a := a) hT hk_a e_S26) mw_X12_var in_6_204 hk_a (by decide) rfl rfl rfl ⟨rfl, rfl⟩ ⟨Nat.le_of_ble_eq_true rfl, Nat.le_of_ble_eq_true rfl⟩ ⟨Nat.zero_le _, Nat.zero_le _⟩ hl.1 (Nat.le_of_ble_eq_true rfl) dX12_joinLine_138 (fun H locs hH hS => ?_)
      obtain ⟨v29, S28, e_S28, hm⟩ := m_call_of hm
      refine n_cVi X hH hS (k := 12) (c_X12_node (a := a) hT hk_a e_S28) mw_X12_node in_6_200 hk_a (by decide) rfl rfl rfl ⟨rfl, rfl⟩ ⟨Nat.le_of_ble_eq_true rfl, Nat.le_of_ble_eq_true rfl⟩ ⟨Nat.zero_le _, Nat.zero_le _⟩ hl.1 (Nat.le_of_ble_eq_true rfl) dX12_joinLine_141 (fun H locs hH hS => ?_)
      obtain ⟨S30, e_S30, hm⟩ := m_cal0_of hm
      refine r_cVv X hH hS (k := 12) (c_X12_join 200 hT a S28 v25 v29 _ hk_a e_S30) mw_X12_join in_6_208 hk_a (by decide) rfl rfl rfl (rd_X12_join 200) ⟨Nat.le_of_ble_eq_true rfl, Nat.le_of_ble_eq_true rfl⟩ ⟨Nat.zero_le _, Nat.zero_le _⟩ hl.1 (Nat.le_of_ble_eq_true rfl) dX12_joinLine_144 (fun H locs hH hS => ?_)
      exact r_vret X hr hH hS hm dX12_joinLine_147
    · have hm := m_ite_f hm c12
      by_cases c31 : v5 = (3 : Int32)
      · have hm := m_ite_t hm c31
        refine lv_tableIn (off := 123) (tgt := 148) hx hb dX12_joinLine_25 (by rw [c31]; decide) (by rw [c31]; decide) (by rw [c31]; rfl) (by decide) ?_
        exact k_X12_joinLine_148 (a := a) X hr hT hk_a   S3 i1 i2 v4 v5 _ _ _ hH hS (lv_sub hl [2, 3, 4, 1, 0] rfl) hm
      · have hm := m_ite_f hm c31
        by_cases c32 : v5 = (4 : Int32)
        · have hm := m_ite_t hm c32
          refine lv_tableIn (off := 123) (tgt := 148) hx hb dX12_joinLine_25 (by rw [c32]; decide) (by rw [c32]; decide) (by rw [c32]; rfl) (by decide) ?_
          exact k_X12_joinLine_148 (a := a) X hr hT hk_a   S3 i1 i2 v4 v5 _ _ _ hH hS (lv_sub hl [2, 3, 4, 1, 0] rfl) hm
        · have hm := m_ite_f hm c32
          by_cases c33 : v5 = (5 : Int32)
          · have hm := m_ite_t hm c33
            refine lv_tableIn (off := 307) (tgt := 332) hx hb dX12_joinLine_25 (by rw [c33]; decide) (by rw [c33]; decide) (by rw [c33]; rfl) (by decide) ?_
            exact k_X12_joinLine_332 (a := a) X hr hT hk_a   S3 _ _ _ hH hS (lv_sub hl [] rfl) hm
          · have hm := m_ite_f hm c33
            by_cases c34 : v5 = (6 : Int32)
            · have hm := m_ite_t hm c34
              refine lv_tableIn (off := 307) (tgt := 332) hx hb dX12_joinLine_25 (by rw [c34]; decide) (by rw [c34]; decide) (by rw [c34]; rfl) (by decide) ?_
              exact k_X12_joinLine_332 (a := a) X hr hT hk_a   S3 _ _ _ hH hS (lv_sub hl [] rfl) hm
            · have hm := m_ite_f hm c34
              by_cases c35 : v5 = (7 : Int32)
              · have hm := m_ite_t hm c35
                refine lv_tableIn (off := 152) (tgt := 177) hx hb dX12_joinLine_25 (by rw [c35]; decide) (by rw [c35]; decide) (by rw [c35]; rfl) (by decide) ?_
                refine lv_aload_n hx hb dX12_joinLine_177 rfl (lv_at hl 2 rfl) ?_
                refine lv_iload_n hx hb dX12_joinLine_178 rfl (lv_at hl 1 rfl) ?_
                refine lv_aload_n hx hb dX12_joinLine_179 rfl (lv_at hl 2 rfl) ?_
                refine lv_iload_n hx hb dX12_joinLine_180 rfl (lv_at hl 3 rfl) ?_
                refine lv_aload_n hx hb dX12_joinLine_181 rfl (lv_at hl 2 rfl) ?_
                refine lv_iload_n hx hb dX12_joinLine_182 rfl (lv_at hl 4 rfl) ?_
                refine lv_iconst (v := (1 : Int32)) hx hb dX12_joinLine_183 (by decide) ?_
                obtain ⟨v37, S36, e_S36, hm⟩ := m_call_of hm
                refine n_cVi X hH hS (k := 12) (c_X12_var (a := a) hT hk_a e_S36) mw_X12_var in_6_204 hk_a (by decide) rfl rfl rfl ⟨rfl, rfl⟩ ⟨Nat.le_of_ble_eq_true rfl, Nat.le_of_ble_eq_true rfl⟩ ⟨Nat.zero_le _, Nat.zero_le _⟩ hl.1 (Nat.le_of_ble_eq_true rfl) dX12_joinLine_184 (fun H locs hH hS => ?_)
                obtain ⟨v39, S38, e_S38, hm⟩ := m_call_of hm
                refine n_cVi X hH hS (k := 12) (c_X12_node (a := a) hT hk_a e_S38) mw_X12_node in_6_200 hk_a (by decide) rfl rfl rfl ⟨rfl, rfl⟩ ⟨Nat.le_of_ble_eq_true rfl, Nat.le_of_ble_eq_true rfl⟩ ⟨Nat.zero_le _, Nat.zero_le _⟩ hl.1 (Nat.le_of_ble_eq_true rfl) dX12_joinLine_187 (fun H locs hH hS => ?_)
                obtain ⟨S40, e_S40, hm⟩ := m_cal0_of hm
                refine r_cVv X hH hS (k := 12) (c_X12_join 200 hT a S38 v4 v39 _ hk_a e_S40) mw_X12_join in_6_208 hk_a (by decide) rfl rfl rfl (rd_X12_join 200) ⟨Nat.le_of_ble_eq_true rfl, Nat.le_of_ble_eq_true rfl⟩ ⟨Nat.zero_le _, Nat.zero_le _⟩ hl.1 (Nat.le_of_ble_eq_true rfl) dX12_joinLine_190 (fun H locs hH hS => ?_)
                refine lv_aload_n hx hb dX12_joinLine_193 rfl (lv_at hl 2 rfl) ?_
                refine lv_iload_n hx hb dX12_joinLine_194 rfl (lv_at hl 1 rfl) ?_
                refine lv_aload_n hx hb dX12_joinLine_195 rfl (lv_at hl 2 rfl) ?_
                refine lv_iload_n hx hb dX12_joinLine_196 rfl (lv_at hl 3 rfl) ?_
                refine lv_aload_n hx hb dX12_joinLine_197 rfl (lv_at hl 2 rfl) ?_
                refine lv_iload_n hx hb dX12_joinLine_198 rfl (lv_at hl 4 rfl) ?_
                refine lv_iconst (v := (2 : Int32)) hx hb dX12_joinLine_199 (by decide) ?_
                obtain ⟨v42, S41, e_S41, hm⟩ := m_call_of hm
                refine n_cVi X hH hS (k := 12) (c_X12_var (a := a) hT hk_a e_S41) mw_X12_var in_6_204 hk_a (by decide) rfl rfl rfl ⟨rfl, rfl⟩ ⟨Nat.le_of_ble_eq_true rfl, Nat.le_of_ble_eq_true rfl⟩ ⟨Nat.zero_le _, Nat.zero_le _⟩ hl.1 (Nat.le_of_ble_eq_true rfl) dX12_joinLine_200 (fun H locs hH hS => ?_)
                obtain ⟨v44, S43, e_S43, hm⟩ := m_call_of hm
                refine n_cVi X hH hS (k := 12) (c_X12_node (a := a) hT hk_a e_S43) mw_X12_node in_6_200 hk_a (by decide) rfl rfl rfl ⟨rfl, rfl⟩ ⟨Nat.le_of_ble_eq_true rfl, Nat.le_of_ble_eq_true rfl⟩ ⟨Nat.zero_le _, Nat.zero_le _⟩ hl.1 (Nat.le_of_ble_eq_true rfl) dX12_joinLine_203 (fun H locs hH hS => ?_)
                obtain ⟨S45, e_S45, hm⟩ := m_cal0_of hm
                refine r_cVv X hH hS (k := 12) (c_X12_join 200 hT a S43 v4 v44 _ hk_a e_S45) mw_X12_join in_6_208 hk_a (by decide) rfl rfl rfl (rd_X12_join 200) ⟨Nat.le_of_ble_eq_true rfl, Nat.le_of_ble_eq_true rfl⟩ ⟨Nat.zero_le _, Nat.zero_le _⟩ hl.1 (Nat.le_of_ble_eq_true rfl) dX12_joinLine_206 (fun H locs hH hS => ?_)
                exact r_vret X hr hH hS hm dX12_joinLine_209
              · have hm := m_ite_f hm c35
                by_cases c46 : v5 = (8 : Int32)
                · have hm := m_ite_t hm c46
                  refine lv_tableIn (off := 185) (tgt := 210) hx hb dX12_joinLine_25 (by rw [c46]; decide) (by rw [c46]; decide) (by rw [c46]; rfl) (by decide) ?_
                  exact k_X12_joinLine_210 (a := a) X hr hT hk_a   S3 i1 i2 v4 v5 _ _ _ hH hS (lv_sub hl [2, 3, 4, 1, 0] rfl) hm
                · have hm := m_ite_f hm c46
                  by_cases c47 : v5 = (9 : Int32)
                  · have hm := m_ite_t hm c47
                    refine lv_tableIn (off := 185) (tgt := 210) hx hb dX12_joinLine_25 (by rw [c47]; decide) (by rw [c47]; decide) (by rw [c47]; rfl) (by decide) ?_
                    exact k_X12_joinLine_210 (a := a) X hr hT hk_a   S3 i1 i2 v4 v5 _ _ _ hH hS (lv_sub hl [2, 3, 4, 1, 0] rfl) hm
                  · have hm := m_ite_f hm c47
                    refine lv_tableOut (tgt := 332) hx hb dX12_joinLine_25 (by have h_c6 := lv_neT (a := 1) c6 rfl; have h_c12 := lv_neT (a := 2) c12 rfl; have h_c31 := lv_neT (a := 3) c31 rfl; have h_c32 := lv_neT (a := 4) c32 rfl; have h_c33 := lv_neT (a := 5) c33 rfl; have h_c34 := lv_neT (a := 6) c34 rfl; have h_c35 := lv_neT (a := 7) c35 rfl; have h_c46 := lv_neT (a := 8) c46 rfl; have h_c47 := lv_neT (a := 9) c47 rfl; omega) (by decide) ?_
                    exact k_X12_joinLine_332 (a := a) X hr hT hk_a   S3 _ _ _ hH hS (lv_sub hl [] rfl) hm
def rm_X12_numberFrom_ (r : Room) : Room := { frames := r.frames + 1, cells := 0, slots := 0, locals := r.locals + 22 }
def b_X12_numberFrom_26 (F : Nat → m_M → Int32 → Option m_M) (a : Nat)  (S : m_M)  : Option m_M :=
    some S
set_option maxHeartbeats 4000000 in
set_option maxRecDepth 100000 in
theorem k_X12_numberFrom_26 {p : Program} {l : Launch} {e : Env} {s : State} {m : MethodId} {args : Array Value} {below : List Frame} {meth : Method} {c : Code} {G : m_G} {nx : Nat} {κ : Nat → Nat} {res : m_M} {F : Nat → m_M → Int32 → Option m_M} {a : Nat} (X : m_Cx p s m args meth c cX12_numberFrom 3 RX12 G) (hr : meth.sig.returnType = none) (hT : m_Str κ) (rF : Room) (hrF : rF.cells = 0 ∧ rF.slots = 0) (hF : ∀ (a : Nat) (S : m_M) (i1 : Int32) (res : m_M), κ a = 13 → F a S i1 = some res → m_Cv l yX12_numberFrom cX12_numberFrom 3 rF G nx κ [.ref a, .int i1] S res) (hk_a : κ a = 13)  : ∀ (S : m_M)  (H : Heap) (locs : List Loc) (ls : Array Slot), m_H G nx κ S H → m_S G s H locs → lv_has ls 3 [] → b_X12_numberFrom_26 F a S  = some res → W p l e (rm_X12_numberFrom_ rF) s m args below meth c H locs 0 0 (m_Qv below args s G nx κ res) (F0 m 26 ls []) := by
  have hx := X.1.1
  have hb := X.1.2.1
  intro S H locs ls hH hS hl hm
  rw [b_X12_numberFrom_26] at hm
  exact r_vret X hr hH hS hm dX12_numberFrom_26
def g_X12_numberFrom (F : Nat → m_M → Int32 → Option m_M) (a : Nat) (S : m_M) (i1 : Int32) : Option m_M :=
    m_call (f_X12_topOf a S i1) fun v2 S1 =>
    (m_ldi S1 (a + 13) 183 v2).bind fun v3 =>
    if v3 = (-1 : Int32) then (
    b_X12_numberFrom_26 F a S1) else (
    (m_ldi S1 (a + 14) 24 v3).bind fun v5 =>
    if v5 = (-1 : Int32) then (
    (m_ldi S1 (a + 2) 2647 (2 : Int32)).bind fun v7 =>
    (m_sti S1 (a + 14) 24 v3 v7).bind fun S8 =>
    (m_ldi S8 (a + 2) 2647 (2 : Int32)).bind fun v9 =>
    (m_sti S8 (a + 2) 2647 (2 : Int32) (v9 + (1 : Int32))).bind fun S10 =>
    m_call (f_X12_sideNode a S10 v3 (0 : Int32)) fun v12 S11 =>
    m_cal0 (F a S11 v12) fun S13 =>
    m_call (f_X12_sideNode a S13 v3 (1 : Int32)) fun v15 S14 =>
    m_cal0 (F a S14 v15) fun S16 =>
    some S16) else (
    b_X12_numberFrom_26 F a S1))
set_option maxHeartbeats 4000000 in
set_option maxRecDepth 100000 in
theorem cg_X12_numberFrom {l : Launch} {G : m_G} {nx : Nat} {κ : Nat → Nat} {F : Nat → m_M → Int32 → Option m_M} {rF : Room} (hrF : rF.cells = 0 ∧ rF.slots = 0) (hF : ∀ (a : Nat) (S : m_M) (i1 : Int32) (res : m_M), κ a = 13 → F a S i1 = some res → m_Cv l yX12_numberFrom cX12_numberFrom 3 rF G nx κ [.ref a, .int i1] S res) {a : Nat} {S : m_M} {i1 : Int32} {res : m_M} (hT : m_Str κ) (hk_a : κ a = 13) (hm : g_X12_numberFrom F a S i1 = some res) : m_Cv l yX12_numberFrom cX12_numberFrom 3 (rm_X12_numberFrom_ rF) G nx κ [.ref a, .int i1] S res := by
  refine m_Cv.of (by decide) (Nat.le_of_ble_eq_true rfl) ?_
  intro p e s m args below meth c ls X hr hH hl
  have hx := X.1.1
  have hb := X.1.2.1
  have hS : m_S G s s.heap [] := va_S.rf
  have hl : lv_has ls 3 [(0, .ref a), (1, .int i1)] := hl
  rw [g_X12_numberFrom] at hm
  refine lv_aload_n hx hb dX12_numberFrom_0 rfl (lv_at hl 0 rfl) ?_
  refine r_getp X hH (k := 12) (a := a) (j := 26) (b := (a + 13)) (A := 13) (B := 0) hk_a (by decide) rfl m_wi12 (by decide) in_7_41 rfl rfl rfl dX12_numberFrom_1 ?_
  refine lv_aload_n hx hb dX12_numberFrom_4 rfl (lv_at hl 0 rfl) ?_
  refine lv_iload_n hx hb dX12_numberFrom_5 rfl (lv_at hl 1 rfl) ?_
  obtain ⟨v2, S1, e_S1, hm⟩ := m_call_of hm
  refine n_cVi X hH hS (k := 12) (c_X12_topOf (a := a) hT hk_a e_S1) mw_X12_topOf in_6_212 hk_a (by decide) rfl rfl rfl ⟨rfl, rfl⟩ ⟨by simp only [rm_X12_numberFrom_, rm_X12_topOf]; omega, by simp only [rm_X12_numberFrom_, rm_X12_topOf]; omega⟩ ⟨Nat.zero_le _, Nat.zero_le _⟩ hl.1 (Nat.le_of_ble_eq_true rfl) dX12_numberFrom_6 (fun H locs hH hS => ?_)
  obtain ⟨v3, h_v3, e_v3, hm⟩ := n_ldi hm
  refine n_iald X hH (n := 183) (m_lay_at hT hk_a (by decide) (i := 13) rfl) h_v3 e_v3 dX12_numberFrom_9 ?_
  refine lv_istore_n (lv' := [(2, .int v3), (0, .ref a), (1, .int i1)]) hx hb dX12_numberFrom_10 rfl hl (by decide) rfl (fun ls hl => ?_)
  refine lv_iload_n hx hb dX12_numberFrom_11 rfl (lv_at hl 0 rfl) ?_
  refine lv_iconst (v := (-1 : Int32)) hx hb dX12_numberFrom_12 (by decide) ?_
  refine lv_icmp_eq (tgt := 26) hx hb dX12_numberFrom_13 (by decide) (fun c4 => ?_) (fun c4 => ?_)
  · have hm := m_ite_t hm c4
    exact k_X12_numberFrom_26 (F := F) (a := a) X hr hT rF hrF hF hk_a   S1 _ _ _ hH hS (lv_sub hl [] rfl) hm
  · have hm := m_ite_f hm c4
    refine lv_aload_n hx hb dX12_numberFrom_16 rfl (lv_at hl 1 rfl) ?_
    refine r_getp X hH (k := 12) (a := a) (j := 27) (b := (a + 14)) (A := 14) (B := 0) hk_a (by decide) rfl m_wi12 (by decide) in_7_42 rfl rfl rfl dX12_numberFrom_17 ?_
    refine lv_iload_n hx hb dX12_numberFrom_20 rfl (lv_at hl 0 rfl) ?_
    obtain ⟨v5, h_v5, e_v5, hm⟩ := n_ldi hm
    refine n_iald X hH (n := 24) (m_lay_at hT hk_a (by decide) (i := 14) rfl) h_v5 e_v5 dX12_numberFrom_21 ?_
    refine lv_iconst (v := (-1 : Int32)) hx hb dX12_numberFrom_22 (by decide) ?_
    refine lv_icmp_eq (tgt := 27) hx hb dX12_numberFrom_23 (by decide) (fun c6 => ?_) (fun c6 => ?_)
    · have hm := m_ite_t hm c6
      refine lv_aload_n hx hb dX12_numberFrom_27 rfl (lv_at hl 1 rfl) ?_
      refine r_getp X hH (k := 12) (a := a) (j := 27) (b := (a + 14)) (A := 14) (B := 0) hk_a (by decide) rfl m_wi12 (by decide) in_7_42 rfl rfl rfl dX12_numberFrom_28 ?_
      refine lv_iload_n hx hb dX12_numberFrom_31 rfl (lv_at hl 0 rfl) ?_
      refine lv_aload_n hx hb dX12_numberFrom_32 rfl (lv_at hl 1 rfl) ?_
      refine r_getp X hH (k := 12) (a := a) (j := 14) (b := (a + 2)) (A := 2) (B := 0) hk_a (by decide) rfl m_wi12 (by decide) in_7_29 rfl rfl rfl dX12_numberFrom_33 ?_
      refine lv_iconst (v := (2 : Int32)) hx hb dX12_numberFrom_36 (by decide) ?_
      obtain ⟨v7, h_v7, e_v7, hm⟩ := n_ldi hm
      refine n_iald X hH (n := 2647) (m_lay_at hT hk_a (by decide) (i := 2) rfl) h_v7 e_v7 dX12_numberFrom_37 ?_
      obtain ⟨S8, h_S8, e_S8, hm⟩ := n_sti hm
      refine n_iast X hH hS (n := 24) (m_lay_at hT hk_a (by decide) (i := 14) rfl) h_S8 e_S8 dX12_numberFrom_38 (fun H locs hH hS => ?_)
      refine lv_aload_n hx hb dX12_numberFrom_39 rfl (lv_at hl 1 rfl) ?_
      refine r_getp X hH (k := 12) (a := a) (j := 14) (b := (a + 2)) (A := 2) (B := 0) hk_a (by decide) rfl m_wi12 (by decide) in_7_29 rfl rfl rfl dX12_numberFrom_40 ?_
      refine lv_iconst (v := (2 : Int32)) hx hb dX12_numberFrom_43 (by decide) ?_
      refine lv_dup2_11 hx hb dX12_numberFrom_44 rfl rfl ?_
      obtain ⟨v9, h_v9, e_v9, hm⟩ := n_ldi hm
      refine n_iald X hH (n := 2647) (m_lay_at hT hk_a (by decide) (i := 2) rfl) h_v9 e_v9 dX12_numberFrom_45 ?_
      refine lv_iconst (v := (1 : Int32)) hx hb dX12_numberFrom_46 (by decide) ?_
      refine lv_iadd hx hb dX12_numberFrom_47 ?_
      obtain ⟨S10, h_S10, e_S10, hm⟩ := n_sti hm
      refine n_iast X hH hS (n := 2647) (m_lay_at hT hk_a (by decide) (i := 2) rfl) h_S10 e_S10 dX12_numberFrom_48 (fun H locs hH hS => ?_)
      refine lv_aload_n hx hb dX12_numberFrom_49 rfl (lv_at hl 1 rfl) ?_
      refine lv_aload_n hx hb dX12_numberFrom_50 rfl (lv_at hl 1 rfl) ?_
      refine lv_iload_n hx hb dX12_numberFrom_51 rfl (lv_at hl 0 rfl) ?_
      refine lv_iconst (v := (0 : Int32)) hx hb dX12_numberFrom_52 (by decide) ?_
      obtain ⟨v12, S11, e_S11, hm⟩ := m_call_of hm
      refine n_cVi X hH hS (k := 12) (c_X12_sideNode (a := a) hT hk_a e_S11) mw_X12_sideNode in_6_216 hk_a (by decide) rfl rfl rfl ⟨rfl, rfl⟩ ⟨by simp only [rm_X12_numberFrom_, rm_X12_sideNode]; omega, by simp only [rm_X12_numberFrom_, rm_X12_sideNode]; omega⟩ ⟨Nat.zero_le _, Nat.zero_le _⟩ hl.1 (Nat.le_of_ble_eq_true rfl) dX12_numberFrom_53 (fun H locs hH hS => ?_)
      obtain ⟨S13, e_S13, hm⟩ := m_cal0_of hm
      refine r_cVv X hH hS (k := 12) (hF a S11 v12 _ hk_a e_S13) mw_X12_numberFrom in_6_228 hk_a (by decide) rfl rfl rfl hrF ⟨by simp only [rm_X12_numberFrom_]; omega, by simp only [rm_X12_numberFrom_]; omega⟩ ⟨Nat.zero_le _, Nat.zero_le _⟩ hl.1 (Nat.le_of_ble_eq_true rfl) dX12_numberFrom_56 (fun H locs hH hS => ?_)
      refine lv_aload_n hx hb dX12_numberFrom_59 rfl (lv_at hl 1 rfl) ?_
      refine lv_aload_n hx hb dX12_numberFrom_60 rfl (lv_at hl 1 rfl) ?_
      refine lv_iload_n hx hb dX12_numberFrom_61 rfl (lv_at hl 0 rfl) ?_
      refine lv_iconst (v := (1 : Int32)) hx hb dX12_numberFrom_62 (by decide) ?_
      obtain ⟨v15, S14, e_S14, hm⟩ := m_call_of hm
      refine n_cVi X hH hS (k := 12) (c_X12_sideNode (a := a) hT hk_a e_S14) mw_X12_sideNode in_6_216 hk_a (by decide) rfl rfl rfl ⟨rfl, rfl⟩ ⟨by simp only [rm_X12_numberFrom_, rm_X12_sideNode]; omega, by simp only [rm_X12_numberFrom_, rm_X12_sideNode]; omega⟩ ⟨Nat.zero_le _, Nat.zero_le _⟩ hl.1 (Nat.le_of_ble_eq_true rfl) dX12_numberFrom_63 (fun H locs hH hS => ?_)
      obtain ⟨S16, e_S16, hm⟩ := m_cal0_of hm
      refine r_cVv X hH hS (k := 12) (hF a S14 v15 _ hk_a e_S16) mw_X12_numberFrom in_6_228 hk_a (by decide) rfl rfl rfl hrF ⟨by simp only [rm_X12_numberFrom_]; omega, by simp only [rm_X12_numberFrom_]; omega⟩ ⟨Nat.zero_le _, Nat.zero_le _⟩ hl.1 (Nat.le_of_ble_eq_true rfl) dX12_numberFrom_66 (fun H locs hH hS => ?_)
      exact r_vret X hr hH hS hm dX12_numberFrom_69
    · have hm := m_ite_f hm c6
      exact k_X12_numberFrom_26 (F := F) (a := a) X hr hT rF hrF hF hk_a   S1 _ _ _ hH hS (lv_sub hl [] rfl) hm
def f_X12_numberFrom : Nat → Nat → m_M → Int32 → Option m_M
  | 0, _, _, _ => none
  | d + 1, a, S, i1 => g_X12_numberFrom (f_X12_numberFrom d) a S i1
def rm_X12_numberFrom : Nat → Room
  | 0 => { frames := 0, cells := 0, slots := 0, locals := 0 }
  | d + 1 => rm_X12_numberFrom_ (rm_X12_numberFrom d)
theorem rd_X12_numberFrom (d : Nat) : (rm_X12_numberFrom d).cells = 0 ∧ (rm_X12_numberFrom d).slots = 0 := by cases d <;> exact ⟨rfl, rfl⟩
theorem c_X12_numberFrom {l : Launch} {G : m_G} {nx : Nat} {κ : Nat → Nat} (d : Nat) (hT : m_Str κ) : ∀ (a : Nat) (S : m_M) (i1 : Int32) (res : m_M), κ a = 13 → f_X12_numberFrom d a S i1 = some res → m_Cv l yX12_numberFrom cX12_numberFrom 3 (rm_X12_numberFrom d) G nx κ [.ref a, .int i1] S res := by
  induction d with
  | zero => intro a S i1 res hk_a hm; have hm : (none : Option m_M) = some res := hm; cases hm
  | succ d ih => intro a S i1 res hk_a hm; exact cg_X12_numberFrom (F := f_X12_numberFrom d) (rF := rm_X12_numberFrom d) (rd_X12_numberFrom d) ih hT hk_a hm
def rm_X12_numbered : Room := { frames := 1, cells := 0, slots := 0, locals := 22 }
def b_X12_numbered_26 (a : Nat)  (S : m_M) (t0 : Int32) : Option (Int32 × m_M) :=
    some (t0, S)
set_option maxHeartbeats 4000000 in
set_option maxRecDepth 100000 in
theorem k_X12_numbered_26 {p : Program} {l : Launch} {e : Env} {s : State} {m : MethodId} {args : Array Value} {below : List Frame} {meth : Method} {c : Code} {G : m_G} {nx : Nat} {κ : Nat → Nat} {res : (Int32 × m_M)} {a : Nat} (X : m_Cx p s m args meth c cX12_numbered 3 RX12 G) (hr : meth.sig.returnType = (some .int)) (hT : m_Str κ) (hk_a : κ a = 13)  : ∀ (S : m_M) (t0 : Int32) (H : Heap) (locs : List Loc) (ls : Array Slot), m_H G nx κ S H → m_S G s H locs → lv_has ls 3 [] → b_X12_numbered_26 a S t0 = some res → W p l e rm_X12_numbered s m args below meth c H locs 0 0 (m_Qi below args s G nx κ res) (F0 m 26 ls [.int t0]) := by
  have hx := X.1.1
  have hb := X.1.2.1
  intro S t0 H locs ls hH hS hl hm
  rw [b_X12_numbered_26] at hm
  exact r_iret X hr hH hS hm dX12_numbered_26
def f_X12_numbered (a : Nat) (S : m_M) (i1 : Int32) : Option (Int32 × m_M) :=
    m_call (f_X12_topOf a S i1) fun v2 S1 =>
    (m_ldi S1 (a + 13) 183 v2).bind fun v3 =>
    if v3 = (-1 : Int32) then (
    b_X12_numbered_26 a S1 (-1 : Int32)) else (
    (m_ldi S1 (a + 14) 24 v3).bind fun v5 =>
    b_X12_numbered_26 a S1 v5)
set_option maxHeartbeats 4000000 in
set_option maxRecDepth 100000 in
theorem c_X12_numbered {l : Launch} {G : m_G} {nx : Nat} {κ : Nat → Nat} {a : Nat} {S : m_M} {i1 : Int32} {res : (Int32 × m_M)} (hT : m_Str κ) (hk_a : κ a = 13) (hm : f_X12_numbered a S i1 = some res) : m_Ci l yX12_numbered cX12_numbered 3 (some .int) rm_X12_numbered G nx κ [.ref a, .int i1] S res := by
  refine m_Ci.of (by decide) (Nat.le_of_ble_eq_true rfl) ?_
  intro p e s m args below meth c ls X hr hH hl
  have hx := X.1.1
  have hb := X.1.2.1
  have hS : m_S G s s.heap [] := va_S.rf
  have hl : lv_has ls 3 [(0, .ref a), (1, .int i1)] := hl
  rw [f_X12_numbered] at hm
  refine lv_aload_n hx hb dX12_numbered_0 rfl (lv_at hl 0 rfl) ?_
  refine r_getp X hH (k := 12) (a := a) (j := 26) (b := (a + 13)) (A := 13) (B := 0) hk_a (by decide) rfl m_wi12 (by decide) in_7_41 rfl rfl rfl dX12_numbered_1 ?_
  refine lv_aload_n hx hb dX12_numbered_4 rfl (lv_at hl 0 rfl) ?_
  refine lv_iload_n hx hb dX12_numbered_5 rfl (lv_at hl 1 rfl) ?_
  obtain ⟨v2, S1, e_S1, hm⟩ := m_call_of hm
  refine n_cVi X hH hS (k := 12) (c_X12_topOf (a := a) hT hk_a e_S1) mw_X12_topOf in_6_212 hk_a (by decide) rfl rfl rfl ⟨rfl, rfl⟩ ⟨Nat.le_of_ble_eq_true rfl, Nat.le_of_ble_eq_true rfl⟩ ⟨Nat.zero_le _, Nat.zero_le _⟩ hl.1 (Nat.le_of_ble_eq_true rfl) dX12_numbered_6 (fun H locs hH hS => ?_)
  obtain ⟨v3, h_v3, e_v3, hm⟩ := n_ldi hm
  refine n_iald X hH (n := 183) (m_lay_at hT hk_a (by decide) (i := 13) rfl) h_v3 e_v3 dX12_numbered_9 ?_
  refine lv_istore_n (lv' := [(2, .int v3), (0, .ref a), (1, .int i1)]) hx hb dX12_numbered_10 rfl hl (by decide) rfl (fun ls hl => ?_)
  refine lv_iload_n hx hb dX12_numbered_11 rfl (lv_at hl 0 rfl) ?_
  refine lv_iconst (v := (-1 : Int32)) hx hb dX12_numbered_12 (by decide) ?_
  refine lv_icmp_ne (tgt := 20) hx hb dX12_numbered_13 (by decide) (fun c4 => ?_) (fun c4 => ?_)
  · have hm := m_ite_f hm c4
    refine lv_aload_n hx hb dX12_numbered_20 rfl (lv_at hl 1 rfl) ?_
    refine r_getp X hH (k := 12) (a := a) (j := 27) (b := (a + 14)) (A := 14) (B := 0) hk_a (by decide) rfl m_wi12 (by decide) in_7_42 rfl rfl rfl dX12_numbered_21 ?_
    refine lv_iload_n hx hb dX12_numbered_24 rfl (lv_at hl 0 rfl) ?_
    obtain ⟨v5, h_v5, e_v5, hm⟩ := n_ldi hm
    refine n_iald X hH (n := 24) (m_lay_at hT hk_a (by decide) (i := 14) rfl) h_v5 e_v5 dX12_numbered_25 ?_
    exact k_X12_numbered_26 (a := a) X hr hT hk_a   S1 v5 _ _ _ hH hS (lv_sub hl [] rfl) hm
  · have hm := m_ite_t hm c4
    refine lv_iconst (v := (-1 : Int32)) hx hb dX12_numbered_16 (by decide) ?_
    refine lv_goto (tgt := 26) hx hb dX12_numbered_17 (by decide) ?_
    exact k_X12_numbered_26 (a := a) X hr hT hk_a   S1 (-1 : Int32) _ _ _ hH hS (lv_sub hl [] rfl) hm
def rm_X12_reachFrom : Room := { frames := 1, cells := 0, slots := 0, locals := 21 }
def b_X12_reachFrom_89 (a : Nat) (K_15 : m_M → Int32 → Int32 → Option (Int32 × m_M)) (K_24 : m_M → Int32 → Int32 → Int32 → Option (Int32 × m_M)) (K_50 : m_M → Int32 → Int32 → Int32 → Int32 → Option (Int32 × m_M)) (S : m_M) (l2 : Int32) (l3 : Int32) (l4 : Int32) (l5 : Int32) : Option (Int32 × m_M) :=
    m_let (l5 + (1 : Int32)) fun v1 =>
    K_50 S l2 l3 l4 v1
set_option maxHeartbeats 4000000 in
set_option maxRecDepth 100000 in
theorem k_X12_reachFrom_89 {p : Program} {l : Launch} {e : Env} {s : State} {m : MethodId} {args : Array Value} {below : List Frame} {meth : Method} {c : Code} {G : m_G} {nx : Nat} {κ : Nat → Nat} {res : (Int32 × m_M)} {a : Nat} (X : m_Cx p s m args meth c cX12_reachFrom 6 RX12 G) (hr : meth.sig.returnType = (some .int)) (hT : m_Str κ) (hk_a : κ a = 13) (K_15 : m_M → Int32 → Int32 → Option (Int32 × m_M)) (hK_15 : ∀ (S : m_M) (l2 : Int32) (l3 : Int32) (H : Heap) (locs : List Loc) (ls : Array Slot), m_H G nx κ S H → m_S G s H locs → lv_has ls 6 [(0, .ref a), (2, .int l2), (3, .int l3)] → K_15 S l2 l3 = some res → W p l e rm_X12_reachFrom s m args below meth c H locs 0 0 (m_Qi below args s G nx κ res) (F0 m 15 ls [])) (K_24 : m_M → Int32 → Int32 → Int32 → Option (Int32 × m_M)) (hK_24 : ∀ (S : m_M) (l2 : Int32) (l3 : Int32) (l4 : Int32) (H : Heap) (locs : List Loc) (ls : Array Slot), m_H G nx κ S H → m_S G s H locs → lv_has ls 6 [(0, .ref a), (2, .int l2), (3, .int l3), (4, .int l4)] → K_24 S l2 l3 l4 = some res → W p l e rm_X12_reachFrom s m args below meth c H locs 0 0 (m_Qi below args s G nx κ res) (F0 m 24 ls [])) (K_50 : m_M → Int32 → Int32 → Int32 → Int32 → Option (Int32 × m_M)) (hK_50 : ∀ (S : m_M) (l2 : Int32) (l3 : Int32) (l4 : Int32) (l5 : Int32) (H : Heap) (locs : List Loc) (ls : Array Slot), m_H G nx κ S H → m_S G s H locs → lv_has ls 6 [(0, .ref a), (2, .int l2), (3, .int l3), (4, .int l4), (5, .int l5)] → K_50 S l2 l3 l4 l5 = some res → W p l e rm_X12_reachFrom s m args below meth c H locs 0 0 (m_Qi below args s G nx κ res) (F0 m 50 ls [])) : ∀ (S : m_M) (l2 : Int32) (l3 : Int32) (l4 : Int32) (l5 : Int32) (H : Heap) (locs : List Loc) (ls : Array Slot), m_H G nx κ S H → m_S G s H locs → lv_has ls 6 [(0, .ref a), (2, .int l2), (3, .int l3), (4, .int l4), (5, .int l5)] → b_X12_reachFrom_89 a K_15 K_24 K_50 S l2 l3 l4 l5 = some res → W p l e rm_X12_reachFrom s m args below meth c H locs 0 0 (m_Qi below args s G nx κ res) (F0 m 89 ls []) := by
  have hx := X.1.1
  have hb := X.1.2.1
  intro S l2 l3 l4 l5 H locs ls hH hS hl hm
  rw [b_X12_reachFrom_89] at hm
  obtain ⟨v1, e_v1, hm⟩ := m_let_of hm
  refine lv_iinc (v := v1) (lv' := [(5, .int v1), (0, .ref a), (2, .int l2), (3, .int l3), (4, .int l4)]) hx hb dX12_reachFrom_89 hl (k := 4) rfl (by rw [← e_v1]; rfl) (by decide) rfl (fun ls hl => ?_)
  refine lv_goto (tgt := 50) hx hb dX12_reachFrom_92 (by decide) ?_
  exact hK_50 S l2 l3 l4 v1 _ _ _ hH hS (lv_sub hl [1, 2, 3, 4, 0] rfl) hm
def b_X12_reachFrom_95 (a : Nat) (K_15 : m_M → Int32 → Int32 → Option (Int32 × m_M)) (K_24 : m_M → Int32 → Int32 → Int32 → Option (Int32 × m_M)) (S : m_M) (l2 : Int32) (l3 : Int32) (l4 : Int32) : Option (Int32 × m_M) :=
    m_let (l4 + (1 : Int32)) fun v1 =>
    K_24 S l2 l3 v1
set_option maxHeartbeats 4000000 in
set_option maxRecDepth 100000 in
theorem k_X12_reachFrom_95 {p : Program} {l : Launch} {e : Env} {s : State} {m : MethodId} {args : Array Value} {below : List Frame} {meth : Method} {c : Code} {G : m_G} {nx : Nat} {κ : Nat → Nat} {res : (Int32 × m_M)} {a : Nat} (X : m_Cx p s m args meth c cX12_reachFrom 6 RX12 G) (hr : meth.sig.returnType = (some .int)) (hT : m_Str κ) (hk_a : κ a = 13) (K_15 : m_M → Int32 → Int32 → Option (Int32 × m_M)) (hK_15 : ∀ (S : m_M) (l2 : Int32) (l3 : Int32) (H : Heap) (locs : List Loc) (ls : Array Slot), m_H G nx κ S H → m_S G s H locs → lv_has ls 6 [(0, .ref a), (2, .int l2), (3, .int l3)] → K_15 S l2 l3 = some res → W p l e rm_X12_reachFrom s m args below meth c H locs 0 0 (m_Qi below args s G nx κ res) (F0 m 15 ls [])) (K_24 : m_M → Int32 → Int32 → Int32 → Option (Int32 × m_M)) (hK_24 : ∀ (S : m_M) (l2 : Int32) (l3 : Int32) (l4 : Int32) (H : Heap) (locs : List Loc) (ls : Array Slot), m_H G nx κ S H → m_S G s H locs → lv_has ls 6 [(0, .ref a), (2, .int l2), (3, .int l3), (4, .int l4)] → K_24 S l2 l3 l4 = some res → W p l e rm_X12_reachFrom s m args below meth c H locs 0 0 (m_Qi below args s G nx κ res) (F0 m 24 ls [])) : ∀ (S : m_M) (l2 : Int32) (l3 : Int32) (l4 : Int32) (H : Heap) (locs : List Loc) (ls : Array Slot), m_H G nx κ S H → m_S G s H locs → lv_has ls 6 [(0, .ref a), (2, .int l2), (3, .int l3), (4, .int l4)] → b_X12_reachFrom_95 a K_15 K_24 S l2 l3 l4 = some res → W p l e rm_X12_reachFrom s m args below meth c H locs 0 0 (m_Qi below args s G nx κ res) (F0 m 95 ls []) := by
  have hx := X.1.1
  have hb := X.1.2.1
  intro S l2 l3 l4 H locs ls hH hS hl hm
  rw [b_X12_reachFrom_95] at hm
  obtain ⟨v1, e_v1, hm⟩ := m_let_of hm
  refine lv_iinc (v := v1) (lv' := [(4, .int v1), (0, .ref a), (2, .int l2), (3, .int l3)]) hx hb dX12_reachFrom_95 hl (k := 3) rfl (by rw [← e_v1]; rfl) (by decide) rfl (fun ls hl => ?_)
  refine lv_goto (tgt := 24) hx hb dX12_reachFrom_98 (by decide) ?_
  exact hK_24 S l2 l3 v1 _ _ _ hH hS (lv_sub hl [1, 2, 3, 0] rfl) hm
def b_X12_reachFrom_50 (a : Nat) (K_15 : m_M → Int32 → Int32 → Option (Int32 × m_M)) (K_24 : m_M → Int32 → Int32 → Int32 → Option (Int32 × m_M)) : Nat → m_M → Int32 → Int32 → Int32 → Int32 → Option (Int32 × m_M)
  | 0, _, _, _, _, _ => none
  | n + 1, S, l2, l3, l4, l5 =>
    if (2 : Int32) ≤ l5 then (
    b_X12_reachFrom_95 a K_15 K_24 S l2 l3 l4) else (
    (m_ldi S (a + 17) 48 (((2 : Int32) * l4) + l5)).bind fun v2 =>
    if v2 = (-1 : Int32) then (
    b_X12_reachFrom_89 a K_15 K_24 (b_X12_reachFrom_50 a K_15 K_24 n) S l2 l3 l4 l5) else (
    (m_ldi S (a + 17) 48 (((2 : Int32) * l4) + l5)).bind fun v4 =>
    m_let (l2 ||| ((1 : Int32) <<< (v4 &&& 31))) fun v5 =>
    b_X12_reachFrom_89 a K_15 K_24 (b_X12_reachFrom_50 a K_15 K_24 n) S v5 l3 l4 l5))
set_option maxHeartbeats 4000000 in
set_option maxRecDepth 100000 in
theorem k_X12_reachFrom_50 {p : Program} {l : Launch} {e : Env} {s : State} {m : MethodId} {args : Array Value} {below : List Frame} {meth : Method} {c : Code} {G : m_G} {nx : Nat} {κ : Nat → Nat} {res : (Int32 × m_M)} {a : Nat} (X : m_Cx p s m args meth c cX12_reachFrom 6 RX12 G) (hr : meth.sig.returnType = (some .int)) (hT : m_Str κ) (hk_a : κ a = 13) (K_15 : m_M → Int32 → Int32 → Option (Int32 × m_M)) (hK_15 : ∀ (S : m_M) (l2 : Int32) (l3 : Int32) (H : Heap) (locs : List Loc) (ls : Array Slot), m_H G nx κ S H → m_S G s H locs → lv_has ls 6 [(0, .ref a), (2, .int l2), (3, .int l3)] → K_15 S l2 l3 = some res → W p l e rm_X12_reachFrom s m args below meth c H locs 0 0 (m_Qi below args s G nx κ res) (F0 m 15 ls [])) (K_24 : m_M → Int32 → Int32 → Int32 → Option (Int32 × m_M)) (hK_24 : ∀ (S : m_M) (l2 : Int32) (l3 : Int32) (l4 : Int32) (H : Heap) (locs : List Loc) (ls : Array Slot), m_H G nx κ S H → m_S G s H locs → lv_has ls 6 [(0, .ref a), (2, .int l2), (3, .int l3), (4, .int l4)] → K_24 S l2 l3 l4 = some res → W p l e rm_X12_reachFrom s m args below meth c H locs 0 0 (m_Qi below args s G nx κ res) (F0 m 24 ls [])) (n : Nat) : ∀ (S : m_M) (l2 : Int32) (l3 : Int32) (l4 : Int32) (l5 : Int32) (H : Heap) (locs : List Loc) (ls : Array Slot), m_H G nx κ S H → m_S G s H locs → lv_has ls 6 [(0, .ref a), (2, .int l2), (3, .int l3), (4, .int l4), (5, .int l5)] → b_X12_reachFrom_50 a K_15 K_24 n S l2 l3 l4 l5 = some res → W p l e rm_X12_reachFrom s m args below meth c H locs 0 0 (m_Qi below args s G nx κ res) (F0 m 50 ls []) := by
  have hx := X.1.1
  have hb := X.1.2.1
  induction n with
  | zero => intro S l2 l3 l4 l5 H locs ls hH hS hl hm; have hm : (none : Option (Int32 × m_M)) = some res := hm; cases hm
  | succ n ih =>
    intro S l2 l3 l4 l5 H locs ls hH hS hl hm
    rw [b_X12_reachFrom_50] at hm
    refine lv_iload hx hb dX12_reachFrom_50 (lv_at hl 4 rfl) ?_
    refine lv_iconst (v := (2 : Int32)) hx hb dX12_reachFrom_52 (by decide) ?_
    refine lv_icmp_ge (tgt := 95) hx hb dX12_reachFrom_53 (by decide) (fun c1 => ?_) (fun c1 => ?_)
    · have hm := m_ite_t hm c1
      exact k_X12_reachFrom_95 (a := a) X hr hT hk_a K_15 hK_15 K_24 hK_24  S l2 l3 l4 _ _ _ hH hS (lv_sub hl [0, 1, 2, 3] rfl) hm
    · have hm := m_ite_f hm c1
      refine lv_aload_n hx hb dX12_reachFrom_56 rfl (lv_at hl 0 rfl) ?_
      refine r_getp X hH (k := 12) (a := a) (j := 30) (b := (a + 17)) (A := 17) (B := 0) hk_a (by decide) rfl m_wi12 (by decide) in_7_45 rfl rfl rfl dX12_reachFrom_57 ?_
      refine lv_iconst (v := (2 : Int32)) hx hb dX12_reachFrom_60 (by decide) ?_
      refine lv_iload hx hb dX12_reachFrom_61 (lv_at hl 3 rfl) ?_
      refine lv_imul hx hb dX12_reachFrom_63 ?_
      refine lv_iload hx hb dX12_reachFrom_64 (lv_at hl 4 rfl) ?_
      refine lv_iadd hx hb dX12_reachFrom_66 ?_
      obtain ⟨v2, h_v2, e_v2, hm⟩ := n_ldi hm
      refine n_iald X hH (n := 48) (m_lay_at hT hk_a (by decide) (i := 17) rfl) h_v2 e_v2 dX12_reachFrom_67 ?_
      refine lv_iconst (v := (-1 : Int32)) hx hb dX12_reachFrom_68 (by decide) ?_
      refine lv_icmp_eq (tgt := 89) hx hb dX12_reachFrom_69 (by decide) (fun c3 => ?_) (fun c3 => ?_)
      · have hm := m_ite_t hm c3
        exact k_X12_reachFrom_89 (a := a) X hr hT hk_a K_15 hK_15 K_24 hK_24 (b_X12_reachFrom_50 a K_15 K_24 n) ih  S l2 l3 l4 l5 _ _ _ hH hS hl hm
      · have hm := m_ite_f hm c3
        refine lv_iload_n hx hb dX12_reachFrom_72 rfl (lv_at hl 1 rfl) ?_
        refine lv_iconst (v := (1 : Int32)) hx hb dX12_reachFrom_73 (by decide) ?_
        refine lv_aload_n hx hb dX12_reachFrom_74 rfl (lv_at hl 0 rfl) ?_
        refine r_getp X hH (k := 12) (a := a) (j := 30) (b := (a + 17)) (A := 17) (B := 0) hk_a (by decide) rfl m_wi12 (by decide) in_7_45 rfl rfl rfl dX12_reachFrom_75 ?_
        refine lv_iconst (v := (2 : Int32)) hx hb dX12_reachFrom_78 (by decide) ?_
        refine lv_iload hx hb dX12_reachFrom_79 (lv_at hl 3 rfl) ?_
        refine lv_imul hx hb dX12_reachFrom_81 ?_
        refine lv_iload hx hb dX12_reachFrom_82 (lv_at hl 4 rfl) ?_
        refine lv_iadd hx hb dX12_reachFrom_84 ?_
        obtain ⟨v4, h_v4, e_v4, hm⟩ := n_ldi hm
        refine n_iald X hH (n := 48) (m_lay_at hT hk_a (by decide) (i := 17) rfl) h_v4 e_v4 dX12_reachFrom_85 ?_
        refine lv_ishl hx hb dX12_reachFrom_86 ?_
        refine lv_ior hx hb dX12_reachFrom_87 ?_
        obtain ⟨v5, e_v5, hm⟩ := m_let_of hm
        refine n_topi e_v5 ?_
        refine lv_istore_n (lv' := [(2, .int v5), (0, .ref a), (3, .int l3), (4, .int l4), (5, .int l5)]) hx hb dX12_reachFrom_88 rfl hl (by decide) rfl (fun ls hl => ?_)
        exact k_X12_reachFrom_89 (a := a) X hr hT hk_a K_15 hK_15 K_24 hK_24 (b_X12_reachFrom_50 a K_15 K_24 n) ih  S v5 l3 l4 l5 _ _ _ hH hS (lv_sub hl [1, 0, 2, 3, 4] rfl) hm
def b_X12_reachFrom_24 (a : Nat) (K_15 : m_M → Int32 → Int32 → Option (Int32 × m_M)) : Nat → m_M → Int32 → Int32 → Int32 → Option (Int32 × m_M)
  | 0, _, _, _, _ => none
  | n + 1, S, l2, l3, l4 =>
    (m_ldi S (a + 2) 2647 (2 : Int32)).bind fun v1 =>
    if v1 ≤ l4 then (
    m_let (l3 + (1 : Int32)) fun v3 =>
    K_15 S l2 v3) else (
    m_call (f_X12_has S l2 l4) fun v5 S4 =>
    if v5 = 0 then (
    b_X12_reachFrom_95 a K_15 (b_X12_reachFrom_24 a K_15 n) S4 l2 l3 l4) else (
    b_X12_reachFrom_50 a K_15 (b_X12_reachFrom_24 a K_15 n) m_fu S4 l2 l3 l4 (0 : Int32)))
set_option maxHeartbeats 4000000 in
set_option maxRecDepth 100000 in
theorem k_X12_reachFrom_24 {p : Program} {l : Launch} {e : Env} {s : State} {m : MethodId} {args : Array Value} {below : List Frame} {meth : Method} {c : Code} {G : m_G} {nx : Nat} {κ : Nat → Nat} {res : (Int32 × m_M)} {a : Nat} (X : m_Cx p s m args meth c cX12_reachFrom 6 RX12 G) (hr : meth.sig.returnType = (some .int)) (hT : m_Str κ) (hk_a : κ a = 13) (K_15 : m_M → Int32 → Int32 → Option (Int32 × m_M)) (hK_15 : ∀ (S : m_M) (l2 : Int32) (l3 : Int32) (H : Heap) (locs : List Loc) (ls : Array Slot), m_H G nx κ S H → m_S G s H locs → lv_has ls 6 [(0, .ref a), (2, .int l2), (3, .int l3)] → K_15 S l2 l3 = some res → W p l e rm_X12_reachFrom s m args below meth c H locs 0 0 (m_Qi below args s G nx κ res) (F0 m 15 ls [])) (n : Nat) : ∀ (S : m_M) (l2 : Int32) (l3 : Int32) (l4 : Int32) (H : Heap) (locs : List Loc) (ls : Array Slot), m_H G nx κ S H → m_S G s H locs → lv_has ls 6 [(0, .ref a), (2, .int l2), (3, .int l3), (4, .int l4)] → b_X12_reachFrom_24 a K_15 n S l2 l3 l4 = some res → W p l e rm_X12_reachFrom s m args below meth c H locs 0 0 (m_Qi below args s G nx κ res) (F0 m 24 ls []) := by
  have hx := X.1.1
  have hb := X.1.2.1
  induction n with
  | zero => intro S l2 l3 l4 H locs ls hH hS hl hm; have hm : (none : Option (Int32 × m_M)) = some res := hm; cases hm
  | succ n ih =>
    intro S l2 l3 l4 H locs ls hH hS hl hm
    rw [b_X12_reachFrom_24] at hm
    refine lv_iload hx hb dX12_reachFrom_24 (lv_at hl 3 rfl) ?_
    refine lv_aload_n hx hb dX12_reachFrom_26 rfl (lv_at hl 0 rfl) ?_
    refine r_getp X hH (k := 12) (a := a) (j := 14) (b := (a + 2)) (A := 2) (B := 0) hk_a (by decide) rfl m_wi12 (by decide) in_7_29 rfl rfl rfl dX12_reachFrom_27 ?_
    refine lv_iconst (v := (2 : Int32)) hx hb dX12_reachFrom_30 (by decide) ?_
    obtain ⟨v1, h_v1, e_v1, hm⟩ := n_ldi hm
    refine n_iald X hH (n := 2647) (m_lay_at hT hk_a (by decide) (i := 2) rfl) h_v1 e_v1 dX12_reachFrom_31 ?_
    refine lv_icmp_ge (tgt := 101) hx hb dX12_reachFrom_32 (by decide) (fun c2 => ?_) (fun c2 => ?_)
    · have hm := m_ite_t hm c2
      obtain ⟨v3, e_v3, hm⟩ := m_let_of hm
      refine lv_iinc (v := v3) (lv' := [(3, .int v3), (0, .ref a), (2, .int l2), (4, .int l4)]) hx hb dX12_reachFrom_101 hl (k := 2) rfl (by rw [← e_v3]; rfl) (by decide) rfl (fun ls hl => ?_)
      refine lv_goto (tgt := 15) hx hb dX12_reachFrom_104 (by decide) ?_
      exact hK_15 S l2 v3 _ _ _ hH hS (lv_sub hl [1, 2, 0] rfl) hm
    · have hm := m_ite_f hm c2
      refine lv_iload_n hx hb dX12_reachFrom_35 rfl (lv_at hl 1 rfl) ?_
      refine lv_iload hx hb dX12_reachFrom_36 (lv_at hl 3 rfl) ?_
      obtain ⟨v5, S4, e_S4, hm⟩ := m_call_of hm
      refine n_cSi X hH hS (c_X12_has  hT  e_S4) mw_X12_has in_7_0 rfl ⟨rfl, rfl⟩ ⟨Nat.le_of_ble_eq_true rfl, Nat.le_of_ble_eq_true rfl⟩ ⟨Nat.zero_le _, Nat.zero_le _⟩ hl.1 (Nat.le_of_ble_eq_true rfl) dX12_reachFrom_38 (fun H locs hH hS => ?_)
      refine lv_if_ne (tgt := 47) hx hb dX12_reachFrom_41 (by decide) (fun c6 => ?_) (fun c6 => ?_)
      · have hm := m_ite_f hm c6
        refine lv_iconst (v := (0 : Int32)) hx hb dX12_reachFrom_47 (by decide) ?_
        refine lv_istore (lv' := [(5, .int (0 : Int32)), (0, .ref a), (2, .int l2), (3, .int l3), (4, .int l4)]) hx hb dX12_reachFrom_48 hl (by decide) rfl (fun ls hl => ?_)
        exact k_X12_reachFrom_50 (a := a) X hr hT hk_a K_15 hK_15 (b_X12_reachFrom_24 a K_15 n) ih m_fu S4 l2 l3 l4 (0 : Int32) _ _ _ hH hS (lv_sub hl [1, 2, 3, 4, 0] rfl) hm
      · have hm := m_ite_t hm c6
        refine lv_goto (tgt := 95) hx hb dX12_reachFrom_44 (by decide) ?_
        exact k_X12_reachFrom_95 (a := a) X hr hT hk_a K_15 hK_15 (b_X12_reachFrom_24 a K_15 n) ih  S4 l2 l3 l4 _ _ _ hH hS hl hm
def b_X12_reachFrom_15 (a : Nat)  : Nat → m_M → Int32 → Int32 → Option (Int32 × m_M)
  | 0, _, _, _ => none
  | n + 1, S, l2, l3 =>
    if (24 : Int32) ≤ l3 then (
    some (l2, S)) else (
    b_X12_reachFrom_24 a (b_X12_reachFrom_15 a n) m_fu S l2 l3 (0 : Int32))
set_option maxHeartbeats 4000000 in
set_option maxRecDepth 100000 in
theorem k_X12_reachFrom_15 {p : Program} {l : Launch} {e : Env} {s : State} {m : MethodId} {args : Array Value} {below : List Frame} {meth : Method} {c : Code} {G : m_G} {nx : Nat} {κ : Nat → Nat} {res : (Int32 × m_M)} {a : Nat} (X : m_Cx p s m args meth c cX12_reachFrom 6 RX12 G) (hr : meth.sig.returnType = (some .int)) (hT : m_Str κ) (hk_a : κ a = 13)  (n : Nat) : ∀ (S : m_M) (l2 : Int32) (l3 : Int32) (H : Heap) (locs : List Loc) (ls : Array Slot), m_H G nx κ S H → m_S G s H locs → lv_has ls 6 [(0, .ref a), (2, .int l2), (3, .int l3)] → b_X12_reachFrom_15 a n S l2 l3 = some res → W p l e rm_X12_reachFrom s m args below meth c H locs 0 0 (m_Qi below args s G nx κ res) (F0 m 15 ls []) := by
  have hx := X.1.1
  have hb := X.1.2.1
  induction n with
  | zero => intro S l2 l3 H locs ls hH hS hl hm; have hm : (none : Option (Int32 × m_M)) = some res := hm; cases hm
  | succ n ih =>
    intro S l2 l3 H locs ls hH hS hl hm
    rw [b_X12_reachFrom_15] at hm
    refine lv_iload_n hx hb dX12_reachFrom_15 rfl (lv_at hl 2 rfl) ?_
    refine lv_bipush (v := (24 : Int32)) hx hb dX12_reachFrom_16 (by decide) ?_
    refine lv_icmp_ge (tgt := 107) hx hb dX12_reachFrom_18 (by decide) (fun c1 => ?_) (fun c1 => ?_)
    · have hm := m_ite_t hm c1
      refine lv_iload_n hx hb dX12_reachFrom_107 rfl (lv_at hl 1 rfl) ?_
      exact r_iret X hr hH hS hm dX12_reachFrom_108
    · have hm := m_ite_f hm c1
      refine lv_iconst (v := (0 : Int32)) hx hb dX12_reachFrom_21 (by decide) ?_
      refine lv_istore (lv' := [(4, .int (0 : Int32)), (0, .ref a), (2, .int l2), (3, .int l3)]) hx hb dX12_reachFrom_22 hl (by decide) rfl (fun ls hl => ?_)
      exact k_X12_reachFrom_24 (a := a) X hr hT hk_a (b_X12_reachFrom_15 a n) ih m_fu S l2 l3 (0 : Int32) _ _ _ hH hS (lv_sub hl [1, 2, 3, 0] rfl) hm
def b_X12_reachFrom_12 (a : Nat)  (S : m_M) (t0 : Int32) : Option (Int32 × m_M) :=
    b_X12_reachFrom_15 a m_fu S t0 (0 : Int32)
set_option maxHeartbeats 4000000 in
set_option maxRecDepth 100000 in
theorem k_X12_reachFrom_12 {p : Program} {l : Launch} {e : Env} {s : State} {m : MethodId} {args : Array Value} {below : List Frame} {meth : Method} {c : Code} {G : m_G} {nx : Nat} {κ : Nat → Nat} {res : (Int32 × m_M)} {a : Nat} (X : m_Cx p s m args meth c cX12_reachFrom 6 RX12 G) (hr : meth.sig.returnType = (some .int)) (hT : m_Str κ) (hk_a : κ a = 13)  : ∀ (S : m_M) (t0 : Int32) (H : Heap) (locs : List Loc) (ls : Array Slot), m_H G nx κ S H → m_S G s H locs → lv_has ls 6 [(0, .ref a)] → b_X12_reachFrom_12 a S t0 = some res → W p l e rm_X12_reachFrom s m args below meth c H locs 0 0 (m_Qi below args s G nx κ res) (F0 m 12 ls [.int t0]) := by
  have hx := X.1.1
  have hb := X.1.2.1
  intro S t0 H locs ls hH hS hl hm
  rw [b_X12_reachFrom_12] at hm
  refine lv_istore_n (lv' := [(2, .int t0), (0, .ref a)]) hx hb dX12_reachFrom_12 rfl hl (by decide) rfl (fun ls hl => ?_)
  refine lv_iconst (v := (0 : Int32)) hx hb dX12_reachFrom_13 (by decide) ?_
  refine lv_istore_n (lv' := [(3, .int (0 : Int32)), (2, .int t0), (0, .ref a)]) hx hb dX12_reachFrom_14 rfl hl (by decide) rfl (fun ls hl => ?_)
  exact k_X12_reachFrom_15 (a := a) X hr hT hk_a  m_fu S t0 (0 : Int32) _ _ _ hH hS (lv_sub hl [2, 1, 0] rfl) hm
def f_X12_reachFrom (a : Nat) (S : m_M) (i1 : Int32) : Option (Int32 × m_M) :=
    if i1 = (-1 : Int32) then (
    b_X12_reachFrom_12 a S (0 : Int32)) else (
    b_X12_reachFrom_12 a S ((1 : Int32) <<< (i1 &&& 31)))
set_option maxHeartbeats 4000000 in
set_option maxRecDepth 100000 in
theorem c_X12_reachFrom {l : Launch} {G : m_G} {nx : Nat} {κ : Nat → Nat} {a : Nat} {S : m_M} {i1 : Int32} {res : (Int32 × m_M)} (hT : m_Str κ) (hk_a : κ a = 13) (hm : f_X12_reachFrom a S i1 = some res) : m_Ci l yX12_reachFrom cX12_reachFrom 6 (some .int) rm_X12_reachFrom G nx κ [.ref a, .int i1] S res := by
  refine m_Ci.of (by decide) (Nat.le_of_ble_eq_true rfl) ?_
  intro p e s m args below meth c ls X hr hH hl
  have hx := X.1.1
  have hb := X.1.2.1
  have hS : m_S G s s.heap [] := va_S.rf
  have hl : lv_has ls 6 [(0, .ref a), (1, .int i1)] := hl
  rw [f_X12_reachFrom] at hm
  refine lv_iload_n hx hb dX12_reachFrom_0 rfl (lv_at hl 1 rfl) ?_
  refine lv_iconst (v := (-1 : Int32)) hx hb dX12_reachFrom_1 (by decide) ?_
  refine lv_icmp_ne (tgt := 9) hx hb dX12_reachFrom_2 (by decide) (fun c1 => ?_) (fun c1 => ?_)
  · have hm := m_ite_f hm c1
    refine lv_iconst (v := (1 : Int32)) hx hb dX12_reachFrom_9 (by decide) ?_
    refine lv_iload_n hx hb dX12_reachFrom_10 rfl (lv_at hl 1 rfl) ?_
    refine lv_ishl hx hb dX12_reachFrom_11 ?_
    exact k_X12_reachFrom_12 (a := a) X hr hT hk_a   S ((1 : Int32) <<< (i1 &&& 31)) _ _ _ hH hS (lv_sub hl [0] rfl) hm
  · have hm := m_ite_t hm c1
    refine lv_iconst (v := (0 : Int32)) hx hb dX12_reachFrom_5 (by decide) ?_
    refine lv_goto (tgt := 12) hx hb dX12_reachFrom_6 (by decide) ?_
    exact k_X12_reachFrom_12 (a := a) X hr hT hk_a   S (0 : Int32) _ _ _ hH hS (lv_sub hl [0] rfl) hm
def rm_X12_reachIn : Room := { frames := 1, cells := 0, slots := 0, locals := 22 }
def b_X12_reachIn_57 (a : Nat) (K_20 : m_M → Int32 → Int32 → Int32 → Int32 → Option (Int32 × m_M)) (S : m_M) (l1 : Int32) (l2 : Int32) (l3 : Int32) (l4 : Int32) : Option (Int32 × m_M) :=
    m_let (l4 + (1 : Int32)) fun v1 =>
    K_20 S l1 l2 l3 v1
set_option maxHeartbeats 4000000 in
set_option maxRecDepth 100000 in
theorem k_X12_reachIn_57 {p : Program} {l : Launch} {e : Env} {s : State} {m : MethodId} {args : Array Value} {below : List Frame} {meth : Method} {c : Code} {G : m_G} {nx : Nat} {κ : Nat → Nat} {res : (Int32 × m_M)} {a : Nat} (X : m_Cx p s m args meth c cX12_reachIn 5 RX12 G) (hr : meth.sig.returnType = (some .int)) (hT : m_Str κ) (hk_a : κ a = 13) (K_20 : m_M → Int32 → Int32 → Int32 → Int32 → Option (Int32 × m_M)) (hK_20 : ∀ (S : m_M) (l1 : Int32) (l2 : Int32) (l3 : Int32) (l4 : Int32) (H : Heap) (locs : List Loc) (ls : Array Slot), m_H G nx κ S H → m_S G s H locs → lv_has ls 5 [(0, .ref a), (1, .int l1), (2, .int l2), (3, .int l3), (4, .int l4)] → K_20 S l1 l2 l3 l4 = some res → W p l e rm_X12_reachIn s m args below meth c H locs 0 0 (m_Qi below args s G nx κ res) (F0 m 20 ls [])) : ∀ (S : m_M) (l1 : Int32) (l2 : Int32) (l3 : Int32) (l4 : Int32) (H : Heap) (locs : List Loc) (ls : Array Slot), m_H G nx κ S H → m_S G s H locs → lv_has ls 5 [(0, .ref a), (1, .int l1), (2, .int l2), (3, .int l3), (4, .int l4)] → b_X12_reachIn_57 a K_20 S l1 l2 l3 l4 = some res → W p l e rm_X12_reachIn s m args below meth c H locs 0 0 (m_Qi below args s G nx κ res) (F0 m 57 ls []) := by
  have hx := X.1.1
  have hb := X.1.2.1
  intro S l1 l2 l3 l4 H locs ls hH hS hl hm
  rw [b_X12_reachIn_57] at hm
  obtain ⟨v1, e_v1, hm⟩ := m_let_of hm
  refine lv_iinc (v := v1) (lv' := [(4, .int v1), (0, .ref a), (1, .int l1), (2, .int l2), (3, .int l3)]) hx hb dX12_reachIn_57 hl (k := 4) rfl (by rw [← e_v1]; rfl) (by decide) rfl (fun ls hl => ?_)
  refine lv_goto (tgt := 20) hx hb dX12_reachIn_60 (by decide) ?_
  exact hK_20 S l1 l2 l3 v1 _ _ _ hH hS (lv_sub hl [1, 2, 3, 4, 0] rfl) hm
def b_X12_reachIn_20 (a : Nat)  : Nat → m_M → Int32 → Int32 → Int32 → Int32 → Option (Int32 × m_M)
  | 0, _, _, _, _, _ => none
  | n + 1, S, l1, l2, l3, l4 =>
    if (5 : Int32) ≤ l4 then (
    some (l3, S)) else (
    m_call (f_X12_var a S l2 l4) fun v3 S2 =>
    if v3 = (-1 : Int32) then (
    b_X12_reachIn_57 a (b_X12_reachIn_20 a n) S2 l1 l2 l3 l4) else (
    m_call (f_X12_var a S2 l2 l4) fun v6 S5 =>
    m_call (f_X12_node a S5 l1 v6) fun v8 S7 =>
    (m_ldi S7 (a + 16) 135 v8).bind fun v9 =>
    m_let (l3 ||| v9) fun v10 =>
    b_X12_reachIn_57 a (b_X12_reachIn_20 a n) S7 l1 l2 v10 l4))
set_option maxHeartbeats 4000000 in
set_option maxRecDepth 100000 in
theorem k_X12_reachIn_20 {p : Program} {l : Launch} {e : Env} {s : State} {m : MethodId} {args : Array Value} {below : List Frame} {meth : Method} {c : Code} {G : m_G} {nx : Nat} {κ : Nat → Nat} {res : (Int32 × m_M)} {a : Nat} (X : m_Cx p s m args meth c cX12_reachIn 5 RX12 G) (hr : meth.sig.returnType = (some .int)) (hT : m_Str κ) (hk_a : κ a = 13)  (n : Nat) : ∀ (S : m_M) (l1 : Int32) (l2 : Int32) (l3 : Int32) (l4 : Int32) (H : Heap) (locs : List Loc) (ls : Array Slot), m_H G nx κ S H → m_S G s H locs → lv_has ls 5 [(0, .ref a), (1, .int l1), (2, .int l2), (3, .int l3), (4, .int l4)] → b_X12_reachIn_20 a n S l1 l2 l3 l4 = some res → W p l e rm_X12_reachIn s m args below meth c H locs 0 0 (m_Qi below args s G nx κ res) (F0 m 20 ls []) := by
  have hx := X.1.1
  have hb := X.1.2.1
  induction n with
  | zero => intro S l1 l2 l3 l4 H locs ls hH hS hl hm; have hm : (none : Option (Int32 × m_M)) = some res := hm; cases hm
  | succ n ih =>
    intro S l1 l2 l3 l4 H locs ls hH hS hl hm
    rw [b_X12_reachIn_20] at hm
    refine lv_iload hx hb dX12_reachIn_20 (lv_at hl 4 rfl) ?_
    refine lv_iconst (v := (5 : Int32)) hx hb dX12_reachIn_22 (by decide) ?_
    refine lv_icmp_ge (tgt := 63) hx hb dX12_reachIn_23 (by decide) (fun c1 => ?_) (fun c1 => ?_)
    · have hm := m_ite_t hm c1
      refine lv_iload_n hx hb dX12_reachIn_63 rfl (lv_at hl 3 rfl) ?_
      exact r_iret X hr hH hS hm dX12_reachIn_64
    · have hm := m_ite_f hm c1
      refine lv_aload_n hx hb dX12_reachIn_26 rfl (lv_at hl 0 rfl) ?_
      refine lv_iload_n hx hb dX12_reachIn_27 rfl (lv_at hl 2 rfl) ?_
      refine lv_iload hx hb dX12_reachIn_28 (lv_at hl 4 rfl) ?_
      obtain ⟨v3, S2, e_S2, hm⟩ := m_call_of hm
      refine n_cVi X hH hS (k := 12) (c_X12_var (a := a) hT hk_a e_S2) mw_X12_var in_6_204 hk_a (by decide) rfl rfl rfl ⟨rfl, rfl⟩ ⟨Nat.le_of_ble_eq_true rfl, Nat.le_of_ble_eq_true rfl⟩ ⟨Nat.zero_le _, Nat.zero_le _⟩ hl.1 (Nat.le_of_ble_eq_true rfl) dX12_reachIn_30 (fun H locs hH hS => ?_)
      refine lv_iconst (v := (-1 : Int32)) hx hb dX12_reachIn_33 (by decide) ?_
      refine lv_icmp_eq (tgt := 57) hx hb dX12_reachIn_34 (by decide) (fun c4 => ?_) (fun c4 => ?_)
      · have hm := m_ite_t hm c4
        exact k_X12_reachIn_57 (a := a) X hr hT hk_a (b_X12_reachIn_20 a n) ih  S2 l1 l2 l3 l4 _ _ _ hH hS hl hm
      · have hm := m_ite_f hm c4
        refine lv_iload_n hx hb dX12_reachIn_37 rfl (lv_at hl 3 rfl) ?_
        refine lv_aload_n hx hb dX12_reachIn_38 rfl (lv_at hl 0 rfl) ?_
        refine r_getp X hH (k := 12) (a := a) (j := 29) (b := (a + 16)) (A := 16) (B := 0) hk_a (by decide) rfl m_wi12 (by decide) in_7_44 rfl rfl rfl dX12_reachIn_39 ?_
        refine lv_aload_n hx hb dX12_reachIn_42 rfl (lv_at hl 0 rfl) ?_
        refine lv_iload_n hx hb dX12_reachIn_43 rfl (lv_at hl 1 rfl) ?_
        refine lv_aload_n hx hb dX12_reachIn_44 rfl (lv_at hl 0 rfl) ?_
        refine lv_iload_n hx hb dX12_reachIn_45 rfl (lv_at hl 2 rfl) ?_
        refine lv_iload hx hb dX12_reachIn_46 (lv_at hl 4 rfl) ?_
        obtain ⟨v6, S5, e_S5, hm⟩ := m_call_of hm
        refine n_cVi X hH hS (k := 12) (c_X12_var (a := a) hT hk_a e_S5) mw_X12_var in_6_204 hk_a (by decide) rfl rfl rfl ⟨rfl, rfl⟩ ⟨Nat.le_of_ble_eq_true rfl, Nat.le_of_ble_eq_true rfl⟩ ⟨Nat.zero_le _, Nat.zero_le _⟩ hl.1 (Nat.le_of_ble_eq_true rfl) dX12_reachIn_48 (fun H locs hH hS => ?_)
        obtain ⟨v8, S7, e_S7, hm⟩ := m_call_of hm
        refine n_cVi X hH hS (k := 12) (c_X12_node (a := a) hT hk_a e_S7) mw_X12_node in_6_200 hk_a (by decide) rfl rfl rfl ⟨rfl, rfl⟩ ⟨Nat.le_of_ble_eq_true rfl, Nat.le_of_ble_eq_true rfl⟩ ⟨Nat.zero_le _, Nat.zero_le _⟩ hl.1 (Nat.le_of_ble_eq_true rfl) dX12_reachIn_51 (fun H locs hH hS => ?_)
        obtain ⟨v9, h_v9, e_v9, hm⟩ := n_ldi hm
        refine n_iald X hH (n := 135) (m_lay_at hT hk_a (by decide) (i := 16) rfl) h_v9 e_v9 dX12_reachIn_54 ?_
        refine lv_ior hx hb dX12_reachIn_55 ?_
        obtain ⟨v10, e_v10, hm⟩ := m_let_of hm
        refine n_topi e_v10 ?_
        refine lv_istore_n (lv' := [(3, .int v10), (0, .ref a), (1, .int l1), (2, .int l2), (4, .int l4)]) hx hb dX12_reachIn_56 rfl hl (by decide) rfl (fun ls hl => ?_)
        exact k_X12_reachIn_57 (a := a) X hr hT hk_a (b_X12_reachIn_20 a n) ih  S7 l1 l2 v10 l4 _ _ _ hH hS (lv_sub hl [1, 2, 3, 0, 4] rfl) hm
def f_X12_reachIn (a : Nat) (S : m_M) (i1 : Int32) (i2 : Int32) : Option (Int32 × m_M) :=
    m_call (f_X12_madeBy a S i1 i2) fun v2 S1 =>
    m_call (f_X12_node a S1 i1 v2) fun v4 S3 =>
    (m_ldi S3 (a + 16) 135 v4).bind fun v5 =>
    b_X12_reachIn_20 a m_fu S3 i1 i2 v5 (0 : Int32)
set_option maxHeartbeats 4000000 in
set_option maxRecDepth 100000 in
theorem c_X12_reachIn {l : Launch} {G : m_G} {nx : Nat} {κ : Nat → Nat} {a : Nat} {S : m_M} {i1 : Int32} {i2 : Int32} {res : (Int32 × m_M)} (hT : m_Str κ) (hk_a : κ a = 13) (hm : f_X12_reachIn a S i1 i2 = some res) : m_Ci l yX12_reachIn cX12_reachIn 5 (some .int) rm_X12_reachIn G nx κ [.ref a, .int i1, .int i2] S res := by
  refine m_Ci.of (by decide) (Nat.le_of_ble_eq_true rfl) ?_
  intro p e s m args below meth c ls X hr hH hl
  have hx := X.1.1
  have hb := X.1.2.1
  have hS : m_S G s s.heap [] := va_S.rf
  have hl : lv_has ls 5 [(0, .ref a), (1, .int i1), (2, .int i2)] := hl
  rw [f_X12_reachIn] at hm
  refine lv_aload_n hx hb dX12_reachIn_0 rfl (lv_at hl 0 rfl) ?_
  refine r_getp X hH (k := 12) (a := a) (j := 29) (b := (a + 16)) (A := 16) (B := 0) hk_a (by decide) rfl m_wi12 (by decide) in_7_44 rfl rfl rfl dX12_reachIn_1 ?_
  refine lv_aload_n hx hb dX12_reachIn_4 rfl (lv_at hl 0 rfl) ?_
  refine lv_iload_n hx hb dX12_reachIn_5 rfl (lv_at hl 1 rfl) ?_
  refine lv_aload_n hx hb dX12_reachIn_6 rfl (lv_at hl 0 rfl) ?_
  refine lv_iload_n hx hb dX12_reachIn_7 rfl (lv_at hl 1 rfl) ?_
  refine lv_iload_n hx hb dX12_reachIn_8 rfl (lv_at hl 2 rfl) ?_
  obtain ⟨v2, S1, e_S1, hm⟩ := m_call_of hm
  refine n_cVi X hH hS (k := 12) (c_X12_madeBy (a := a) hT hk_a e_S1) mw_X12_madeBy in_6_196 hk_a (by decide) rfl rfl rfl ⟨rfl, rfl⟩ ⟨Nat.le_of_ble_eq_true rfl, Nat.le_of_ble_eq_true rfl⟩ ⟨Nat.zero_le _, Nat.zero_le _⟩ hl.1 (Nat.le_of_ble_eq_true rfl) dX12_reachIn_9 (fun H locs hH hS => ?_)
  obtain ⟨v4, S3, e_S3, hm⟩ := m_call_of hm
  refine n_cVi X hH hS (k := 12) (c_X12_node (a := a) hT hk_a e_S3) mw_X12_node in_6_200 hk_a (by decide) rfl rfl rfl ⟨rfl, rfl⟩ ⟨Nat.le_of_ble_eq_true rfl, Nat.le_of_ble_eq_true rfl⟩ ⟨Nat.zero_le _, Nat.zero_le _⟩ hl.1 (Nat.le_of_ble_eq_true rfl) dX12_reachIn_12 (fun H locs hH hS => ?_)
  obtain ⟨v5, h_v5, e_v5, hm⟩ := n_ldi hm
  refine n_iald X hH (n := 135) (m_lay_at hT hk_a (by decide) (i := 16) rfl) h_v5 e_v5 dX12_reachIn_15 ?_
  refine lv_istore_n (lv' := [(3, .int v5), (0, .ref a), (1, .int i1), (2, .int i2)]) hx hb dX12_reachIn_16 rfl hl (by decide) rfl (fun ls hl => ?_)
  refine lv_iconst (v := (0 : Int32)) hx hb dX12_reachIn_17 (by decide) ?_
  refine lv_istore (lv' := [(4, .int (0 : Int32)), (3, .int v5), (0, .ref a), (1, .int i1), (2, .int i2)]) hx hb dX12_reachIn_18 hl (by decide) rfl (fun ls hl => ?_)
  exact k_X12_reachIn_20 (a := a) X hr hT hk_a  m_fu S3 i1 i2 v5 (0 : Int32) _ _ _ hH hS (lv_sub hl [2, 3, 4, 1, 0] rfl) hm
def rm_X12_laySpans : Room := { frames := 2, cells := 0, slots := 0, locals := 46 }
def b_X12_laySpans_145 (a : Nat) (K_40 : m_M → Int32 → Int32 → Option m_M) (K_80 : m_M → Int32 → Int32 → Int32 → Int32 → Option m_M) (S : m_M) (l1 : Int32) (l2 : Int32) (l3 : Int32) (l4 : Int32) : Option m_M :=
    m_let (l4 + (1 : Int32)) fun v1 =>
    K_80 S l1 l2 l3 v1
set_option maxHeartbeats 4000000 in
set_option maxRecDepth 100000 in
theorem k_X12_laySpans_145 {p : Program} {l : Launch} {e : Env} {s : State} {m : MethodId} {args : Array Value} {below : List Frame} {meth : Method} {c : Code} {G : m_G} {nx : Nat} {κ : Nat → Nat} {res : m_M} {a : Nat} (X : m_Cx p s m args meth c cX12_laySpans 5 RX12 G) (hr : meth.sig.returnType = none) (hT : m_Str κ) (hk_a : κ a = 13) (K_40 : m_M → Int32 → Int32 → Option m_M) (hK_40 : ∀ (S : m_M) (l1 : Int32) (l2 : Int32) (H : Heap) (locs : List Loc) (ls : Array Slot), m_H G nx κ S H → m_S G s H locs → lv_has ls 5 [(0, .ref a), (1, .int l1), (2, .int l2)] → K_40 S l1 l2 = some res → W p l e rm_X12_laySpans s m args below meth c H locs 0 0 (m_Qv below args s G nx κ res) (F0 m 40 ls [])) (K_80 : m_M → Int32 → Int32 → Int32 → Int32 → Option m_M) (hK_80 : ∀ (S : m_M) (l1 : Int32) (l2 : Int32) (l3 : Int32) (l4 : Int32) (H : Heap) (locs : List Loc) (ls : Array Slot), m_H G nx κ S H → m_S G s H locs → lv_has ls 5 [(0, .ref a), (1, .int l1), (2, .int l2), (3, .int l3), (4, .int l4)] → K_80 S l1 l2 l3 l4 = some res → W p l e rm_X12_laySpans s m args below meth c H locs 0 0 (m_Qv below args s G nx κ res) (F0 m 80 ls [])) : ∀ (S : m_M) (l1 : Int32) (l2 : Int32) (l3 : Int32) (l4 : Int32) (H : Heap) (locs : List Loc) (ls : Array Slot), m_H G nx κ S H → m_S G s H locs → lv_has ls 5 [(0, .ref a), (1, .int l1), (2, .int l2), (3, .int l3), (4, .int l4)] → b_X12_laySpans_145 a K_40 K_80 S l1 l2 l3 l4 = some res → W p l e rm_X12_laySpans s m args below meth c H locs 0 0 (m_Qv below args s G nx κ res) (F0 m 145 ls []) := by
  have hx := X.1.1
  have hb := X.1.2.1
  intro S l1 l2 l3 l4 H locs ls hH hS hl hm
  rw [b_X12_laySpans_145] at hm
  obtain ⟨v1, e_v1, hm⟩ := m_let_of hm
  refine lv_iinc (v := v1) (lv' := [(4, .int v1), (0, .ref a), (1, .int l1), (2, .int l2), (3, .int l3)]) hx hb dX12_laySpans_145 hl (k := 4) rfl (by rw [← e_v1]; rfl) (by decide) rfl (fun ls hl => ?_)
  refine lv_goto (tgt := 80) hx hb dX12_laySpans_148 (by decide) ?_
  exact hK_80 S l1 l2 l3 v1 _ _ _ hH hS (lv_sub hl [1, 2, 3, 4, 0] rfl) hm
def b_X12_laySpans_132 (a : Nat) (K_40 : m_M → Int32 → Int32 → Option m_M) (K_80 : m_M → Int32 → Int32 → Int32 → Int32 → Option m_M) (S : m_M) (l1 : Int32) (l2 : Int32) (l3 : Int32) (l4 : Int32) : Option m_M :=
    (m_sti S (a + 21) 120 (((24 : Int32) * l1) + l4) l2).bind fun S1 =>
    b_X12_laySpans_145 a K_40 K_80 S1 l1 l2 l3 l4
set_option maxHeartbeats 4000000 in
set_option maxRecDepth 100000 in
theorem k_X12_laySpans_132 {p : Program} {l : Launch} {e : Env} {s : State} {m : MethodId} {args : Array Value} {below : List Frame} {meth : Method} {c : Code} {G : m_G} {nx : Nat} {κ : Nat → Nat} {res : m_M} {a : Nat} (X : m_Cx p s m args meth c cX12_laySpans 5 RX12 G) (hr : meth.sig.returnType = none) (hT : m_Str κ) (hk_a : κ a = 13) (K_40 : m_M → Int32 → Int32 → Option m_M) (hK_40 : ∀ (S : m_M) (l1 : Int32) (l2 : Int32) (H : Heap) (locs : List Loc) (ls : Array Slot), m_H G nx κ S H → m_S G s H locs → lv_has ls 5 [(0, .ref a), (1, .int l1), (2, .int l2)] → K_40 S l1 l2 = some res → W p l e rm_X12_laySpans s m args below meth c H locs 0 0 (m_Qv below args s G nx κ res) (F0 m 40 ls [])) (K_80 : m_M → Int32 → Int32 → Int32 → Int32 → Option m_M) (hK_80 : ∀ (S : m_M) (l1 : Int32) (l2 : Int32) (l3 : Int32) (l4 : Int32) (H : Heap) (locs : List Loc) (ls : Array Slot), m_H G nx κ S H → m_S G s H locs → lv_has ls 5 [(0, .ref a), (1, .int l1), (2, .int l2), (3, .int l3), (4, .int l4)] → K_80 S l1 l2 l3 l4 = some res → W p l e rm_X12_laySpans s m args below meth c H locs 0 0 (m_Qv below args s G nx κ res) (F0 m 80 ls [])) : ∀ (S : m_M) (l1 : Int32) (l2 : Int32) (l3 : Int32) (l4 : Int32) (H : Heap) (locs : List Loc) (ls : Array Slot), m_H G nx κ S H → m_S G s H locs → lv_has ls 5 [(0, .ref a), (1, .int l1), (2, .int l2), (3, .int l3), (4, .int l4)] → b_X12_laySpans_132 a K_40 K_80 S l1 l2 l3 l4 = some res → W p l e rm_X12_laySpans s m args below meth c H locs 0 0 (m_Qv below args s G nx κ res) (F0 m 132 ls []) := by
  have hx := X.1.1
  have hb := X.1.2.1
  intro S l1 l2 l3 l4 H locs ls hH hS hl hm
  rw [b_X12_laySpans_132] at hm
  refine lv_aload_n hx hb dX12_laySpans_132 rfl (lv_at hl 0 rfl) ?_
  refine r_getp X hH (k := 12) (a := a) (j := 34) (b := (a + 21)) (A := 21) (B := 0) hk_a (by decide) rfl m_wi12 (by decide) in_7_49 rfl rfl rfl dX12_laySpans_133 ?_
  refine lv_bipush (v := (24 : Int32)) hx hb dX12_laySpans_136 (by decide) ?_
  refine lv_iload_n hx hb dX12_laySpans_138 rfl (lv_at hl 1 rfl) ?_
  refine lv_imul hx hb dX12_laySpans_139 ?_
  refine lv_iload hx hb dX12_laySpans_140 (lv_at hl 4 rfl) ?_
  refine lv_iadd hx hb dX12_laySpans_142 ?_
  refine lv_iload_n hx hb dX12_laySpans_143 rfl (lv_at hl 2 rfl) ?_
  obtain ⟨S1, h_S1, e_S1, hm⟩ := n_sti hm
  refine n_iast X hH hS (n := 120) (m_lay_at hT hk_a (by decide) (i := 21) rfl) h_S1 e_S1 dX12_laySpans_144 (fun H locs hH hS => ?_)
  exact k_X12_laySpans_145 (a := a) X hr hT hk_a K_40 hK_40 K_80 hK_80  S1 l1 l2 l3 l4 _ _ _ hH hS hl hm
def b_X12_laySpans_80 (a : Nat) (K_40 : m_M → Int32 → Int32 → Option m_M) : Nat → m_M → Int32 → Int32 → Int32 → Int32 → Option m_M
  | 0, _, _, _, _, _ => none
  | n + 1, S, l1, l2, l3, l4 =>
    (m_ldi S (a + 2) 2647 (2 : Int32)).bind fun v1 =>
    if v1 ≤ l4 then (
    m_let (l2 + (1 : Int32)) fun v3 =>
    K_40 S l1 v3) else (
    m_call (f_X12_has S l3 l4) fun v5 S4 =>
    if v5 = 0 then (
    b_X12_laySpans_145 a K_40 (b_X12_laySpans_80 a K_40 n) S4 l1 l2 l3 l4) else (
    (m_ldi S4 (a + 20) 120 (((24 : Int32) * l1) + l4)).bind fun v7 =>
    if v7 = (-1 : Int32) then (
    (m_sti S4 (a + 20) 120 (((24 : Int32) * l1) + l4) l2).bind fun S9 =>
    b_X12_laySpans_132 a K_40 (b_X12_laySpans_80 a K_40 n) S9 l1 l2 l3 l4) else (
    b_X12_laySpans_132 a K_40 (b_X12_laySpans_80 a K_40 n) S4 l1 l2 l3 l4)))
set_option maxHeartbeats 4000000 in
set_option maxRecDepth 100000 in
theorem k_X12_laySpans_80 {p : Program} {l : Launch} {e : Env} {s : State} {m : MethodId} {args : Array Value} {below : List Frame} {meth : Method} {c : Code} {G : m_G} {nx : Nat} {κ : Nat → Nat} {res : m_M} {a : Nat} (X : m_Cx p s m args meth c cX12_laySpans 5 RX12 G) (hr : meth.sig.returnType = none) (hT : m_Str κ) (hk_a : κ a = 13) (K_40 : m_M → Int32 → Int32 → Option m_M) (hK_40 : ∀ (S : m_M) (l1 : Int32) (l2 : Int32) (H : Heap) (locs : List Loc) (ls : Array Slot), m_H G nx κ S H → m_S G s H locs → lv_has ls 5 [(0, .ref a), (1, .int l1), (2, .int l2)] → K_40 S l1 l2 = some res → W p l e rm_X12_laySpans s m args below meth c H locs 0 0 (m_Qv below args s G nx κ res) (F0 m 40 ls [])) (n : Nat) : ∀ (S : m_M) (l1 : Int32) (l2 : Int32) (l3 : Int32) (l4 : Int32) (H : Heap) (locs : List Loc) (ls : Array Slot), m_H G nx κ S H → m_S G s H locs → lv_has ls 5 [(0, .ref a), (1, .int l1), (2, .int l2), (3, .int l3), (4, .int l4)] → b_X12_laySpans_80 a K_40 n S l1 l2 l3 l4 = some res → W p l e rm_X12_laySpans s m args below meth c H locs 0 0 (m_Qv below args s G nx κ res) (F0 m 80 ls []) := by
  have hx := X.1.1
  have hb := X.1.2.1
  induction n with
  | zero => intro S l1 l2 l3 l4 H locs ls hH hS hl hm; have hm : (none : Option m_M) = some res := hm; cases hm
  | succ n ih =>
    intro S l1 l2 l3 l4 H locs ls hH hS hl hm
    rw [b_X12_laySpans_80] at hm
    refine lv_iload hx hb dX12_laySpans_80 (lv_at hl 4 rfl) ?_
    refine lv_aload_n hx hb dX12_laySpans_82 rfl (lv_at hl 0 rfl) ?_
    refine r_getp X hH (k := 12) (a := a) (j := 14) (b := (a + 2)) (A := 2) (B := 0) hk_a (by decide) rfl m_wi12 (by decide) in_7_29 rfl rfl rfl dX12_laySpans_83 ?_
    refine lv_iconst (v := (2 : Int32)) hx hb dX12_laySpans_86 (by decide) ?_
    obtain ⟨v1, h_v1, e_v1, hm⟩ := n_ldi hm
    refine n_iald X hH (n := 2647) (m_lay_at hT hk_a (by decide) (i := 2) rfl) h_v1 e_v1 dX12_laySpans_87 ?_
    refine lv_icmp_ge (tgt := 151) hx hb dX12_laySpans_88 (by decide) (fun c2 => ?_) (fun c2 => ?_)
    · have hm := m_ite_t hm c2
      obtain ⟨v3, e_v3, hm⟩ := m_let_of hm
      refine lv_iinc (v := v3) (lv' := [(2, .int v3), (0, .ref a), (1, .int l1), (3, .int l3), (4, .int l4)]) hx hb dX12_laySpans_151 hl (k := 2) rfl (by rw [← e_v3]; rfl) (by decide) rfl (fun ls hl => ?_)
      refine lv_goto (tgt := 40) hx hb dX12_laySpans_154 (by decide) ?_
      exact hK_40 S l1 v3 _ _ _ hH hS (lv_sub hl [1, 2, 0] rfl) hm
    · have hm := m_ite_f hm c2
      refine lv_iload_n hx hb dX12_laySpans_91 rfl (lv_at hl 3 rfl) ?_
      refine lv_iload hx hb dX12_laySpans_92 (lv_at hl 4 rfl) ?_
      obtain ⟨v5, S4, e_S4, hm⟩ := m_call_of hm
      refine n_cSi X hH hS (c_X12_has  hT  e_S4) mw_X12_has in_7_0 rfl ⟨rfl, rfl⟩ ⟨Nat.le_of_ble_eq_true rfl, Nat.le_of_ble_eq_true rfl⟩ ⟨Nat.zero_le _, Nat.zero_le _⟩ hl.1 (Nat.le_of_ble_eq_true rfl) dX12_laySpans_94 (fun H locs hH hS => ?_)
      refine lv_if_ne (tgt := 103) hx hb dX12_laySpans_97 (by decide) (fun c6 => ?_) (fun c6 => ?_)
      · have hm := m_ite_f hm c6
        refine lv_aload_n hx hb dX12_laySpans_103 rfl (lv_at hl 0 rfl) ?_
        refine r_getp X hH (k := 12) (a := a) (j := 33) (b := (a + 20)) (A := 20) (B := 0) hk_a (by decide) rfl m_wi12 (by decide) in_7_48 rfl rfl rfl dX12_laySpans_104 ?_
        refine lv_bipush (v := (24 : Int32)) hx hb dX12_laySpans_107 (by decide) ?_
        refine lv_iload_n hx hb dX12_laySpans_109 rfl (lv_at hl 1 rfl) ?_
        refine lv_imul hx hb dX12_laySpans_110 ?_
        refine lv_iload hx hb dX12_laySpans_111 (lv_at hl 4 rfl) ?_
        refine lv_iadd hx hb dX12_laySpans_113 ?_
        obtain ⟨v7, h_v7, e_v7, hm⟩ := n_ldi hm
        refine n_iald X hH (n := 120) (m_lay_at hT hk_a (by decide) (i := 20) rfl) h_v7 e_v7 dX12_laySpans_114 ?_
        refine lv_iconst (v := (-1 : Int32)) hx hb dX12_laySpans_115 (by decide) ?_
        refine lv_icmp_ne (tgt := 132) hx hb dX12_laySpans_116 (by decide) (fun c8 => ?_) (fun c8 => ?_)
        · have hm := m_ite_f hm c8
          exact k_X12_laySpans_132 (a := a) X hr hT hk_a K_40 hK_40 (b_X12_laySpans_80 a K_40 n) ih  S4 l1 l2 l3 l4 _ _ _ hH hS hl hm
        · have hm := m_ite_t hm c8
          refine lv_aload_n hx hb dX12_laySpans_119 rfl (lv_at hl 0 rfl) ?_
          refine r_getp X hH (k := 12) (a := a) (j := 33) (b := (a + 20)) (A := 20) (B := 0) hk_a (by decide) rfl m_wi12 (by decide) in_7_48 rfl rfl rfl dX12_laySpans_120 ?_
          refine lv_bipush (v := (24 : Int32)) hx hb dX12_laySpans_123 (by decide) ?_
          refine lv_iload_n hx hb dX12_laySpans_125 rfl (lv_at hl 1 rfl) ?_
          refine lv_imul hx hb dX12_laySpans_126 ?_
          refine lv_iload hx hb dX12_laySpans_127 (lv_at hl 4 rfl) ?_
          refine lv_iadd hx hb dX12_laySpans_129 ?_
          refine lv_iload_n hx hb dX12_laySpans_130 rfl (lv_at hl 2 rfl) ?_
          obtain ⟨S9, h_S9, e_S9, hm⟩ := n_sti hm
          refine n_iast X hH hS (n := 120) (m_lay_at hT hk_a (by decide) (i := 20) rfl) h_S9 e_S9 dX12_laySpans_131 (fun H locs hH hS => ?_)
          exact k_X12_laySpans_132 (a := a) X hr hT hk_a K_40 hK_40 (b_X12_laySpans_80 a K_40 n) ih  S9 l1 l2 l3 l4 _ _ _ hH hS hl hm
      · have hm := m_ite_t hm c6
        refine lv_goto (tgt := 145) hx hb dX12_laySpans_100 (by decide) ?_
        exact k_X12_laySpans_145 (a := a) X hr hT hk_a K_40 hK_40 (b_X12_laySpans_80 a K_40 n) ih  S4 l1 l2 l3 l4 _ _ _ hH hS hl hm
def b_X12_laySpans_40 (a : Nat)  : Nat → m_M → Int32 → Int32 → Option m_M
  | 0, _, _, _ => none
  | n + 1, S, l1, l2 =>
    (m_ldi S (a + 2) 2647 ((13 : Int32) + l1)).bind fun v1 =>
    if v1 ≤ l2 then (
    some S) else (
    (m_ldi S (a + 2) 2647 ((8 : Int32) + l1)).bind fun v3 =>
    m_call (f_X12_reachIn a S l1 (v3 + l2)) fun v5 S4 =>
    (m_ldi S4 (a + 19) 5 l1).bind fun v6 =>
    m_let (v5 &&& v6) fun v7 =>
    b_X12_laySpans_80 a (b_X12_laySpans_40 a n) m_fu S4 l1 l2 v7 (0 : Int32))
set_option maxHeartbeats 4000000 in
set_option maxRecDepth 100000 in
theorem k_X12_laySpans_40 {p : Program} {l : Launch} {e : Env} {s : State} {m : MethodId} {args : Array Value} {below : List Frame} {meth : Method} {c : Code} {G : m_G} {nx : Nat} {κ : Nat → Nat} {res : m_M} {a : Nat} (X : m_Cx p s m args meth c cX12_laySpans 5 RX12 G) (hr : meth.sig.returnType = none) (hT : m_Str κ) (hk_a : κ a = 13)  (n : Nat) : ∀ (S : m_M) (l1 : Int32) (l2 : Int32) (H : Heap) (locs : List Loc) (ls : Array Slot), m_H G nx κ S H → m_S G s H locs → lv_has ls 5 [(0, .ref a), (1, .int l1), (2, .int l2)] → b_X12_laySpans_40 a n S l1 l2 = some res → W p l e rm_X12_laySpans s m args below meth c H locs 0 0 (m_Qv below args s G nx κ res) (F0 m 40 ls []) := by
  have hx := X.1.1
  have hb := X.1.2.1
  induction n with
  | zero => intro S l1 l2 H locs ls hH hS hl hm; have hm : (none : Option m_M) = some res := hm; cases hm
  | succ n ih =>
    intro S l1 l2 H locs ls hH hS hl hm
    rw [b_X12_laySpans_40] at hm
    refine lv_iload_n hx hb dX12_laySpans_40 rfl (lv_at hl 2 rfl) ?_
    refine lv_aload_n hx hb dX12_laySpans_41 rfl (lv_at hl 0 rfl) ?_
    refine r_getp X hH (k := 12) (a := a) (j := 14) (b := (a + 2)) (A := 2) (B := 0) hk_a (by decide) rfl m_wi12 (by decide) in_7_29 rfl rfl rfl dX12_laySpans_42 ?_
    refine lv_bipush (v := (13 : Int32)) hx hb dX12_laySpans_45 (by decide) ?_
    refine lv_iload_n hx hb dX12_laySpans_47 rfl (lv_at hl 1 rfl) ?_
    refine lv_iadd hx hb dX12_laySpans_48 ?_
    obtain ⟨v1, h_v1, e_v1, hm⟩ := n_ldi hm
    refine n_iald X hH (n := 2647) (m_lay_at hT hk_a (by decide) (i := 2) rfl) h_v1 e_v1 dX12_laySpans_49 ?_
    refine lv_icmp_ge (tgt := 157) hx hb dX12_laySpans_50 (by decide) (fun c2 => ?_) (fun c2 => ?_)
    · have hm := m_ite_t hm c2
      exact r_vret X hr hH hS hm dX12_laySpans_157
    · have hm := m_ite_f hm c2
      refine lv_aload_n hx hb dX12_laySpans_53 rfl (lv_at hl 0 rfl) ?_
      refine lv_iload_n hx hb dX12_laySpans_54 rfl (lv_at hl 1 rfl) ?_
      refine lv_aload_n hx hb dX12_laySpans_55 rfl (lv_at hl 0 rfl) ?_
      refine r_getp X hH (k := 12) (a := a) (j := 14) (b := (a + 2)) (A := 2) (B := 0) hk_a (by decide) rfl m_wi12 (by decide) in_7_29 rfl rfl rfl dX12_laySpans_56 ?_
      refine lv_bipush (v := (8 : Int32)) hx hb dX12_laySpans_59 (by decide) ?_
      refine lv_iload_n hx hb dX12_laySpans_61 rfl (lv_at hl 1 rfl) ?_
      refine lv_iadd hx hb dX12_laySpans_62 ?_
      obtain ⟨v3, h_v3, e_v3, hm⟩ := n_ldi hm
      refine n_iald X hH (n := 2647) (m_lay_at hT hk_a (by decide) (i := 2) rfl) h_v3 e_v3 dX12_laySpans_63 ?_
      refine lv_iload_n hx hb dX12_laySpans_64 rfl (lv_at hl 2 rfl) ?_
      refine lv_iadd hx hb dX12_laySpans_65 ?_
      obtain ⟨v5, S4, e_S4, hm⟩ := m_call_of hm
      refine n_cVi X hH hS (k := 12) (c_X12_reachIn (a := a) hT hk_a e_S4) mw_X12_reachIn in_7_11 hk_a (by decide) rfl rfl rfl ⟨rfl, rfl⟩ ⟨Nat.le_of_ble_eq_true rfl, Nat.le_of_ble_eq_true rfl⟩ ⟨Nat.zero_le _, Nat.zero_le _⟩ hl.1 (Nat.le_of_ble_eq_true rfl) dX12_laySpans_66 (fun H locs hH hS => ?_)
      refine lv_aload_n hx hb dX12_laySpans_69 rfl (lv_at hl 0 rfl) ?_
      refine r_getp X hH (k := 12) (a := a) (j := 32) (b := (a + 19)) (A := 19) (B := 0) hk_a (by decide) rfl m_wi12 (by decide) in_7_47 rfl rfl rfl dX12_laySpans_70 ?_
      refine lv_iload_n hx hb dX12_laySpans_73 rfl (lv_at hl 1 rfl) ?_
      obtain ⟨v6, h_v6, e_v6, hm⟩ := n_ldi hm
      refine n_iald X hH (n := 5) (m_lay_at hT hk_a (by decide) (i := 19) rfl) h_v6 e_v6 dX12_laySpans_74 ?_
      refine lv_iand hx hb dX12_laySpans_75 ?_
      obtain ⟨v7, e_v7, hm⟩ := m_let_of hm
      refine n_topi e_v7 ?_
      refine lv_istore_n (lv' := [(3, .int v7), (0, .ref a), (1, .int l1), (2, .int l2)]) hx hb dX12_laySpans_76 rfl hl (by decide) rfl (fun ls hl => ?_)
      refine lv_iconst (v := (0 : Int32)) hx hb dX12_laySpans_77 (by decide) ?_
      refine lv_istore (lv' := [(4, .int (0 : Int32)), (3, .int v7), (0, .ref a), (1, .int l1), (2, .int l2)]) hx hb dX12_laySpans_78 hl (by decide) rfl (fun ls hl => ?_)
      exact k_X12_laySpans_80 (a := a) X hr hT hk_a (b_X12_laySpans_40 a n) ih m_fu S4 l1 l2 v7 (0 : Int32) _ _ _ hH hS (lv_sub hl [2, 3, 4, 1, 0] rfl) hm
def b_X12_laySpans_2 (a : Nat)  : Nat → m_M → Int32 → Int32 → Option m_M
  | 0, _, _, _ => none
  | n + 1, S, l1, l2 =>
    if (24 : Int32) ≤ l2 then (
    b_X12_laySpans_40 a m_fu S l1 (0 : Int32)) else (
    (m_sti S (a + 20) 120 (((24 : Int32) * l1) + l2) (-1 : Int32)).bind fun S2 =>
    (m_sti S2 (a + 21) 120 (((24 : Int32) * l1) + l2) (-1 : Int32)).bind fun S3 =>
    m_let (l2 + (1 : Int32)) fun v4 =>
    b_X12_laySpans_2 a n S3 l1 v4)
set_option maxHeartbeats 4000000 in
set_option maxRecDepth 100000 in
theorem k_X12_laySpans_2 {p : Program} {l : Launch} {e : Env} {s : State} {m : MethodId} {args : Array Value} {below : List Frame} {meth : Method} {c : Code} {G : m_G} {nx : Nat} {κ : Nat → Nat} {res : m_M} {a : Nat} (X : m_Cx p s m args meth c cX12_laySpans 5 RX12 G) (hr : meth.sig.returnType = none) (hT : m_Str κ) (hk_a : κ a = 13)  (n : Nat) : ∀ (S : m_M) (l1 : Int32) (l2 : Int32) (H : Heap) (locs : List Loc) (ls : Array Slot), m_H G nx κ S H → m_S G s H locs → lv_has ls 5 [(0, .ref a), (1, .int l1), (2, .int l2)] → b_X12_laySpans_2 a n S l1 l2 = some res → W p l e rm_X12_laySpans s m args below meth c H locs 0 0 (m_Qv below args s G nx κ res) (F0 m 2 ls []) := by
  have hx := X.1.1
  have hb := X.1.2.1
  induction n with
  | zero => intro S l1 l2 H locs ls hH hS hl hm; have hm : (none : Option m_M) = some res := hm; cases hm
  | succ n ih =>
    intro S l1 l2 H locs ls hH hS hl hm
    rw [b_X12_laySpans_2] at hm
    refine lv_iload_n hx hb dX12_laySpans_2 rfl (lv_at hl 2 rfl) ?_
    refine lv_bipush (v := (24 : Int32)) hx hb dX12_laySpans_3 (by decide) ?_
    refine lv_icmp_ge (tgt := 38) hx hb dX12_laySpans_5 (by decide) (fun c1 => ?_) (fun c1 => ?_)
    · have hm := m_ite_t hm c1
      refine lv_iconst (v := (0 : Int32)) hx hb dX12_laySpans_38 (by decide) ?_
      refine lv_istore_n (lv' := [(2, .int (0 : Int32)), (0, .ref a), (1, .int l1)]) hx hb dX12_laySpans_39 rfl hl (by decide) rfl (fun ls hl => ?_)
      exact k_X12_laySpans_40 (a := a) X hr hT hk_a  m_fu S l1 (0 : Int32) _ _ _ hH hS (lv_sub hl [1, 2, 0] rfl) hm
    · have hm := m_ite_f hm c1
      refine lv_aload_n hx hb dX12_laySpans_8 rfl (lv_at hl 0 rfl) ?_
      refine r_getp X hH (k := 12) (a := a) (j := 33) (b := (a + 20)) (A := 20) (B := 0) hk_a (by decide) rfl m_wi12 (by decide) in_7_48 rfl rfl rfl dX12_laySpans_9 ?_
      refine lv_bipush (v := (24 : Int32)) hx hb dX12_laySpans_12 (by decide) ?_
      refine lv_iload_n hx hb dX12_laySpans_14 rfl (lv_at hl 1 rfl) ?_
      refine lv_imul hx hb dX12_laySpans_15 ?_
      refine lv_iload_n hx hb dX12_laySpans_16 rfl (lv_at hl 2 rfl) ?_
      refine lv_iadd hx hb dX12_laySpans_17 ?_
      refine lv_iconst (v := (-1 : Int32)) hx hb dX12_laySpans_18 (by decide) ?_
      obtain ⟨S2, h_S2, e_S2, hm⟩ := n_sti hm
      refine n_iast X hH hS (n := 120) (m_lay_at hT hk_a (by decide) (i := 20) rfl) h_S2 e_S2 dX12_laySpans_19 (fun H locs hH hS => ?_)
      refine lv_aload_n hx hb dX12_laySpans_20 rfl (lv_at hl 0 rfl) ?_
      refine r_getp X hH (k := 12) (a := a) (j := 34) (b := (a + 21)) (A := 21) (B := 0) hk_a (by decide) rfl m_wi12 (by decide) in_7_49 rfl rfl rfl dX12_laySpans_21 ?_
      refine lv_bipush (v := (24 : Int32)) hx hb dX12_laySpans_24 (by decide) ?_
      refine lv_iload_n hx hb dX12_laySpans_26 rfl (lv_at hl 1 rfl) ?_
      refine lv_imul hx hb dX12_laySpans_27 ?_
      refine lv_iload_n hx hb dX12_laySpans_28 rfl (lv_at hl 2 rfl) ?_
      refine lv_iadd hx hb dX12_laySpans_29 ?_
      refine lv_iconst (v := (-1 : Int32)) hx hb dX12_laySpans_30 (by decide) ?_
      obtain ⟨S3, h_S3, e_S3, hm⟩ := n_sti hm
      refine n_iast X hH hS (n := 120) (m_lay_at hT hk_a (by decide) (i := 21) rfl) h_S3 e_S3 dX12_laySpans_31 (fun H locs hH hS => ?_)
      obtain ⟨v4, e_v4, hm⟩ := m_let_of hm
      refine lv_iinc (v := v4) (lv' := [(2, .int v4), (0, .ref a), (1, .int l1)]) hx hb dX12_laySpans_32 hl (k := 2) rfl (by rw [← e_v4]; rfl) (by decide) rfl (fun ls hl => ?_)
      refine lv_goto (tgt := 2) hx hb dX12_laySpans_35 (by decide) ?_
      exact ih S3 l1 v4 _ _ _ hH hS (lv_sub hl [1, 2, 0] rfl) hm
def f_X12_laySpans (a : Nat) (S : m_M) (i1 : Int32) : Option m_M :=
    b_X12_laySpans_2 a m_fu S i1 (0 : Int32)
set_option maxHeartbeats 4000000 in
set_option maxRecDepth 100000 in
theorem c_X12_laySpans {l : Launch} {G : m_G} {nx : Nat} {κ : Nat → Nat} {a : Nat} {S : m_M} {i1 : Int32} {res : m_M} (hT : m_Str κ) (hk_a : κ a = 13) (hm : f_X12_laySpans a S i1 = some res) : m_Cv l yX12_laySpans cX12_laySpans 5 rm_X12_laySpans G nx κ [.ref a, .int i1] S res := by
  refine m_Cv.of (by decide) (Nat.le_of_ble_eq_true rfl) ?_
  intro p e s m args below meth c ls X hr hH hl
  have hx := X.1.1
  have hb := X.1.2.1
  have hS : m_S G s s.heap [] := va_S.rf
  have hl : lv_has ls 5 [(0, .ref a), (1, .int i1)] := hl
  rw [f_X12_laySpans] at hm
  refine lv_iconst (v := (0 : Int32)) hx hb dX12_laySpans_0 (by decide) ?_
  refine lv_istore_n (lv' := [(2, .int (0 : Int32)), (0, .ref a), (1, .int i1)]) hx hb dX12_laySpans_1 rfl hl (by decide) rfl (fun ls hl => ?_)
  exact k_X12_laySpans_2 (a := a) X hr hT hk_a  m_fu S i1 (0 : Int32) _ _ _ hH hS (lv_sub hl [1, 2, 0] rfl) hm
def rm_X12_layFun : Room := { frames := 3, cells := 0, slots := 0, locals := 70 }
def b_X12_layFun_85 (a : Nat) (K_22 : m_M → Int32 → Int32 → Int32 → Int32 → Option m_M) (S : m_M) (l1 : Int32) (l2 : Int32) (l3 : Int32) (l4 : Int32) : Option m_M :=
    m_let (l4 + (1 : Int32)) fun v1 =>
    K_22 S l1 l2 l3 v1
set_option maxHeartbeats 4000000 in
set_option maxRecDepth 100000 in
theorem k_X12_layFun_85 {p : Program} {l : Launch} {e : Env} {s : State} {m : MethodId} {args : Array Value} {below : List Frame} {meth : Method} {c : Code} {G : m_G} {nx : Nat} {κ : Nat → Nat} {res : m_M} {a : Nat} (X : m_Cx p s m args meth c cX12_layFun 6 RX12 G) (hr : meth.sig.returnType = none) (hT : m_Str κ) (hk_a : κ a = 13) (K_22 : m_M → Int32 → Int32 → Int32 → Int32 → Option m_M) (hK_22 : ∀ (S : m_M) (l1 : Int32) (l2 : Int32) (l3 : Int32) (l4 : Int32) (H : Heap) (locs : List Loc) (ls : Array Slot), m_H G nx κ S H → m_S G s H locs → lv_has ls 6 [(0, .ref a), (1, .int l1), (2, .int l2), (3, .int l3), (4, .int l4)] → K_22 S l1 l2 l3 l4 = some res → W p l e rm_X12_layFun s m args below meth c H locs 0 0 (m_Qv below args s G nx κ res) (F0 m 22 ls [])) : ∀ (S : m_M) (l1 : Int32) (l2 : Int32) (l3 : Int32) (l4 : Int32) (H : Heap) (locs : List Loc) (ls : Array Slot), m_H G nx κ S H → m_S G s H locs → lv_has ls 6 [(0, .ref a), (1, .int l1), (2, .int l2), (3, .int l3), (4, .int l4)] → b_X12_layFun_85 a K_22 S l1 l2 l3 l4 = some res → W p l e rm_X12_layFun s m args below meth c H locs 0 0 (m_Qv below args s G nx κ res) (F0 m 85 ls []) := by
  have hx := X.1.1
  have hb := X.1.2.1
  intro S l1 l2 l3 l4 H locs ls hH hS hl hm
  rw [b_X12_layFun_85] at hm
  obtain ⟨v1, e_v1, hm⟩ := m_let_of hm
  refine lv_iinc (v := v1) (lv' := [(4, .int v1), (0, .ref a), (1, .int l1), (2, .int l2), (3, .int l3)]) hx hb dX12_layFun_85 hl (k := 4) rfl (by rw [← e_v1]; rfl) (by decide) rfl (fun ls hl => ?_)
  refine lv_goto (tgt := 22) hx hb dX12_layFun_88 (by decide) ?_
  exact hK_22 S l1 l2 l3 v1 _ _ _ hH hS (lv_sub hl [1, 2, 3, 4, 0] rfl) hm
def b_X12_layFun_64 (a : Nat) (K_22 : m_M → Int32 → Int32 → Int32 → Int32 → Option m_M) (S : m_M) (l1 : Int32) (l2 : Int32) (l3 : Int32) (l4 : Int32) : Option m_M :=
    (m_ldi S (a + 18) 5 l1).bind fun v1 =>
    m_call (f_X12_node a S l1 l4) fun v3 S2 =>
    (m_ldi S2 (a + 16) 135 v3).bind fun v4 =>
    (m_sti S2 (a + 18) 5 l1 (v1 ||| v4)).bind fun S5 =>
    b_X12_layFun_85 a K_22 S5 l1 l2 l3 l4
set_option maxHeartbeats 4000000 in
set_option maxRecDepth 100000 in
theorem k_X12_layFun_64 {p : Program} {l : Launch} {e : Env} {s : State} {m : MethodId} {args : Array Value} {below : List Frame} {meth : Method} {c : Code} {G : m_G} {nx : Nat} {κ : Nat → Nat} {res : m_M} {a : Nat} (X : m_Cx p s m args meth c cX12_layFun 6 RX12 G) (hr : meth.sig.returnType = none) (hT : m_Str κ) (hk_a : κ a = 13) (K_22 : m_M → Int32 → Int32 → Int32 → Int32 → Option m_M) (hK_22 : ∀ (S : m_M) (l1 : Int32) (l2 : Int32) (l3 : Int32) (l4 : Int32) (H : Heap) (locs : List Loc) (ls : Array Slot), m_H G nx κ S H → m_S G s H locs → lv_has ls 6 [(0, .ref a), (1, .int l1), (2, .int l2), (3, .int l3), (4, .int l4)] → K_22 S l1 l2 l3 l4 = some res → W p l e rm_X12_layFun s m args below meth c H locs 0 0 (m_Qv below args s G nx κ res) (F0 m 22 ls [])) : ∀ (S : m_M) (l1 : Int32) (l2 : Int32) (l3 : Int32) (l4 : Int32) (H : Heap) (locs : List Loc) (ls : Array Slot), m_H G nx κ S H → m_S G s H locs → lv_has ls 6 [(0, .ref a), (1, .int l1), (2, .int l2), (3, .int l3), (4, .int l4)] → b_X12_layFun_64 a K_22 S l1 l2 l3 l4 = some res → W p l e rm_X12_layFun s m args below meth c H locs 0 0 (m_Qv below args s G nx κ res) (F0 m 64 ls []) := by
  have hx := X.1.1
  have hb := X.1.2.1
  intro S l1 l2 l3 l4 H locs ls hH hS hl hm
  rw [b_X12_layFun_64] at hm
  refine lv_aload_n hx hb dX12_layFun_64 rfl (lv_at hl 0 rfl) ?_
  refine r_getp X hH (k := 12) (a := a) (j := 31) (b := (a + 18)) (A := 18) (B := 0) hk_a (by decide) rfl m_wi12 (by decide) in_7_46 rfl rfl rfl dX12_layFun_65 ?_
  refine lv_iload_n hx hb dX12_layFun_68 rfl (lv_at hl 1 rfl) ?_
  refine lv_dup2_11 hx hb dX12_layFun_69 rfl rfl ?_
  obtain ⟨v1, h_v1, e_v1, hm⟩ := n_ldi hm
  refine n_iald X hH (n := 5) (m_lay_at hT hk_a (by decide) (i := 18) rfl) h_v1 e_v1 dX12_layFun_70 ?_
  refine lv_aload_n hx hb dX12_layFun_71 rfl (lv_at hl 0 rfl) ?_
  refine r_getp X hH (k := 12) (a := a) (j := 29) (b := (a + 16)) (A := 16) (B := 0) hk_a (by decide) rfl m_wi12 (by decide) in_7_44 rfl rfl rfl dX12_layFun_72 ?_
  refine lv_aload_n hx hb dX12_layFun_75 rfl (lv_at hl 0 rfl) ?_
  refine lv_iload_n hx hb dX12_layFun_76 rfl (lv_at hl 1 rfl) ?_
  refine lv_iload hx hb dX12_layFun_77 (lv_at hl 4 rfl) ?_
  obtain ⟨v3, S2, e_S2, hm⟩ := m_call_of hm
  refine n_cVi X hH hS (k := 12) (c_X12_node (a := a) hT hk_a e_S2) mw_X12_node in_6_200 hk_a (by decide) rfl rfl rfl ⟨rfl, rfl⟩ ⟨Nat.le_of_ble_eq_true rfl, Nat.le_of_ble_eq_true rfl⟩ ⟨Nat.zero_le _, Nat.zero_le _⟩ hl.1 (Nat.le_of_ble_eq_true rfl) dX12_layFun_79 (fun H locs hH hS => ?_)
  obtain ⟨v4, h_v4, e_v4, hm⟩ := n_ldi hm
  refine n_iald X hH (n := 135) (m_lay_at hT hk_a (by decide) (i := 16) rfl) h_v4 e_v4 dX12_layFun_82 ?_
  refine lv_ior hx hb dX12_layFun_83 ?_
  obtain ⟨S5, h_S5, e_S5, hm⟩ := n_sti hm
  refine n_iast X hH hS (n := 5) (m_lay_at hT hk_a (by decide) (i := 18) rfl) h_S5 e_S5 dX12_layFun_84 (fun H locs hH hS => ?_)
  exact k_X12_layFun_85 (a := a) X hr hT hk_a K_22 hK_22  S5 l1 l2 l3 l4 _ _ _ hH hS hl hm
def b_X12_layFun_185 (a : Nat) (K_115 : m_M → Int32 → Int32 → Option m_M) (S : m_M) (l1 : Int32) (l4 : Int32) : Option m_M :=
    m_let (l4 + (1 : Int32)) fun v1 =>
    K_115 S l1 v1
set_option maxHeartbeats 4000000 in
set_option maxRecDepth 100000 in
theorem k_X12_layFun_185 {p : Program} {l : Launch} {e : Env} {s : State} {m : MethodId} {args : Array Value} {below : List Frame} {meth : Method} {c : Code} {G : m_G} {nx : Nat} {κ : Nat → Nat} {res : m_M} {a : Nat} (X : m_Cx p s m args meth c cX12_layFun 6 RX12 G) (hr : meth.sig.returnType = none) (hT : m_Str κ) (hk_a : κ a = 13) (K_115 : m_M → Int32 → Int32 → Option m_M) (hK_115 : ∀ (S : m_M) (l1 : Int32) (l4 : Int32) (H : Heap) (locs : List Loc) (ls : Array Slot), m_H G nx κ S H → m_S G s H locs → lv_has ls 6 [(0, .ref a), (1, .int l1), (4, .int l4)] → K_115 S l1 l4 = some res → W p l e rm_X12_layFun s m args below meth c H locs 0 0 (m_Qv below args s G nx κ res) (F0 m 115 ls [])) : ∀ (S : m_M) (l1 : Int32) (l4 : Int32) (H : Heap) (locs : List Loc) (ls : Array Slot), m_H G nx κ S H → m_S G s H locs → lv_has ls 6 [(0, .ref a), (1, .int l1), (4, .int l4)] → b_X12_layFun_185 a K_115 S l1 l4 = some res → W p l e rm_X12_layFun s m args below meth c H locs 0 0 (m_Qv below args s G nx κ res) (F0 m 185 ls []) := by
  have hx := X.1.1
  have hb := X.1.2.1
  intro S l1 l4 H locs ls hH hS hl hm
  rw [b_X12_layFun_185] at hm
  obtain ⟨v1, e_v1, hm⟩ := m_let_of hm
  refine lv_iinc (v := v1) (lv' := [(4, .int v1), (0, .ref a), (1, .int l1)]) hx hb dX12_layFun_185 hl (k := 2) rfl (by rw [← e_v1]; rfl) (by decide) rfl (fun ls hl => ?_)
  refine lv_goto (tgt := 115) hx hb dX12_layFun_188 (by decide) ?_
  exact hK_115 S l1 v1 _ _ _ hH hS (lv_sub hl [1, 2, 0] rfl) hm
def b_X12_layFun_115 (a : Nat)  : Nat → m_M → Int32 → Int32 → Option m_M
  | 0, _, _, _ => none
  | n + 1, S, l1, l4 =>
    (m_ldi S (a + 2) 2647 ((13 : Int32) + l1)).bind fun v1 =>
    if v1 ≤ l4 then (
    some S) else (
    (m_ldi S (a + 2) 2647 ((8 : Int32) + l1)).bind fun v3 =>
    m_let (v3 + l4) fun v4 =>
    (m_ldi S (a + 2) 2647 ((18 : Int32) + v4)).bind fun v5 =>
    if v5 = (2 : Int32) then (
    m_call (f_X12_madeBy a S l1 v4) fun v8 S7 =>
    m_call (f_X12_node a S7 l1 v8) fun v10 S9 =>
    (m_ldi S9 (a + 15) 135 v10).bind fun v11 =>
    (m_ldi S9 (a + 22) 24 v11).bind fun v12 =>
    (m_sti S9 (a + 22) 24 v11 (v12 ||| ((1 : Int32) <<< (l1 &&& 31)))).bind fun S13 =>
    b_X12_layFun_185 a (b_X12_layFun_115 a n) S13 l1 l4) else (
    b_X12_layFun_185 a (b_X12_layFun_115 a n) S l1 l4))
set_option maxHeartbeats 4000000 in
set_option maxRecDepth 100000 in
theorem k_X12_layFun_115 {p : Program} {l : Launch} {e : Env} {s : State} {m : MethodId} {args : Array Value} {below : List Frame} {meth : Method} {c : Code} {G : m_G} {nx : Nat} {κ : Nat → Nat} {res : m_M} {a : Nat} (X : m_Cx p s m args meth c cX12_layFun 6 RX12 G) (hr : meth.sig.returnType = none) (hT : m_Str κ) (hk_a : κ a = 13)  (n : Nat) : ∀ (S : m_M) (l1 : Int32) (l4 : Int32) (H : Heap) (locs : List Loc) (ls : Array Slot), m_H G nx κ S H → m_S G s H locs → lv_has ls 6 [(0, .ref a), (1, .int l1), (4, .int l4)] → b_X12_layFun_115 a n S l1 l4 = some res → W p l e rm_X12_layFun s m args below meth c H locs 0 0 (m_Qv below args s G nx κ res) (F0 m 115 ls []) := by
  have hx := X.1.1
  have hb := X.1.2.1
  induction n with
  | zero => intro S l1 l4 H locs ls hH hS hl hm; have hm : (none : Option m_M) = some res := hm; cases hm
  | succ n ih =>
    intro S l1 l4 H locs ls hH hS hl hm
    rw [b_X12_layFun_115] at hm
    refine lv_iload hx hb dX12_layFun_115 (lv_at hl 2 rfl) ?_
    refine lv_aload_n hx hb dX12_layFun_117 rfl (lv_at hl 0 rfl) ?_
    refine r_getp X hH (k := 12) (a := a) (j := 14) (b := (a + 2)) (A := 2) (B := 0) hk_a (by decide) rfl m_wi12 (by decide) in_7_29 rfl rfl rfl dX12_layFun_118 ?_
    refine lv_bipush (v := (13 : Int32)) hx hb dX12_layFun_121 (by decide) ?_
    refine lv_iload_n hx hb dX12_layFun_123 rfl (lv_at hl 1 rfl) ?_
    refine lv_iadd hx hb dX12_layFun_124 ?_
    obtain ⟨v1, h_v1, e_v1, hm⟩ := n_ldi hm
    refine n_iald X hH (n := 2647) (m_lay_at hT hk_a (by decide) (i := 2) rfl) h_v1 e_v1 dX12_layFun_125 ?_
    refine lv_icmp_ge (tgt := 191) hx hb dX12_layFun_126 (by decide) (fun c2 => ?_) (fun c2 => ?_)
    · have hm := m_ite_t hm c2
      exact r_vret X hr hH hS hm dX12_layFun_191
    · have hm := m_ite_f hm c2
      refine lv_aload_n hx hb dX12_layFun_129 rfl (lv_at hl 0 rfl) ?_
      refine r_getp X hH (k := 12) (a := a) (j := 14) (b := (a + 2)) (A := 2) (B := 0) hk_a (by decide) rfl m_wi12 (by decide) in_7_29 rfl rfl rfl dX12_layFun_130 ?_
      refine lv_bipush (v := (8 : Int32)) hx hb dX12_layFun_133 (by decide) ?_
      refine lv_iload_n hx hb dX12_layFun_135 rfl (lv_at hl 1 rfl) ?_
      refine lv_iadd hx hb dX12_layFun_136 ?_
      obtain ⟨v3, h_v3, e_v3, hm⟩ := n_ldi hm
      refine n_iald X hH (n := 2647) (m_lay_at hT hk_a (by decide) (i := 2) rfl) h_v3 e_v3 dX12_layFun_137 ?_
      refine lv_iload hx hb dX12_layFun_138 (lv_at hl 2 rfl) ?_
      refine lv_iadd hx hb dX12_layFun_140 ?_
      obtain ⟨v4, e_v4, hm⟩ := m_let_of hm
      refine n_topi e_v4 ?_
      refine lv_istore (lv' := [(5, .int v4), (0, .ref a), (1, .int l1), (4, .int l4)]) hx hb dX12_layFun_141 hl (by decide) rfl (fun ls hl => ?_)
      refine lv_aload_n hx hb dX12_layFun_143 rfl (lv_at hl 1 rfl) ?_
      refine r_getp X hH (k := 12) (a := a) (j := 14) (b := (a + 2)) (A := 2) (B := 0) hk_a (by decide) rfl m_wi12 (by decide) in_7_29 rfl rfl rfl dX12_layFun_144 ?_
      refine lv_bipush (v := (18 : Int32)) hx hb dX12_layFun_147 (by decide) ?_
      refine lv_iload hx hb dX12_layFun_149 (lv_at hl 0 rfl) ?_
      refine lv_iadd hx hb dX12_layFun_151 ?_
      obtain ⟨v5, h_v5, e_v5, hm⟩ := n_ldi hm
      refine n_iald X hH (n := 2647) (m_lay_at hT hk_a (by decide) (i := 2) rfl) h_v5 e_v5 dX12_layFun_152 ?_
      refine lv_iconst (v := (2 : Int32)) hx hb dX12_layFun_153 (by decide) ?_
      refine lv_icmp_ne (tgt := 185) hx hb dX12_layFun_154 (by decide) (fun c6 => ?_) (fun c6 => ?_)
      · have hm := m_ite_f hm c6
        exact k_X12_layFun_185 (a := a) X hr hT hk_a (b_X12_layFun_115 a n) ih  S l1 l4 _ _ _ hH hS (lv_sub hl [1, 2, 3] rfl) hm
      · have hm := m_ite_t hm c6
        refine lv_aload_n hx hb dX12_layFun_157 rfl (lv_at hl 1 rfl) ?_
        refine r_getp X hH (k := 12) (a := a) (j := 35) (b := (a + 22)) (A := 22) (B := 0) hk_a (by decide) rfl m_wi12 (by decide) in_7_50 rfl rfl rfl dX12_layFun_158 ?_
        refine lv_aload_n hx hb dX12_layFun_161 rfl (lv_at hl 1 rfl) ?_
        refine r_getp X hH (k := 12) (a := a) (j := 28) (b := (a + 15)) (A := 15) (B := 0) hk_a (by decide) rfl m_wi12 (by decide) in_7_43 rfl rfl rfl dX12_layFun_162 ?_
        refine lv_aload_n hx hb dX12_layFun_165 rfl (lv_at hl 1 rfl) ?_
        refine lv_iload_n hx hb dX12_layFun_166 rfl (lv_at hl 2 rfl) ?_
        refine lv_aload_n hx hb dX12_layFun_167 rfl (lv_at hl 1 rfl) ?_
        refine lv_iload_n hx hb dX12_layFun_168 rfl (lv_at hl 2 rfl) ?_
        refine lv_iload hx hb dX12_layFun_169 (lv_at hl 0 rfl) ?_
        obtain ⟨v8, S7, e_S7, hm⟩ := m_call_of hm
        refine n_cVi X hH hS (k := 12) (c_X12_madeBy (a := a) hT hk_a e_S7) mw_X12_madeBy in_6_196 hk_a (by decide) rfl rfl rfl ⟨rfl, rfl⟩ ⟨Nat.le_of_ble_eq_true rfl, Nat.le_of_ble_eq_true rfl⟩ ⟨Nat.zero_le _, Nat.zero_le _⟩ hl.1 (Nat.le_of_ble_eq_true rfl) dX12_layFun_171 (fun H locs hH hS => ?_)
        obtain ⟨v10, S9, e_S9, hm⟩ := m_call_of hm
        refine n_cVi X hH hS (k := 12) (c_X12_node (a := a) hT hk_a e_S9) mw_X12_node in_6_200 hk_a (by decide) rfl rfl rfl ⟨rfl, rfl⟩ ⟨Nat.le_of_ble_eq_true rfl, Nat.le_of_ble_eq_true rfl⟩ ⟨Nat.zero_le _, Nat.zero_le _⟩ hl.1 (Nat.le_of_ble_eq_true rfl) dX12_layFun_174 (fun H locs hH hS => ?_)
        obtain ⟨v11, h_v11, e_v11, hm⟩ := n_ldi hm
        refine n_iald X hH (n := 135) (m_lay_at hT hk_a (by decide) (i := 15) rfl) h_v11 e_v11 dX12_layFun_177 ?_
        refine lv_dup2_11 hx hb dX12_layFun_178 rfl rfl ?_
        obtain ⟨v12, h_v12, e_v12, hm⟩ := n_ldi hm
        refine n_iald X hH (n := 24) (m_lay_at hT hk_a (by decide) (i := 22) rfl) h_v12 e_v12 dX12_layFun_179 ?_
        refine lv_iconst (v := (1 : Int32)) hx hb dX12_layFun_180 (by decide) ?_
        refine lv_iload_n hx hb dX12_layFun_181 rfl (lv_at hl 2 rfl) ?_
        refine lv_ishl hx hb dX12_layFun_182 ?_
        refine lv_ior hx hb dX12_layFun_183 ?_
        obtain ⟨S13, h_S13, e_S13, hm⟩ := n_sti hm
        refine n_iast X hH hS (n := 24) (m_lay_at hT hk_a (by decide) (i := 22) rfl) h_S13 e_S13 dX12_layFun_184 (fun H locs hH hS => ?_)
        exact k_X12_layFun_185 (a := a) X hr hT hk_a (b_X12_layFun_115 a n) ih  S13 l1 l4 _ _ _ hH hS (lv_sub hl [1, 2, 3] rfl) hm
def b_X12_layFun_22 (a : Nat)  : Nat → m_M → Int32 → Int32 → Int32 → Int32 → Option m_M
  | 0, _, _, _, _, _ => none
  | n + 1, S, l1, l2, l3, l4 =>
    if l3 ≤ l4 then (
    (m_ldi S (a + 18) 5 l1).bind fun v2 =>
    (m_sti S (a + 19) 5 l1 (l2 &&& (v2 ^^^ (-1 : Int32)))).bind fun S3 =>
    m_cal0 (f_X12_laySpans a S3 l1) fun S4 =>
    b_X12_layFun_115 a m_fu S4 l1 (0 : Int32)) else (
    m_call (f_X12_node a S l1 l4) fun v6 S5 =>
    (m_ldi S5 (a + 16) 135 v6).bind fun v7 =>
    m_let (l2 ||| v7) fun v8 =>
    (m_ldi S5 (a + 2) 2647 ((3 : Int32) + l1)).bind fun v9 =>
    if l4 < v9 then (
    b_X12_layFun_64 a (b_X12_layFun_22 a n) S5 l1 v8 l3 l4) else (
    if l4 = (l3 - (1 : Int32)) then (
    b_X12_layFun_64 a (b_X12_layFun_22 a n) S5 l1 v8 l3 l4) else (
    b_X12_layFun_85 a (b_X12_layFun_22 a n) S5 l1 v8 l3 l4)))
set_option maxHeartbeats 4000000 in
set_option maxRecDepth 100000 in
theorem k_X12_layFun_22 {p : Program} {l : Launch} {e : Env} {s : State} {m : MethodId} {args : Array Value} {below : List Frame} {meth : Method} {c : Code} {G : m_G} {nx : Nat} {κ : Nat → Nat} {res : m_M} {a : Nat} (X : m_Cx p s m args meth c cX12_layFun 6 RX12 G) (hr : meth.sig.returnType = none) (hT : m_Str κ) (hk_a : κ a = 13)  (n : Nat) : ∀ (S : m_M) (l1 : Int32) (l2 : Int32) (l3 : Int32) (l4 : Int32) (H : Heap) (locs : List Loc) (ls : Array Slot), m_H G nx κ S H → m_S G s H locs → lv_has ls 6 [(0, .ref a), (1, .int l1), (2, .int l2), (3, .int l3), (4, .int l4)] → b_X12_layFun_22 a n S l1 l2 l3 l4 = some res → W p l e rm_X12_layFun s m args below meth c H locs 0 0 (m_Qv below args s G nx κ res) (F0 m 22 ls []) := by
  have hx := X.1.1
  have hb := X.1.2.1
  induction n with
  | zero => intro S l1 l2 l3 l4 H locs ls hH hS hl hm; have hm : (none : Option m_M) = some res := hm; cases hm
  | succ n ih =>
    intro S l1 l2 l3 l4 H locs ls hH hS hl hm
    rw [b_X12_layFun_22] at hm
    refine lv_iload hx hb dX12_layFun_22 (lv_at hl 4 rfl) ?_
    refine lv_iload_n hx hb dX12_layFun_24 rfl (lv_at hl 3 rfl) ?_
    refine lv_icmp_ge (tgt := 91) hx hb dX12_layFun_25 (by decide) (fun c1 => ?_) (fun c1 => ?_)
    · have hm := m_ite_t hm c1
      refine lv_aload_n hx hb dX12_layFun_91 rfl (lv_at hl 0 rfl) ?_
      refine r_getp X hH (k := 12) (a := a) (j := 32) (b := (a + 19)) (A := 19) (B := 0) hk_a (by decide) rfl m_wi12 (by decide) in_7_47 rfl rfl rfl dX12_layFun_92 ?_
      refine lv_iload_n hx hb dX12_layFun_95 rfl (lv_at hl 1 rfl) ?_
      refine lv_iload_n hx hb dX12_layFun_96 rfl (lv_at hl 2 rfl) ?_
      refine lv_aload_n hx hb dX12_layFun_97 rfl (lv_at hl 0 rfl) ?_
      refine r_getp X hH (k := 12) (a := a) (j := 31) (b := (a + 18)) (A := 18) (B := 0) hk_a (by decide) rfl m_wi12 (by decide) in_7_46 rfl rfl rfl dX12_layFun_98 ?_
      refine lv_iload_n hx hb dX12_layFun_101 rfl (lv_at hl 1 rfl) ?_
      obtain ⟨v2, h_v2, e_v2, hm⟩ := n_ldi hm
      refine n_iald X hH (n := 5) (m_lay_at hT hk_a (by decide) (i := 18) rfl) h_v2 e_v2 dX12_layFun_102 ?_
      refine lv_iconst (v := (-1 : Int32)) hx hb dX12_layFun_103 (by decide) ?_
      refine lv_ixor hx hb dX12_layFun_104 ?_
      refine lv_iand hx hb dX12_layFun_105 ?_
      obtain ⟨S3, h_S3, e_S3, hm⟩ := n_sti hm
      refine n_iast X hH hS (n := 5) (m_lay_at hT hk_a (by decide) (i := 19) rfl) h_S3 e_S3 dX12_layFun_106 (fun H locs hH hS => ?_)
      refine lv_aload_n hx hb dX12_layFun_107 rfl (lv_at hl 0 rfl) ?_
      refine lv_iload_n hx hb dX12_layFun_108 rfl (lv_at hl 1 rfl) ?_
      obtain ⟨S4, e_S4, hm⟩ := m_cal0_of hm
      refine r_cVv X hH hS (k := 12) (c_X12_laySpans (a := a) hT hk_a e_S4) mw_X12_laySpans in_7_7 hk_a (by decide) rfl rfl rfl ⟨rfl, rfl⟩ ⟨Nat.le_of_ble_eq_true rfl, Nat.le_of_ble_eq_true rfl⟩ ⟨Nat.zero_le _, Nat.zero_le _⟩ hl.1 (Nat.le_of_ble_eq_true rfl) dX12_layFun_109 (fun H locs hH hS => ?_)
      refine lv_iconst (v := (0 : Int32)) hx hb dX12_layFun_112 (by decide) ?_
      refine lv_istore (lv' := [(4, .int (0 : Int32)), (0, .ref a), (1, .int l1), (2, .int l2), (3, .int l3)]) hx hb dX12_layFun_113 hl (by decide) rfl (fun ls hl => ?_)
      exact k_X12_layFun_115 (a := a) X hr hT hk_a  m_fu S4 l1 (0 : Int32) _ _ _ hH hS (lv_sub hl [1, 2, 0] rfl) hm
    · have hm := m_ite_f hm c1
      refine lv_iload_n hx hb dX12_layFun_28 rfl (lv_at hl 2 rfl) ?_
      refine lv_aload_n hx hb dX12_layFun_29 rfl (lv_at hl 0 rfl) ?_
      refine r_getp X hH (k := 12) (a := a) (j := 29) (b := (a + 16)) (A := 16) (B := 0) hk_a (by decide) rfl m_wi12 (by decide) in_7_44 rfl rfl rfl dX12_layFun_30 ?_
      refine lv_aload_n hx hb dX12_layFun_33 rfl (lv_at hl 0 rfl) ?_
      refine lv_iload_n hx hb dX12_layFun_34 rfl (lv_at hl 1 rfl) ?_
      refine lv_iload hx hb dX12_layFun_35 (lv_at hl 4 rfl) ?_
      obtain ⟨v6, S5, e_S5, hm⟩ := m_call_of hm
      refine n_cVi X hH hS (k := 12) (c_X12_node (a := a) hT hk_a e_S5) mw_X12_node in_6_200 hk_a (by decide) rfl rfl rfl ⟨rfl, rfl⟩ ⟨Nat.le_of_ble_eq_true rfl, Nat.le_of_ble_eq_true rfl⟩ ⟨Nat.zero_le _, Nat.zero_le _⟩ hl.1 (Nat.le_of_ble_eq_true rfl) dX12_layFun_37 (fun H locs hH hS => ?_)
      obtain ⟨v7, h_v7, e_v7, hm⟩ := n_ldi hm
      refine n_iald X hH (n := 135) (m_lay_at hT hk_a (by decide) (i := 16) rfl) h_v7 e_v7 dX12_layFun_40 ?_
      refine lv_ior hx hb dX12_layFun_41 ?_
      obtain ⟨v8, e_v8, hm⟩ := m_let_of hm
      refine n_topi e_v8 ?_
      refine lv_istore_n (lv' := [(2, .int v8), (0, .ref a), (1, .int l1), (3, .int l3), (4, .int l4)]) hx hb dX12_layFun_42 rfl hl (by decide) rfl (fun ls hl => ?_)
      refine lv_iload hx hb dX12_layFun_43 (lv_at hl 4 rfl) ?_
      refine lv_aload_n hx hb dX12_layFun_45 rfl (lv_at hl 1 rfl) ?_
      refine r_getp X hH (k := 12) (a := a) (j := 14) (b := (a + 2)) (A := 2) (B := 0) hk_a (by decide) rfl m_wi12 (by decide) in_7_29 rfl rfl rfl dX12_layFun_46 ?_
      refine lv_iconst (v := (3 : Int32)) hx hb dX12_layFun_49 (by decide) ?_
      refine lv_iload_n hx hb dX12_layFun_50 rfl (lv_at hl 2 rfl) ?_
      refine lv_iadd hx hb dX12_layFun_51 ?_
      obtain ⟨v9, h_v9, e_v9, hm⟩ := n_ldi hm
      refine n_iald X hH (n := 2647) (m_lay_at hT hk_a (by decide) (i := 2) rfl) h_v9 e_v9 dX12_layFun_52 ?_
      refine lv_icmp_lt (tgt := 64) hx hb dX12_layFun_53 (by decide) (fun c10 => ?_) (fun c10 => ?_)
      · have hm := m_ite_t hm c10
        exact k_X12_layFun_64 (a := a) X hr hT hk_a (b_X12_layFun_22 a n) ih  S5 l1 v8 l3 l4 _ _ _ hH hS (lv_sub hl [1, 2, 0, 3, 4] rfl) hm
      · have hm := m_ite_f hm c10
        refine lv_iload hx hb dX12_layFun_56 (lv_at hl 4 rfl) ?_
        refine lv_iload_n hx hb dX12_layFun_58 rfl (lv_at hl 3 rfl) ?_
        refine lv_iconst (v := (1 : Int32)) hx hb dX12_layFun_59 (by decide) ?_
        refine lv_isub hx hb dX12_layFun_60 ?_
        refine lv_icmp_ne (tgt := 85) hx hb dX12_layFun_61 (by decide) (fun c11 => ?_) (fun c11 => ?_)
        · have hm := m_ite_f hm c11
          exact k_X12_layFun_85 (a := a) X hr hT hk_a (b_X12_layFun_22 a n) ih  S5 l1 v8 l3 l4 _ _ _ hH hS (lv_sub hl [1, 2, 0, 3, 4] rfl) hm
        · have hm := m_ite_t hm c11
          exact k_X12_layFun_64 (a := a) X hr hT hk_a (b_X12_layFun_22 a n) ih  S5 l1 v8 l3 l4 _ _ _ hH hS (lv_sub hl [1, 2, 0, 3, 4] rfl) hm
def f_X12_layFun (a : Nat) (S : m_M) (i1 : Int32) : Option m_M :=
    m_call (f_X12_varsOf a (a + 2) 2647 S i1) fun v2 S1 =>
    (m_sti S1 (a + 18) 5 i1 (0 : Int32)).bind fun S3 =>
    b_X12_layFun_22 a m_fu S3 i1 (0 : Int32) v2 (0 : Int32)
set_option maxHeartbeats 4000000 in
set_option maxRecDepth 100000 in
theorem c_X12_layFun {l : Launch} {G : m_G} {nx : Nat} {κ : Nat → Nat} {a : Nat} {S : m_M} {i1 : Int32} {res : m_M} (hT : m_Str κ) (hk_a : κ a = 13) (hm : f_X12_layFun a S i1 = some res) : m_Cv l yX12_layFun cX12_layFun 6 rm_X12_layFun G nx κ [.ref a, .int i1] S res := by
  refine m_Cv.of (by decide) (Nat.le_of_ble_eq_true rfl) ?_
  intro p e s m args below meth c ls X hr hH hl
  have hx := X.1.1
  have hb := X.1.2.1
  have hS : m_S G s s.heap [] := va_S.rf
  have hl : lv_has ls 6 [(0, .ref a), (1, .int i1)] := hl
  rw [f_X12_layFun] at hm
  refine lv_iconst (v := (0 : Int32)) hx hb dX12_layFun_0 (by decide) ?_
  refine lv_istore_n (lv' := [(2, .int (0 : Int32)), (0, .ref a), (1, .int i1)]) hx hb dX12_layFun_1 rfl hl (by decide) rfl (fun ls hl => ?_)
  refine lv_aload_n hx hb dX12_layFun_2 rfl (lv_at hl 1 rfl) ?_
  refine lv_aload_n hx hb dX12_layFun_3 rfl (lv_at hl 1 rfl) ?_
  refine r_getp X hH (k := 12) (a := a) (j := 14) (b := (a + 2)) (A := 2) (B := 0) hk_a (by decide) rfl m_wi12 (by decide) in_7_29 rfl rfl rfl dX12_layFun_4 ?_
  refine lv_iload_n hx hb dX12_layFun_7 rfl (lv_at hl 2 rfl) ?_
  obtain ⟨v2, S1, e_S1, hm⟩ := m_call_of hm
  refine n_cVi X hH hS (k := 12) (c_X12_varsOf (a := a) (o1 := (a + 2)) (n1 := 2647) hT hk_a (m_lay_at hT hk_a (by decide) (i := 2) rfl) e_S1) mw_X12_varsOf in_6_224 hk_a (by decide) rfl rfl rfl ⟨rfl, rfl⟩ ⟨Nat.le_of_ble_eq_true rfl, Nat.le_of_ble_eq_true rfl⟩ ⟨Nat.zero_le _, Nat.zero_le _⟩ hl.1 (Nat.le_of_ble_eq_true rfl) dX12_layFun_8 (fun H locs hH hS => ?_)
  refine lv_istore_n (lv' := [(3, .int v2), (2, .int (0 : Int32)), (0, .ref a), (1, .int i1)]) hx hb dX12_layFun_11 rfl hl (by decide) rfl (fun ls hl => ?_)
  refine lv_aload_n hx hb dX12_layFun_12 rfl (lv_at hl 2 rfl) ?_
  refine r_getp X hH (k := 12) (a := a) (j := 31) (b := (a + 18)) (A := 18) (B := 0) hk_a (by decide) rfl m_wi12 (by decide) in_7_46 rfl rfl rfl dX12_layFun_13 ?_
  refine lv_iload_n hx hb dX12_layFun_16 rfl (lv_at hl 3 rfl) ?_
  refine lv_iconst (v := (0 : Int32)) hx hb dX12_layFun_17 (by decide) ?_
  obtain ⟨S3, h_S3, e_S3, hm⟩ := n_sti hm
  refine n_iast X hH hS (n := 5) (m_lay_at hT hk_a (by decide) (i := 18) rfl) h_S3 e_S3 dX12_layFun_18 (fun H locs hH hS => ?_)
  refine lv_iconst (v := (0 : Int32)) hx hb dX12_layFun_19 (by decide) ?_
  refine lv_istore (lv' := [(4, .int (0 : Int32)), (3, .int v2), (2, .int (0 : Int32)), (0, .ref a), (1, .int i1)]) hx hb dX12_layFun_20 hl (by decide) rfl (fun ls hl => ?_)
  exact k_X12_layFun_22 (a := a) X hr hT hk_a  m_fu S3 i1 (0 : Int32) v2 (0 : Int32) _ _ _ hH hS (lv_sub hl [3, 4, 2, 1, 0] rfl) hm
def rm_X12_layRegions : Room := { frames := 202, cells := 0, slots := 0, locals := 5253 }
def b_X12_layRegions_55 (a : Nat) (K_43 : m_M → Int32 → Option m_M) : Nat → m_M → Int32 → Int32 → Option m_M
  | 0, _, _, _ => none
  | n + 1, S, l1, l2 =>
    (m_ldi S (a + 2) 2647 ((13 : Int32) + l1)).bind fun v1 =>
    if v1 ≤ l2 then (
    m_let (l1 + (1 : Int32)) fun v3 =>
    K_43 S v3) else (
    (m_ldi S (a + 2) 2647 ((8 : Int32) + l1)).bind fun v4 =>
    m_cal0 (f_X12_joinLine a S l1 (v4 + l2)) fun S5 =>
    m_let (l2 + (1 : Int32)) fun v6 =>
    b_X12_layRegions_55 a K_43 n S5 l1 v6)
set_option maxHeartbeats 4000000 in
set_option maxRecDepth 100000 in
theorem k_X12_layRegions_55 {p : Program} {l : Launch} {e : Env} {s : State} {m : MethodId} {args : Array Value} {below : List Frame} {meth : Method} {c : Code} {G : m_G} {nx : Nat} {κ : Nat → Nat} {res : m_M} {a : Nat} (X : m_Cx p s m args meth c cX12_layRegions 3 RX12 G) (hr : meth.sig.returnType = none) (hT : m_Str κ) (hk_a : κ a = 13) (K_43 : m_M → Int32 → Option m_M) (hK_43 : ∀ (S : m_M) (l1 : Int32) (H : Heap) (locs : List Loc) (ls : Array Slot), m_H G nx κ S H → m_S G s H locs → lv_has ls 3 [(0, .ref a), (1, .int l1)] → K_43 S l1 = some res → W p l e rm_X12_layRegions s m args below meth c H locs 0 0 (m_Qv below args s G nx κ res) (F0 m 43 ls [])) (n : Nat) : ∀ (S : m_M) (l1 : Int32) (l2 : Int32) (H : Heap) (locs : List Loc) (ls : Array Slot), m_H G nx κ S H → m_S G s H locs → lv_has ls 3 [(0, .ref a), (1, .int l1), (2, .int l2)] → b_X12_layRegions_55 a K_43 n S l1 l2 = some res → W p l e rm_X12_layRegions s m args below meth c H locs 0 0 (m_Qv below args s G nx κ res) (F0 m 55 ls []) := by
  have hx := X.1.1
  have hb := X.1.2.1
  induction n with
  | zero => intro S l1 l2 H locs ls hH hS hl hm; have hm : (none : Option m_M) = some res := hm; cases hm
  | succ n ih =>
    intro S l1 l2 H locs ls hH hS hl hm
    rw [b_X12_layRegions_55] at hm
    refine lv_iload_n hx hb dX12_layRegions_55 rfl (lv_at hl 2 rfl) ?_
    refine lv_aload_n hx hb dX12_layRegions_56 rfl (lv_at hl 0 rfl) ?_
    refine r_getp X hH (k := 12) (a := a) (j := 14) (b := (a + 2)) (A := 2) (B := 0) hk_a (by decide) rfl m_wi12 (by decide) in_7_29 rfl rfl rfl dX12_layRegions_57 ?_
    refine lv_bipush (v := (13 : Int32)) hx hb dX12_layRegions_60 (by decide) ?_
    refine lv_iload_n hx hb dX12_layRegions_62 rfl (lv_at hl 1 rfl) ?_
    refine lv_iadd hx hb dX12_layRegions_63 ?_
    obtain ⟨v1, h_v1, e_v1, hm⟩ := n_ldi hm
    refine n_iald X hH (n := 2647) (m_lay_at hT hk_a (by decide) (i := 2) rfl) h_v1 e_v1 dX12_layRegions_64 ?_
    refine lv_icmp_ge (tgt := 90) hx hb dX12_layRegions_65 (by decide) (fun c2 => ?_) (fun c2 => ?_)
    · have hm := m_ite_t hm c2
      obtain ⟨v3, e_v3, hm⟩ := m_let_of hm
      refine lv_iinc (v := v3) (lv' := [(1, .int v3), (0, .ref a), (2, .int l2)]) hx hb dX12_layRegions_90 hl (k := 1) rfl (by rw [← e_v3]; rfl) (by decide) rfl (fun ls hl => ?_)
      refine lv_goto (tgt := 43) hx hb dX12_layRegions_93 (by decide) ?_
      exact hK_43 S v3 _ _ _ hH hS (lv_sub hl [1, 0] rfl) hm
    · have hm := m_ite_f hm c2
      refine lv_aload_n hx hb dX12_layRegions_68 rfl (lv_at hl 0 rfl) ?_
      refine lv_iload_n hx hb dX12_layRegions_69 rfl (lv_at hl 1 rfl) ?_
      refine lv_aload_n hx hb dX12_layRegions_70 rfl (lv_at hl 0 rfl) ?_
      refine r_getp X hH (k := 12) (a := a) (j := 14) (b := (a + 2)) (A := 2) (B := 0) hk_a (by decide) rfl m_wi12 (by decide) in_7_29 rfl rfl rfl dX12_layRegions_71 ?_
      refine lv_bipush (v := (8 : Int32)) hx hb dX12_layRegions_74 (by decide) ?_
      refine lv_iload_n hx hb dX12_layRegions_76 rfl (lv_at hl 1 rfl) ?_
      refine lv_iadd hx hb dX12_layRegions_77 ?_
      obtain ⟨v4, h_v4, e_v4, hm⟩ := n_ldi hm
      refine n_iald X hH (n := 2647) (m_lay_at hT hk_a (by decide) (i := 2) rfl) h_v4 e_v4 dX12_layRegions_78 ?_
      refine lv_iload_n hx hb dX12_layRegions_79 rfl (lv_at hl 2 rfl) ?_
      refine lv_iadd hx hb dX12_layRegions_80 ?_
      obtain ⟨S5, e_S5, hm⟩ := m_cal0_of hm
      refine r_cVv X hH hS (k := 12) (c_X12_joinLine (a := a) hT hk_a e_S5) mw_X12_joinLine in_6_192 hk_a (by decide) rfl rfl rfl ⟨rfl, rfl⟩ ⟨Nat.le_of_ble_eq_true rfl, Nat.le_of_ble_eq_true rfl⟩ ⟨Nat.zero_le _, Nat.zero_le _⟩ hl.1 (Nat.le_of_ble_eq_true rfl) dX12_layRegions_81 (fun H locs hH hS => ?_)
      obtain ⟨v6, e_v6, hm⟩ := m_let_of hm
      refine lv_iinc (v := v6) (lv' := [(2, .int v6), (0, .ref a), (1, .int l1)]) hx hb dX12_layRegions_84 hl (k := 2) rfl (by rw [← e_v6]; rfl) (by decide) rfl (fun ls hl => ?_)
      refine lv_goto (tgt := 55) hx hb dX12_layRegions_87 (by decide) ?_
      exact ih S5 l1 v6 _ _ _ hH hS (lv_sub hl [1, 2, 0] rfl) hm
def b_X12_layRegions_138 (a : Nat) (K_126 : m_M → Int32 → Option m_M) : Nat → m_M → Int32 → Int32 → Option m_M
  | 0, _, _, _ => none
  | n + 1, S, l1, l2 =>
    m_call (f_X12_varsOf a (a + 2) 2647 S l1) fun v2 S1 =>
    if v2 ≤ l2 then (
    m_let (l1 + (1 : Int32)) fun v4 =>
    K_126 S1 v4) else (
    m_call (f_X12_node a S1 l1 l2) fun v6 S5 =>
    m_cal0 (f_X12_numberFrom 60 a S5 v6) fun S7 =>
    m_let (l2 + (1 : Int32)) fun v8 =>
    b_X12_layRegions_138 a K_126 n S7 l1 v8)
set_option maxHeartbeats 4000000 in
set_option maxRecDepth 100000 in
theorem k_X12_layRegions_138 {p : Program} {l : Launch} {e : Env} {s : State} {m : MethodId} {args : Array Value} {below : List Frame} {meth : Method} {c : Code} {G : m_G} {nx : Nat} {κ : Nat → Nat} {res : m_M} {a : Nat} (X : m_Cx p s m args meth c cX12_layRegions 3 RX12 G) (hr : meth.sig.returnType = none) (hT : m_Str κ) (hk_a : κ a = 13) (K_126 : m_M → Int32 → Option m_M) (hK_126 : ∀ (S : m_M) (l1 : Int32) (H : Heap) (locs : List Loc) (ls : Array Slot), m_H G nx κ S H → m_S G s H locs → lv_has ls 3 [(0, .ref a), (1, .int l1)] → K_126 S l1 = some res → W p l e rm_X12_layRegions s m args below meth c H locs 0 0 (m_Qv below args s G nx κ res) (F0 m 126 ls [])) (n : Nat) : ∀ (S : m_M) (l1 : Int32) (l2 : Int32) (H : Heap) (locs : List Loc) (ls : Array Slot), m_H G nx κ S H → m_S G s H locs → lv_has ls 3 [(0, .ref a), (1, .int l1), (2, .int l2)] → b_X12_layRegions_138 a K_126 n S l1 l2 = some res → W p l e rm_X12_layRegions s m args below meth c H locs 0 0 (m_Qv below args s G nx κ res) (F0 m 138 ls []) := by
  have hx := X.1.1
  have hb := X.1.2.1
  induction n with
  | zero => intro S l1 l2 H locs ls hH hS hl hm; have hm : (none : Option m_M) = some res := hm; cases hm
  | succ n ih =>
    intro S l1 l2 H locs ls hH hS hl hm
    rw [b_X12_layRegions_138] at hm
    refine lv_iload_n hx hb dX12_layRegions_138 rfl (lv_at hl 2 rfl) ?_
    refine lv_aload_n hx hb dX12_layRegions_139 rfl (lv_at hl 0 rfl) ?_
    refine lv_aload_n hx hb dX12_layRegions_140 rfl (lv_at hl 0 rfl) ?_
    refine r_getp X hH (k := 12) (a := a) (j := 14) (b := (a + 2)) (A := 2) (B := 0) hk_a (by decide) rfl m_wi12 (by decide) in_7_29 rfl rfl rfl dX12_layRegions_141 ?_
    refine lv_iload_n hx hb dX12_layRegions_144 rfl (lv_at hl 1 rfl) ?_
    obtain ⟨v2, S1, e_S1, hm⟩ := m_call_of hm
    refine n_cVi X hH hS (k := 12) (c_X12_varsOf (a := a) (o1 := (a + 2)) (n1 := 2647) hT hk_a (m_lay_at hT hk_a (by decide) (i := 2) rfl) e_S1) mw_X12_varsOf in_6_224 hk_a (by decide) rfl rfl rfl ⟨rfl, rfl⟩ ⟨Nat.le_of_ble_eq_true rfl, Nat.le_of_ble_eq_true rfl⟩ ⟨Nat.zero_le _, Nat.zero_le _⟩ hl.1 (Nat.le_of_ble_eq_true rfl) dX12_layRegions_145 (fun H locs hH hS => ?_)
    refine lv_icmp_ge (tgt := 167) hx hb dX12_layRegions_148 (by decide) (fun c3 => ?_) (fun c3 => ?_)
    · have hm := m_ite_t hm c3
      obtain ⟨v4, e_v4, hm⟩ := m_let_of hm
      refine lv_iinc (v := v4) (lv' := [(1, .int v4), (0, .ref a), (2, .int l2)]) hx hb dX12_layRegions_167 hl (k := 1) rfl (by rw [← e_v4]; rfl) (by decide) rfl (fun ls hl => ?_)
      refine lv_goto (tgt := 126) hx hb dX12_layRegions_170 (by decide) ?_
      exact hK_126 S1 v4 _ _ _ hH hS (lv_sub hl [1, 0] rfl) hm
    · have hm := m_ite_f hm c3
      refine lv_aload_n hx hb dX12_layRegions_151 rfl (lv_at hl 0 rfl) ?_
      refine lv_aload_n hx hb dX12_layRegions_152 rfl (lv_at hl 0 rfl) ?_
      refine lv_iload_n hx hb dX12_layRegions_153 rfl (lv_at hl 1 rfl) ?_
      refine lv_iload_n hx hb dX12_layRegions_154 rfl (lv_at hl 2 rfl) ?_
      obtain ⟨v6, S5, e_S5, hm⟩ := m_call_of hm
      refine n_cVi X hH hS (k := 12) (c_X12_node (a := a) hT hk_a e_S5) mw_X12_node in_6_200 hk_a (by decide) rfl rfl rfl ⟨rfl, rfl⟩ ⟨Nat.le_of_ble_eq_true rfl, Nat.le_of_ble_eq_true rfl⟩ ⟨Nat.zero_le _, Nat.zero_le _⟩ hl.1 (Nat.le_of_ble_eq_true rfl) dX12_layRegions_155 (fun H locs hH hS => ?_)
      obtain ⟨S7, e_S7, hm⟩ := m_cal0_of hm
      refine r_cVv X hH hS (k := 12) (c_X12_numberFrom 60 hT a S5 v6 _ hk_a e_S7) mw_X12_numberFrom in_6_228 hk_a (by decide) rfl rfl rfl (rd_X12_numberFrom 60) ⟨Nat.le_of_ble_eq_true rfl, Nat.le_of_ble_eq_true rfl⟩ ⟨Nat.zero_le _, Nat.zero_le _⟩ hl.1 (Nat.le_of_ble_eq_true rfl) dX12_layRegions_158 (fun H locs hH hS => ?_)
      obtain ⟨v8, e_v8, hm⟩ := m_let_of hm
      refine lv_iinc (v := v8) (lv' := [(2, .int v8), (0, .ref a), (1, .int l1)]) hx hb dX12_layRegions_161 hl (k := 2) rfl (by rw [← e_v8]; rfl) (by decide) rfl (fun ls hl => ?_)
      refine lv_goto (tgt := 138) hx hb dX12_layRegions_164 (by decide) ?_
      exact ih S7 l1 v8 _ _ _ hH hS (lv_sub hl [1, 2, 0] rfl) hm
def b_X12_layRegions_234 (a : Nat) (K_175 : m_M → Int32 → Option m_M) (S : m_M) (l1 : Int32) : Option m_M :=
    m_let (l1 + (1 : Int32)) fun v1 =>
    K_175 S v1
set_option maxHeartbeats 4000000 in
set_option maxRecDepth 100000 in
theorem k_X12_layRegions_234 {p : Program} {l : Launch} {e : Env} {s : State} {m : MethodId} {args : Array Value} {below : List Frame} {meth : Method} {c : Code} {G : m_G} {nx : Nat} {κ : Nat → Nat} {res : m_M} {a : Nat} (X : m_Cx p s m args meth c cX12_layRegions 3 RX12 G) (hr : meth.sig.returnType = none) (hT : m_Str κ) (hk_a : κ a = 13) (K_175 : m_M → Int32 → Option m_M) (hK_175 : ∀ (S : m_M) (l1 : Int32) (H : Heap) (locs : List Loc) (ls : Array Slot), m_H G nx κ S H → m_S G s H locs → lv_has ls 3 [(0, .ref a), (1, .int l1)] → K_175 S l1 = some res → W p l e rm_X12_layRegions s m args below meth c H locs 0 0 (m_Qv below args s G nx κ res) (F0 m 175 ls [])) : ∀ (S : m_M) (l1 : Int32) (H : Heap) (locs : List Loc) (ls : Array Slot), m_H G nx κ S H → m_S G s H locs → lv_has ls 3 [(0, .ref a), (1, .int l1)] → b_X12_layRegions_234 a K_175 S l1 = some res → W p l e rm_X12_layRegions s m args below meth c H locs 0 0 (m_Qv below args s G nx κ res) (F0 m 234 ls []) := by
  have hx := X.1.1
  have hb := X.1.2.1
  intro S l1 H locs ls hH hS hl hm
  rw [b_X12_layRegions_234] at hm
  obtain ⟨v1, e_v1, hm⟩ := m_let_of hm
  refine lv_iinc (v := v1) (lv' := [(1, .int v1), (0, .ref a)]) hx hb dX12_layRegions_234 hl (k := 1) rfl (by rw [← e_v1]; rfl) (by decide) rfl (fun ls hl => ?_)
  refine lv_goto (tgt := 175) hx hb dX12_layRegions_237 (by decide) ?_
  exact hK_175 S v1 _ _ _ hH hS (lv_sub hl [1, 0] rfl) hm
def b_X12_layRegions_198 (a : Nat) (K_175 : m_M → Int32 → Option m_M) : Nat → m_M → Int32 → Int32 → Option m_M
  | 0, _, _, _ => none
  | n + 1, S, l1, l2 =>
    if (2 : Int32) ≤ l2 then (
    b_X12_layRegions_234 a K_175 S l1) else (
    (m_ldi S (a + 14) 24 l1).bind fun v2 =>
    m_call (f_X12_sideNode a S l1 l2) fun v4 S3 =>
    m_call (f_X12_numbered a S3 v4) fun v6 S5 =>
    (m_sti S5 (a + 17) 48 (((2 : Int32) * v2) + l2) v6).bind fun S7 =>
    m_let (l2 + (1 : Int32)) fun v8 =>
    b_X12_layRegions_198 a K_175 n S7 l1 v8)
set_option maxHeartbeats 4000000 in
set_option maxRecDepth 100000 in
theorem k_X12_layRegions_198 {p : Program} {l : Launch} {e : Env} {s : State} {m : MethodId} {args : Array Value} {below : List Frame} {meth : Method} {c : Code} {G : m_G} {nx : Nat} {κ : Nat → Nat} {res : m_M} {a : Nat} (X : m_Cx p s m args meth c cX12_layRegions 3 RX12 G) (hr : meth.sig.returnType = none) (hT : m_Str κ) (hk_a : κ a = 13) (K_175 : m_M → Int32 → Option m_M) (hK_175 : ∀ (S : m_M) (l1 : Int32) (H : Heap) (locs : List Loc) (ls : Array Slot), m_H G nx κ S H → m_S G s H locs → lv_has ls 3 [(0, .ref a), (1, .int l1)] → K_175 S l1 = some res → W p l e rm_X12_layRegions s m args below meth c H locs 0 0 (m_Qv below args s G nx κ res) (F0 m 175 ls [])) (n : Nat) : ∀ (S : m_M) (l1 : Int32) (l2 : Int32) (H : Heap) (locs : List Loc) (ls : Array Slot), m_H G nx κ S H → m_S G s H locs → lv_has ls 3 [(0, .ref a), (1, .int l1), (2, .int l2)] → b_X12_layRegions_198 a K_175 n S l1 l2 = some res → W p l e rm_X12_layRegions s m args below meth c H locs 0 0 (m_Qv below args s G nx κ res) (F0 m 198 ls []) := by
  have hx := X.1.1
  have hb := X.1.2.1
  induction n with
  | zero => intro S l1 l2 H locs ls hH hS hl hm; have hm : (none : Option m_M) = some res := hm; cases hm
  | succ n ih =>
    intro S l1 l2 H locs ls hH hS hl hm
    rw [b_X12_layRegions_198] at hm
    refine lv_iload_n hx hb dX12_layRegions_198 rfl (lv_at hl 2 rfl) ?_
    refine lv_iconst (v := (2 : Int32)) hx hb dX12_layRegions_199 (by decide) ?_
    refine lv_icmp_ge (tgt := 234) hx hb dX12_layRegions_200 (by decide) (fun c1 => ?_) (fun c1 => ?_)
    · have hm := m_ite_t hm c1
      exact k_X12_layRegions_234 (a := a) X hr hT hk_a K_175 hK_175  S l1 _ _ _ hH hS (lv_sub hl [0, 1] rfl) hm
    · have hm := m_ite_f hm c1
      refine lv_aload_n hx hb dX12_layRegions_203 rfl (lv_at hl 0 rfl) ?_
      refine r_getp X hH (k := 12) (a := a) (j := 30) (b := (a + 17)) (A := 17) (B := 0) hk_a (by decide) rfl m_wi12 (by decide) in_7_45 rfl rfl rfl dX12_layRegions_204 ?_
      refine lv_iconst (v := (2 : Int32)) hx hb dX12_layRegions_207 (by decide) ?_
      refine lv_aload_n hx hb dX12_layRegions_208 rfl (lv_at hl 0 rfl) ?_
      refine r_getp X hH (k := 12) (a := a) (j := 27) (b := (a + 14)) (A := 14) (B := 0) hk_a (by decide) rfl m_wi12 (by decide) in_7_42 rfl rfl rfl dX12_layRegions_209 ?_
      refine lv_iload_n hx hb dX12_layRegions_212 rfl (lv_at hl 1 rfl) ?_
      obtain ⟨v2, h_v2, e_v2, hm⟩ := n_ldi hm
      refine n_iald X hH (n := 24) (m_lay_at hT hk_a (by decide) (i := 14) rfl) h_v2 e_v2 dX12_layRegions_213 ?_
      refine lv_imul hx hb dX12_layRegions_214 ?_
      refine lv_iload_n hx hb dX12_layRegions_215 rfl (lv_at hl 2 rfl) ?_
      refine lv_iadd hx hb dX12_layRegions_216 ?_
      refine lv_aload_n hx hb dX12_layRegions_217 rfl (lv_at hl 0 rfl) ?_
      refine lv_aload_n hx hb dX12_layRegions_218 rfl (lv_at hl 0 rfl) ?_
      refine lv_iload_n hx hb dX12_layRegions_219 rfl (lv_at hl 1 rfl) ?_
      refine lv_iload_n hx hb dX12_layRegions_220 rfl (lv_at hl 2 rfl) ?_
      obtain ⟨v4, S3, e_S3, hm⟩ := m_call_of hm
      refine n_cVi X hH hS (k := 12) (c_X12_sideNode (a := a) hT hk_a e_S3) mw_X12_sideNode in_6_216 hk_a (by decide) rfl rfl rfl ⟨rfl, rfl⟩ ⟨Nat.le_of_ble_eq_true rfl, Nat.le_of_ble_eq_true rfl⟩ ⟨Nat.zero_le _, Nat.zero_le _⟩ hl.1 (Nat.le_of_ble_eq_true rfl) dX12_layRegions_221 (fun H locs hH hS => ?_)
      obtain ⟨v6, S5, e_S5, hm⟩ := m_call_of hm
      refine n_cVi X hH hS (k := 12) (c_X12_numbered (a := a) hT hk_a e_S5) mw_X12_numbered in_6_232 hk_a (by decide) rfl rfl rfl ⟨rfl, rfl⟩ ⟨Nat.le_of_ble_eq_true rfl, Nat.le_of_ble_eq_true rfl⟩ ⟨Nat.zero_le _, Nat.zero_le _⟩ hl.1 (Nat.le_of_ble_eq_true rfl) dX12_layRegions_224 (fun H locs hH hS => ?_)
      obtain ⟨S7, h_S7, e_S7, hm⟩ := n_sti hm
      refine n_iast X hH hS (n := 48) (m_lay_at hT hk_a (by decide) (i := 17) rfl) h_S7 e_S7 dX12_layRegions_227 (fun H locs hH hS => ?_)
      obtain ⟨v8, e_v8, hm⟩ := m_let_of hm
      refine lv_iinc (v := v8) (lv' := [(2, .int v8), (0, .ref a), (1, .int l1)]) hx hb dX12_layRegions_228 hl (k := 2) rfl (by rw [← e_v8]; rfl) (by decide) rfl (fun ls hl => ?_)
      refine lv_goto (tgt := 198) hx hb dX12_layRegions_231 (by decide) ?_
      exact ih S7 l1 v8 _ _ _ hH hS (lv_sub hl [1, 2, 0] rfl) hm
def b_X12_layRegions_254 (a : Nat) (K_242 : m_M → Int32 → Option m_M) : Nat → m_M → Int32 → Int32 → Option m_M
  | 0, _, _, _ => none
  | n + 1, S, l1, l2 =>
    m_call (f_X12_varsOf a (a + 2) 2647 S l1) fun v2 S1 =>
    if v2 ≤ l2 then (
    m_let (l1 + (1 : Int32)) fun v4 =>
    K_242 S1 v4) else (
    m_call (f_X12_node a S1 l1 l2) fun v6 S5 =>
    m_call (f_X12_node a S5 l1 l2) fun v8 S7 =>
    m_call (f_X12_numbered a S7 v8) fun v10 S9 =>
    (m_sti S9 (a + 15) 135 v6 v10).bind fun S11 =>
    m_call (f_X12_node a S11 l1 l2) fun v13 S12 =>
    m_call (f_X12_node a S12 l1 l2) fun v15 S14 =>
    (m_ldi S14 (a + 15) 135 v15).bind fun v16 =>
    m_call (f_X12_reachFrom a S14 v16) fun v18 S17 =>
    (m_sti S17 (a + 16) 135 v13 v18).bind fun S19 =>
    m_let (l2 + (1 : Int32)) fun v20 =>
    b_X12_layRegions_254 a K_242 n S19 l1 v20)
set_option maxHeartbeats 4000000 in
set_option maxRecDepth 100000 in
theorem k_X12_layRegions_254 {p : Program} {l : Launch} {e : Env} {s : State} {m : MethodId} {args : Array Value} {below : List Frame} {meth : Method} {c : Code} {G : m_G} {nx : Nat} {κ : Nat → Nat} {res : m_M} {a : Nat} (X : m_Cx p s m args meth c cX12_layRegions 3 RX12 G) (hr : meth.sig.returnType = none) (hT : m_Str κ) (hk_a : κ a = 13) (K_242 : m_M → Int32 → Option m_M) (hK_242 : ∀ (S : m_M) (l1 : Int32) (H : Heap) (locs : List Loc) (ls : Array Slot), m_H G nx κ S H → m_S G s H locs → lv_has ls 3 [(0, .ref a), (1, .int l1)] → K_242 S l1 = some res → W p l e rm_X12_layRegions s m args below meth c H locs 0 0 (m_Qv below args s G nx κ res) (F0 m 242 ls [])) (n : Nat) : ∀ (S : m_M) (l1 : Int32) (l2 : Int32) (H : Heap) (locs : List Loc) (ls : Array Slot), m_H G nx κ S H → m_S G s H locs → lv_has ls 3 [(0, .ref a), (1, .int l1), (2, .int l2)] → b_X12_layRegions_254 a K_242 n S l1 l2 = some res → W p l e rm_X12_layRegions s m args below meth c H locs 0 0 (m_Qv below args s G nx κ res) (F0 m 254 ls []) := by
  have hx := X.1.1
  have hb := X.1.2.1
  induction n with
  | zero => intro S l1 l2 H locs ls hH hS hl hm; have hm : (none : Option m_M) = some res := hm; cases hm
  | succ n ih =>
    intro S l1 l2 H locs ls hH hS hl hm
    rw [b_X12_layRegions_254] at hm
    refine lv_iload_n hx hb dX12_layRegions_254 rfl (lv_at hl 2 rfl) ?_
    refine lv_aload_n hx hb dX12_layRegions_255 rfl (lv_at hl 0 rfl) ?_
    refine lv_aload_n hx hb dX12_layRegions_256 rfl (lv_at hl 0 rfl) ?_
    refine r_getp X hH (k := 12) (a := a) (j := 14) (b := (a + 2)) (A := 2) (B := 0) hk_a (by decide) rfl m_wi12 (by decide) in_7_29 rfl rfl rfl dX12_layRegions_257 ?_
    refine lv_iload_n hx hb dX12_layRegions_260 rfl (lv_at hl 1 rfl) ?_
    obtain ⟨v2, S1, e_S1, hm⟩ := m_call_of hm
    refine n_cVi X hH hS (k := 12) (c_X12_varsOf (a := a) (o1 := (a + 2)) (n1 := 2647) hT hk_a (m_lay_at hT hk_a (by decide) (i := 2) rfl) e_S1) mw_X12_varsOf in_6_224 hk_a (by decide) rfl rfl rfl ⟨rfl, rfl⟩ ⟨Nat.le_of_ble_eq_true rfl, Nat.le_of_ble_eq_true rfl⟩ ⟨Nat.zero_le _, Nat.zero_le _⟩ hl.1 (Nat.le_of_ble_eq_true rfl) dX12_layRegions_261 (fun H locs hH hS => ?_)
    refine lv_icmp_ge (tgt := 320) hx hb dX12_layRegions_264 (by decide) (fun c3 => ?_) (fun c3 => ?_)
    · have hm := m_ite_t hm c3
      obtain ⟨v4, e_v4, hm⟩ := m_let_of hm
      refine lv_iinc (v := v4) (lv' := [(1, .int v4), (0, .ref a), (2, .int l2)]) hx hb dX12_layRegions_320 hl (k := 1) rfl (by rw [← e_v4]; rfl) (by decide) rfl (fun ls hl => ?_)
      refine lv_goto (tgt := 242) hx hb dX12_layRegions_323 (by decide) ?_
      exact hK_242 S1 v4 _ _ _ hH hS (lv_sub hl [1, 0] rfl) hm
    · have hm := m_ite_f hm c3
      refine lv_aload_n hx hb dX12_layRegions_267 rfl (lv_at hl 0 rfl) ?_
      refine r_getp X hH (k := 12) (a := a) (j := 28) (b := (a + 15)) (A := 15) (B := 0) hk_a (by decide) rfl m_wi12 (by decide) in_7_43 rfl rfl rfl dX12_layRegions_268 ?_
      refine lv_aload_n hx hb dX12_layRegions_271 rfl (lv_at hl 0 rfl) ?_
      refine lv_iload_n hx hb dX12_layRegions_272 rfl (lv_at hl 1 rfl) ?_
      refine lv_iload_n hx hb dX12_layRegions_273 rfl (lv_at hl 2 rfl) ?_
      obtain ⟨v6, S5, e_S5, hm⟩ := m_call_of hm
      refine n_cVi X hH hS (k := 12) (c_X12_node (a := a) hT hk_a e_S5) mw_X12_node in_6_200 hk_a (by decide) rfl rfl rfl ⟨rfl, rfl⟩ ⟨Nat.le_of_ble_eq_true rfl, Nat.le_of_ble_eq_true rfl⟩ ⟨Nat.zero_le _, Nat.zero_le _⟩ hl.1 (Nat.le_of_ble_eq_true rfl) dX12_layRegions_274 (fun H locs hH hS => ?_)
      refine lv_aload_n hx hb dX12_layRegions_277 rfl (lv_at hl 0 rfl) ?_
      refine lv_aload_n hx hb dX12_layRegions_278 rfl (lv_at hl 0 rfl) ?_
      refine lv_iload_n hx hb dX12_layRegions_279 rfl (lv_at hl 1 rfl) ?_
      refine lv_iload_n hx hb dX12_layRegions_280 rfl (lv_at hl 2 rfl) ?_
      obtain ⟨v8, S7, e_S7, hm⟩ := m_call_of hm
      refine n_cVi X hH hS (k := 12) (c_X12_node (a := a) hT hk_a e_S7) mw_X12_node in_6_200 hk_a (by decide) rfl rfl rfl ⟨rfl, rfl⟩ ⟨Nat.le_of_ble_eq_true rfl, Nat.le_of_ble_eq_true rfl⟩ ⟨Nat.zero_le _, Nat.zero_le _⟩ hl.1 (Nat.le_of_ble_eq_true rfl) dX12_layRegions_281 (fun H locs hH hS => ?_)
      obtain ⟨v10, S9, e_S9, hm⟩ := m_call_of hm
      refine n_cVi X hH hS (k := 12) (c_X12_numbered (a := a) hT hk_a e_S9) mw_X12_numbered in_6_232 hk_a (by decide) rfl rfl rfl ⟨rfl, rfl⟩ ⟨Nat.le_of_ble_eq_true rfl, Nat.le_of_ble_eq_true rfl⟩ ⟨Nat.zero_le _, Nat.zero_le _⟩ hl.1 (Nat.le_of_ble_eq_true rfl) dX12_layRegions_284 (fun H locs hH hS => ?_)
      obtain ⟨S11, h_S11, e_S11, hm⟩ := n_sti hm
      refine n_iast X hH hS (n := 135) (m_lay_at hT hk_a (by decide) (i := 15) rfl) h_S11 e_S11 dX12_layRegions_287 (fun H locs hH hS => ?_)
      refine lv_aload_n hx hb dX12_layRegions_288 rfl (lv_at hl 0 rfl) ?_
      refine r_getp X hH (k := 12) (a := a) (j := 29) (b := (a + 16)) (A := 16) (B := 0) hk_a (by decide) rfl m_wi12 (by decide) in_7_44 rfl rfl rfl dX12_layRegions_289 ?_
      refine lv_aload_n hx hb dX12_layRegions_292 rfl (lv_at hl 0 rfl) ?_
      refine lv_iload_n hx hb dX12_layRegions_293 rfl (lv_at hl 1 rfl) ?_
      refine lv_iload_n hx hb dX12_layRegions_294 rfl (lv_at hl 2 rfl) ?_
      obtain ⟨v13, S12, e_S12, hm⟩ := m_call_of hm
      refine n_cVi X hH hS (k := 12) (c_X12_node (a := a) hT hk_a e_S12) mw_X12_node in_6_200 hk_a (by decide) rfl rfl rfl ⟨rfl, rfl⟩ ⟨Nat.le_of_ble_eq_true rfl, Nat.le_of_ble_eq_true rfl⟩ ⟨Nat.zero_le _, Nat.zero_le _⟩ hl.1 (Nat.le_of_ble_eq_true rfl) dX12_layRegions_295 (fun H locs hH hS => ?_)
      refine lv_aload_n hx hb dX12_layRegions_298 rfl (lv_at hl 0 rfl) ?_
      refine lv_aload_n hx hb dX12_layRegions_299 rfl (lv_at hl 0 rfl) ?_
      refine r_getp X hH (k := 12) (a := a) (j := 28) (b := (a + 15)) (A := 15) (B := 0) hk_a (by decide) rfl m_wi12 (by decide) in_7_43 rfl rfl rfl dX12_layRegions_300 ?_
      refine lv_aload_n hx hb dX12_layRegions_303 rfl (lv_at hl 0 rfl) ?_
      refine lv_iload_n hx hb dX12_layRegions_304 rfl (lv_at hl 1 rfl) ?_
      refine lv_iload_n hx hb dX12_layRegions_305 rfl (lv_at hl 2 rfl) ?_
      obtain ⟨v15, S14, e_S14, hm⟩ := m_call_of hm
      refine n_cVi X hH hS (k := 12) (c_X12_node (a := a) hT hk_a e_S14) mw_X12_node in_6_200 hk_a (by decide) rfl rfl rfl ⟨rfl, rfl⟩ ⟨Nat.le_of_ble_eq_true rfl, Nat.le_of_ble_eq_true rfl⟩ ⟨Nat.zero_le _, Nat.zero_le _⟩ hl.1 (Nat.le_of_ble_eq_true rfl) dX12_layRegions_306 (fun H locs hH hS => ?_)
      obtain ⟨v16, h_v16, e_v16, hm⟩ := n_ldi hm
      refine n_iald X hH (n := 135) (m_lay_at hT hk_a (by decide) (i := 15) rfl) h_v16 e_v16 dX12_layRegions_309 ?_
      obtain ⟨v18, S17, e_S17, hm⟩ := m_call_of hm
      refine n_cVi X hH hS (k := 12) (c_X12_reachFrom (a := a) hT hk_a e_S17) mw_X12_reachFrom in_6_236 hk_a (by decide) rfl rfl rfl ⟨rfl, rfl⟩ ⟨Nat.le_of_ble_eq_true rfl, Nat.le_of_ble_eq_true rfl⟩ ⟨Nat.zero_le _, Nat.zero_le _⟩ hl.1 (Nat.le_of_ble_eq_true rfl) dX12_layRegions_310 (fun H locs hH hS => ?_)
      obtain ⟨S19, h_S19, e_S19, hm⟩ := n_sti hm
      refine n_iast X hH hS (n := 135) (m_lay_at hT hk_a (by decide) (i := 16) rfl) h_S19 e_S19 dX12_layRegions_313 (fun H locs hH hS => ?_)
      obtain ⟨v20, e_v20, hm⟩ := m_let_of hm
      refine lv_iinc (v := v20) (lv' := [(2, .int v20), (0, .ref a), (1, .int l1)]) hx hb dX12_layRegions_314 hl (k := 2) rfl (by rw [← e_v20]; rfl) (by decide) rfl (fun ls hl => ?_)
      refine lv_goto (tgt := 254) hx hb dX12_layRegions_317 (by decide) ?_
      exact ih S19 l1 v20 _ _ _ hH hS (lv_sub hl [1, 2, 0] rfl) hm
def b_X12_layRegions_328 (a : Nat)  : Nat → m_M → Int32 → Option m_M
  | 0, _, _ => none
  | n + 1, S, l1 =>
    (m_ldi S (a + 2) 2647 (0 : Int32)).bind fun v1 =>
    if v1 ≤ l1 then (
    some S) else (
    m_cal0 (f_X12_layFun a S l1) fun S3 =>
    m_let (l1 + (1 : Int32)) fun v4 =>
    b_X12_layRegions_328 a n S3 v4)
set_option maxHeartbeats 4000000 in
set_option maxRecDepth 100000 in
theorem k_X12_layRegions_328 {p : Program} {l : Launch} {e : Env} {s : State} {m : MethodId} {args : Array Value} {below : List Frame} {meth : Method} {c : Code} {G : m_G} {nx : Nat} {κ : Nat → Nat} {res : m_M} {a : Nat} (X : m_Cx p s m args meth c cX12_layRegions 3 RX12 G) (hr : meth.sig.returnType = none) (hT : m_Str κ) (hk_a : κ a = 13)  (n : Nat) : ∀ (S : m_M) (l1 : Int32) (H : Heap) (locs : List Loc) (ls : Array Slot), m_H G nx κ S H → m_S G s H locs → lv_has ls 3 [(0, .ref a), (1, .int l1)] → b_X12_layRegions_328 a n S l1 = some res → W p l e rm_X12_layRegions s m args below meth c H locs 0 0 (m_Qv below args s G nx κ res) (F0 m 328 ls []) := by
  have hx := X.1.1
  have hb := X.1.2.1
  induction n with
  | zero => intro S l1 H locs ls hH hS hl hm; have hm : (none : Option m_M) = some res := hm; cases hm
  | succ n ih =>
    intro S l1 H locs ls hH hS hl hm
    rw [b_X12_layRegions_328] at hm
    refine lv_iload_n hx hb dX12_layRegions_328 rfl (lv_at hl 1 rfl) ?_
    refine lv_aload_n hx hb dX12_layRegions_329 rfl (lv_at hl 0 rfl) ?_
    refine r_getp X hH (k := 12) (a := a) (j := 14) (b := (a + 2)) (A := 2) (B := 0) hk_a (by decide) rfl m_wi12 (by decide) in_7_29 rfl rfl rfl dX12_layRegions_330 ?_
    refine lv_iconst (v := (0 : Int32)) hx hb dX12_layRegions_333 (by decide) ?_
    obtain ⟨v1, h_v1, e_v1, hm⟩ := n_ldi hm
    refine n_iald X hH (n := 2647) (m_lay_at hT hk_a (by decide) (i := 2) rfl) h_v1 e_v1 dX12_layRegions_334 ?_
    refine lv_icmp_ge (tgt := 349) hx hb dX12_layRegions_335 (by decide) (fun c2 => ?_) (fun c2 => ?_)
    · have hm := m_ite_t hm c2
      exact r_vret X hr hH hS hm dX12_layRegions_349
    · have hm := m_ite_f hm c2
      refine lv_aload_n hx hb dX12_layRegions_338 rfl (lv_at hl 0 rfl) ?_
      refine lv_iload_n hx hb dX12_layRegions_339 rfl (lv_at hl 1 rfl) ?_
      obtain ⟨S3, e_S3, hm⟩ := m_cal0_of hm
      refine r_cVv X hH hS (k := 12) (c_X12_layFun (a := a) hT hk_a e_S3) mw_X12_layFun in_7_3 hk_a (by decide) rfl rfl rfl ⟨rfl, rfl⟩ ⟨Nat.le_of_ble_eq_true rfl, Nat.le_of_ble_eq_true rfl⟩ ⟨Nat.zero_le _, Nat.zero_le _⟩ hl.1 (Nat.le_of_ble_eq_true rfl) dX12_layRegions_340 (fun H locs hH hS => ?_)
      obtain ⟨v4, e_v4, hm⟩ := m_let_of hm
      refine lv_iinc (v := v4) (lv' := [(1, .int v4), (0, .ref a)]) hx hb dX12_layRegions_343 hl (k := 1) rfl (by rw [← e_v4]; rfl) (by decide) rfl (fun ls hl => ?_)
      refine lv_goto (tgt := 328) hx hb dX12_layRegions_346 (by decide) ?_
      exact ih S3 v4 _ _ _ hH hS (lv_sub hl [1, 0] rfl) hm
def b_X12_layRegions_242 (a : Nat)  : Nat → m_M → Int32 → Option m_M
  | 0, _, _ => none
  | n + 1, S, l1 =>
    (m_ldi S (a + 2) 2647 (0 : Int32)).bind fun v1 =>
    if v1 ≤ l1 then (
    b_X12_layRegions_328 a m_fu S (0 : Int32)) else (
    b_X12_layRegions_254 a (b_X12_layRegions_242 a n) m_fu S l1 (0 : Int32))
set_option maxHeartbeats 4000000 in
set_option maxRecDepth 100000 in
theorem k_X12_layRegions_242 {p : Program} {l : Launch} {e : Env} {s : State} {m : MethodId} {args : Array Value} {below : List Frame} {meth : Method} {c : Code} {G : m_G} {nx : Nat} {κ : Nat → Nat} {res : m_M} {a : Nat} (X : m_Cx p s m args meth c cX12_layRegions 3 RX12 G) (hr : meth.sig.returnType = none) (hT : m_Str κ) (hk_a : κ a = 13)  (n : Nat) : ∀ (S : m_M) (l1 : Int32) (H : Heap) (locs : List Loc) (ls : Array Slot), m_H G nx κ S H → m_S G s H locs → lv_has ls 3 [(0, .ref a), (1, .int l1)] → b_X12_layRegions_242 a n S l1 = some res → W p l e rm_X12_layRegions s m args below meth c H locs 0 0 (m_Qv below args s G nx κ res) (F0 m 242 ls []) := by
  have hx := X.1.1
  have hb := X.1.2.1
  induction n with
  | zero => intro S l1 H locs ls hH hS hl hm; have hm : (none : Option m_M) = some res := hm; cases hm
  | succ n ih =>
    intro S l1 H locs ls hH hS hl hm
    rw [b_X12_layRegions_242] at hm
    refine lv_iload_n hx hb dX12_layRegions_242 rfl (lv_at hl 1 rfl) ?_
    refine lv_aload_n hx hb dX12_layRegions_243 rfl (lv_at hl 0 rfl) ?_
    refine r_getp X hH (k := 12) (a := a) (j := 14) (b := (a + 2)) (A := 2) (B := 0) hk_a (by decide) rfl m_wi12 (by decide) in_7_29 rfl rfl rfl dX12_layRegions_244 ?_
    refine lv_iconst (v := (0 : Int32)) hx hb dX12_layRegions_247 (by decide) ?_
    obtain ⟨v1, h_v1, e_v1, hm⟩ := n_ldi hm
    refine n_iald X hH (n := 2647) (m_lay_at hT hk_a (by decide) (i := 2) rfl) h_v1 e_v1 dX12_layRegions_248 ?_
    refine lv_icmp_ge (tgt := 326) hx hb dX12_layRegions_249 (by decide) (fun c2 => ?_) (fun c2 => ?_)
    · have hm := m_ite_t hm c2
      refine lv_iconst (v := (0 : Int32)) hx hb dX12_layRegions_326 (by decide) ?_
      refine lv_istore_n (lv' := [(1, .int (0 : Int32)), (0, .ref a)]) hx hb dX12_layRegions_327 rfl hl (by decide) rfl (fun ls hl => ?_)
      exact k_X12_layRegions_328 (a := a) X hr hT hk_a  m_fu S (0 : Int32) _ _ _ hH hS (lv_sub hl [1, 0] rfl) hm
    · have hm := m_ite_f hm c2
      refine lv_iconst (v := (0 : Int32)) hx hb dX12_layRegions_252 (by decide) ?_
      refine lv_istore_n (lv' := [(2, .int (0 : Int32)), (0, .ref a), (1, .int l1)]) hx hb dX12_layRegions_253 rfl hl (by decide) rfl (fun ls hl => ?_)
      exact k_X12_layRegions_254 (a := a) X hr hT hk_a (b_X12_layRegions_242 a n) ih m_fu S l1 (0 : Int32) _ _ _ hH hS (lv_sub hl [1, 2, 0] rfl) hm
def b_X12_layRegions_175 (a : Nat)  : Nat → m_M → Int32 → Option m_M
  | 0, _, _ => none
  | n + 1, S, l1 =>
    if (m_ri S a 36) ≤ l1 then (
    b_X12_layRegions_242 a m_fu S (0 : Int32)) else (
    (m_ldi S (a + 14) 24 l1).bind fun v2 =>
    if v2 = (-1 : Int32) then (
    b_X12_layRegions_234 a (b_X12_layRegions_175 a n) S l1) else (
    b_X12_layRegions_198 a (b_X12_layRegions_175 a n) m_fu S l1 (0 : Int32)))
set_option maxHeartbeats 4000000 in
set_option maxRecDepth 100000 in
theorem k_X12_layRegions_175 {p : Program} {l : Launch} {e : Env} {s : State} {m : MethodId} {args : Array Value} {below : List Frame} {meth : Method} {c : Code} {G : m_G} {nx : Nat} {κ : Nat → Nat} {res : m_M} {a : Nat} (X : m_Cx p s m args meth c cX12_layRegions 3 RX12 G) (hr : meth.sig.returnType = none) (hT : m_Str κ) (hk_a : κ a = 13)  (n : Nat) : ∀ (S : m_M) (l1 : Int32) (H : Heap) (locs : List Loc) (ls : Array Slot), m_H G nx κ S H → m_S G s H locs → lv_has ls 3 [(0, .ref a), (1, .int l1)] → b_X12_layRegions_175 a n S l1 = some res → W p l e rm_X12_layRegions s m args below meth c H locs 0 0 (m_Qv below args s G nx κ res) (F0 m 175 ls []) := by
  have hx := X.1.1
  have hb := X.1.2.1
  induction n with
  | zero => intro S l1 H locs ls hH hS hl hm; have hm : (none : Option m_M) = some res := hm; cases hm
  | succ n ih =>
    intro S l1 H locs ls hH hS hl hm
    rw [b_X12_layRegions_175] at hm
    refine lv_iload_n hx hb dX12_layRegions_175 rfl (lv_at hl 1 rfl) ?_
    refine lv_aload_n hx hb dX12_layRegions_176 rfl (lv_at hl 0 rfl) ?_
    refine r_geti X hH (k := 12) (a := a) (j := 36) hk_a (by decide) rfl m_wi12 (by decide) in_7_51 rfl rfl dX12_layRegions_177 ?_
    refine lv_icmp_ge (tgt := 240) hx hb dX12_layRegions_180 (by decide) (fun c1 => ?_) (fun c1 => ?_)
    · have hm := m_ite_t hm c1
      refine lv_iconst (v := (0 : Int32)) hx hb dX12_layRegions_240 (by decide) ?_
      refine lv_istore_n (lv' := [(1, .int (0 : Int32)), (0, .ref a)]) hx hb dX12_layRegions_241 rfl hl (by decide) rfl (fun ls hl => ?_)
      exact k_X12_layRegions_242 (a := a) X hr hT hk_a  m_fu S (0 : Int32) _ _ _ hH hS (lv_sub hl [1, 0] rfl) hm
    · have hm := m_ite_f hm c1
      refine lv_aload_n hx hb dX12_layRegions_183 rfl (lv_at hl 0 rfl) ?_
      refine r_getp X hH (k := 12) (a := a) (j := 27) (b := (a + 14)) (A := 14) (B := 0) hk_a (by decide) rfl m_wi12 (by decide) in_7_42 rfl rfl rfl dX12_layRegions_184 ?_
      refine lv_iload_n hx hb dX12_layRegions_187 rfl (lv_at hl 1 rfl) ?_
      obtain ⟨v2, h_v2, e_v2, hm⟩ := n_ldi hm
      refine n_iald X hH (n := 24) (m_lay_at hT hk_a (by decide) (i := 14) rfl) h_v2 e_v2 dX12_layRegions_188 ?_
      refine lv_iconst (v := (-1 : Int32)) hx hb dX12_layRegions_189 (by decide) ?_
      refine lv_icmp_ne (tgt := 196) hx hb dX12_layRegions_190 (by decide) (fun c3 => ?_) (fun c3 => ?_)
      · have hm := m_ite_f hm c3
        refine lv_iconst (v := (0 : Int32)) hx hb dX12_layRegions_196 (by decide) ?_
        refine lv_istore_n (lv' := [(2, .int (0 : Int32)), (0, .ref a), (1, .int l1)]) hx hb dX12_layRegions_197 rfl hl (by decide) rfl (fun ls hl => ?_)
        exact k_X12_layRegions_198 (a := a) X hr hT hk_a (b_X12_layRegions_175 a n) ih m_fu S l1 (0 : Int32) _ _ _ hH hS (lv_sub hl [1, 2, 0] rfl) hm
      · have hm := m_ite_t hm c3
        refine lv_goto (tgt := 234) hx hb dX12_layRegions_193 (by decide) ?_
        exact k_X12_layRegions_234 (a := a) X hr hT hk_a (b_X12_layRegions_175 a n) ih  S l1 _ _ _ hH hS hl hm
def b_X12_layRegions_126 (a : Nat)  : Nat → m_M → Int32 → Option m_M
  | 0, _, _ => none
  | n + 1, S, l1 =>
    (m_ldi S (a + 2) 2647 (0 : Int32)).bind fun v1 =>
    if v1 ≤ l1 then (
    b_X12_layRegions_175 a m_fu S (0 : Int32)) else (
    b_X12_layRegions_138 a (b_X12_layRegions_126 a n) m_fu S l1 (0 : Int32))
set_option maxHeartbeats 4000000 in
set_option maxRecDepth 100000 in
theorem k_X12_layRegions_126 {p : Program} {l : Launch} {e : Env} {s : State} {m : MethodId} {args : Array Value} {below : List Frame} {meth : Method} {c : Code} {G : m_G} {nx : Nat} {κ : Nat → Nat} {res : m_M} {a : Nat} (X : m_Cx p s m args meth c cX12_layRegions 3 RX12 G) (hr : meth.sig.returnType = none) (hT : m_Str κ) (hk_a : κ a = 13)  (n : Nat) : ∀ (S : m_M) (l1 : Int32) (H : Heap) (locs : List Loc) (ls : Array Slot), m_H G nx κ S H → m_S G s H locs → lv_has ls 3 [(0, .ref a), (1, .int l1)] → b_X12_layRegions_126 a n S l1 = some res → W p l e rm_X12_layRegions s m args below meth c H locs 0 0 (m_Qv below args s G nx κ res) (F0 m 126 ls []) := by
  have hx := X.1.1
  have hb := X.1.2.1
  induction n with
  | zero => intro S l1 H locs ls hH hS hl hm; have hm : (none : Option m_M) = some res := hm; cases hm
  | succ n ih =>
    intro S l1 H locs ls hH hS hl hm
    rw [b_X12_layRegions_126] at hm
    refine lv_iload_n hx hb dX12_layRegions_126 rfl (lv_at hl 1 rfl) ?_
    refine lv_aload_n hx hb dX12_layRegions_127 rfl (lv_at hl 0 rfl) ?_
    refine r_getp X hH (k := 12) (a := a) (j := 14) (b := (a + 2)) (A := 2) (B := 0) hk_a (by decide) rfl m_wi12 (by decide) in_7_29 rfl rfl rfl dX12_layRegions_128 ?_
    refine lv_iconst (v := (0 : Int32)) hx hb dX12_layRegions_131 (by decide) ?_
    obtain ⟨v1, h_v1, e_v1, hm⟩ := n_ldi hm
    refine n_iald X hH (n := 2647) (m_lay_at hT hk_a (by decide) (i := 2) rfl) h_v1 e_v1 dX12_layRegions_132 ?_
    refine lv_icmp_ge (tgt := 173) hx hb dX12_layRegions_133 (by decide) (fun c2 => ?_) (fun c2 => ?_)
    · have hm := m_ite_t hm c2
      refine lv_iconst (v := (0 : Int32)) hx hb dX12_layRegions_173 (by decide) ?_
      refine lv_istore_n (lv' := [(1, .int (0 : Int32)), (0, .ref a)]) hx hb dX12_layRegions_174 rfl hl (by decide) rfl (fun ls hl => ?_)
      exact k_X12_layRegions_175 (a := a) X hr hT hk_a  m_fu S (0 : Int32) _ _ _ hH hS (lv_sub hl [1, 0] rfl) hm
    · have hm := m_ite_f hm c2
      refine lv_iconst (v := (0 : Int32)) hx hb dX12_layRegions_136 (by decide) ?_
      refine lv_istore_n (lv' := [(2, .int (0 : Int32)), (0, .ref a), (1, .int l1)]) hx hb dX12_layRegions_137 rfl hl (by decide) rfl (fun ls hl => ?_)
      exact k_X12_layRegions_138 (a := a) X hr hT hk_a (b_X12_layRegions_126 a n) ih m_fu S l1 (0 : Int32) _ _ _ hH hS (lv_sub hl [1, 2, 0] rfl) hm
def b_X12_layRegions_98 (a : Nat)  : Nat → m_M → Int32 → Option m_M
  | 0, _, _ => none
  | n + 1, S, l1 =>
    if (24 : Int32) ≤ l1 then (
    b_X12_layRegions_126 a m_fu S (0 : Int32)) else (
    (m_sti S (a + 14) 24 l1 (-1 : Int32)).bind fun S2 =>
    (m_sti S2 (a + 22) 24 l1 (0 : Int32)).bind fun S3 =>
    m_let (l1 + (1 : Int32)) fun v4 =>
    b_X12_layRegions_98 a n S3 v4)
set_option maxHeartbeats 4000000 in
set_option maxRecDepth 100000 in
theorem k_X12_layRegions_98 {p : Program} {l : Launch} {e : Env} {s : State} {m : MethodId} {args : Array Value} {below : List Frame} {meth : Method} {c : Code} {G : m_G} {nx : Nat} {κ : Nat → Nat} {res : m_M} {a : Nat} (X : m_Cx p s m args meth c cX12_layRegions 3 RX12 G) (hr : meth.sig.returnType = none) (hT : m_Str κ) (hk_a : κ a = 13)  (n : Nat) : ∀ (S : m_M) (l1 : Int32) (H : Heap) (locs : List Loc) (ls : Array Slot), m_H G nx κ S H → m_S G s H locs → lv_has ls 3 [(0, .ref a), (1, .int l1)] → b_X12_layRegions_98 a n S l1 = some res → W p l e rm_X12_layRegions s m args below meth c H locs 0 0 (m_Qv below args s G nx κ res) (F0 m 98 ls []) := by
  have hx := X.1.1
  have hb := X.1.2.1
  induction n with
  | zero => intro S l1 H locs ls hH hS hl hm; have hm : (none : Option m_M) = some res := hm; cases hm
  | succ n ih =>
    intro S l1 H locs ls hH hS hl hm
    rw [b_X12_layRegions_98] at hm
    refine lv_iload_n hx hb dX12_layRegions_98 rfl (lv_at hl 1 rfl) ?_
    refine lv_bipush (v := (24 : Int32)) hx hb dX12_layRegions_99 (by decide) ?_
    refine lv_icmp_ge (tgt := 124) hx hb dX12_layRegions_101 (by decide) (fun c1 => ?_) (fun c1 => ?_)
    · have hm := m_ite_t hm c1
      refine lv_iconst (v := (0 : Int32)) hx hb dX12_layRegions_124 (by decide) ?_
      refine lv_istore_n (lv' := [(1, .int (0 : Int32)), (0, .ref a)]) hx hb dX12_layRegions_125 rfl hl (by decide) rfl (fun ls hl => ?_)
      exact k_X12_layRegions_126 (a := a) X hr hT hk_a  m_fu S (0 : Int32) _ _ _ hH hS (lv_sub hl [1, 0] rfl) hm
    · have hm := m_ite_f hm c1
      refine lv_aload_n hx hb dX12_layRegions_104 rfl (lv_at hl 0 rfl) ?_
      refine r_getp X hH (k := 12) (a := a) (j := 27) (b := (a + 14)) (A := 14) (B := 0) hk_a (by decide) rfl m_wi12 (by decide) in_7_42 rfl rfl rfl dX12_layRegions_105 ?_
      refine lv_iload_n hx hb dX12_layRegions_108 rfl (lv_at hl 1 rfl) ?_
      refine lv_iconst (v := (-1 : Int32)) hx hb dX12_layRegions_109 (by decide) ?_
      obtain ⟨S2, h_S2, e_S2, hm⟩ := n_sti hm
      refine n_iast X hH hS (n := 24) (m_lay_at hT hk_a (by decide) (i := 14) rfl) h_S2 e_S2 dX12_layRegions_110 (fun H locs hH hS => ?_)
      refine lv_aload_n hx hb dX12_layRegions_111 rfl (lv_at hl 0 rfl) ?_
      refine r_getp X hH (k := 12) (a := a) (j := 35) (b := (a + 22)) (A := 22) (B := 0) hk_a (by decide) rfl m_wi12 (by decide) in_7_50 rfl rfl rfl dX12_layRegions_112 ?_
      refine lv_iload_n hx hb dX12_layRegions_115 rfl (lv_at hl 1 rfl) ?_
      refine lv_iconst (v := (0 : Int32)) hx hb dX12_layRegions_116 (by decide) ?_
      obtain ⟨S3, h_S3, e_S3, hm⟩ := n_sti hm
      refine n_iast X hH hS (n := 24) (m_lay_at hT hk_a (by decide) (i := 22) rfl) h_S3 e_S3 dX12_layRegions_117 (fun H locs hH hS => ?_)
      obtain ⟨v4, e_v4, hm⟩ := m_let_of hm
      refine lv_iinc (v := v4) (lv' := [(1, .int v4), (0, .ref a)]) hx hb dX12_layRegions_118 hl (k := 1) rfl (by rw [← e_v4]; rfl) (by decide) rfl (fun ls hl => ?_)
      refine lv_goto (tgt := 98) hx hb dX12_layRegions_121 (by decide) ?_
      exact ih S3 v4 _ _ _ hH hS (lv_sub hl [1, 0] rfl) hm
def b_X12_layRegions_43 (a : Nat)  : Nat → m_M → Int32 → Option m_M
  | 0, _, _ => none
  | n + 1, S, l1 =>
    (m_ldi S (a + 2) 2647 (0 : Int32)).bind fun v1 =>
    if v1 ≤ l1 then (
    b_X12_layRegions_98 a m_fu S (0 : Int32)) else (
    b_X12_layRegions_55 a (b_X12_layRegions_43 a n) m_fu S l1 (0 : Int32))
set_option maxHeartbeats 4000000 in
set_option maxRecDepth 100000 in
theorem k_X12_layRegions_43 {p : Program} {l : Launch} {e : Env} {s : State} {m : MethodId} {args : Array Value} {below : List Frame} {meth : Method} {c : Code} {G : m_G} {nx : Nat} {κ : Nat → Nat} {res : m_M} {a : Nat} (X : m_Cx p s m args meth c cX12_layRegions 3 RX12 G) (hr : meth.sig.returnType = none) (hT : m_Str κ) (hk_a : κ a = 13)  (n : Nat) : ∀ (S : m_M) (l1 : Int32) (H : Heap) (locs : List Loc) (ls : Array Slot), m_H G nx κ S H → m_S G s H locs → lv_has ls 3 [(0, .ref a), (1, .int l1)] → b_X12_layRegions_43 a n S l1 = some res → W p l e rm_X12_layRegions s m args below meth c H locs 0 0 (m_Qv below args s G nx κ res) (F0 m 43 ls []) := by
  have hx := X.1.1
  have hb := X.1.2.1
  induction n with
  | zero => intro S l1 H locs ls hH hS hl hm; have hm : (none : Option m_M) = some res := hm; cases hm
  | succ n ih =>
    intro S l1 H locs ls hH hS hl hm
    rw [b_X12_layRegions_43] at hm
    refine lv_iload_n hx hb dX12_layRegions_43 rfl (lv_at hl 1 rfl) ?_
    refine lv_aload_n hx hb dX12_layRegions_44 rfl (lv_at hl 0 rfl) ?_
    refine r_getp X hH (k := 12) (a := a) (j := 14) (b := (a + 2)) (A := 2) (B := 0) hk_a (by decide) rfl m_wi12 (by decide) in_7_29 rfl rfl rfl dX12_layRegions_45 ?_
    refine lv_iconst (v := (0 : Int32)) hx hb dX12_layRegions_48 (by decide) ?_
    obtain ⟨v1, h_v1, e_v1, hm⟩ := n_ldi hm
    refine n_iald X hH (n := 2647) (m_lay_at hT hk_a (by decide) (i := 2) rfl) h_v1 e_v1 dX12_layRegions_49 ?_
    refine lv_icmp_ge (tgt := 96) hx hb dX12_layRegions_50 (by decide) (fun c2 => ?_) (fun c2 => ?_)
    · have hm := m_ite_t hm c2
      refine lv_iconst (v := (0 : Int32)) hx hb dX12_layRegions_96 (by decide) ?_
      refine lv_istore_n (lv' := [(1, .int (0 : Int32)), (0, .ref a)]) hx hb dX12_layRegions_97 rfl hl (by decide) rfl (fun ls hl => ?_)
      exact k_X12_layRegions_98 (a := a) X hr hT hk_a  m_fu S (0 : Int32) _ _ _ hH hS (lv_sub hl [1, 0] rfl) hm
    · have hm := m_ite_f hm c2
      refine lv_iconst (v := (0 : Int32)) hx hb dX12_layRegions_53 (by decide) ?_
      refine lv_istore_n (lv' := [(2, .int (0 : Int32)), (0, .ref a), (1, .int l1)]) hx hb dX12_layRegions_54 rfl hl (by decide) rfl (fun ls hl => ?_)
      exact k_X12_layRegions_55 (a := a) X hr hT hk_a (b_X12_layRegions_43 a n) ih m_fu S l1 (0 : Int32) _ _ _ hH hS (lv_sub hl [1, 2, 0] rfl) hm
def b_X12_layRegions_14 (a : Nat)  : Nat → m_M → Int32 → Option m_M
  | 0, _, _ => none
  | n + 1, S, l1 =>
    if (183 : Int32) ≤ l1 then (
    b_X12_layRegions_43 a m_fu S (0 : Int32)) else (
    (m_sti S (a + 12) 183 l1 l1).bind fun S2 =>
    (m_sti S2 (a + 13) 183 l1 (-1 : Int32)).bind fun S3 =>
    m_let (l1 + (1 : Int32)) fun v4 =>
    b_X12_layRegions_14 a n S3 v4)
set_option maxHeartbeats 4000000 in
set_option maxRecDepth 100000 in
theorem k_X12_layRegions_14 {p : Program} {l : Launch} {e : Env} {s : State} {m : MethodId} {args : Array Value} {below : List Frame} {meth : Method} {c : Code} {G : m_G} {nx : Nat} {κ : Nat → Nat} {res : m_M} {a : Nat} (X : m_Cx p s m args meth c cX12_layRegions 3 RX12 G) (hr : meth.sig.returnType = none) (hT : m_Str κ) (hk_a : κ a = 13)  (n : Nat) : ∀ (S : m_M) (l1 : Int32) (H : Heap) (locs : List Loc) (ls : Array Slot), m_H G nx κ S H → m_S G s H locs → lv_has ls 3 [(0, .ref a), (1, .int l1)] → b_X12_layRegions_14 a n S l1 = some res → W p l e rm_X12_layRegions s m args below meth c H locs 0 0 (m_Qv below args s G nx κ res) (F0 m 14 ls []) := by
  have hx := X.1.1
  have hb := X.1.2.1
  induction n with
  | zero => intro S l1 H locs ls hH hS hl hm; have hm : (none : Option m_M) = some res := hm; cases hm
  | succ n ih =>
    intro S l1 H locs ls hH hS hl hm
    rw [b_X12_layRegions_14] at hm
    refine lv_iload_n hx hb dX12_layRegions_14 rfl (lv_at hl 1 rfl) ?_
    refine lv_sipush (v := (183 : Int32)) hx hb dX12_layRegions_15 (by decide) ?_
    refine lv_icmp_ge (tgt := 41) hx hb dX12_layRegions_18 (by decide) (fun c1 => ?_) (fun c1 => ?_)
    · have hm := m_ite_t hm c1
      refine lv_iconst (v := (0 : Int32)) hx hb dX12_layRegions_41 (by decide) ?_
      refine lv_istore_n (lv' := [(1, .int (0 : Int32)), (0, .ref a)]) hx hb dX12_layRegions_42 rfl hl (by decide) rfl (fun ls hl => ?_)
      exact k_X12_layRegions_43 (a := a) X hr hT hk_a  m_fu S (0 : Int32) _ _ _ hH hS (lv_sub hl [1, 0] rfl) hm
    · have hm := m_ite_f hm c1
      refine lv_aload_n hx hb dX12_layRegions_21 rfl (lv_at hl 0 rfl) ?_
      refine r_getp X hH (k := 12) (a := a) (j := 25) (b := (a + 12)) (A := 12) (B := 0) hk_a (by decide) rfl m_wi12 (by decide) in_7_40 rfl rfl rfl dX12_layRegions_22 ?_
      refine lv_iload_n hx hb dX12_layRegions_25 rfl (lv_at hl 1 rfl) ?_
      refine lv_iload_n hx hb dX12_layRegions_26 rfl (lv_at hl 1 rfl) ?_
      obtain ⟨S2, h_S2, e_S2, hm⟩ := n_sti hm
      refine n_iast X hH hS (n := 183) (m_lay_at hT hk_a (by decide) (i := 12) rfl) h_S2 e_S2 dX12_layRegions_27 (fun H locs hH hS => ?_)
      refine lv_aload_n hx hb dX12_layRegions_28 rfl (lv_at hl 0 rfl) ?_
      refine r_getp X hH (k := 12) (a := a) (j := 26) (b := (a + 13)) (A := 13) (B := 0) hk_a (by decide) rfl m_wi12 (by decide) in_7_41 rfl rfl rfl dX12_layRegions_29 ?_
      refine lv_iload_n hx hb dX12_layRegions_32 rfl (lv_at hl 1 rfl) ?_
      refine lv_iconst (v := (-1 : Int32)) hx hb dX12_layRegions_33 (by decide) ?_
      obtain ⟨S3, h_S3, e_S3, hm⟩ := n_sti hm
      refine n_iast X hH hS (n := 183) (m_lay_at hT hk_a (by decide) (i := 13) rfl) h_S3 e_S3 dX12_layRegions_34 (fun H locs hH hS => ?_)
      obtain ⟨v4, e_v4, hm⟩ := m_let_of hm
      refine lv_iinc (v := v4) (lv' := [(1, .int v4), (0, .ref a)]) hx hb dX12_layRegions_35 hl (k := 1) rfl (by rw [← e_v4]; rfl) (by decide) rfl (fun ls hl => ?_)
      refine lv_goto (tgt := 14) hx hb dX12_layRegions_38 (by decide) ?_
      exact ih S3 v4 _ _ _ hH hS (lv_sub hl [1, 0] rfl) hm
def f_X12_layRegions (a : Nat) (S : m_M)  : Option m_M :=
    m_let (m_si S a 36 (0 : Int32)) fun S1 =>
    (m_sti S1 (a + 2) 2647 (2 : Int32) (0 : Int32)).bind fun S2 =>
    b_X12_layRegions_14 a m_fu S2 (0 : Int32)
set_option maxHeartbeats 4000000 in
set_option maxRecDepth 100000 in
theorem c_X12_layRegions {l : Launch} {G : m_G} {nx : Nat} {κ : Nat → Nat} {a : Nat} {S : m_M}  {res : m_M} (hT : m_Str κ) (hk_a : κ a = 13) (hm : f_X12_layRegions a S = some res) : m_Cv l yX12_layRegions cX12_layRegions 3 rm_X12_layRegions G nx κ [.ref a] S res := by
  refine m_Cv.of (by decide) (Nat.le_of_ble_eq_true rfl) ?_
  intro p e s m args below meth c ls X hr hH hl
  have hx := X.1.1
  have hb := X.1.2.1
  have hS : m_S G s s.heap [] := va_S.rf
  have hl : lv_has ls 3 [(0, .ref a)] := hl
  rw [f_X12_layRegions] at hm
  refine lv_aload_n hx hb dX12_layRegions_0 rfl (lv_at hl 0 rfl) ?_
  refine lv_iconst (v := (0 : Int32)) hx hb dX12_layRegions_1 (by decide) ?_
  obtain ⟨S1, e_S1, hm⟩ := m_let_of hm
  refine n_puti X hH hS tyX12 (k := 12) (a := a) (j := 36) hk_a (by decide) rfl m_wi12 tyX12_ok nmX12 (by decide) in_7_51 rfl rfl rfl ⟨rfl, rfl⟩ e_S1 dX12_layRegions_2 (fun H locs hH hS => ?_)
  refine lv_aload_n hx hb dX12_layRegions_5 rfl (lv_at hl 0 rfl) ?_
  refine r_getp X hH (k := 12) (a := a) (j := 14) (b := (a + 2)) (A := 2) (B := 0) hk_a (by decide) rfl m_wi12 (by decide) in_7_29 rfl rfl rfl dX12_layRegions_6 ?_
  refine lv_iconst (v := (2 : Int32)) hx hb dX12_layRegions_9 (by decide) ?_
  refine lv_iconst (v := (0 : Int32)) hx hb dX12_layRegions_10 (by decide) ?_
  obtain ⟨S2, h_S2, e_S2, hm⟩ := n_sti hm
  refine n_iast X hH hS (n := 2647) (m_lay_at hT hk_a (by decide) (i := 2) rfl) h_S2 e_S2 dX12_layRegions_11 (fun H locs hH hS => ?_)
  refine lv_iconst (v := (0 : Int32)) hx hb dX12_layRegions_12 (by decide) ?_
  refine lv_istore_n (lv' := [(1, .int (0 : Int32)), (0, .ref a)]) hx hb dX12_layRegions_13 rfl hl (by decide) rfl (fun ls hl => ?_)
  exact k_X12_layRegions_14 (a := a) X hr hT hk_a  m_fu S2 (0 : Int32) _ _ _ hH hS (lv_sub hl [1, 0] rfl) hm
def rm_X12_startSo : Room := { frames := 203, cells := 0, slots := 0, locals := 5275 }
def b_X12_startSo_26 (a : Nat)  : Nat → m_M → Int32 → Option m_M
  | 0, _, _ => none
  | n + 1, S, l1 =>
    if (200 : Int32) ≤ l1 then (
    m_cal0 (f_X12_layRegions a S) fun S2 =>
    some S2) else (
    (m_sti S (a + 2) 2647 ((893 : Int32) + l1) (-1 : Int32)).bind fun S3 =>
    m_let (l1 + (1 : Int32)) fun v4 =>
    b_X12_startSo_26 a n S3 v4)
set_option maxHeartbeats 4000000 in
set_option maxRecDepth 100000 in
theorem k_X12_startSo_26 {p : Program} {l : Launch} {e : Env} {s : State} {m : MethodId} {args : Array Value} {below : List Frame} {meth : Method} {c : Code} {G : m_G} {nx : Nat} {κ : Nat → Nat} {res : m_M} {a : Nat} (X : m_Cx p s m args meth c cX12_startSo 2 RX12 G) (hr : meth.sig.returnType = none) (hT : m_Str κ) (hk_a : κ a = 13)  (n : Nat) : ∀ (S : m_M) (l1 : Int32) (H : Heap) (locs : List Loc) (ls : Array Slot), m_H G nx κ S H → m_S G s H locs → lv_has ls 2 [(0, .ref a), (1, .int l1)] → b_X12_startSo_26 a n S l1 = some res → W p l e rm_X12_startSo s m args below meth c H locs 0 0 (m_Qv below args s G nx κ res) (F0 m 26 ls []) := by
  have hx := X.1.1
  have hb := X.1.2.1
  induction n with
  | zero => intro S l1 H locs ls hH hS hl hm; have hm : (none : Option m_M) = some res := hm; cases hm
  | succ n ih =>
    intro S l1 H locs ls hH hS hl hm
    rw [b_X12_startSo_26] at hm
    refine lv_iload_n hx hb dX12_startSo_26 rfl (lv_at hl 1 rfl) ?_
    refine lv_sipush (v := (200 : Int32)) hx hb dX12_startSo_27 (by decide) ?_
    refine lv_icmp_ge (tgt := 50) hx hb dX12_startSo_30 (by decide) (fun c1 => ?_) (fun c1 => ?_)
    · have hm := m_ite_t hm c1
      refine lv_aload_n hx hb dX12_startSo_50 rfl (lv_at hl 0 rfl) ?_
      obtain ⟨S2, e_S2, hm⟩ := m_cal0_of hm
      refine r_cVv X hH hS (k := 12) (c_X12_layRegions (a := a) hT hk_a e_S2) mw_X12_layRegions in_6_188 hk_a (by decide) rfl rfl rfl ⟨rfl, rfl⟩ ⟨Nat.le_of_ble_eq_true rfl, Nat.le_of_ble_eq_true rfl⟩ ⟨Nat.zero_le _, Nat.zero_le _⟩ hl.1 (Nat.le_of_ble_eq_true rfl) dX12_startSo_51 (fun H locs hH hS => ?_)
      exact r_vret X hr hH hS hm dX12_startSo_54
    · have hm := m_ite_f hm c1
      refine lv_aload_n hx hb dX12_startSo_33 rfl (lv_at hl 0 rfl) ?_
      refine r_getp X hH (k := 12) (a := a) (j := 14) (b := (a + 2)) (A := 2) (B := 0) hk_a (by decide) rfl m_wi12 (by decide) in_7_29 rfl rfl rfl dX12_startSo_34 ?_
      refine lv_sipush (v := (893 : Int32)) hx hb dX12_startSo_37 (by decide) ?_
      refine lv_iload_n hx hb dX12_startSo_40 rfl (lv_at hl 1 rfl) ?_
      refine lv_iadd hx hb dX12_startSo_41 ?_
      refine lv_iconst (v := (-1 : Int32)) hx hb dX12_startSo_42 (by decide) ?_
      obtain ⟨S3, h_S3, e_S3, hm⟩ := n_sti hm
      refine n_iast X hH hS (n := 2647) (m_lay_at hT hk_a (by decide) (i := 2) rfl) h_S3 e_S3 dX12_startSo_43 (fun H locs hH hS => ?_)
      obtain ⟨v4, e_v4, hm⟩ := m_let_of hm
      refine lv_iinc (v := v4) (lv' := [(1, .int v4), (0, .ref a)]) hx hb dX12_startSo_44 hl (k := 1) rfl (by rw [← e_v4]; rfl) (by decide) rfl (fun ls hl => ?_)
      refine lv_goto (tgt := 26) hx hb dX12_startSo_47 (by decide) ?_
      exact ih S3 v4 _ _ _ hH hS (lv_sub hl [1, 0] rfl) hm
def b_X12_startSo_4 (a : Nat)  : Nat → m_M → Int32 → Option m_M
  | 0, _, _ => none
  | n + 1, S, l1 =>
    if (2647 : Int32) ≤ l1 then (
    b_X12_startSo_26 a m_fu S (0 : Int32)) else (
    (m_sti S (a + 2) 2647 l1 (0 : Int32)).bind fun S2 =>
    m_let (l1 + (1 : Int32)) fun v3 =>
    b_X12_startSo_4 a n S2 v3)
set_option maxHeartbeats 4000000 in
set_option maxRecDepth 100000 in
theorem k_X12_startSo_4 {p : Program} {l : Launch} {e : Env} {s : State} {m : MethodId} {args : Array Value} {below : List Frame} {meth : Method} {c : Code} {G : m_G} {nx : Nat} {κ : Nat → Nat} {res : m_M} {a : Nat} (X : m_Cx p s m args meth c cX12_startSo 2 RX12 G) (hr : meth.sig.returnType = none) (hT : m_Str κ) (hk_a : κ a = 13)  (n : Nat) : ∀ (S : m_M) (l1 : Int32) (H : Heap) (locs : List Loc) (ls : Array Slot), m_H G nx κ S H → m_S G s H locs → lv_has ls 2 [(0, .ref a), (1, .int l1)] → b_X12_startSo_4 a n S l1 = some res → W p l e rm_X12_startSo s m args below meth c H locs 0 0 (m_Qv below args s G nx κ res) (F0 m 4 ls []) := by
  have hx := X.1.1
  have hb := X.1.2.1
  induction n with
  | zero => intro S l1 H locs ls hH hS hl hm; have hm : (none : Option m_M) = some res := hm; cases hm
  | succ n ih =>
    intro S l1 H locs ls hH hS hl hm
    rw [b_X12_startSo_4] at hm
    refine lv_iload_n hx hb dX12_startSo_4 rfl (lv_at hl 1 rfl) ?_
    refine lv_sipush (v := (2647 : Int32)) hx hb dX12_startSo_5 (by decide) ?_
    refine lv_icmp_ge (tgt := 24) hx hb dX12_startSo_8 (by decide) (fun c1 => ?_) (fun c1 => ?_)
    · have hm := m_ite_t hm c1
      refine lv_iconst (v := (0 : Int32)) hx hb dX12_startSo_24 (by decide) ?_
      refine lv_istore_n (lv' := [(1, .int (0 : Int32)), (0, .ref a)]) hx hb dX12_startSo_25 rfl hl (by decide) rfl (fun ls hl => ?_)
      exact k_X12_startSo_26 (a := a) X hr hT hk_a  m_fu S (0 : Int32) _ _ _ hH hS (lv_sub hl [1, 0] rfl) hm
    · have hm := m_ite_f hm c1
      refine lv_aload_n hx hb dX12_startSo_11 rfl (lv_at hl 0 rfl) ?_
      refine r_getp X hH (k := 12) (a := a) (j := 14) (b := (a + 2)) (A := 2) (B := 0) hk_a (by decide) rfl m_wi12 (by decide) in_7_29 rfl rfl rfl dX12_startSo_12 ?_
      refine lv_iload_n hx hb dX12_startSo_15 rfl (lv_at hl 1 rfl) ?_
      refine lv_iconst (v := (0 : Int32)) hx hb dX12_startSo_16 (by decide) ?_
      obtain ⟨S2, h_S2, e_S2, hm⟩ := n_sti hm
      refine n_iast X hH hS (n := 2647) (m_lay_at hT hk_a (by decide) (i := 2) rfl) h_S2 e_S2 dX12_startSo_17 (fun H locs hH hS => ?_)
      obtain ⟨v3, e_v3, hm⟩ := m_let_of hm
      refine lv_iinc (v := v3) (lv' := [(1, .int v3), (0, .ref a)]) hx hb dX12_startSo_18 hl (k := 1) rfl (by rw [← e_v3]; rfl) (by decide) rfl (fun ls hl => ?_)
      refine lv_goto (tgt := 4) hx hb dX12_startSo_21 (by decide) ?_
      exact ih S2 v3 _ _ _ hH hS (lv_sub hl [1, 0] rfl) hm
def f_X12_startSo (a : Nat) (S : m_M)  : Option m_M :=
    b_X12_startSo_4 a m_fu S (210 : Int32)
set_option maxHeartbeats 4000000 in
set_option maxRecDepth 100000 in
theorem c_X12_startSo {l : Launch} {G : m_G} {nx : Nat} {κ : Nat → Nat} {a : Nat} {S : m_M}  {res : m_M} (hT : m_Str κ) (hk_a : κ a = 13) (hm : f_X12_startSo a S = some res) : m_Cv l yX12_startSo cX12_startSo 2 rm_X12_startSo G nx κ [.ref a] S res := by
  refine m_Cv.of (by decide) (Nat.le_of_ble_eq_true rfl) ?_
  intro p e s m args below meth c ls X hr hH hl
  have hx := X.1.1
  have hb := X.1.2.1
  have hS : m_S G s s.heap [] := va_S.rf
  have hl : lv_has ls 2 [(0, .ref a)] := hl
  rw [f_X12_startSo] at hm
  refine lv_sipush (v := (210 : Int32)) hx hb dX12_startSo_0 (by decide) ?_
  refine lv_istore_n (lv' := [(1, .int (210 : Int32)), (0, .ref a)]) hx hb dX12_startSo_3 rfl hl (by decide) rfl (fun ls hl => ?_)
  exact k_X12_startSo_4 (a := a) X hr hT hk_a  m_fu S (210 : Int32) _ _ _ hH hS (lv_sub hl [1, 0] rfl) hm
def rm_X12_funNow : Room := { frames := 0, cells := 0, slots := 0, locals := 0 }
def f_X12_funNow (a : Nat) (S : m_M)  : Option (Int32 × m_M) :=
    (m_ldi S (a + 3) 210 (0 : Int32)).bind fun v1 =>
    some ((v1 - (1 : Int32)), S)
set_option maxHeartbeats 4000000 in
set_option maxRecDepth 100000 in
theorem c_X12_funNow {l : Launch} {G : m_G} {nx : Nat} {κ : Nat → Nat} {a : Nat} {S : m_M}  {res : (Int32 × m_M)} (hT : m_Str κ) (hk_a : κ a = 13) (hm : f_X12_funNow a S = some res) : m_Ci l yX12_funNow cX12_funNow 1 (some .int) rm_X12_funNow G nx κ [.ref a] S res := by
  refine m_Ci.of (by decide) (Nat.le_of_ble_eq_true rfl) ?_
  intro p e s m args below meth c ls X hr hH hl
  have hx := X.1.1
  have hb := X.1.2.1
  have hS : m_S G s s.heap [] := va_S.rf
  have hl : lv_has ls 1 [(0, .ref a)] := hl
  rw [f_X12_funNow] at hm
  refine lv_aload_n hx hb dX12_funNow_0 rfl (lv_at hl 0 rfl) ?_
  refine r_getp X hH (k := 12) (a := a) (j := 15) (b := (a + 3)) (A := 3) (B := 0) hk_a (by decide) rfl m_wi12 (by decide) in_7_30 rfl rfl rfl dX12_funNow_1 ?_
  refine lv_iconst (v := (0 : Int32)) hx hb dX12_funNow_4 (by decide) ?_
  obtain ⟨v1, h_v1, e_v1, hm⟩ := n_ldi hm
  refine n_iald X hH (n := 210) (m_lay_at hT hk_a (by decide) (i := 3) rfl) h_v1 e_v1 dX12_funNow_5 ?_
  refine lv_iconst (v := (1 : Int32)) hx hb dX12_funNow_6 (by decide) ?_
  refine lv_isub hx hb dX12_funNow_7 ?_
  exact r_iret X hr hH hS hm dX12_funNow_8
def rm_X12_findIn : Room := { frames := 0, cells := 0, slots := 0, locals := 0 }
def b_X12_findIn_3 (o0 n0 : Nat)  : Nat → m_M → Int32 → Int32 → Int64 → Int32 → Option (Int32 × m_M)
  | 0, _, _, _, _, _ => none
  | n + 1, S, l1, l2, l3, l5 =>
    if l2 ≤ l5 then (
    some ((-1 : Int32), S)) else (
    (m_ldj S o0 n0 (l1 + l5)).bind fun v2 =>
    if (lg_cmp v2 l3) = 0 then (
    some (l5, S)) else (
    m_let (l5 + (1 : Int32)) fun v4 =>
    b_X12_findIn_3 o0 n0 n S l1 l2 l3 v4))
set_option maxHeartbeats 4000000 in
set_option maxRecDepth 100000 in
theorem k_X12_findIn_3 {p : Program} {l : Launch} {e : Env} {s : State} {m : MethodId} {args : Array Value} {below : List Frame} {meth : Method} {c : Code} {G : m_G} {nx : Nat} {κ : Nat → Nat} {res : (Int32 × m_M)} {o0 n0 : Nat} (X : m_Cx p s m args meth c cX12_findIn 6 RX12 G) (hr : meth.sig.returnType = (some .int)) (hT : m_Str κ) (hk_o0 : κ o0 = m_ac 2 n0)  (n : Nat) : ∀ (S : m_M) (l1 : Int32) (l2 : Int32) (l3 : Int64) (l5 : Int32) (H : Heap) (locs : List Loc) (ls : Array Slot), m_H G nx κ S H → m_S G s H locs → lv_has ls 6 [(0, .ref o0), (1, .int l1), (2, .int l2), (3, .long l3), (5, .int l5)] → b_X12_findIn_3 o0 n0 n S l1 l2 l3 l5 = some res → W p l e rm_X12_findIn s m args below meth c H locs 0 0 (m_Qi below args s G nx κ res) (F0 m 3 ls []) := by
  have hx := X.1.1
  have hb := X.1.2.1
  induction n with
  | zero => intro S l1 l2 l3 l5 H locs ls hH hS hl hm; have hm : (none : Option (Int32 × m_M)) = some res := hm; cases hm
  | succ n ih =>
    intro S l1 l2 l3 l5 H locs ls hH hS hl hm
    rw [b_X12_findIn_3] at hm
    refine lv_iload hx hb dX12_findIn_3 (lv_at hl 4 rfl) ?_
    refine lv_iload_n hx hb dX12_findIn_5 rfl (lv_at hl 2 rfl) ?_
    refine lv_icmp_ge (tgt := 29) hx hb dX12_findIn_6 (by decide) (fun c1 => ?_) (fun c1 => ?_)
    · have hm := m_ite_t hm c1
      refine lv_iconst (v := (-1 : Int32)) hx hb dX12_findIn_29 (by decide) ?_
      exact r_iret X hr hH hS hm dX12_findIn_30
    · have hm := m_ite_f hm c1
      refine lv_aload_n hx hb dX12_findIn_9 rfl (lv_at hl 0 rfl) ?_
      refine lv_iload_n hx hb dX12_findIn_10 rfl (lv_at hl 1 rfl) ?_
      refine lv_iload hx hb dX12_findIn_11 (lv_at hl 4 rfl) ?_
      refine lv_iadd hx hb dX12_findIn_13 ?_
      obtain ⟨v2, h_v2, e_v2, hm⟩ := n_ldj hm
      refine n_lald X hH (n := n0) hk_o0 h_v2 e_v2 dX12_findIn_14 ?_
      refine lv_lload_n hx hb dX12_findIn_15 rfl (lv_at hl 3 rfl) ?_
      refine W.lcmp hx hb dX12_findIn_16 ?_
      refine lv_if_ne (tgt := 23) hx hb dX12_findIn_17 (by decide) (fun c3 => ?_) (fun c3 => ?_)
      · have hm := m_ite_f hm c3
        obtain ⟨v4, e_v4, hm⟩ := m_let_of hm
        refine lv_iinc (v := v4) (lv' := [(5, .int v4), (0, .ref o0), (1, .int l1), (2, .int l2), (3, .long l3)]) hx hb dX12_findIn_23 hl (k := 4) rfl (by rw [← e_v4]; rfl) (by decide) rfl (fun ls hl => ?_)
        refine lv_goto (tgt := 3) hx hb dX12_findIn_26 (by decide) ?_
        exact ih S l1 l2 l3 v4 _ _ _ hH hS (lv_sub hl [1, 2, 3, 4, 0] rfl) hm
      · have hm := m_ite_t hm c3
        refine lv_iload hx hb dX12_findIn_20 (lv_at hl 4 rfl) ?_
        exact r_iret X hr hH hS hm dX12_findIn_22
def f_X12_findIn (o0 n0 : Nat) (S : m_M) (i1 : Int32) (i2 : Int32) (j3 : Int64) : Option (Int32 × m_M) :=
    b_X12_findIn_3 o0 n0 m_fu S i1 i2 j3 (0 : Int32)
set_option maxHeartbeats 4000000 in
set_option maxRecDepth 100000 in
theorem c_X12_findIn {l : Launch} {G : m_G} {nx : Nat} {κ : Nat → Nat} {o0 n0 : Nat} {S : m_M} {i1 : Int32} {i2 : Int32} {j3 : Int64} {res : (Int32 × m_M)} (hT : m_Str κ) (hk_o0 : κ o0 = m_ac 2 n0) (hm : f_X12_findIn o0 n0 S i1 i2 j3 = some res) : m_Ci l yX12_findIn cX12_findIn 6 (some .int) rm_X12_findIn G nx κ [.ref o0, .int i1, .int i2, .long j3] S res := by
  refine m_Ci.of (by decide) (Nat.le_of_ble_eq_true rfl) ?_
  intro p e s m args below meth c ls X hr hH hl
  have hx := X.1.1
  have hb := X.1.2.1
  have hS : m_S G s s.heap [] := va_S.rf
  have hl : lv_has ls 6 [(0, .ref o0), (1, .int i1), (2, .int i2), (3, .long j3)] := hl
  rw [f_X12_findIn] at hm
  refine lv_iconst (v := (0 : Int32)) hx hb dX12_findIn_0 (by decide) ?_
  refine lv_istore (lv' := [(5, .int (0 : Int32)), (0, .ref o0), (1, .int i1), (2, .int i2), (3, .long j3)]) hx hb dX12_findIn_1 hl (by decide) rfl (fun ls hl => ?_)
  exact k_X12_findIn_3 (o0 := o0) (n0 := n0) X hr hT hk_o0  m_fu S i1 i2 j3 (0 : Int32) _ _ _ hH hS (lv_sub hl [1, 2, 3, 4, 0] rfl) hm
def rm_X12_findVar : Room := { frames := 1, cells := 0, slots := 0, locals := 25 }
def f_X12_findVar (a : Nat) (S : m_M)  : Option (Int32 × m_M) :=
    m_call (f_X12_funNow a S) fun v2 S1 =>
    m_call (f_X12_funNow a S1) fun v4 S3 =>
    m_call (f_X12_varsOf a (a + 3) 210 S3 v4) fun v6 S5 =>
    m_call (f_X12_findIn (a + 10) 135 S5 ((27 : Int32) * v2) v6 (m_rj S5 a 12)) fun v8 S7 =>
    some (v8, S7)
set_option maxHeartbeats 4000000 in
set_option maxRecDepth 100000 in
theorem c_X12_findVar {l : Launch} {G : m_G} {nx : Nat} {κ : Nat → Nat} {a : Nat} {S : m_M}  {res : (Int32 × m_M)} (hT : m_Str κ) (hk_a : κ a = 13) (hm : f_X12_findVar a S = some res) : m_Ci l yX12_findVar cX12_findVar 1 (some .int) rm_X12_findVar G nx κ [.ref a] S res := by
  refine m_Ci.of (by decide) (Nat.le_of_ble_eq_true rfl) ?_
  intro p e s m args below meth c ls X hr hH hl
  have hx := X.1.1
  have hb := X.1.2.1
  have hS : m_S G s s.heap [] := va_S.rf
  have hl : lv_has ls 1 [(0, .ref a)] := hl
  rw [f_X12_findVar] at hm
  refine lv_aload_n hx hb dX12_findVar_0 rfl (lv_at hl 0 rfl) ?_
  refine r_getp X hH (k := 12) (a := a) (j := 22) (b := (a + 10)) (A := 10) (B := 0) hk_a (by decide) rfl m_wi12 (by decide) in_7_37 rfl rfl rfl dX12_findVar_1 ?_
  refine lv_bipush (v := (27 : Int32)) hx hb dX12_findVar_4 (by decide) ?_
  refine lv_aload_n hx hb dX12_findVar_6 rfl (lv_at hl 0 rfl) ?_
  obtain ⟨v2, S1, e_S1, hm⟩ := m_call_of hm
  refine n_cVi X hH hS (k := 12) (c_X12_funNow (a := a) hT hk_a e_S1) mw_X12_funNow in_7_215 hk_a (by decide) rfl rfl rfl ⟨rfl, rfl⟩ ⟨Nat.le_of_ble_eq_true rfl, Nat.le_of_ble_eq_true rfl⟩ ⟨Nat.zero_le _, Nat.zero_le _⟩ hl.1 (Nat.le_of_ble_eq_true rfl) dX12_findVar_7 (fun H locs hH hS => ?_)
  refine lv_imul hx hb dX12_findVar_10 ?_
  refine lv_aload_n hx hb dX12_findVar_11 rfl (lv_at hl 0 rfl) ?_
  refine lv_aload_n hx hb dX12_findVar_12 rfl (lv_at hl 0 rfl) ?_
  refine r_getp X hH (k := 12) (a := a) (j := 15) (b := (a + 3)) (A := 3) (B := 0) hk_a (by decide) rfl m_wi12 (by decide) in_7_30 rfl rfl rfl dX12_findVar_13 ?_
  refine lv_aload_n hx hb dX12_findVar_16 rfl (lv_at hl 0 rfl) ?_
  obtain ⟨v4, S3, e_S3, hm⟩ := m_call_of hm
  refine n_cVi X hH hS (k := 12) (c_X12_funNow (a := a) hT hk_a e_S3) mw_X12_funNow in_7_215 hk_a (by decide) rfl rfl rfl ⟨rfl, rfl⟩ ⟨Nat.le_of_ble_eq_true rfl, Nat.le_of_ble_eq_true rfl⟩ ⟨Nat.zero_le _, Nat.zero_le _⟩ hl.1 (Nat.le_of_ble_eq_true rfl) dX12_findVar_17 (fun H locs hH hS => ?_)
  obtain ⟨v6, S5, e_S5, hm⟩ := m_call_of hm
  refine n_cVi X hH hS (k := 12) (c_X12_varsOf (a := a) (o1 := (a + 3)) (n1 := 210) hT hk_a (m_lay_at hT hk_a (by decide) (i := 3) rfl) e_S5) mw_X12_varsOf in_6_224 hk_a (by decide) rfl rfl rfl ⟨rfl, rfl⟩ ⟨Nat.le_of_ble_eq_true rfl, Nat.le_of_ble_eq_true rfl⟩ ⟨Nat.zero_le _, Nat.zero_le _⟩ hl.1 (Nat.le_of_ble_eq_true rfl) dX12_findVar_20 (fun H locs hH hS => ?_)
  refine lv_aload_n hx hb dX12_findVar_23 rfl (lv_at hl 0 rfl) ?_
  refine r_getj X hH (k := 12) (a := a) (j := 12) hk_a (by decide) rfl m_wi12 (by decide) in_7_27 rfl rfl dX12_findVar_24 ?_
  obtain ⟨v8, S7, e_S7, hm⟩ := m_call_of hm
  refine n_cSi X hH hS (c_X12_findIn (o0 := (a + 10)) (n0 := 135) hT (m_lay_at hT hk_a (by decide) (i := 10) rfl) e_S7) mw_X12_findIn in_7_227 rfl ⟨rfl, rfl⟩ ⟨Nat.le_of_ble_eq_true rfl, Nat.le_of_ble_eq_true rfl⟩ ⟨Nat.zero_le _, Nat.zero_le _⟩ hl.1 (Nat.le_of_ble_eq_true rfl) dX12_findVar_27 (fun H locs hH hS => ?_)
  exact r_iret X hr hH hS hm dX12_findVar_30
def rm_X12_readParameter : Room := { frames := 2, cells := 0, slots := 0, locals := 45 }
def f_X12_readParameter (a : Nat) (S : m_M)  : Option (Int32 × m_M) :=
    m_call (f_X12_funNow a S) fun v2 S1 =>
    m_call (f_X12_findVar a S1) fun v4 S3 =>
    if v4 = (-1 : Int32) then (
    (m_ldi S3 (a + 3) 210 ((3 : Int32) + v2)).bind fun v6 =>
    if v6 = (3 : Int32) then (
    m_call (f_X12_bad a S3 (4 : Int32)) fun v14 S13 =>
    if v14 = 0 ∨ v14 = 1 then some (v14, S13) else none) else (
    (m_ldi S3 (a + 3) 210 ((3 : Int32) + v2)).bind fun v8 =>
    (m_stj S3 (a + 10) 135 (((27 : Int32) * v2) + v8) (m_rj S3 a 12)).bind fun S9 =>
    (m_ldi S9 (a + 3) 210 ((3 : Int32) + v2)).bind fun v10 =>
    (m_sti S9 (a + 3) 210 ((3 : Int32) + v2) (v10 + (1 : Int32))).bind fun S11 =>
    m_cal0 (f_X12_go a S11) fun S12 =>
    if (1 : Int32) = 0 ∨ (1 : Int32) = 1 then some ((1 : Int32), S12) else none)) else (
    m_call (f_X12_bad a S3 (3 : Int32)) fun v16 S15 =>
    if v16 = 0 ∨ v16 = 1 then some (v16, S15) else none)
set_option maxHeartbeats 4000000 in
set_option maxRecDepth 100000 in
theorem c_X12_readParameter {l : Launch} {G : m_G} {nx : Nat} {κ : Nat → Nat} {a : Nat} {S : m_M}  {res : (Int32 × m_M)} (hT : m_Str κ) (hk_a : κ a = 13) (hm : f_X12_readParameter a S = some res) : m_Ci l yX12_readParameter cX12_readParameter 2 (some .boolean) rm_X12_readParameter G nx κ [.ref a] S res := by
  refine m_Ci.of (by decide) (Nat.le_of_ble_eq_true rfl) ?_
  intro p e s m args below meth c ls X hr hH hl
  have hx := X.1.1
  have hb := X.1.2.1
  have hS : m_S G s s.heap [] := va_S.rf
  have hl : lv_has ls 2 [(0, .ref a)] := hl
  rw [f_X12_readParameter] at hm
  refine lv_aload_n hx hb dX12_readParameter_0 rfl (lv_at hl 0 rfl) ?_
  obtain ⟨v2, S1, e_S1, hm⟩ := m_call_of hm
  refine n_cVi X hH hS (k := 12) (c_X12_funNow (a := a) hT hk_a e_S1) mw_X12_funNow in_7_215 hk_a (by decide) rfl rfl rfl ⟨rfl, rfl⟩ ⟨Nat.le_of_ble_eq_true rfl, Nat.le_of_ble_eq_true rfl⟩ ⟨Nat.zero_le _, Nat.zero_le _⟩ hl.1 (Nat.le_of_ble_eq_true rfl) dX12_readParameter_1 (fun H locs hH hS => ?_)
  refine lv_istore_n (lv' := [(1, .int v2), (0, .ref a)]) hx hb dX12_readParameter_4 rfl hl (by decide) rfl (fun ls hl => ?_)
  refine lv_aload_n hx hb dX12_readParameter_5 rfl (lv_at hl 1 rfl) ?_
  obtain ⟨v4, S3, e_S3, hm⟩ := m_call_of hm
  refine n_cVi X hH hS (k := 12) (c_X12_findVar (a := a) hT hk_a e_S3) mw_X12_findVar in_7_234 hk_a (by decide) rfl rfl rfl ⟨rfl, rfl⟩ ⟨Nat.le_of_ble_eq_true rfl, Nat.le_of_ble_eq_true rfl⟩ ⟨Nat.zero_le _, Nat.zero_le _⟩ hl.1 (Nat.le_of_ble_eq_true rfl) dX12_readParameter_6 (fun H locs hH hS => ?_)
  refine lv_iconst (v := (-1 : Int32)) hx hb dX12_readParameter_9 (by decide) ?_
  refine lv_icmp_eq (tgt := 19) hx hb dX12_readParameter_10 (by decide) (fun c5 => ?_) (fun c5 => ?_)
  · have hm := m_ite_t hm c5
    refine lv_aload_n hx hb dX12_readParameter_19 rfl (lv_at hl 1 rfl) ?_
    refine r_getp X hH (k := 12) (a := a) (j := 15) (b := (a + 3)) (A := 3) (B := 0) hk_a (by decide) rfl m_wi12 (by decide) in_7_30 rfl rfl rfl dX12_readParameter_20 ?_
    refine lv_iconst (v := (3 : Int32)) hx hb dX12_readParameter_23 (by decide) ?_
    refine lv_iload_n hx hb dX12_readParameter_24 rfl (lv_at hl 0 rfl) ?_
    refine lv_iadd hx hb dX12_readParameter_25 ?_
    obtain ⟨v6, h_v6, e_v6, hm⟩ := n_ldi hm
    refine n_iald X hH (n := 210) (m_lay_at hT hk_a (by decide) (i := 3) rfl) h_v6 e_v6 dX12_readParameter_26 ?_
    refine lv_iconst (v := (3 : Int32)) hx hb dX12_readParameter_27 (by decide) ?_
    refine lv_icmp_ne (tgt := 37) hx hb dX12_readParameter_28 (by decide) (fun c7 => ?_) (fun c7 => ?_)
    · have hm := m_ite_f hm c7
      refine lv_aload_n hx hb dX12_readParameter_37 rfl (lv_at hl 1 rfl) ?_
      refine r_getp X hH (k := 12) (a := a) (j := 22) (b := (a + 10)) (A := 10) (B := 0) hk_a (by decide) rfl m_wi12 (by decide) in_7_37 rfl rfl rfl dX12_readParameter_38 ?_
      refine lv_bipush (v := (27 : Int32)) hx hb dX12_readParameter_41 (by decide) ?_
      refine lv_iload_n hx hb dX12_readParameter_43 rfl (lv_at hl 0 rfl) ?_
      refine lv_imul hx hb dX12_readParameter_44 ?_
      refine lv_aload_n hx hb dX12_readParameter_45 rfl (lv_at hl 1 rfl) ?_
      refine r_getp X hH (k := 12) (a := a) (j := 15) (b := (a + 3)) (A := 3) (B := 0) hk_a (by decide) rfl m_wi12 (by decide) in_7_30 rfl rfl rfl dX12_readParameter_46 ?_
      refine lv_iconst (v := (3 : Int32)) hx hb dX12_readParameter_49 (by decide) ?_
      refine lv_iload_n hx hb dX12_readParameter_50 rfl (lv_at hl 0 rfl) ?_
      refine lv_iadd hx hb dX12_readParameter_51 ?_
      obtain ⟨v8, h_v8, e_v8, hm⟩ := n_ldi hm
      refine n_iald X hH (n := 210) (m_lay_at hT hk_a (by decide) (i := 3) rfl) h_v8 e_v8 dX12_readParameter_52 ?_
      refine lv_iadd hx hb dX12_readParameter_53 ?_
      refine lv_aload_n hx hb dX12_readParameter_54 rfl (lv_at hl 1 rfl) ?_
      refine r_getj X hH (k := 12) (a := a) (j := 12) hk_a (by decide) rfl m_wi12 (by decide) in_7_27 rfl rfl dX12_readParameter_55 ?_
      obtain ⟨S9, h_S9, e_S9, hm⟩ := n_stj hm
      refine n_last X hH hS (n := 135) (m_lay_at hT hk_a (by decide) (i := 10) rfl) h_S9 e_S9 dX12_readParameter_58 (fun H locs hH hS => ?_)
      refine lv_aload_n hx hb dX12_readParameter_59 rfl (lv_at hl 1 rfl) ?_
      refine r_getp X hH (k := 12) (a := a) (j := 15) (b := (a + 3)) (A := 3) (B := 0) hk_a (by decide) rfl m_wi12 (by decide) in_7_30 rfl rfl rfl dX12_readParameter_60 ?_
      refine lv_iconst (v := (3 : Int32)) hx hb dX12_readParameter_63 (by decide) ?_
      refine lv_iload_n hx hb dX12_readParameter_64 rfl (lv_at hl 0 rfl) ?_
      refine lv_iadd hx hb dX12_readParameter_65 ?_
      refine lv_dup2_11 hx hb dX12_readParameter_66 rfl rfl ?_
      obtain ⟨v10, h_v10, e_v10, hm⟩ := n_ldi hm
      refine n_iald X hH (n := 210) (m_lay_at hT hk_a (by decide) (i := 3) rfl) h_v10 e_v10 dX12_readParameter_67 ?_
      refine lv_iconst (v := (1 : Int32)) hx hb dX12_readParameter_68 (by decide) ?_
      refine lv_iadd hx hb dX12_readParameter_69 ?_
      obtain ⟨S11, h_S11, e_S11, hm⟩ := n_sti hm
      refine n_iast X hH hS (n := 210) (m_lay_at hT hk_a (by decide) (i := 3) rfl) h_S11 e_S11 dX12_readParameter_70 (fun H locs hH hS => ?_)
      refine lv_aload_n hx hb dX12_readParameter_71 rfl (lv_at hl 1 rfl) ?_
      obtain ⟨S12, e_S12, hm⟩ := m_cal0_of hm
      refine r_cVv X hH hS (k := 12) (c_X12_go (a := a) hT hk_a e_S12) mw_X12_go in_7_181 hk_a (by decide) rfl rfl rfl ⟨rfl, rfl⟩ ⟨Nat.le_of_ble_eq_true rfl, Nat.le_of_ble_eq_true rfl⟩ ⟨Nat.zero_le _, Nat.zero_le _⟩ hl.1 (Nat.le_of_ble_eq_true rfl) dX12_readParameter_72 (fun H locs hH hS => ?_)
      refine lv_iconst (v := (1 : Int32)) hx hb dX12_readParameter_75 (by decide) ?_
      exact r_zret X hr hH hS hm dX12_readParameter_76
    · have hm := m_ite_t hm c7
      refine lv_aload_n hx hb dX12_readParameter_31 rfl (lv_at hl 1 rfl) ?_
      refine lv_iconst (v := (4 : Int32)) hx hb dX12_readParameter_32 (by decide) ?_
      obtain ⟨v14, S13, e_S13, hm⟩ := m_call_of hm
      refine n_cVi X hH hS (k := 12) (c_X12_bad (a := a) hT hk_a e_S13) mw_X12_bad in_7_219 hk_a (by decide) rfl rfl rfl ⟨rfl, rfl⟩ ⟨Nat.le_of_ble_eq_true rfl, Nat.le_of_ble_eq_true rfl⟩ ⟨Nat.zero_le _, Nat.zero_le _⟩ hl.1 (Nat.le_of_ble_eq_true rfl) dX12_readParameter_33 (fun H locs hH hS => ?_)
      exact r_zret X hr hH hS hm dX12_readParameter_36
  · have hm := m_ite_f hm c5
    refine lv_aload_n hx hb dX12_readParameter_13 rfl (lv_at hl 1 rfl) ?_
    refine lv_iconst (v := (3 : Int32)) hx hb dX12_readParameter_14 (by decide) ?_
    obtain ⟨v16, S15, e_S15, hm⟩ := m_call_of hm
    refine n_cVi X hH hS (k := 12) (c_X12_bad (a := a) hT hk_a e_S15) mw_X12_bad in_7_219 hk_a (by decide) rfl rfl rfl ⟨rfl, rfl⟩ ⟨Nat.le_of_ble_eq_true rfl, Nat.le_of_ble_eq_true rfl⟩ ⟨Nat.zero_le _, Nat.zero_le _⟩ hl.1 (Nat.le_of_ble_eq_true rfl) dX12_readParameter_15 (fun H locs hH hS => ?_)
    exact r_zret X hr hH hS hm dX12_readParameter_18
def rm_X12_isBare : Room := { frames := 1, cells := 0, slots := 0, locals := 20 }
def b_X12_isBare_29 (a : Nat)  (S : m_M) (t0 : Int32) : Option (Int32 × m_M) :=
    if t0 = 0 ∨ t0 = 1 then some (t0, S) else none
set_option maxHeartbeats 4000000 in
set_option maxRecDepth 100000 in
theorem k_X12_isBare_29 {p : Program} {l : Launch} {e : Env} {s : State} {m : MethodId} {args : Array Value} {below : List Frame} {meth : Method} {c : Code} {G : m_G} {nx : Nat} {κ : Nat → Nat} {res : (Int32 × m_M)} {a : Nat} (X : m_Cx p s m args meth c cX12_isBare 1 RX12 G) (hr : meth.sig.returnType = (some .boolean)) (hT : m_Str κ) (hk_a : κ a = 13)  : ∀ (S : m_M) (t0 : Int32) (H : Heap) (locs : List Loc) (ls : Array Slot), m_H G nx κ S H → m_S G s H locs → lv_has ls 1 [] → b_X12_isBare_29 a S t0 = some res → W p l e rm_X12_isBare s m args below meth c H locs 0 0 (m_Qi below args s G nx κ res) (F0 m 29 ls [.int t0]) := by
  have hx := X.1.1
  have hb := X.1.2.1
  intro S t0 H locs ls hH hS hl hm
  rw [b_X12_isBare_29] at hm
  exact r_zret X hr hH hS hm dX12_isBare_29
def b_X12_isBare_28 (a : Nat)  (S : m_M)  : Option (Int32 × m_M) :=
    b_X12_isBare_29 a S (0 : Int32)
set_option maxHeartbeats 4000000 in
set_option maxRecDepth 100000 in
theorem k_X12_isBare_28 {p : Program} {l : Launch} {e : Env} {s : State} {m : MethodId} {args : Array Value} {below : List Frame} {meth : Method} {c : Code} {G : m_G} {nx : Nat} {κ : Nat → Nat} {res : (Int32 × m_M)} {a : Nat} (X : m_Cx p s m args meth c cX12_isBare 1 RX12 G) (hr : meth.sig.returnType = (some .boolean)) (hT : m_Str κ) (hk_a : κ a = 13)  : ∀ (S : m_M)  (H : Heap) (locs : List Loc) (ls : Array Slot), m_H G nx κ S H → m_S G s H locs → lv_has ls 1 [] → b_X12_isBare_28 a S  = some res → W p l e rm_X12_isBare s m args below meth c H locs 0 0 (m_Qi below args s G nx κ res) (F0 m 28 ls []) := by
  have hx := X.1.1
  have hb := X.1.2.1
  intro S H locs ls hH hS hl hm
  rw [b_X12_isBare_28] at hm
  refine lv_iconst (v := (0 : Int32)) hx hb dX12_isBare_28 (by decide) ?_
  exact k_X12_isBare_29 (a := a) X hr hT hk_a   S (0 : Int32) _ _ _ hH hS hl hm
def f_X12_isBare (a : Nat) (S : m_M)  : Option (Int32 × m_M) :=
    (m_ldi S (a + 3) 210 (0 : Int32)).bind fun v1 =>
    if v1 ≤ 0 then (
    b_X12_isBare_28 a S) else (
    m_call (f_X12_funNow a S) fun v4 S3 =>
    (m_ldi S3 (a + 3) 210 ((13 : Int32) + v4)).bind fun v5 =>
    if v5 = 0 then (
    b_X12_isBare_29 a S3 (1 : Int32)) else (
    b_X12_isBare_28 a S3))
set_option maxHeartbeats 4000000 in
set_option maxRecDepth 100000 in
theorem c_X12_isBare {l : Launch} {G : m_G} {nx : Nat} {κ : Nat → Nat} {a : Nat} {S : m_M}  {res : (Int32 × m_M)} (hT : m_Str κ) (hk_a : κ a = 13) (hm : f_X12_isBare a S = some res) : m_Ci l yX12_isBare cX12_isBare 1 (some .boolean) rm_X12_isBare G nx κ [.ref a] S res := by
  refine m_Ci.of (by decide) (Nat.le_of_ble_eq_true rfl) ?_
  intro p e s m args below meth c ls X hr hH hl
  have hx := X.1.1
  have hb := X.1.2.1
  have hS : m_S G s s.heap [] := va_S.rf
  have hl : lv_has ls 1 [(0, .ref a)] := hl
  rw [f_X12_isBare] at hm
  refine lv_aload_n hx hb dX12_isBare_0 rfl (lv_at hl 0 rfl) ?_
  refine r_getp X hH (k := 12) (a := a) (j := 15) (b := (a + 3)) (A := 3) (B := 0) hk_a (by decide) rfl m_wi12 (by decide) in_7_30 rfl rfl rfl dX12_isBare_1 ?_
  refine lv_iconst (v := (0 : Int32)) hx hb dX12_isBare_4 (by decide) ?_
  obtain ⟨v1, h_v1, e_v1, hm⟩ := n_ldi hm
  refine n_iald X hH (n := 210) (m_lay_at hT hk_a (by decide) (i := 3) rfl) h_v1 e_v1 dX12_isBare_5 ?_
  refine lv_if_le (tgt := 28) hx hb dX12_isBare_6 (by decide) (fun c2 => ?_) (fun c2 => ?_)
  · have hm := m_ite_t hm c2
    exact k_X12_isBare_28 (a := a) X hr hT hk_a   S _ _ _ hH hS (lv_sub hl [] rfl) hm
  · have hm := m_ite_f hm c2
    refine lv_aload_n hx hb dX12_isBare_9 rfl (lv_at hl 0 rfl) ?_
    refine r_getp X hH (k := 12) (a := a) (j := 15) (b := (a + 3)) (A := 3) (B := 0) hk_a (by decide) rfl m_wi12 (by decide) in_7_30 rfl rfl rfl dX12_isBare_10 ?_
    refine lv_bipush (v := (13 : Int32)) hx hb dX12_isBare_13 (by decide) ?_
    refine lv_aload_n hx hb dX12_isBare_15 rfl (lv_at hl 0 rfl) ?_
    obtain ⟨v4, S3, e_S3, hm⟩ := m_call_of hm
    refine n_cVi X hH hS (k := 12) (c_X12_funNow (a := a) hT hk_a e_S3) mw_X12_funNow in_7_215 hk_a (by decide) rfl rfl rfl ⟨rfl, rfl⟩ ⟨Nat.le_of_ble_eq_true rfl, Nat.le_of_ble_eq_true rfl⟩ ⟨Nat.zero_le _, Nat.zero_le _⟩ hl.1 (Nat.le_of_ble_eq_true rfl) dX12_isBare_16 (fun H locs hH hS => ?_)
    refine lv_iadd hx hb dX12_isBare_19 ?_
    obtain ⟨v5, h_v5, e_v5, hm⟩ := n_ldi hm
    refine n_iald X hH (n := 210) (m_lay_at hT hk_a (by decide) (i := 3) rfl) h_v5 e_v5 dX12_isBare_20 ?_
    refine lv_if_ne (tgt := 28) hx hb dX12_isBare_21 (by decide) (fun c6 => ?_) (fun c6 => ?_)
    · have hm := m_ite_f hm c6
      exact k_X12_isBare_28 (a := a) X hr hT hk_a   S3 _ _ _ hH hS (lv_sub hl [] rfl) hm
    · have hm := m_ite_t hm c6
      refine lv_iconst (v := (1 : Int32)) hx hb dX12_isBare_24 (by decide) ?_
      refine lv_goto (tgt := 29) hx hb dX12_isBare_25 (by decide) ?_
      exact k_X12_isBare_29 (a := a) X hr hT hk_a   S3 (1 : Int32) _ _ _ hH hS (lv_sub hl [] rfl) hm
