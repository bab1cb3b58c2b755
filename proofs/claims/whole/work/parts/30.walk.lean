def rm_X0_clear : Room := { frames := 0, cells := 0, slots := 0, locals := 0 }
def f_X0_clear (a : Nat) (S : m_M)  : Option m_M :=
    m_let (m_si S a 2 (0 : Int32)) fun S1 =>
    some S1
set_option maxHeartbeats 4000000 in
set_option maxRecDepth 100000 in
theorem c_X0_clear {l : Launch} {G : m_G} {nx : Nat} {κ : Nat → Nat} {a : Nat} {S : m_M}  {res : m_M} (hT : m_Str κ) (hk_a : κ a = 1) (hm : f_X0_clear a S = some res) : m_Cv l yX0_clear cX0_clear 1 rm_X0_clear G nx κ [.ref a] S res := by
  refine m_Cv.of (by decide) (Nat.le_of_ble_eq_true rfl) ?_
  intro p e s m args below meth c ls X hr hH hl
  have hx := X.1.1
  have hb := X.1.2.1
  have hS : m_S G s s.heap [] := va_S.rf
  have hl : lv_has ls 1 [(0, .ref a)] := hl
  rw [f_X0_clear] at hm
  refine lv_aload_n hx hb dX0_clear_0 rfl (lv_at hl 0 rfl) ?_
  refine lv_iconst (v := (0 : Int32)) hx hb dX0_clear_1 (by decide) ?_
  obtain ⟨S1, e_S1, hm⟩ := m_let_of hm
  refine n_puti X hH hS tyX0 (k := 0) (a := a) (j := 2) hk_a (by decide) rfl m_wi0 tyX0_ok nmX0 (by decide) in_3_64 rfl rfl rfl ⟨rfl, rfl⟩ e_S1 dX0_clear_2 (fun H locs hH hS => ?_)
  exact r_vret X hr hH hS hm dX0_clear_5
def rm_J7_fill_53178 : Room := { frames := 0, cells := 0, slots := 0, locals := 0 }
def b_J7_fill_53178_5 (o0 n0 : Nat)  : Nat → m_M → Int32 → Int32 → Int32 → Option m_M
  | 0, _, _, _, _ => none
  | n + 1, S, l1, l2, l3 =>
    if l3 ≤ l2 then (
    some S) else (
    (m_sti S o0 n0 l2 l1).bind fun S2 =>
    m_let (l2 + (1 : Int32)) fun v3 =>
    b_J7_fill_53178_5 o0 n0 n S2 l1 v3 l3)
set_option maxHeartbeats 4000000 in
set_option maxRecDepth 100000 in
theorem k_J7_fill_53178_5 {p : Program} {l : Launch} {e : Env} {s : State} {m : MethodId} {args : Array Value} {below : List Frame} {meth : Method} {c : Code} {G : m_G} {nx : Nat} {κ : Nat → Nat} {res : m_M} {o0 n0 : Nat} (X : m_Cx p s m args meth c cJ7_fill_53178 4 RJ7 G) (hr : meth.sig.returnType = none) (hT : m_Str κ) (hk_o0 : κ o0 = m_ac 1 n0)  (n : Nat) : ∀ (S : m_M) (l1 : Int32) (l2 : Int32) (l3 : Int32) (H : Heap) (locs : List Loc) (ls : Array Slot), m_H G nx κ S H → m_S G s H locs → lv_has ls 4 [(0, .ref o0), (1, .int l1), (2, .int l2), (3, .int l3)] → b_J7_fill_53178_5 o0 n0 n S l1 l2 l3 = some res → W p l e rm_J7_fill_53178 s m args below meth c H locs 0 0 (m_Qv below args s G nx κ res) (F0 m 5 ls []) := by
  have hx := X.1.1
  have hb := X.1.2.1
  induction n with
  | zero => intro S l1 l2 l3 H locs ls hH hS hl hm; have hm : (none : Option m_M) = some res := hm; cases hm
  | succ n ih =>
    intro S l1 l2 l3 H locs ls hH hS hl hm
    rw [b_J7_fill_53178_5] at hm
    refine lv_iload_n hx hb dJ7_fill_53178_5 rfl (lv_at hl 2 rfl) ?_
    refine lv_iload_n hx hb dJ7_fill_53178_6 rfl (lv_at hl 3 rfl) ?_
    refine lv_icmp_ge (tgt := 20) hx hb dJ7_fill_53178_7 (by decide) (fun c1 => ?_) (fun c1 => ?_)
    · have hm := m_ite_t hm c1
      exact r_vret X hr hH hS hm dJ7_fill_53178_20
    · have hm := m_ite_f hm c1
      refine lv_aload_n hx hb dJ7_fill_53178_10 rfl (lv_at hl 0 rfl) ?_
      refine lv_iload_n hx hb dJ7_fill_53178_11 rfl (lv_at hl 2 rfl) ?_
      refine lv_iload_n hx hb dJ7_fill_53178_12 rfl (lv_at hl 1 rfl) ?_
      obtain ⟨S2, h_S2, e_S2, hm⟩ := n_sti hm
      refine n_iast X hH hS (n := n0) hk_o0 h_S2 e_S2 dJ7_fill_53178_13 (fun H locs hH hS => ?_)
      obtain ⟨v3, e_v3, hm⟩ := m_let_of hm
      refine lv_iinc (v := v3) (lv' := [(2, .int v3), (0, .ref o0), (1, .int l1), (3, .int l3)]) hx hb dJ7_fill_53178_14 hl (k := 2) rfl (by rw [← e_v3]; rfl) (by decide) rfl (fun ls hl => ?_)
      refine lv_goto (tgt := 5) hx hb dJ7_fill_53178_17 (by decide) ?_
      exact ih S2 l1 v3 l3 _ _ _ hH hS (lv_sub hl [1, 2, 0, 3] rfl) hm
def f_J7_fill_53178 (o0 n0 : Nat) (S : m_M) (i1 : Int32) : Option m_M :=
    m_let (Int32.ofNat n0) fun v1 =>
    b_J7_fill_53178_5 o0 n0 m_fu S i1 (0 : Int32) v1
set_option maxHeartbeats 4000000 in
set_option maxRecDepth 100000 in
theorem c_J7_fill_53178 {l : Launch} {G : m_G} {nx : Nat} {κ : Nat → Nat} {o0 n0 : Nat} {S : m_M} {i1 : Int32} {res : m_M} (hT : m_Str κ) (hk_o0 : κ o0 = m_ac 1 n0) (hm : f_J7_fill_53178 o0 n0 S i1 = some res) : m_Cv l yJ7_fill_53178 cJ7_fill_53178 4 rm_J7_fill_53178 G nx κ [.ref o0, .int i1] S res := by
  refine m_Cv.of (by decide) (Nat.le_of_ble_eq_true rfl) ?_
  intro p e s m args below meth c ls X hr hH hl
  have hx := X.1.1
  have hb := X.1.2.1
  have hS : m_S G s s.heap [] := va_S.rf
  have hl : lv_has ls 4 [(0, .ref o0), (1, .int i1)] := hl
  rw [f_J7_fill_53178] at hm
  refine lv_iconst (v := (0 : Int32)) hx hb dJ7_fill_53178_0 (by decide) ?_
  refine lv_istore_n (lv' := [(2, .int (0 : Int32)), (0, .ref o0), (1, .int i1)]) hx hb dJ7_fill_53178_1 rfl hl (by decide) rfl (fun ls hl => ?_)
  refine lv_aload_n hx hb dJ7_fill_53178_2 rfl (lv_at hl 1 rfl) ?_
  refine r_alen X hH (t := 1) (n := n0) (v := (Int32.ofNat n0)) hk_o0 (by decide) rfl dJ7_fill_53178_3 ?_
  obtain ⟨v1, e_v1, hm⟩ := m_let_of hm
  refine n_topi e_v1 ?_
  refine lv_istore_n (lv' := [(3, .int v1), (2, .int (0 : Int32)), (0, .ref o0), (1, .int i1)]) hx hb dJ7_fill_53178_4 rfl hl (by decide) rfl (fun ls hl => ?_)
  exact k_J7_fill_53178_5 (o0 := o0) (n0 := n0) X hr hT hk_o0  m_fu S i1 (0 : Int32) v1 _ _ _ hH hS (lv_sub hl [2, 3, 1, 0] rfl) hm
def rm_X2_copyFrom : Room := { frames := 1, cells := 0, slots := 0, locals := 60 }
def f_X2_copyFrom (a o1 : Nat) (S : m_M)  : Option m_M :=
    m_let (m_si S a 0 (m_ri S o1 0)) fun S1 =>
    m_let (m_si S1 a 1 (m_ri S1 o1 1)) fun S2 =>
    m_let (m_si S2 a 2 (m_ri S2 o1 2)) fun S3 =>
    m_let (m_si S3 a 3 (m_ri S3 o1 3)) fun S4 =>
    m_let (m_si S4 a 4 (m_ri S4 o1 4)) fun S5 =>
    m_let (m_si S5 a 5 (m_ri S5 o1 5)) fun S6 =>
    m_let (m_si S6 a 6 (m_ri S6 o1 6)) fun S7 =>
    m_let (m_si S7 a 7 (m_ri S7 o1 7)) fun S8 =>
    m_let (m_si S8 a 8 (m_ri S8 o1 8)) fun S9 =>
    m_let (m_si S9 a 9 (m_ri S9 o1 9)) fun S10 =>
    m_let (m_si S10 a 10 (m_ri S10 o1 10)) fun S11 =>
    if (m_ri S11 o1 11) = 0 ∨ (m_ri S11 o1 11) = 1 then
    (m_let (m_si S11 a 11 (m_ri S11 o1 11)) fun S12 =>
    (m_cpi S12 (o1 + 1) 13 (a + 1) 13 (0 : Int32) (0 : Int32) (13 : Int32)).bind fun S14 =>
    (m_cpi S14 (o1 + 2) 13 (a + 2) 13 (0 : Int32) (0 : Int32) (13 : Int32)).bind fun S15 =>
    (m_cpi S15 (o1 + 3) 351 (a + 3) 351 (0 : Int32) (0 : Int32) (351 : Int32)).bind fun S16 =>
    (m_cpi S16 (o1 + 4) 351 (a + 4) 351 (0 : Int32) (0 : Int32) (351 : Int32)).bind fun S17 =>
    (m_cpi S17 (o1 + 5) 312 (a + 5) 312 (0 : Int32) (0 : Int32) (312 : Int32)).bind fun S18 =>
    (m_cpi S18 (o1 + 6) 200 (a + 6) 200 (0 : Int32) (0 : Int32) (200 : Int32)).bind fun S19 =>
    (m_cpi S19 (o1 + 7) 400 (a + 7) 400 (0 : Int32) (0 : Int32) (400 : Int32)).bind fun S20 =>
    (m_cpi S20 (o1 + 8) 400 (a + 8) 400 (0 : Int32) (0 : Int32) (400 : Int32)).bind fun S21 =>
    some S21) else none
set_option maxHeartbeats 4000000 in
set_option maxRecDepth 100000 in
theorem c_X2_copyFrom {l : Launch} {G : m_G} {nx : Nat} {κ : Nat → Nat} {a o1 : Nat} {S : m_M}  {res : m_M} (hT : m_Str κ) (hk_a : κ a = 3) (hk_o1 : κ o1 = 3) (hm : f_X2_copyFrom a o1 S = some res) : m_Cv l yX2_copyFrom cX2_copyFrom 2 rm_X2_copyFrom G nx κ [.ref a, .ref o1] S res := by
  refine m_Cv.of (by decide) (Nat.le_of_ble_eq_true rfl) ?_
  intro p e s m args below meth c ls X hr hH hl
  have hx := X.1.1
  have hb := X.1.2.1
  have hS : m_S G s s.heap [] := va_S.rf
  have hl : lv_has ls 2 [(0, .ref a), (1, .ref o1)] := hl
  rw [f_X2_copyFrom] at hm
  refine lv_aload_n hx hb dX2_copyFrom_0 rfl (lv_at hl 0 rfl) ?_
  refine lv_aload_n hx hb dX2_copyFrom_1 rfl (lv_at hl 1 rfl) ?_
  refine r_geti X hH (k := 2) (a := o1) (j := 0) hk_o1 (by decide) rfl m_wi2 (by decide) in_2_176 rfl rfl dX2_copyFrom_2 ?_
  obtain ⟨S1, e_S1, hm⟩ := m_let_of hm
  refine n_puti X hH hS tyX2 (k := 2) (a := a) (j := 0) hk_a (by decide) rfl m_wi2 tyX2_ok nmX2 (by decide) in_2_176 rfl rfl rfl ⟨rfl, rfl⟩ e_S1 dX2_copyFrom_5 (fun H locs hH hS => ?_)
  refine lv_aload_n hx hb dX2_copyFrom_8 rfl (lv_at hl 0 rfl) ?_
  refine lv_aload_n hx hb dX2_copyFrom_9 rfl (lv_at hl 1 rfl) ?_
  refine r_geti X hH (k := 2) (a := o1) (j := 1) hk_o1 (by decide) rfl m_wi2 (by decide) in_2_178 rfl rfl dX2_copyFrom_10 ?_
  obtain ⟨S2, e_S2, hm⟩ := m_let_of hm
  refine n_puti X hH hS tyX2 (k := 2) (a := a) (j := 1) hk_a (by decide) rfl m_wi2 tyX2_ok nmX2 (by decide) in_2_178 rfl rfl rfl ⟨rfl, rfl⟩ e_S2 dX2_copyFrom_13 (fun H locs hH hS => ?_)
  refine lv_aload_n hx hb dX2_copyFrom_16 rfl (lv_at hl 0 rfl) ?_
  refine lv_aload_n hx hb dX2_copyFrom_17 rfl (lv_at hl 1 rfl) ?_
  refine r_geti X hH (k := 2) (a := o1) (j := 2) hk_o1 (by decide) rfl m_wi2 (by decide) in_2_180 rfl rfl dX2_copyFrom_18 ?_
  obtain ⟨S3, e_S3, hm⟩ := m_let_of hm
  refine n_puti X hH hS tyX2 (k := 2) (a := a) (j := 2) hk_a (by decide) rfl m_wi2 tyX2_ok nmX2 (by decide) in_2_180 rfl rfl rfl ⟨rfl, rfl⟩ e_S3 dX2_copyFrom_21 (fun H locs hH hS => ?_)
  refine lv_aload_n hx hb dX2_copyFrom_24 rfl (lv_at hl 0 rfl) ?_
  refine lv_aload_n hx hb dX2_copyFrom_25 rfl (lv_at hl 1 rfl) ?_
  refine r_geti X hH (k := 2) (a := o1) (j := 3) hk_o1 (by decide) rfl m_wi2 (by decide) in_2_183 rfl rfl dX2_copyFrom_26 ?_
  obtain ⟨S4, e_S4, hm⟩ := m_let_of hm
  refine n_puti X hH hS tyX2 (k := 2) (a := a) (j := 3) hk_a (by decide) rfl m_wi2 tyX2_ok nmX2 (by decide) in_2_183 rfl rfl rfl ⟨rfl, rfl⟩ e_S4 dX2_copyFrom_29 (fun H locs hH hS => ?_)
  refine lv_aload_n hx hb dX2_copyFrom_32 rfl (lv_at hl 0 rfl) ?_
  refine lv_aload_n hx hb dX2_copyFrom_33 rfl (lv_at hl 1 rfl) ?_
  refine r_geti X hH (k := 2) (a := o1) (j := 4) hk_o1 (by decide) rfl m_wi2 (by decide) in_2_185 rfl rfl dX2_copyFrom_34 ?_
  obtain ⟨S5, e_S5, hm⟩ := m_let_of hm
  refine n_puti X hH hS tyX2 (k := 2) (a := a) (j := 4) hk_a (by decide) rfl m_wi2 tyX2_ok nmX2 (by decide) in_2_185 rfl rfl rfl ⟨rfl, rfl⟩ e_S5 dX2_copyFrom_37 (fun H locs hH hS => ?_)
  refine lv_aload_n hx hb dX2_copyFrom_40 rfl (lv_at hl 0 rfl) ?_
  refine lv_aload_n hx hb dX2_copyFrom_41 rfl (lv_at hl 1 rfl) ?_
  refine r_geti X hH (k := 2) (a := o1) (j := 5) hk_o1 (by decide) rfl m_wi2 (by decide) in_2_187 rfl rfl dX2_copyFrom_42 ?_
  obtain ⟨S6, e_S6, hm⟩ := m_let_of hm
  refine n_puti X hH hS tyX2 (k := 2) (a := a) (j := 5) hk_a (by decide) rfl m_wi2 tyX2_ok nmX2 (by decide) in_2_187 rfl rfl rfl ⟨rfl, rfl⟩ e_S6 dX2_copyFrom_45 (fun H locs hH hS => ?_)
  refine lv_aload_n hx hb dX2_copyFrom_48 rfl (lv_at hl 0 rfl) ?_
  refine lv_aload_n hx hb dX2_copyFrom_49 rfl (lv_at hl 1 rfl) ?_
  refine r_geti X hH (k := 2) (a := o1) (j := 6) hk_o1 (by decide) rfl m_wi2 (by decide) in_2_189 rfl rfl dX2_copyFrom_50 ?_
  obtain ⟨S7, e_S7, hm⟩ := m_let_of hm
  refine n_puti X hH hS tyX2 (k := 2) (a := a) (j := 6) hk_a (by decide) rfl m_wi2 tyX2_ok nmX2 (by decide) in_2_189 rfl rfl rfl ⟨rfl, rfl⟩ e_S7 dX2_copyFrom_53 (fun H locs hH hS => ?_)
  refine lv_aload_n hx hb dX2_copyFrom_56 rfl (lv_at hl 0 rfl) ?_
  refine lv_aload_n hx hb dX2_copyFrom_57 rfl (lv_at hl 1 rfl) ?_
  refine r_geti X hH (k := 2) (a := o1) (j := 7) hk_o1 (by decide) rfl m_wi2 (by decide) in_2_191 rfl rfl dX2_copyFrom_58 ?_
  obtain ⟨S8, e_S8, hm⟩ := m_let_of hm
  refine n_puti X hH hS tyX2 (k := 2) (a := a) (j := 7) hk_a (by decide) rfl m_wi2 tyX2_ok nmX2 (by decide) in_2_191 rfl rfl rfl ⟨rfl, rfl⟩ e_S8 dX2_copyFrom_61 (fun H locs hH hS => ?_)
  refine lv_aload_n hx hb dX2_copyFrom_64 rfl (lv_at hl 0 rfl) ?_
  refine lv_aload_n hx hb dX2_copyFrom_65 rfl (lv_at hl 1 rfl) ?_
  refine r_geti X hH (k := 2) (a := o1) (j := 8) hk_o1 (by decide) rfl m_wi2 (by decide) in_2_193 rfl rfl dX2_copyFrom_66 ?_
  obtain ⟨S9, e_S9, hm⟩ := m_let_of hm
  refine n_puti X hH hS tyX2 (k := 2) (a := a) (j := 8) hk_a (by decide) rfl m_wi2 tyX2_ok nmX2 (by decide) in_2_193 rfl rfl rfl ⟨rfl, rfl⟩ e_S9 dX2_copyFrom_69 (fun H locs hH hS => ?_)
  refine lv_aload_n hx hb dX2_copyFrom_72 rfl (lv_at hl 0 rfl) ?_
  refine lv_aload_n hx hb dX2_copyFrom_73 rfl (lv_at hl 1 rfl) ?_
  refine r_geti X hH (k := 2) (a := o1) (j := 9) hk_o1 (by decide) rfl m_wi2 (by decide) in_2_195 rfl rfl dX2_copyFrom_74 ?_
  obtain ⟨S10, e_S10, hm⟩ := m_let_of hm
  refine n_puti X hH hS tyX2 (k := 2) (a := a) (j := 9) hk_a (by decide) rfl m_wi2 tyX2_ok nmX2 (by decide) in_2_195 rfl rfl rfl ⟨rfl, rfl⟩ e_S10 dX2_copyFrom_77 (fun H locs hH hS => ?_)
  refine lv_aload_n hx hb dX2_copyFrom_80 rfl (lv_at hl 0 rfl) ?_
  refine lv_aload_n hx hb dX2_copyFrom_81 rfl (lv_at hl 1 rfl) ?_
  refine r_geti X hH (k := 2) (a := o1) (j := 10) hk_o1 (by decide) rfl m_wi2 (by decide) in_2_196 rfl rfl dX2_copyFrom_82 ?_
  obtain ⟨S11, e_S11, hm⟩ := m_let_of hm
  refine n_puti X hH hS tyX2 (k := 2) (a := a) (j := 10) hk_a (by decide) rfl m_wi2 tyX2_ok nmX2 (by decide) in_2_196 rfl rfl rfl ⟨rfl, rfl⟩ e_S11 dX2_copyFrom_85 (fun H locs hH hS => ?_)
  refine lv_aload_n hx hb dX2_copyFrom_88 rfl (lv_at hl 0 rfl) ?_
  refine lv_aload_n hx hb dX2_copyFrom_89 rfl (lv_at hl 1 rfl) ?_
  refine r_geti X hH (k := 2) (a := o1) (j := 11) hk_o1 (by decide) rfl m_wi2 (by decide) in_2_199 rfl rfl dX2_copyFrom_90 ?_
  obtain ⟨z13, hm⟩ := m_if_of hm
  obtain ⟨S12, e_S12, hm⟩ := m_let_of hm
  refine n_puti X hH hS tyX2 (k := 2) (a := a) (j := 11) hk_a (by decide) rfl m_wi2 tyX2_ok nmX2 (by decide) in_2_199 rfl rfl rfl (m_nz z13) e_S12 dX2_copyFrom_93 (fun H locs hH hS => ?_)
  refine lv_aload_n hx hb dX2_copyFrom_96 rfl (lv_at hl 1 rfl) ?_
  refine r_getp X hH (k := 2) (a := o1) (j := 12) (b := (o1 + 1)) (A := 1) (B := 0) hk_o1 (by decide) rfl m_wi2 (by decide) in_2_201 rfl rfl rfl dX2_copyFrom_97 ?_
  refine lv_iconst (v := (0 : Int32)) hx hb dX2_copyFrom_100 (by decide) ?_
  refine lv_aload_n hx hb dX2_copyFrom_101 rfl (lv_at hl 0 rfl) ?_
  refine r_getp X hH (k := 2) (a := a) (j := 12) (b := (a + 1)) (A := 1) (B := 0) hk_a (by decide) rfl m_wi2 (by decide) in_2_201 rfl rfl rfl dX2_copyFrom_102 ?_
  refine lv_iconst (v := (0 : Int32)) hx hb dX2_copyFrom_105 (by decide) ?_
  refine lv_aload_n hx hb dX2_copyFrom_106 rfl (lv_at hl 0 rfl) ?_
  refine r_getp X hH (k := 2) (a := a) (j := 12) (b := (a + 1)) (A := 1) (B := 0) hk_a (by decide) rfl m_wi2 (by decide) in_2_201 rfl rfl rfl dX2_copyFrom_107 ?_
  refine r_alen X hH (t := 1) (n := 13) (v := (13 : Int32)) (m_lay_at hT hk_a (by decide) (i := 1) rfl) (by decide) rfl dX2_copyFrom_110 ?_
  obtain ⟨S14, e_S14, hm⟩ := m_bind_of hm
  refine n_cpi X hH hS hl.1 (n0 := 13) (n1 := 13) (m_lay_at hT hk_o1 (by decide) (i := 1) rfl) (m_lay_at hT hk_a (by decide) (i := 1) rfl) e_S14 in_4_237 in_4_150 in_4_149 in_1_21 (Nat.le_of_ble_eq_true rfl) (Nat.le_of_ble_eq_true rfl) dX2_copyFrom_111 (fun H locs hH hS => ?_)
  refine lv_aload_n hx hb dX2_copyFrom_114 rfl (lv_at hl 1 rfl) ?_
  refine r_getp X hH (k := 2) (a := o1) (j := 13) (b := (o1 + 2)) (A := 2) (B := 0) hk_o1 (by decide) rfl m_wi2 (by decide) in_2_203 rfl rfl rfl dX2_copyFrom_115 ?_
  refine lv_iconst (v := (0 : Int32)) hx hb dX2_copyFrom_118 (by decide) ?_
  refine lv_aload_n hx hb dX2_copyFrom_119 rfl (lv_at hl 0 rfl) ?_
  refine r_getp X hH (k := 2) (a := a) (j := 13) (b := (a + 2)) (A := 2) (B := 0) hk_a (by decide) rfl m_wi2 (by decide) in_2_203 rfl rfl rfl dX2_copyFrom_120 ?_
  refine lv_iconst (v := (0 : Int32)) hx hb dX2_copyFrom_123 (by decide) ?_
  refine lv_aload_n hx hb dX2_copyFrom_124 rfl (lv_at hl 0 rfl) ?_
  refine r_getp X hH (k := 2) (a := a) (j := 13) (b := (a + 2)) (A := 2) (B := 0) hk_a (by decide) rfl m_wi2 (by decide) in_2_203 rfl rfl rfl dX2_copyFrom_125 ?_
  refine r_alen X hH (t := 1) (n := 13) (v := (13 : Int32)) (m_lay_at hT hk_a (by decide) (i := 2) rfl) (by decide) rfl dX2_copyFrom_128 ?_
  obtain ⟨S15, e_S15, hm⟩ := m_bind_of hm
  refine n_cpi X hH hS hl.1 (n0 := 13) (n1 := 13) (m_lay_at hT hk_o1 (by decide) (i := 2) rfl) (m_lay_at hT hk_a (by decide) (i := 2) rfl) e_S15 in_4_237 in_4_150 in_4_149 in_1_21 (Nat.le_of_ble_eq_true rfl) (Nat.le_of_ble_eq_true rfl) dX2_copyFrom_129 (fun H locs hH hS => ?_)
  refine lv_aload_n hx hb dX2_copyFrom_132 rfl (lv_at hl 1 rfl) ?_
  refine r_getp X hH (k := 2) (a := o1) (j := 14) (b := (o1 + 3)) (A := 3) (B := 0) hk_o1 (by decide) rfl m_wi2 (by decide) in_2_204 rfl rfl rfl dX2_copyFrom_133 ?_
  refine lv_iconst (v := (0 : Int32)) hx hb dX2_copyFrom_136 (by decide) ?_
  refine lv_aload_n hx hb dX2_copyFrom_137 rfl (lv_at hl 0 rfl) ?_
  refine r_getp X hH (k := 2) (a := a) (j := 14) (b := (a + 3)) (A := 3) (B := 0) hk_a (by decide) rfl m_wi2 (by decide) in_2_204 rfl rfl rfl dX2_copyFrom_138 ?_
  refine lv_iconst (v := (0 : Int32)) hx hb dX2_copyFrom_141 (by decide) ?_
  refine lv_aload_n hx hb dX2_copyFrom_142 rfl (lv_at hl 0 rfl) ?_
  refine r_getp X hH (k := 2) (a := a) (j := 14) (b := (a + 3)) (A := 3) (B := 0) hk_a (by decide) rfl m_wi2 (by decide) in_2_204 rfl rfl rfl dX2_copyFrom_143 ?_
  refine r_alen X hH (t := 1) (n := 351) (v := (351 : Int32)) (m_lay_at hT hk_a (by decide) (i := 3) rfl) (by decide) rfl dX2_copyFrom_146 ?_
  obtain ⟨S16, e_S16, hm⟩ := m_bind_of hm
  refine n_cpi X hH hS hl.1 (n0 := 351) (n1 := 351) (m_lay_at hT hk_o1 (by decide) (i := 3) rfl) (m_lay_at hT hk_a (by decide) (i := 3) rfl) e_S16 in_4_237 in_4_150 in_4_149 in_1_21 (Nat.le_of_ble_eq_true rfl) (Nat.le_of_ble_eq_true rfl) dX2_copyFrom_147 (fun H locs hH hS => ?_)
  refine lv_aload_n hx hb dX2_copyFrom_150 rfl (lv_at hl 1 rfl) ?_
  refine r_getp X hH (k := 2) (a := o1) (j := 15) (b := (o1 + 4)) (A := 4) (B := 0) hk_o1 (by decide) rfl m_wi2 (by decide) in_2_207 rfl rfl rfl dX2_copyFrom_151 ?_
  refine lv_iconst (v := (0 : Int32)) hx hb dX2_copyFrom_154 (by decide) ?_
  refine lv_aload_n hx hb dX2_copyFrom_155 rfl (lv_at hl 0 rfl) ?_
  refine r_getp X hH (k := 2) (a := a) (j := 15) (b := (a + 4)) (A := 4) (B := 0) hk_a (by decide) rfl m_wi2 (by decide) in_2_207 rfl rfl rfl dX2_copyFrom_156 ?_
  refine lv_iconst (v := (0 : Int32)) hx hb dX2_copyFrom_159 (by decide) ?_
  refine lv_aload_n hx hb dX2_copyFrom_160 rfl (lv_at hl 0 rfl) ?_
  refine r_getp X hH (k := 2) (a := a) (j := 15) (b := (a + 4)) (A := 4) (B := 0) hk_a (by decide) rfl m_wi2 (by decide) in_2_207 rfl rfl rfl dX2_copyFrom_161 ?_
  refine r_alen X hH (t := 1) (n := 351) (v := (351 : Int32)) (m_lay_at hT hk_a (by decide) (i := 4) rfl) (by decide) rfl dX2_copyFrom_164 ?_
  obtain ⟨S17, e_S17, hm⟩ := m_bind_of hm
  refine n_cpi X hH hS hl.1 (n0 := 351) (n1 := 351) (m_lay_at hT hk_o1 (by decide) (i := 4) rfl) (m_lay_at hT hk_a (by decide) (i := 4) rfl) e_S17 in_4_237 in_4_150 in_4_149 in_1_21 (Nat.le_of_ble_eq_true rfl) (Nat.le_of_ble_eq_true rfl) dX2_copyFrom_165 (fun H locs hH hS => ?_)
  refine lv_aload_n hx hb dX2_copyFrom_168 rfl (lv_at hl 1 rfl) ?_
  refine r_getp X hH (k := 2) (a := o1) (j := 16) (b := (o1 + 5)) (A := 5) (B := 0) hk_o1 (by decide) rfl m_wi2 (by decide) in_2_210 rfl rfl rfl dX2_copyFrom_169 ?_
  refine lv_iconst (v := (0 : Int32)) hx hb dX2_copyFrom_172 (by decide) ?_
  refine lv_aload_n hx hb dX2_copyFrom_173 rfl (lv_at hl 0 rfl) ?_
  refine r_getp X hH (k := 2) (a := a) (j := 16) (b := (a + 5)) (A := 5) (B := 0) hk_a (by decide) rfl m_wi2 (by decide) in_2_210 rfl rfl rfl dX2_copyFrom_174 ?_
  refine lv_iconst (v := (0 : Int32)) hx hb dX2_copyFrom_177 (by decide) ?_
  refine lv_aload_n hx hb dX2_copyFrom_178 rfl (lv_at hl 0 rfl) ?_
  refine r_getp X hH (k := 2) (a := a) (j := 16) (b := (a + 5)) (A := 5) (B := 0) hk_a (by decide) rfl m_wi2 (by decide) in_2_210 rfl rfl rfl dX2_copyFrom_179 ?_
  refine r_alen X hH (t := 1) (n := 312) (v := (312 : Int32)) (m_lay_at hT hk_a (by decide) (i := 5) rfl) (by decide) rfl dX2_copyFrom_182 ?_
  obtain ⟨S18, e_S18, hm⟩ := m_bind_of hm
  refine n_cpi X hH hS hl.1 (n0 := 312) (n1 := 312) (m_lay_at hT hk_o1 (by decide) (i := 5) rfl) (m_lay_at hT hk_a (by decide) (i := 5) rfl) e_S18 in_4_237 in_4_150 in_4_149 in_1_21 (Nat.le_of_ble_eq_true rfl) (Nat.le_of_ble_eq_true rfl) dX2_copyFrom_183 (fun H locs hH hS => ?_)
  refine lv_aload_n hx hb dX2_copyFrom_186 rfl (lv_at hl 1 rfl) ?_
  refine r_getp X hH (k := 2) (a := o1) (j := 17) (b := (o1 + 6)) (A := 6) (B := 0) hk_o1 (by decide) rfl m_wi2 (by decide) in_2_212 rfl rfl rfl dX2_copyFrom_187 ?_
  refine lv_iconst (v := (0 : Int32)) hx hb dX2_copyFrom_190 (by decide) ?_
  refine lv_aload_n hx hb dX2_copyFrom_191 rfl (lv_at hl 0 rfl) ?_
  refine r_getp X hH (k := 2) (a := a) (j := 17) (b := (a + 6)) (A := 6) (B := 0) hk_a (by decide) rfl m_wi2 (by decide) in_2_212 rfl rfl rfl dX2_copyFrom_192 ?_
  refine lv_iconst (v := (0 : Int32)) hx hb dX2_copyFrom_195 (by decide) ?_
  refine lv_aload_n hx hb dX2_copyFrom_196 rfl (lv_at hl 0 rfl) ?_
  refine r_getp X hH (k := 2) (a := a) (j := 17) (b := (a + 6)) (A := 6) (B := 0) hk_a (by decide) rfl m_wi2 (by decide) in_2_212 rfl rfl rfl dX2_copyFrom_197 ?_
  refine r_alen X hH (t := 1) (n := 200) (v := (200 : Int32)) (m_lay_at hT hk_a (by decide) (i := 6) rfl) (by decide) rfl dX2_copyFrom_200 ?_
  obtain ⟨S19, e_S19, hm⟩ := m_bind_of hm
  refine n_cpi X hH hS hl.1 (n0 := 200) (n1 := 200) (m_lay_at hT hk_o1 (by decide) (i := 6) rfl) (m_lay_at hT hk_a (by decide) (i := 6) rfl) e_S19 in_4_237 in_4_150 in_4_149 in_1_21 (Nat.le_of_ble_eq_true rfl) (Nat.le_of_ble_eq_true rfl) dX2_copyFrom_201 (fun H locs hH hS => ?_)
  refine lv_aload_n hx hb dX2_copyFrom_204 rfl (lv_at hl 1 rfl) ?_
  refine r_getp X hH (k := 2) (a := o1) (j := 18) (b := (o1 + 7)) (A := 7) (B := 0) hk_o1 (by decide) rfl m_wi2 (by decide) in_2_213 rfl rfl rfl dX2_copyFrom_205 ?_
  refine lv_iconst (v := (0 : Int32)) hx hb dX2_copyFrom_208 (by decide) ?_
  refine lv_aload_n hx hb dX2_copyFrom_209 rfl (lv_at hl 0 rfl) ?_
  refine r_getp X hH (k := 2) (a := a) (j := 18) (b := (a + 7)) (A := 7) (B := 0) hk_a (by decide) rfl m_wi2 (by decide) in_2_213 rfl rfl rfl dX2_copyFrom_210 ?_
  refine lv_iconst (v := (0 : Int32)) hx hb dX2_copyFrom_213 (by decide) ?_
  refine lv_aload_n hx hb dX2_copyFrom_214 rfl (lv_at hl 0 rfl) ?_
  refine r_getp X hH (k := 2) (a := a) (j := 18) (b := (a + 7)) (A := 7) (B := 0) hk_a (by decide) rfl m_wi2 (by decide) in_2_213 rfl rfl rfl dX2_copyFrom_215 ?_
  refine r_alen X hH (t := 1) (n := 400) (v := (400 : Int32)) (m_lay_at hT hk_a (by decide) (i := 7) rfl) (by decide) rfl dX2_copyFrom_218 ?_
  obtain ⟨S20, e_S20, hm⟩ := m_bind_of hm
  refine n_cpi X hH hS hl.1 (n0 := 400) (n1 := 400) (m_lay_at hT hk_o1 (by decide) (i := 7) rfl) (m_lay_at hT hk_a (by decide) (i := 7) rfl) e_S20 in_4_237 in_4_150 in_4_149 in_1_21 (Nat.le_of_ble_eq_true rfl) (Nat.le_of_ble_eq_true rfl) dX2_copyFrom_219 (fun H locs hH hS => ?_)
  refine lv_aload_n hx hb dX2_copyFrom_222 rfl (lv_at hl 1 rfl) ?_
  refine r_getp X hH (k := 2) (a := o1) (j := 19) (b := (o1 + 8)) (A := 8) (B := 0) hk_o1 (by decide) rfl m_wi2 (by decide) in_2_216 rfl rfl rfl dX2_copyFrom_223 ?_
  refine lv_iconst (v := (0 : Int32)) hx hb dX2_copyFrom_226 (by decide) ?_
  refine lv_aload_n hx hb dX2_copyFrom_227 rfl (lv_at hl 0 rfl) ?_
  refine r_getp X hH (k := 2) (a := a) (j := 19) (b := (a + 8)) (A := 8) (B := 0) hk_a (by decide) rfl m_wi2 (by decide) in_2_216 rfl rfl rfl dX2_copyFrom_228 ?_
  refine lv_iconst (v := (0 : Int32)) hx hb dX2_copyFrom_231 (by decide) ?_
  refine lv_aload_n hx hb dX2_copyFrom_232 rfl (lv_at hl 0 rfl) ?_
  refine r_getp X hH (k := 2) (a := a) (j := 19) (b := (a + 8)) (A := 8) (B := 0) hk_a (by decide) rfl m_wi2 (by decide) in_2_216 rfl rfl rfl dX2_copyFrom_233 ?_
  refine r_alen X hH (t := 1) (n := 400) (v := (400 : Int32)) (m_lay_at hT hk_a (by decide) (i := 8) rfl) (by decide) rfl dX2_copyFrom_236 ?_
  obtain ⟨S21, e_S21, hm⟩ := m_bind_of hm
  refine n_cpi X hH hS hl.1 (n0 := 400) (n1 := 400) (m_lay_at hT hk_o1 (by decide) (i := 8) rfl) (m_lay_at hT hk_a (by decide) (i := 8) rfl) e_S21 in_4_237 in_4_150 in_4_149 in_1_21 (Nat.le_of_ble_eq_true rfl) (Nat.le_of_ble_eq_true rfl) dX2_copyFrom_237 (fun H locs hH hS => ?_)
  exact r_vret X hr hH hS hm dX2_copyFrom_240
def rm_X0_takeBack : Room := { frames := 2, cells := 0, slots := 0, locals := 81 }
def f_X0_takeBack (a o1 : Nat) (S : m_M)  : Option (Int32 × m_M) :=
    if (m_ri S a 2) = 0 then (
    some ((-1 : Int32), S)) else (
    m_let ((((m_ri S a 1) + (m_ri S a 2)) - (1 : Int32)) - (((m_ri S a 1) + (m_ri S a 2)) - (1 : Int32)) / (8 : Int32) * (8 : Int32)) fun v2 =>
    (m_ldr S (a + 1) 8 v2).bind fun v3 =>
    if v3 = none then (
    some ((-1 : Int32), S)) else (
    (m_ldr S (a + 1) 8 v2).bind fun v5 =>
    v5.bind fun b6 =>
    m_cal0 (f_X2_copyFrom o1 b6 S) fun S7 =>
    m_let (m_si S7 a 2 ((m_ri S7 a 2) - (1 : Int32))) fun S8 =>
    some ((m_ri S8 a 2), S8)))
set_option maxHeartbeats 4000000 in
set_option maxRecDepth 100000 in
theorem c_X0_takeBack {l : Launch} {G : m_G} {nx : Nat} {κ : Nat → Nat} {a o1 : Nat} {S : m_M}  {res : (Int32 × m_M)} (hT : m_Str κ) (hk_a : κ a = 1) (hk_o1 : κ o1 = 3) (hm : f_X0_takeBack a o1 S = some res) : m_Ci l yX0_takeBack cX0_takeBack 3 (some .int) rm_X0_takeBack G nx κ [.ref a, .ref o1] S res := by
  refine m_Ci.of (by decide) (Nat.le_of_ble_eq_true rfl) ?_
  intro p e s m args below meth c ls X hr hH hl
  have hx := X.1.1
  have hb := X.1.2.1
  have hS : m_S G s s.heap [] := va_S.rf
  have hl : lv_has ls 3 [(0, .ref a), (1, .ref o1)] := hl
  rw [f_X0_takeBack] at hm
  refine lv_aload_n hx hb dX0_takeBack_0 rfl (lv_at hl 0 rfl) ?_
  refine r_geti X hH (k := 0) (a := a) (j := 2) hk_a (by decide) rfl m_wi0 (by decide) in_3_64 rfl rfl dX0_takeBack_1 ?_
  refine lv_if_ne (tgt := 9) hx hb dX0_takeBack_4 (by decide) (fun c1 => ?_) (fun c1 => ?_)
  · have hm := m_ite_f hm c1
    refine lv_aload_n hx hb dX0_takeBack_9 rfl (lv_at hl 0 rfl) ?_
    refine r_geti X hH (k := 0) (a := a) (j := 1) hk_a (by decide) rfl m_wi0 (by decide) in_3_63 rfl rfl dX0_takeBack_10 ?_
    refine lv_aload_n hx hb dX0_takeBack_13 rfl (lv_at hl 0 rfl) ?_
    refine r_geti X hH (k := 0) (a := a) (j := 2) hk_a (by decide) rfl m_wi0 (by decide) in_3_64 rfl rfl dX0_takeBack_14 ?_
    refine lv_iadd hx hb dX0_takeBack_17 ?_
    refine lv_iconst (v := (1 : Int32)) hx hb dX0_takeBack_18 (by decide) ?_
    refine lv_isub hx hb dX0_takeBack_19 ?_
    refine lv_bipush (v := (8 : Int32)) hx hb dX0_takeBack_20 (by decide) ?_
    refine lv_irem hx hb dX0_takeBack_22 (by decide) ?_
    obtain ⟨v2, e_v2, hm⟩ := m_let_of hm
    refine n_topi e_v2 ?_
    refine lv_istore_n (lv' := [(2, .int v2), (0, .ref a), (1, .ref o1)]) hx hb dX0_takeBack_23 rfl hl (by decide) rfl (fun ls hl => ?_)
    refine lv_aload_n hx hb dX0_takeBack_24 rfl (lv_at hl 1 rfl) ?_
    refine r_getp X hH (k := 0) (a := a) (j := 0) (b := (a + 1)) (A := 1) (B := 0) hk_a (by decide) rfl m_wi0 (by decide) in_3_62 rfl rfl rfl dX0_takeBack_25 ?_
    refine lv_iload_n hx hb dX0_takeBack_28 rfl (lv_at hl 0 rfl) ?_
    obtain ⟨v3, h_v3, e_v3, hm⟩ := n_ldr hm
    refine n_aald X hH (t := 4) (n := 8) (m_lay_at hT hk_a (by decide) (i := 1) rfl) (by decide) h_v3 e_v3 dX0_takeBack_29 ?_
    refine n_ifnn (tgt := 35) hx hb dX0_takeBack_30 (by decide) (fun c4 => ?_) (fun c4 => ?_)
    · have hm := m_ite_f hm c4
      refine lv_aload_n hx hb dX0_takeBack_35 rfl (lv_at hl 2 rfl) ?_
      refine lv_aload_n hx hb dX0_takeBack_36 rfl (lv_at hl 1 rfl) ?_
      refine r_getp X hH (k := 0) (a := a) (j := 0) (b := (a + 1)) (A := 1) (B := 0) hk_a (by decide) rfl m_wi0 (by decide) in_3_62 rfl rfl rfl dX0_takeBack_37 ?_
      refine lv_iload_n hx hb dX0_takeBack_40 rfl (lv_at hl 0 rfl) ?_
      obtain ⟨v5, h_v5, e_v5, hm⟩ := n_ldr hm
      obtain ⟨b6, e_b6, hm⟩ := m_bind_of hm
      subst e_b6
      refine n_aald X hH (t := 4) (n := 8) (v := some b6) (m_lay_at hT hk_a (by decide) (i := 1) rfl) (by decide) h_v5 e_v5 dX0_takeBack_41 ?_
      have hk_b6 : κ b6 = 3 := m_kel hH (t := 4) (n := 8) (m_lay_at hT hk_a (by decide) (i := 1) rfl) (by decide) e_v5
      obtain ⟨S7, e_S7, hm⟩ := m_cal0_of hm
      refine r_cVv X hH hS (k := 2) (c_X2_copyFrom (a := o1) (o1 := b6) hT hk_o1 hk_b6 e_S7) mw_X2_copyFrom in_4_233 hk_o1 (by decide) rfl rfl rfl ⟨rfl, rfl⟩ ⟨Nat.le_of_ble_eq_true rfl, Nat.le_of_ble_eq_true rfl⟩ ⟨Nat.zero_le _, Nat.zero_le _⟩ hl.1 (Nat.le_of_ble_eq_true rfl) dX0_takeBack_42 (fun H locs hH hS => ?_)
      refine lv_aload_n hx hb dX0_takeBack_45 rfl (lv_at hl 1 rfl) ?_
      refine lv_dup hx hb dX0_takeBack_46 rfl ?_
      refine r_geti X hH (k := 0) (a := a) (j := 2) hk_a (by decide) rfl m_wi0 (by decide) in_3_64 rfl rfl dX0_takeBack_47 ?_
      refine lv_iconst (v := (1 : Int32)) hx hb dX0_takeBack_50 (by decide) ?_
      refine lv_isub hx hb dX0_takeBack_51 ?_
      obtain ⟨S8, e_S8, hm⟩ := m_let_of hm
      refine n_puti X hH hS tyX0 (k := 0) (a := a) (j := 2) hk_a (by decide) rfl m_wi0 tyX0_ok nmX0 (by decide) in_3_64 rfl rfl rfl ⟨rfl, rfl⟩ e_S8 dX0_takeBack_52 (fun H locs hH hS => ?_)
      refine lv_aload_n hx hb dX0_takeBack_55 rfl (lv_at hl 1 rfl) ?_
      refine r_geti X hH (k := 0) (a := a) (j := 2) hk_a (by decide) rfl m_wi0 (by decide) in_3_64 rfl rfl dX0_takeBack_56 ?_
      exact r_iret X hr hH hS hm dX0_takeBack_59
    · have hm := m_ite_t hm c4
      refine lv_iconst (v := (-1 : Int32)) hx hb dX0_takeBack_33 (by decide) ?_
      exact r_iret X hr hH hS hm dX0_takeBack_34
  · have hm := m_ite_t hm c1
    refine lv_iconst (v := (-1 : Int32)) hx hb dX0_takeBack_7 (by decide) ?_
    exact r_iret X hr hH hS hm dX0_takeBack_8
def rm_X3_varCount : Room := { frames := 0, cells := 0, slots := 0, locals := 0 }
def f_X3_varCount (a : Nat) (S : m_M) (i1 : Int32) : Option (Int32 × m_M) :=
    (m_ldi S (a + 2) 5 i1).bind fun v1 =>
    (m_ldi S (a + 4) 5 i1).bind fun v2 =>
    some ((v1 + v2), S)
set_option maxHeartbeats 4000000 in
set_option maxRecDepth 100000 in
theorem c_X3_varCount {l : Launch} {G : m_G} {nx : Nat} {κ : Nat → Nat} {a : Nat} {S : m_M} {i1 : Int32} {res : (Int32 × m_M)} (hT : m_Str κ) (hk_a : κ a = 4) (hm : f_X3_varCount a S i1 = some res) : m_Ci l yX3_varCount cX3_varCount 2 (some .int) rm_X3_varCount G nx κ [.ref a, .int i1] S res := by
  refine m_Ci.of (by decide) (Nat.le_of_ble_eq_true rfl) ?_
  intro p e s m args below meth c ls X hr hH hl
  have hx := X.1.1
  have hb := X.1.2.1
  have hS : m_S G s s.heap [] := va_S.rf
  have hl : lv_has ls 2 [(0, .ref a), (1, .int i1)] := hl
  rw [f_X3_varCount] at hm
  refine lv_aload_n hx hb dX3_varCount_0 rfl (lv_at hl 0 rfl) ?_
  refine r_getp X hH (k := 3) (a := a) (j := 3) (b := (a + 2)) (A := 2) (B := 0) hk_a (by decide) rfl m_wi3 (by decide) in_1_133 rfl rfl rfl dX3_varCount_1 ?_
  refine lv_iload_n hx hb dX3_varCount_4 rfl (lv_at hl 1 rfl) ?_
  obtain ⟨v1, h_v1, e_v1, hm⟩ := n_ldi hm
  refine n_iald X hH (n := 5) (m_lay_at hT hk_a (by decide) (i := 2) rfl) h_v1 e_v1 dX3_varCount_5 ?_
  refine lv_aload_n hx hb dX3_varCount_6 rfl (lv_at hl 0 rfl) ?_
  refine r_getp X hH (k := 3) (a := a) (j := 5) (b := (a + 4)) (A := 4) (B := 0) hk_a (by decide) rfl m_wi3 (by decide) in_1_143 rfl rfl rfl dX3_varCount_7 ?_
  refine lv_iload_n hx hb dX3_varCount_10 rfl (lv_at hl 1 rfl) ?_
  obtain ⟨v2, h_v2, e_v2, hm⟩ := n_ldi hm
  refine n_iald X hH (n := 5) (m_lay_at hT hk_a (by decide) (i := 4) rfl) h_v2 e_v2 dX3_varCount_11 ?_
  refine lv_iadd hx hb dX3_varCount_12 ?_
  exact r_iret X hr hH hS hm dX3_varCount_13
def rm_X2_hasCell : Room := { frames := 0, cells := 0, slots := 0, locals := 0 }
def b_X2_hasCell_26 (a : Nat)  (S : m_M) (t0 : Int32) : Option (Int32 × m_M) :=
    if t0 = 0 ∨ t0 = 1 then some (t0, S) else none
set_option maxHeartbeats 4000000 in
set_option maxRecDepth 100000 in
theorem k_X2_hasCell_26 {p : Program} {l : Launch} {e : Env} {s : State} {m : MethodId} {args : Array Value} {below : List Frame} {meth : Method} {c : Code} {G : m_G} {nx : Nat} {κ : Nat → Nat} {res : (Int32 × m_M)} {a : Nat} (X : m_Cx p s m args meth c cX2_hasCell 2 RX2 G) (hr : meth.sig.returnType = (some .boolean)) (hT : m_Str κ) (hk_a : κ a = 3)  : ∀ (S : m_M) (t0 : Int32) (H : Heap) (locs : List Loc) (ls : Array Slot), m_H G nx κ S H → m_S G s H locs → lv_has ls 2 [] → b_X2_hasCell_26 a S t0 = some res → W p l e rm_X2_hasCell s m args below meth c H locs 0 0 (m_Qi below args s G nx κ res) (F0 m 26 ls [.int t0]) := by
  have hx := X.1.1
  have hb := X.1.2.1
  intro S t0 H locs ls hH hS hl hm
  rw [b_X2_hasCell_26] at hm
  exact r_zret X hr hH hS hm dX2_hasCell_26
def b_X2_hasCell_25 (a : Nat)  (S : m_M)  : Option (Int32 × m_M) :=
    b_X2_hasCell_26 a S (0 : Int32)
set_option maxHeartbeats 4000000 in
set_option maxRecDepth 100000 in
theorem k_X2_hasCell_25 {p : Program} {l : Launch} {e : Env} {s : State} {m : MethodId} {args : Array Value} {below : List Frame} {meth : Method} {c : Code} {G : m_G} {nx : Nat} {κ : Nat → Nat} {res : (Int32 × m_M)} {a : Nat} (X : m_Cx p s m args meth c cX2_hasCell 2 RX2 G) (hr : meth.sig.returnType = (some .boolean)) (hT : m_Str κ) (hk_a : κ a = 3)  : ∀ (S : m_M)  (H : Heap) (locs : List Loc) (ls : Array Slot), m_H G nx κ S H → m_S G s H locs → lv_has ls 2 [] → b_X2_hasCell_25 a S  = some res → W p l e rm_X2_hasCell s m args below meth c H locs 0 0 (m_Qi below args s G nx κ res) (F0 m 25 ls []) := by
  have hx := X.1.1
  have hb := X.1.2.1
  intro S H locs ls hH hS hl hm
  rw [b_X2_hasCell_25] at hm
  refine lv_iconst (v := (0 : Int32)) hx hb dX2_hasCell_25 (by decide) ?_
  exact k_X2_hasCell_26 (a := a) X hr hT hk_a   S (0 : Int32) _ _ _ hH hS hl hm
def f_X2_hasCell (a : Nat) (S : m_M) (i1 : Int32) : Option (Int32 × m_M) :=
    if i1 < 0 then (
    b_X2_hasCell_25 a S) else (
    if (200 : Int32) ≤ i1 then (
    b_X2_hasCell_25 a S) else (
    (m_ldi S (a + 6) 200 i1).bind fun v3 =>
    if v3 = (-1 : Int32) then (
    b_X2_hasCell_25 a S) else (
    b_X2_hasCell_26 a S (1 : Int32))))
set_option maxHeartbeats 4000000 in
set_option maxRecDepth 100000 in
theorem c_X2_hasCell {l : Launch} {G : m_G} {nx : Nat} {κ : Nat → Nat} {a : Nat} {S : m_M} {i1 : Int32} {res : (Int32 × m_M)} (hT : m_Str κ) (hk_a : κ a = 3) (hm : f_X2_hasCell a S i1 = some res) : m_Ci l yX2_hasCell cX2_hasCell 2 (some .boolean) rm_X2_hasCell G nx κ [.ref a, .int i1] S res := by
  refine m_Ci.of (by decide) (Nat.le_of_ble_eq_true rfl) ?_
  intro p e s m args below meth c ls X hr hH hl
  have hx := X.1.1
  have hb := X.1.2.1
  have hS : m_S G s s.heap [] := va_S.rf
  have hl : lv_has ls 2 [(0, .ref a), (1, .int i1)] := hl
  rw [f_X2_hasCell] at hm
  refine lv_iload_n hx hb dX2_hasCell_0 rfl (lv_at hl 1 rfl) ?_
  refine lv_if_lt (tgt := 25) hx hb dX2_hasCell_1 (by decide) (fun c1 => ?_) (fun c1 => ?_)
  · have hm := m_ite_t hm c1
    exact k_X2_hasCell_25 (a := a) X hr hT hk_a   S _ _ _ hH hS (lv_sub hl [] rfl) hm
  · have hm := m_ite_f hm c1
    refine lv_iload_n hx hb dX2_hasCell_4 rfl (lv_at hl 1 rfl) ?_
    refine lv_sipush (v := (200 : Int32)) hx hb dX2_hasCell_5 (by decide) ?_
    refine lv_icmp_ge (tgt := 25) hx hb dX2_hasCell_8 (by decide) (fun c2 => ?_) (fun c2 => ?_)
    · have hm := m_ite_t hm c2
      exact k_X2_hasCell_25 (a := a) X hr hT hk_a   S _ _ _ hH hS (lv_sub hl [] rfl) hm
    · have hm := m_ite_f hm c2
      refine lv_aload_n hx hb dX2_hasCell_11 rfl (lv_at hl 0 rfl) ?_
      refine r_getp X hH (k := 2) (a := a) (j := 17) (b := (a + 6)) (A := 6) (B := 0) hk_a (by decide) rfl m_wi2 (by decide) in_2_212 rfl rfl rfl dX2_hasCell_12 ?_
      refine lv_iload_n hx hb dX2_hasCell_15 rfl (lv_at hl 1 rfl) ?_
      obtain ⟨v3, h_v3, e_v3, hm⟩ := n_ldi hm
      refine n_iald X hH (n := 200) (m_lay_at hT hk_a (by decide) (i := 6) rfl) h_v3 e_v3 dX2_hasCell_16 ?_
      refine lv_iconst (v := (-1 : Int32)) hx hb dX2_hasCell_17 (by decide) ?_
      refine lv_icmp_eq (tgt := 25) hx hb dX2_hasCell_18 (by decide) (fun c4 => ?_) (fun c4 => ?_)
      · have hm := m_ite_t hm c4
        exact k_X2_hasCell_25 (a := a) X hr hT hk_a   S _ _ _ hH hS (lv_sub hl [] rfl) hm
      · have hm := m_ite_f hm c4
        refine lv_iconst (v := (1 : Int32)) hx hb dX2_hasCell_21 (by decide) ?_
        refine lv_goto (tgt := 26) hx hb dX2_hasCell_22 (by decide) ?_
        exact k_X2_hasCell_26 (a := a) X hr hT hk_a   S (1 : Int32) _ _ _ hH hS (lv_sub hl [] rfl) hm
def rm_X1_come : Room := { frames := 1, cells := 0, slots := 0, locals := 21 }
def b_X1_come_49 (a o1 : Nat)  (S : m_M)  : Option m_M :=
    some S
set_option maxHeartbeats 4000000 in
set_option maxRecDepth 100000 in
theorem k_X1_come_49 {p : Program} {l : Launch} {e : Env} {s : State} {m : MethodId} {args : Array Value} {below : List Frame} {meth : Method} {c : Code} {G : m_G} {nx : Nat} {κ : Nat → Nat} {res : m_M} {a o1 : Nat} (X : m_Cx p s m args meth c cX1_come 4 RX1 G) (hr : meth.sig.returnType = none) (hT : m_Str κ) (hk_a : κ a = 2) (hk_o1 : κ o1 = 3)  : ∀ (S : m_M)  (H : Heap) (locs : List Loc) (ls : Array Slot), m_H G nx κ S H → m_S G s H locs → lv_has ls 4 [] → b_X1_come_49 a o1 S  = some res → W p l e rm_X1_come s m args below meth c H locs 0 0 (m_Qv below args s G nx κ res) (F0 m 49 ls []) := by
  have hx := X.1.1
  have hb := X.1.2.1
  intro S H locs ls hH hS hl hm
  rw [b_X1_come_49] at hm
  exact r_vret X hr hH hS hm dX1_come_49
def f_X1_come (a o1 : Nat) (S : m_M) (i2 : Int32) (i3 : Int32) : Option m_M :=
    if i2 = (2 : Int32) then (
    m_call (f_X2_hasCell o1 S i3) fun v3 S2 =>
    if v3 = 0 then (
    b_X1_come_49 a o1 S2) else (
    (m_ldi S2 (a + 1) 200 i3).bind fun v5 =>
    if v5 = 0 then (
    (m_sti S2 (a + 1) 200 i3 (vp_nar .boolean (1 : Int32))).bind fun S7 =>
    (m_sti S7 (a + 2) 200 (m_ri S7 a 2) i3).bind fun S8 =>
    m_let (m_si S8 a 2 ((m_ri S8 a 2) + (1 : Int32))) fun S9 =>
    b_X1_come_49 a o1 S9) else (
    b_X1_come_49 a o1 S2))) else (
    b_X1_come_49 a o1 S)
set_option maxHeartbeats 4000000 in
set_option maxRecDepth 100000 in
theorem c_X1_come {l : Launch} {G : m_G} {nx : Nat} {κ : Nat → Nat} {a o1 : Nat} {S : m_M} {i2 : Int32} {i3 : Int32} {res : m_M} (hT : m_Str κ) (hk_a : κ a = 2) (hk_o1 : κ o1 = 3) (hm : f_X1_come a o1 S i2 i3 = some res) : m_Cv l yX1_come cX1_come 4 rm_X1_come G nx κ [.ref a, .ref o1, .int i2, .int i3] S res := by
  refine m_Cv.of (by decide) (Nat.le_of_ble_eq_true rfl) ?_
  intro p e s m args below meth c ls X hr hH hl
  have hx := X.1.1
  have hb := X.1.2.1
  have hS : m_S G s s.heap [] := va_S.rf
  have hl : lv_has ls 4 [(0, .ref a), (1, .ref o1), (2, .int i2), (3, .int i3)] := hl
  rw [f_X1_come] at hm
  refine lv_iload_n hx hb dX1_come_0 rfl (lv_at hl 2 rfl) ?_
  refine lv_iconst (v := (2 : Int32)) hx hb dX1_come_1 (by decide) ?_
  refine lv_icmp_ne (tgt := 49) hx hb dX1_come_2 (by decide) (fun c1 => ?_) (fun c1 => ?_)
  · have hm := m_ite_f hm c1
    exact k_X1_come_49 (a := a) (o1 := o1) X hr hT hk_a hk_o1   S _ _ _ hH hS (lv_sub hl [] rfl) hm
  · have hm := m_ite_t hm c1
    refine lv_aload_n hx hb dX1_come_5 rfl (lv_at hl 1 rfl) ?_
    refine lv_iload_n hx hb dX1_come_6 rfl (lv_at hl 3 rfl) ?_
    obtain ⟨v3, S2, e_S2, hm⟩ := m_call_of hm
    refine n_cVi X hH hS (k := 2) (c_X2_hasCell (a := o1) hT hk_o1 e_S2) mw_X2_hasCell in_5_177 hk_o1 (by decide) rfl rfl rfl ⟨rfl, rfl⟩ ⟨Nat.le_of_ble_eq_true rfl, Nat.le_of_ble_eq_true rfl⟩ ⟨Nat.zero_le _, Nat.zero_le _⟩ hl.1 (Nat.le_of_ble_eq_true rfl) dX1_come_7 (fun H locs hH hS => ?_)
    refine lv_if_eq (tgt := 49) hx hb dX1_come_10 (by decide) (fun c4 => ?_) (fun c4 => ?_)
    · have hm := m_ite_t hm c4
      exact k_X1_come_49 (a := a) (o1 := o1) X hr hT hk_a hk_o1   S2 _ _ _ hH hS (lv_sub hl [] rfl) hm
    · have hm := m_ite_f hm c4
      refine lv_aload_n hx hb dX1_come_13 rfl (lv_at hl 0 rfl) ?_
      refine r_getp X hH (k := 1) (a := a) (j := 0) (b := (a + 1)) (A := 1) (B := 0) hk_a (by decide) rfl m_wi1 (by decide) in_3_43 rfl rfl rfl dX1_come_14 ?_
      refine lv_iload_n hx hb dX1_come_17 rfl (lv_at hl 3 rfl) ?_
      obtain ⟨v5, h_v5, e_v5, hm⟩ := n_ldi hm
      refine n_zald X hH (n := 200) (m_lay_at hT hk_a (by decide) (i := 1) rfl) h_v5 e_v5 dX1_come_18 ?_
      refine lv_if_ne (tgt := 49) hx hb dX1_come_19 (by decide) (fun c6 => ?_) (fun c6 => ?_)
      · have hm := m_ite_f hm c6
        exact k_X1_come_49 (a := a) (o1 := o1) X hr hT hk_a hk_o1   S2 _ _ _ hH hS (lv_sub hl [] rfl) hm
      · have hm := m_ite_t hm c6
        refine lv_aload_n hx hb dX1_come_22 rfl (lv_at hl 0 rfl) ?_
        refine r_getp X hH (k := 1) (a := a) (j := 0) (b := (a + 1)) (A := 1) (B := 0) hk_a (by decide) rfl m_wi1 (by decide) in_3_43 rfl rfl rfl dX1_come_23 ?_
        refine lv_iload_n hx hb dX1_come_26 rfl (lv_at hl 3 rfl) ?_
        refine lv_iconst (v := (1 : Int32)) hx hb dX1_come_27 (by decide) ?_
        obtain ⟨S7, h_S7, e_S7, hm⟩ := n_sti hm
        refine n_zast X hH hS (n := 200) (m_lay_at hT hk_a (by decide) (i := 1) rfl) h_S7 e_S7 dX1_come_28 (fun H locs hH hS => ?_)
        refine lv_aload_n hx hb dX1_come_29 rfl (lv_at hl 0 rfl) ?_
        refine r_getp X hH (k := 1) (a := a) (j := 1) (b := (a + 2)) (A := 2) (B := 0) hk_a (by decide) rfl m_wi1 (by decide) in_3_45 rfl rfl rfl dX1_come_30 ?_
        refine lv_aload_n hx hb dX1_come_33 rfl (lv_at hl 0 rfl) ?_
        refine r_geti X hH (k := 1) (a := a) (j := 2) hk_a (by decide) rfl m_wi1 (by decide) in_3_46 rfl rfl dX1_come_34 ?_
        refine lv_iload_n hx hb dX1_come_37 rfl (lv_at hl 3 rfl) ?_
        obtain ⟨S8, h_S8, e_S8, hm⟩ := n_sti hm
        refine n_iast X hH hS (n := 200) (m_lay_at hT hk_a (by decide) (i := 2) rfl) h_S8 e_S8 dX1_come_38 (fun H locs hH hS => ?_)
        refine lv_aload_n hx hb dX1_come_39 rfl (lv_at hl 0 rfl) ?_
        refine lv_dup hx hb dX1_come_40 rfl ?_
        refine r_geti X hH (k := 1) (a := a) (j := 2) hk_a (by decide) rfl m_wi1 (by decide) in_3_46 rfl rfl dX1_come_41 ?_
        refine lv_iconst (v := (1 : Int32)) hx hb dX1_come_44 (by decide) ?_
        refine lv_iadd hx hb dX1_come_45 ?_
        obtain ⟨S9, e_S9, hm⟩ := m_let_of hm
        refine n_puti X hH hS tyX1 (k := 1) (a := a) (j := 2) hk_a (by decide) rfl m_wi1 tyX1_ok nmX1 (by decide) in_3_46 rfl rfl rfl ⟨rfl, rfl⟩ e_S9 dX1_come_46 (fun H locs hH hS => ?_)
        exact k_X1_come_49 (a := a) (o1 := o1) X hr hT hk_a hk_o1   S9 _ _ _ hH hS (lv_sub hl [] rfl) hm
def rm_X2_resultKind : Room := { frames := 0, cells := 0, slots := 0, locals := 0 }
def b_X2_resultKind_16 (a : Nat)  (S : m_M) (t0 : Int32) : Option (Int32 × m_M) :=
    some (t0, S)
set_option maxHeartbeats 4000000 in
set_option maxRecDepth 100000 in
theorem k_X2_resultKind_16 {p : Program} {l : Launch} {e : Env} {s : State} {m : MethodId} {args : Array Value} {below : List Frame} {meth : Method} {c : Code} {G : m_G} {nx : Nat} {κ : Nat → Nat} {res : (Int32 × m_M)} {a : Nat} (X : m_Cx p s m args meth c cX2_resultKind 1 RX2 G) (hr : meth.sig.returnType = (some .int)) (hT : m_Str κ) (hk_a : κ a = 3)  : ∀ (S : m_M) (t0 : Int32) (H : Heap) (locs : List Loc) (ls : Array Slot), m_H G nx κ S H → m_S G s H locs → lv_has ls 1 [] → b_X2_resultKind_16 a S t0 = some res → W p l e rm_X2_resultKind s m args below meth c H locs 0 0 (m_Qi below args s G nx κ res) (F0 m 16 ls [.int t0]) := by
  have hx := X.1.1
  have hb := X.1.2.1
  intro S t0 H locs ls hH hS hl hm
  rw [b_X2_resultKind_16] at hm
  exact r_iret X hr hH hS hm dX2_resultKind_16
def f_X2_resultKind (a : Nat) (S : m_M)  : Option (Int32 × m_M) :=
    if (m_ri S a 0) = (2 : Int32) then (
    b_X2_resultKind_16 a S (m_ri S a 9)) else (
    b_X2_resultKind_16 a S (0 : Int32))
set_option maxHeartbeats 4000000 in
set_option maxRecDepth 100000 in
theorem c_X2_resultKind {l : Launch} {G : m_G} {nx : Nat} {κ : Nat → Nat} {a : Nat} {S : m_M}  {res : (Int32 × m_M)} (hT : m_Str κ) (hk_a : κ a = 3) (hm : f_X2_resultKind a S = some res) : m_Ci l yX2_resultKind cX2_resultKind 1 (some .int) rm_X2_resultKind G nx κ [.ref a] S res := by
  refine m_Ci.of (by decide) (Nat.le_of_ble_eq_true rfl) ?_
  intro p e s m args below meth c ls X hr hH hl
  have hx := X.1.1
  have hb := X.1.2.1
  have hS : m_S G s s.heap [] := va_S.rf
  have hl : lv_has ls 1 [(0, .ref a)] := hl
  rw [f_X2_resultKind] at hm
  refine lv_aload_n hx hb dX2_resultKind_0 rfl (lv_at hl 0 rfl) ?_
  refine r_geti X hH (k := 2) (a := a) (j := 0) hk_a (by decide) rfl m_wi2 (by decide) in_2_176 rfl rfl dX2_resultKind_1 ?_
  refine lv_iconst (v := (2 : Int32)) hx hb dX2_resultKind_4 (by decide) ?_
  refine lv_icmp_ne (tgt := 15) hx hb dX2_resultKind_5 (by decide) (fun c1 => ?_) (fun c1 => ?_)
  · have hm := m_ite_f hm c1
    refine lv_iconst (v := (0 : Int32)) hx hb dX2_resultKind_15 (by decide) ?_
    exact k_X2_resultKind_16 (a := a) X hr hT hk_a   S (0 : Int32) _ _ _ hH hS (lv_sub hl [] rfl) hm
  · have hm := m_ite_t hm c1
    refine lv_aload_n hx hb dX2_resultKind_8 rfl (lv_at hl 0 rfl) ?_
    refine r_geti X hH (k := 2) (a := a) (j := 9) hk_a (by decide) rfl m_wi2 (by decide) in_2_195 rfl rfl dX2_resultKind_9 ?_
    refine lv_goto (tgt := 16) hx hb dX2_resultKind_12 (by decide) ?_
    exact k_X2_resultKind_16 (a := a) X hr hT hk_a   S (m_ri S a 9) _ _ _ hH hS (lv_sub hl [] rfl) hm
def rm_X1_countReached : Room := { frames := 2, cells := 0, slots := 0, locals := 44 }
def b_X1_countReached_52 (a o1 o2 : Nat) (K_29 : m_M → Int32 → Option (Int32 × m_M)) : Nat → m_M → Int32 → Int32 → Int32 → Option (Int32 × m_M)
  | 0, _, _, _, _ => none
  | n + 1, S, l3, l4, l5 =>
    if l4 ≤ l5 then (
    m_let (l3 + (1 : Int32)) fun v2 =>
    K_29 S v2) else (
    (m_ldi S (o2 + 3) 351 ((l3 * (27 : Int32)) + l5)).bind fun v3 =>
    (m_ldi S (o2 + 4) 351 ((l3 * (27 : Int32)) + l5)).bind fun v4 =>
    m_cal0 (f_X1_come a o2 S v3 v4) fun S5 =>
    m_let (l5 + (1 : Int32)) fun v6 =>
    b_X1_countReached_52 a o1 o2 K_29 n S5 l3 l4 v6)
set_option maxHeartbeats 4000000 in
set_option maxRecDepth 100000 in
theorem k_X1_countReached_52 {p : Program} {l : Launch} {e : Env} {s : State} {m : MethodId} {args : Array Value} {below : List Frame} {meth : Method} {c : Code} {G : m_G} {nx : Nat} {κ : Nat → Nat} {res : (Int32 × m_M)} {a o1 o2 : Nat} (X : m_Cx p s m args meth c cX1_countReached 6 RX1 G) (hr : meth.sig.returnType = (some .int)) (hT : m_Str κ) (hk_a : κ a = 2) (hk_o1 : κ o1 = 4) (hk_o2 : κ o2 = 3) (K_29 : m_M → Int32 → Option (Int32 × m_M)) (hK_29 : ∀ (S : m_M) (l3 : Int32) (H : Heap) (locs : List Loc) (ls : Array Slot), m_H G nx κ S H → m_S G s H locs → lv_has ls 6 [(0, .ref a), (1, .ref o1), (2, .ref o2), (3, .int l3)] → K_29 S l3 = some res → W p l e rm_X1_countReached s m args below meth c H locs 0 0 (m_Qi below args s G nx κ res) (F0 m 29 ls [])) (n : Nat) : ∀ (S : m_M) (l3 : Int32) (l4 : Int32) (l5 : Int32) (H : Heap) (locs : List Loc) (ls : Array Slot), m_H G nx κ S H → m_S G s H locs → lv_has ls 6 [(0, .ref a), (1, .ref o1), (2, .ref o2), (3, .int l3), (4, .int l4), (5, .int l5)] → b_X1_countReached_52 a o1 o2 K_29 n S l3 l4 l5 = some res → W p l e rm_X1_countReached s m args below meth c H locs 0 0 (m_Qi below args s G nx κ res) (F0 m 52 ls []) := by
  have hx := X.1.1
  have hb := X.1.2.1
  induction n with
  | zero => intro S l3 l4 l5 H locs ls hH hS hl hm; have hm : (none : Option (Int32 × m_M)) = some res := hm; cases hm
  | succ n ih =>
    intro S l3 l4 l5 H locs ls hH hS hl hm
    rw [b_X1_countReached_52] at hm
    refine lv_iload hx hb dX1_countReached_52 (lv_at hl 5 rfl) ?_
    refine lv_iload hx hb dX1_countReached_54 (lv_at hl 4 rfl) ?_
    refine lv_icmp_ge (tgt := 94) hx hb dX1_countReached_56 (by decide) (fun c1 => ?_) (fun c1 => ?_)
    · have hm := m_ite_t hm c1
      obtain ⟨v2, e_v2, hm⟩ := m_let_of hm
      refine lv_iinc (v := v2) (lv' := [(3, .int v2), (0, .ref a), (1, .ref o1), (2, .ref o2), (4, .int l4), (5, .int l5)]) hx hb dX1_countReached_94 hl (k := 3) rfl (by rw [← e_v2]; rfl) (by decide) rfl (fun ls hl => ?_)
      refine lv_goto (tgt := 29) hx hb dX1_countReached_97 (by decide) ?_
      exact hK_29 S v2 _ _ _ hH hS (lv_sub hl [1, 2, 3, 0] rfl) hm
    · have hm := m_ite_f hm c1
      refine lv_aload_n hx hb dX1_countReached_59 rfl (lv_at hl 0 rfl) ?_
      refine lv_aload_n hx hb dX1_countReached_60 rfl (lv_at hl 2 rfl) ?_
      refine lv_aload_n hx hb dX1_countReached_61 rfl (lv_at hl 2 rfl) ?_
      refine r_getp X hH (k := 2) (a := o2) (j := 14) (b := (o2 + 3)) (A := 3) (B := 0) hk_o2 (by decide) rfl m_wi2 (by decide) in_2_205 rfl rfl rfl dX1_countReached_62 ?_
      refine lv_iload_n hx hb dX1_countReached_65 rfl (lv_at hl 3 rfl) ?_
      refine lv_bipush (v := (27 : Int32)) hx hb dX1_countReached_66 (by decide) ?_
      refine lv_imul hx hb dX1_countReached_68 ?_
      refine lv_iload hx hb dX1_countReached_69 (lv_at hl 5 rfl) ?_
      refine lv_iadd hx hb dX1_countReached_71 ?_
      obtain ⟨v3, h_v3, e_v3, hm⟩ := n_ldi hm
      refine n_iald X hH (n := 351) (m_lay_at hT hk_o2 (by decide) (i := 3) rfl) h_v3 e_v3 dX1_countReached_72 ?_
      refine lv_aload_n hx hb dX1_countReached_73 rfl (lv_at hl 2 rfl) ?_
      refine r_getp X hH (k := 2) (a := o2) (j := 15) (b := (o2 + 4)) (A := 4) (B := 0) hk_o2 (by decide) rfl m_wi2 (by decide) in_2_208 rfl rfl rfl dX1_countReached_74 ?_
      refine lv_iload_n hx hb dX1_countReached_77 rfl (lv_at hl 3 rfl) ?_
      refine lv_bipush (v := (27 : Int32)) hx hb dX1_countReached_78 (by decide) ?_
      refine lv_imul hx hb dX1_countReached_80 ?_
      refine lv_iload hx hb dX1_countReached_81 (lv_at hl 5 rfl) ?_
      refine lv_iadd hx hb dX1_countReached_83 ?_
      obtain ⟨v4, h_v4, e_v4, hm⟩ := n_ldi hm
      refine n_iald X hH (n := 351) (m_lay_at hT hk_o2 (by decide) (i := 4) rfl) h_v4 e_v4 dX1_countReached_84 ?_
      obtain ⟨S5, e_S5, hm⟩ := m_cal0_of hm
      refine r_cVv X hH hS (k := 1) (c_X1_come (a := a) (o1 := o2) hT hk_a hk_o2 e_S5) mw_X1_come in_5_173 hk_a (by decide) rfl rfl rfl ⟨rfl, rfl⟩ ⟨Nat.le_of_ble_eq_true rfl, Nat.le_of_ble_eq_true rfl⟩ ⟨Nat.zero_le _, Nat.zero_le _⟩ hl.1 (Nat.le_of_ble_eq_true rfl) dX1_countReached_85 (fun H locs hH hS => ?_)
      obtain ⟨v6, e_v6, hm⟩ := m_let_of hm
      refine lv_iinc (v := v6) (lv' := [(5, .int v6), (0, .ref a), (1, .ref o1), (2, .ref o2), (3, .int l3), (4, .int l4)]) hx hb dX1_countReached_88 hl (k := 5) rfl (by rw [← e_v6]; rfl) (by decide) rfl (fun ls hl => ?_)
      refine lv_goto (tgt := 52) hx hb dX1_countReached_91 (by decide) ?_
      exact ih S5 l3 l4 v6 _ _ _ hH hS (lv_sub hl [1, 2, 3, 4, 5, 0] rfl) hm
def b_X1_countReached_115 (a o1 o2 : Nat)  : Nat → m_M → Int32 → Option (Int32 × m_M)
  | 0, _, _ => none
  | n + 1, S, l3 =>
    if (m_ri S a 2) ≤ l3 then (
    some ((m_ri S a 2), S)) else (
    (m_ldi S (a + 2) 200 l3).bind fun v2 =>
    (m_ldi S (o2 + 7) 400 ((2 : Int32) * v2)).bind fun v3 =>
    (m_ldi S (o2 + 8) 400 ((2 : Int32) * v2)).bind fun v4 =>
    m_cal0 (f_X1_come a o2 S v3 v4) fun S5 =>
    (m_ldi S5 (o2 + 7) 400 (((2 : Int32) * v2) + (1 : Int32))).bind fun v6 =>
    (m_ldi S5 (o2 + 8) 400 (((2 : Int32) * v2) + (1 : Int32))).bind fun v7 =>
    m_cal0 (f_X1_come a o2 S5 v6 v7) fun S8 =>
    m_let (l3 + (1 : Int32)) fun v9 =>
    b_X1_countReached_115 a o1 o2 n S8 v9)
set_option maxHeartbeats 4000000 in
set_option maxRecDepth 100000 in
theorem k_X1_countReached_115 {p : Program} {l : Launch} {e : Env} {s : State} {m : MethodId} {args : Array Value} {below : List Frame} {meth : Method} {c : Code} {G : m_G} {nx : Nat} {κ : Nat → Nat} {res : (Int32 × m_M)} {a o1 o2 : Nat} (X : m_Cx p s m args meth c cX1_countReached 6 RX1 G) (hr : meth.sig.returnType = (some .int)) (hT : m_Str κ) (hk_a : κ a = 2) (hk_o1 : κ o1 = 4) (hk_o2 : κ o2 = 3)  (n : Nat) : ∀ (S : m_M) (l3 : Int32) (H : Heap) (locs : List Loc) (ls : Array Slot), m_H G nx κ S H → m_S G s H locs → lv_has ls 6 [(0, .ref a), (2, .ref o2), (3, .int l3)] → b_X1_countReached_115 a o1 o2 n S l3 = some res → W p l e rm_X1_countReached s m args below meth c H locs 0 0 (m_Qi below args s G nx κ res) (F0 m 115 ls []) := by
  have hx := X.1.1
  have hb := X.1.2.1
  induction n with
  | zero => intro S l3 H locs ls hH hS hl hm; have hm : (none : Option (Int32 × m_M)) = some res := hm; cases hm
  | succ n ih =>
    intro S l3 H locs ls hH hS hl hm
    rw [b_X1_countReached_115] at hm
    refine lv_iload_n hx hb dX1_countReached_115 rfl (lv_at hl 2 rfl) ?_
    refine lv_aload_n hx hb dX1_countReached_116 rfl (lv_at hl 0 rfl) ?_
    refine r_geti X hH (k := 1) (a := a) (j := 2) hk_a (by decide) rfl m_wi1 (by decide) in_3_46 rfl rfl dX1_countReached_117 ?_
    refine lv_icmp_ge (tgt := 187) hx hb dX1_countReached_120 (by decide) (fun c1 => ?_) (fun c1 => ?_)
    · have hm := m_ite_t hm c1
      refine lv_aload_n hx hb dX1_countReached_187 rfl (lv_at hl 0 rfl) ?_
      refine r_geti X hH (k := 1) (a := a) (j := 2) hk_a (by decide) rfl m_wi1 (by decide) in_3_46 rfl rfl dX1_countReached_188 ?_
      exact r_iret X hr hH hS hm dX1_countReached_191
    · have hm := m_ite_f hm c1
      refine lv_aload_n hx hb dX1_countReached_123 rfl (lv_at hl 0 rfl) ?_
      refine r_getp X hH (k := 1) (a := a) (j := 1) (b := (a + 2)) (A := 2) (B := 0) hk_a (by decide) rfl m_wi1 (by decide) in_3_45 rfl rfl rfl dX1_countReached_124 ?_
      refine lv_iload_n hx hb dX1_countReached_127 rfl (lv_at hl 2 rfl) ?_
      obtain ⟨v2, h_v2, e_v2, hm⟩ := n_ldi hm
      refine n_iald X hH (n := 200) (m_lay_at hT hk_a (by decide) (i := 2) rfl) h_v2 e_v2 dX1_countReached_128 ?_
      refine lv_istore (lv' := [(4, .int v2), (0, .ref a), (2, .ref o2), (3, .int l3)]) hx hb dX1_countReached_129 hl (by decide) rfl (fun ls hl => ?_)
      refine lv_aload_n hx hb dX1_countReached_131 rfl (lv_at hl 1 rfl) ?_
      refine lv_aload_n hx hb dX1_countReached_132 rfl (lv_at hl 2 rfl) ?_
      refine lv_aload_n hx hb dX1_countReached_133 rfl (lv_at hl 2 rfl) ?_
      refine r_getp X hH (k := 2) (a := o2) (j := 18) (b := (o2 + 7)) (A := 7) (B := 0) hk_o2 (by decide) rfl m_wi2 (by decide) in_2_214 rfl rfl rfl dX1_countReached_134 ?_
      refine lv_iconst (v := (2 : Int32)) hx hb dX1_countReached_137 (by decide) ?_
      refine lv_iload hx hb dX1_countReached_138 (lv_at hl 0 rfl) ?_
      refine lv_imul hx hb dX1_countReached_140 ?_
      obtain ⟨v3, h_v3, e_v3, hm⟩ := n_ldi hm
      refine n_iald X hH (n := 400) (m_lay_at hT hk_o2 (by decide) (i := 7) rfl) h_v3 e_v3 dX1_countReached_141 ?_
      refine lv_aload_n hx hb dX1_countReached_142 rfl (lv_at hl 2 rfl) ?_
      refine r_getp X hH (k := 2) (a := o2) (j := 19) (b := (o2 + 8)) (A := 8) (B := 0) hk_o2 (by decide) rfl m_wi2 (by decide) in_2_217 rfl rfl rfl dX1_countReached_143 ?_
      refine lv_iconst (v := (2 : Int32)) hx hb dX1_countReached_146 (by decide) ?_
      refine lv_iload hx hb dX1_countReached_147 (lv_at hl 0 rfl) ?_
      refine lv_imul hx hb dX1_countReached_149 ?_
      obtain ⟨v4, h_v4, e_v4, hm⟩ := n_ldi hm
      refine n_iald X hH (n := 400) (m_lay_at hT hk_o2 (by decide) (i := 8) rfl) h_v4 e_v4 dX1_countReached_150 ?_
      obtain ⟨S5, e_S5, hm⟩ := m_cal0_of hm
      refine r_cVv X hH hS (k := 1) (c_X1_come (a := a) (o1 := o2) hT hk_a hk_o2 e_S5) mw_X1_come in_5_173 hk_a (by decide) rfl rfl rfl ⟨rfl, rfl⟩ ⟨Nat.le_of_ble_eq_true rfl, Nat.le_of_ble_eq_true rfl⟩ ⟨Nat.zero_le _, Nat.zero_le _⟩ hl.1 (Nat.le_of_ble_eq_true rfl) dX1_countReached_151 (fun H locs hH hS => ?_)
      refine lv_aload_n hx hb dX1_countReached_154 rfl (lv_at hl 1 rfl) ?_
      refine lv_aload_n hx hb dX1_countReached_155 rfl (lv_at hl 2 rfl) ?_
      refine lv_aload_n hx hb dX1_countReached_156 rfl (lv_at hl 2 rfl) ?_
      refine r_getp X hH (k := 2) (a := o2) (j := 18) (b := (o2 + 7)) (A := 7) (B := 0) hk_o2 (by decide) rfl m_wi2 (by decide) in_2_214 rfl rfl rfl dX1_countReached_157 ?_
      refine lv_iconst (v := (2 : Int32)) hx hb dX1_countReached_160 (by decide) ?_
      refine lv_iload hx hb dX1_countReached_161 (lv_at hl 0 rfl) ?_
      refine lv_imul hx hb dX1_countReached_163 ?_
      refine lv_iconst (v := (1 : Int32)) hx hb dX1_countReached_164 (by decide) ?_
      refine lv_iadd hx hb dX1_countReached_165 ?_
      obtain ⟨v6, h_v6, e_v6, hm⟩ := n_ldi hm
      refine n_iald X hH (n := 400) (m_lay_at hT hk_o2 (by decide) (i := 7) rfl) h_v6 e_v6 dX1_countReached_166 ?_
      refine lv_aload_n hx hb dX1_countReached_167 rfl (lv_at hl 2 rfl) ?_
      refine r_getp X hH (k := 2) (a := o2) (j := 19) (b := (o2 + 8)) (A := 8) (B := 0) hk_o2 (by decide) rfl m_wi2 (by decide) in_2_217 rfl rfl rfl dX1_countReached_168 ?_
      refine lv_iconst (v := (2 : Int32)) hx hb dX1_countReached_171 (by decide) ?_
      refine lv_iload hx hb dX1_countReached_172 (lv_at hl 0 rfl) ?_
      refine lv_imul hx hb dX1_countReached_174 ?_
      refine lv_iconst (v := (1 : Int32)) hx hb dX1_countReached_175 (by decide) ?_
      refine lv_iadd hx hb dX1_countReached_176 ?_
      obtain ⟨v7, h_v7, e_v7, hm⟩ := n_ldi hm
      refine n_iald X hH (n := 400) (m_lay_at hT hk_o2 (by decide) (i := 8) rfl) h_v7 e_v7 dX1_countReached_177 ?_
      obtain ⟨S8, e_S8, hm⟩ := m_cal0_of hm
      refine r_cVv X hH hS (k := 1) (c_X1_come (a := a) (o1 := o2) hT hk_a hk_o2 e_S8) mw_X1_come in_5_173 hk_a (by decide) rfl rfl rfl ⟨rfl, rfl⟩ ⟨Nat.le_of_ble_eq_true rfl, Nat.le_of_ble_eq_true rfl⟩ ⟨Nat.zero_le _, Nat.zero_le _⟩ hl.1 (Nat.le_of_ble_eq_true rfl) dX1_countReached_178 (fun H locs hH hS => ?_)
      obtain ⟨v9, e_v9, hm⟩ := m_let_of hm
      refine lv_iinc (v := v9) (lv' := [(3, .int v9), (4, .int v2), (0, .ref a), (2, .ref o2)]) hx hb dX1_countReached_181 hl (k := 3) rfl (by rw [← e_v9]; rfl) (by decide) rfl (fun ls hl => ?_)
      refine lv_goto (tgt := 115) hx hb dX1_countReached_184 (by decide) ?_
      exact ih S8 v9 _ _ _ hH hS (lv_sub hl [2, 3, 0] rfl) hm
def b_X1_countReached_29 (a o1 o2 : Nat)  : Nat → m_M → Int32 → Option (Int32 × m_M)
  | 0, _, _ => none
  | n + 1, S, l3 =>
    if (m_ri S o2 2) ≤ l3 then (
    m_call (f_X2_resultKind o2 S) fun v3 S2 =>
    m_cal0 (f_X1_come a o2 S2 v3 (m_ri S2 o2 10)) fun S4 =>
    b_X1_countReached_115 a o1 o2 m_fu S4 (0 : Int32)) else (
    (m_ldi S (o2 + 1) 13 l3).bind fun v5 =>
    m_call (f_X3_varCount o1 S v5) fun v7 S6 =>
    b_X1_countReached_52 a o1 o2 (b_X1_countReached_29 a o1 o2 n) m_fu S6 l3 v7 (0 : Int32))
set_option maxHeartbeats 4000000 in
set_option maxRecDepth 100000 in
theorem k_X1_countReached_29 {p : Program} {l : Launch} {e : Env} {s : State} {m : MethodId} {args : Array Value} {below : List Frame} {meth : Method} {c : Code} {G : m_G} {nx : Nat} {κ : Nat → Nat} {res : (Int32 × m_M)} {a o1 o2 : Nat} (X : m_Cx p s m args meth c cX1_countReached 6 RX1 G) (hr : meth.sig.returnType = (some .int)) (hT : m_Str κ) (hk_a : κ a = 2) (hk_o1 : κ o1 = 4) (hk_o2 : κ o2 = 3)  (n : Nat) : ∀ (S : m_M) (l3 : Int32) (H : Heap) (locs : List Loc) (ls : Array Slot), m_H G nx κ S H → m_S G s H locs → lv_has ls 6 [(0, .ref a), (1, .ref o1), (2, .ref o2), (3, .int l3)] → b_X1_countReached_29 a o1 o2 n S l3 = some res → W p l e rm_X1_countReached s m args below meth c H locs 0 0 (m_Qi below args s G nx κ res) (F0 m 29 ls []) := by
  have hx := X.1.1
  have hb := X.1.2.1
  induction n with
  | zero => intro S l3 H locs ls hH hS hl hm; have hm : (none : Option (Int32 × m_M)) = some res := hm; cases hm
  | succ n ih =>
    intro S l3 H locs ls hH hS hl hm
    rw [b_X1_countReached_29] at hm
    refine lv_iload_n hx hb dX1_countReached_29 rfl (lv_at hl 3 rfl) ?_
    refine lv_aload_n hx hb dX1_countReached_30 rfl (lv_at hl 2 rfl) ?_
    refine r_geti X hH (k := 2) (a := o2) (j := 2) hk_o2 (by decide) rfl m_wi2 (by decide) in_2_181 rfl rfl dX1_countReached_31 ?_
    refine lv_icmp_ge (tgt := 100) hx hb dX1_countReached_34 (by decide) (fun c1 => ?_) (fun c1 => ?_)
    · have hm := m_ite_t hm c1
      refine lv_aload_n hx hb dX1_countReached_100 rfl (lv_at hl 0 rfl) ?_
      refine lv_aload_n hx hb dX1_countReached_101 rfl (lv_at hl 2 rfl) ?_
      refine lv_aload_n hx hb dX1_countReached_102 rfl (lv_at hl 2 rfl) ?_
      obtain ⟨v3, S2, e_S2, hm⟩ := m_call_of hm
      refine n_cVi X hH hS (k := 2) (c_X2_resultKind (a := o2) hT hk_o2 e_S2) mw_X2_resultKind in_5_178 hk_o2 (by decide) rfl rfl rfl ⟨rfl, rfl⟩ ⟨Nat.le_of_ble_eq_true rfl, Nat.le_of_ble_eq_true rfl⟩ ⟨Nat.zero_le _, Nat.zero_le _⟩ hl.1 (Nat.le_of_ble_eq_true rfl) dX1_countReached_103 (fun H locs hH hS => ?_)
      refine lv_aload_n hx hb dX1_countReached_106 rfl (lv_at hl 2 rfl) ?_
      refine r_geti X hH (k := 2) (a := o2) (j := 10) hk_o2 (by decide) rfl m_wi2 (by decide) in_2_197 rfl rfl dX1_countReached_107 ?_
      obtain ⟨S4, e_S4, hm⟩ := m_cal0_of hm
      refine r_cVv X hH hS (k := 1) (c_X1_come (a := a) (o1 := o2) hT hk_a hk_o2 e_S4) mw_X1_come in_5_173 hk_a (by decide) rfl rfl rfl ⟨rfl, rfl⟩ ⟨Nat.le_of_ble_eq_true rfl, Nat.le_of_ble_eq_true rfl⟩ ⟨Nat.zero_le _, Nat.zero_le _⟩ hl.1 (Nat.le_of_ble_eq_true rfl) dX1_countReached_110 (fun H locs hH hS => ?_)
      refine lv_iconst (v := (0 : Int32)) hx hb dX1_countReached_113 (by decide) ?_
      refine lv_istore_n (lv' := [(3, .int (0 : Int32)), (0, .ref a), (1, .ref o1), (2, .ref o2)]) hx hb dX1_countReached_114 rfl hl (by decide) rfl (fun ls hl => ?_)
      exact k_X1_countReached_115 (a := a) (o1 := o1) (o2 := o2) X hr hT hk_a hk_o1 hk_o2  m_fu S4 (0 : Int32) _ _ _ hH hS (lv_sub hl [1, 3, 0] rfl) hm
    · have hm := m_ite_f hm c1
      refine lv_aload_n hx hb dX1_countReached_37 rfl (lv_at hl 1 rfl) ?_
      refine lv_aload_n hx hb dX1_countReached_38 rfl (lv_at hl 2 rfl) ?_
      refine r_getp X hH (k := 2) (a := o2) (j := 12) (b := (o2 + 1)) (A := 1) (B := 0) hk_o2 (by decide) rfl m_wi2 (by decide) in_2_202 rfl rfl rfl dX1_countReached_39 ?_
      refine lv_iload_n hx hb dX1_countReached_42 rfl (lv_at hl 3 rfl) ?_
      obtain ⟨v5, h_v5, e_v5, hm⟩ := n_ldi hm
      refine n_iald X hH (n := 13) (m_lay_at hT hk_o2 (by decide) (i := 1) rfl) h_v5 e_v5 dX1_countReached_43 ?_
      obtain ⟨v7, S6, e_S6, hm⟩ := m_call_of hm
      refine n_cVi X hH hS (k := 3) (c_X3_varCount (a := o1) hT hk_o1 e_S6) mw_X3_varCount in_5_172 hk_o1 (by decide) rfl rfl rfl ⟨rfl, rfl⟩ ⟨Nat.le_of_ble_eq_true rfl, Nat.le_of_ble_eq_true rfl⟩ ⟨Nat.zero_le _, Nat.zero_le _⟩ hl.1 (Nat.le_of_ble_eq_true rfl) dX1_countReached_44 (fun H locs hH hS => ?_)
      refine lv_istore (lv' := [(4, .int v7), (0, .ref a), (1, .ref o1), (2, .ref o2), (3, .int l3)]) hx hb dX1_countReached_47 hl (by decide) rfl (fun ls hl => ?_)
      refine lv_iconst (v := (0 : Int32)) hx hb dX1_countReached_49 (by decide) ?_
      refine lv_istore (lv' := [(5, .int (0 : Int32)), (4, .int v7), (0, .ref a), (1, .ref o1), (2, .ref o2), (3, .int l3)]) hx hb dX1_countReached_50 hl (by decide) rfl (fun ls hl => ?_)
      exact k_X1_countReached_52 (a := a) (o1 := o1) (o2 := o2) X hr hT hk_a hk_o1 hk_o2 (b_X1_countReached_29 a o1 o2 n) ih m_fu S6 l3 v7 (0 : Int32) _ _ _ hH hS (lv_sub hl [2, 3, 4, 5, 1, 0] rfl) hm
def b_X1_countReached_2 (a o1 o2 : Nat)  : Nat → m_M → Int32 → Option (Int32 × m_M)
  | 0, _, _ => none
  | n + 1, S, l3 =>
    if (200 : Int32) ≤ l3 then (
    m_let (m_si S a 2 (0 : Int32)) fun S2 =>
    b_X1_countReached_29 a o1 o2 m_fu S2 (0 : Int32)) else (
    (m_sti S (a + 1) 200 l3 (vp_nar .boolean (0 : Int32))).bind fun S3 =>
    m_let (l3 + (1 : Int32)) fun v4 =>
    b_X1_countReached_2 a o1 o2 n S3 v4)
set_option maxHeartbeats 4000000 in
set_option maxRecDepth 100000 in
theorem k_X1_countReached_2 {p : Program} {l : Launch} {e : Env} {s : State} {m : MethodId} {args : Array Value} {below : List Frame} {meth : Method} {c : Code} {G : m_G} {nx : Nat} {κ : Nat → Nat} {res : (Int32 × m_M)} {a o1 o2 : Nat} (X : m_Cx p s m args meth c cX1_countReached 6 RX1 G) (hr : meth.sig.returnType = (some .int)) (hT : m_Str κ) (hk_a : κ a = 2) (hk_o1 : κ o1 = 4) (hk_o2 : κ o2 = 3)  (n : Nat) : ∀ (S : m_M) (l3 : Int32) (H : Heap) (locs : List Loc) (ls : Array Slot), m_H G nx κ S H → m_S G s H locs → lv_has ls 6 [(0, .ref a), (1, .ref o1), (2, .ref o2), (3, .int l3)] → b_X1_countReached_2 a o1 o2 n S l3 = some res → W p l e rm_X1_countReached s m args below meth c H locs 0 0 (m_Qi below args s G nx κ res) (F0 m 2 ls []) := by
  have hx := X.1.1
  have hb := X.1.2.1
  induction n with
  | zero => intro S l3 H locs ls hH hS hl hm; have hm : (none : Option (Int32 × m_M)) = some res := hm; cases hm
  | succ n ih =>
    intro S l3 H locs ls hH hS hl hm
    rw [b_X1_countReached_2] at hm
    refine lv_iload_n hx hb dX1_countReached_2 rfl (lv_at hl 3 rfl) ?_
    refine lv_sipush (v := (200 : Int32)) hx hb dX1_countReached_3 (by decide) ?_
    refine lv_icmp_ge (tgt := 22) hx hb dX1_countReached_6 (by decide) (fun c1 => ?_) (fun c1 => ?_)
    · have hm := m_ite_t hm c1
      refine lv_aload_n hx hb dX1_countReached_22 rfl (lv_at hl 0 rfl) ?_
      refine lv_iconst (v := (0 : Int32)) hx hb dX1_countReached_23 (by decide) ?_
      obtain ⟨S2, e_S2, hm⟩ := m_let_of hm
      refine n_puti X hH hS tyX1 (k := 1) (a := a) (j := 2) hk_a (by decide) rfl m_wi1 tyX1_ok nmX1 (by decide) in_3_46 rfl rfl rfl ⟨rfl, rfl⟩ e_S2 dX1_countReached_24 (fun H locs hH hS => ?_)
      refine lv_iconst (v := (0 : Int32)) hx hb dX1_countReached_27 (by decide) ?_
      refine lv_istore_n (lv' := [(3, .int (0 : Int32)), (0, .ref a), (1, .ref o1), (2, .ref o2)]) hx hb dX1_countReached_28 rfl hl (by decide) rfl (fun ls hl => ?_)
      exact k_X1_countReached_29 (a := a) (o1 := o1) (o2 := o2) X hr hT hk_a hk_o1 hk_o2  m_fu S2 (0 : Int32) _ _ _ hH hS (lv_sub hl [1, 2, 3, 0] rfl) hm
    · have hm := m_ite_f hm c1
      refine lv_aload_n hx hb dX1_countReached_9 rfl (lv_at hl 0 rfl) ?_
      refine r_getp X hH (k := 1) (a := a) (j := 0) (b := (a + 1)) (A := 1) (B := 0) hk_a (by decide) rfl m_wi1 (by decide) in_3_43 rfl rfl rfl dX1_countReached_10 ?_
      refine lv_iload_n hx hb dX1_countReached_13 rfl (lv_at hl 3 rfl) ?_
      refine lv_iconst (v := (0 : Int32)) hx hb dX1_countReached_14 (by decide) ?_
      obtain ⟨S3, h_S3, e_S3, hm⟩ := n_sti hm
      refine n_zast X hH hS (n := 200) (m_lay_at hT hk_a (by decide) (i := 1) rfl) h_S3 e_S3 dX1_countReached_15 (fun H locs hH hS => ?_)
      obtain ⟨v4, e_v4, hm⟩ := m_let_of hm
      refine lv_iinc (v := v4) (lv' := [(3, .int v4), (0, .ref a), (1, .ref o1), (2, .ref o2)]) hx hb dX1_countReached_16 hl (k := 3) rfl (by rw [← e_v4]; rfl) (by decide) rfl (fun ls hl => ?_)
      refine lv_goto (tgt := 2) hx hb dX1_countReached_19 (by decide) ?_
      exact ih S3 v4 _ _ _ hH hS (lv_sub hl [1, 2, 3, 0] rfl) hm
def f_X1_countReached (a o1 o2 : Nat) (S : m_M)  : Option (Int32 × m_M) :=
    b_X1_countReached_2 a o1 o2 m_fu S (0 : Int32)
set_option maxHeartbeats 4000000 in
set_option maxRecDepth 100000 in
theorem c_X1_countReached {l : Launch} {G : m_G} {nx : Nat} {κ : Nat → Nat} {a o1 o2 : Nat} {S : m_M}  {res : (Int32 × m_M)} (hT : m_Str κ) (hk_a : κ a = 2) (hk_o1 : κ o1 = 4) (hk_o2 : κ o2 = 3) (hm : f_X1_countReached a o1 o2 S = some res) : m_Ci l yX1_countReached cX1_countReached 6 (some .int) rm_X1_countReached G nx κ [.ref a, .ref o1, .ref o2] S res := by
  refine m_Ci.of (by decide) (Nat.le_of_ble_eq_true rfl) ?_
  intro p e s m args below meth c ls X hr hH hl
  have hx := X.1.1
  have hb := X.1.2.1
  have hS : m_S G s s.heap [] := va_S.rf
  have hl : lv_has ls 6 [(0, .ref a), (1, .ref o1), (2, .ref o2)] := hl
  rw [f_X1_countReached] at hm
  refine lv_iconst (v := (0 : Int32)) hx hb dX1_countReached_0 (by decide) ?_
  refine lv_istore_n (lv' := [(3, .int (0 : Int32)), (0, .ref a), (1, .ref o1), (2, .ref o2)]) hx hb dX1_countReached_1 rfl hl (by decide) rfl (fun ls hl => ?_)
  exact k_X1_countReached_2 (a := a) (o1 := o1) (o2 := o2) X hr hT hk_a hk_o1 hk_o2  m_fu S (0 : Int32) _ _ _ hH hS (lv_sub hl [1, 2, 3, 0] rfl) hm
def rm_X2_clear : Room := { frames := 1, cells := 0, slots := 0, locals := 23 }
def f_X2_clear (a : Nat) (S : m_M)  : Option m_M :=
    m_let (m_si S a 0 (0 : Int32)) fun S1 =>
    m_let (m_si S1 a 1 (0 : Int32)) fun S2 =>
    m_let (m_si S2 a 2 (0 : Int32)) fun S3 =>
    m_let (m_si S3 a 3 (0 : Int32)) fun S4 =>
    m_let (m_si S4 a 4 (0 : Int32)) fun S5 =>
    m_let (m_si S5 a 5 (0 : Int32)) fun S6 =>
    m_let (m_si S6 a 6 (0 : Int32)) fun S7 =>
    m_let (m_si S7 a 7 (0 : Int32)) fun S8 =>
    m_let (m_si S8 a 8 (0 : Int32)) fun S9 =>
    m_let (m_si S9 a 9 (0 : Int32)) fun S10 =>
    m_let (m_si S10 a 10 (0 : Int32)) fun S11 =>
    m_let (m_si S11 a 11 (0 : Int32)) fun S12 =>
    m_cal0 (f_J7_fill_53178 (a + 6) 200 S12 (-1 : Int32)) fun S13 =>
    some S13
set_option maxHeartbeats 4000000 in
set_option maxRecDepth 100000 in
theorem c_X2_clear {l : Launch} {G : m_G} {nx : Nat} {κ : Nat → Nat} {a : Nat} {S : m_M}  {res : m_M} (hT : m_Str κ) (hk_a : κ a = 3) (hm : f_X2_clear a S = some res) : m_Cv l yX2_clear cX2_clear 1 rm_X2_clear G nx κ [.ref a] S res := by
  refine m_Cv.of (by decide) (Nat.le_of_ble_eq_true rfl) ?_
  intro p e s m args below meth c ls X hr hH hl
  have hx := X.1.1
  have hb := X.1.2.1
  have hS : m_S G s s.heap [] := va_S.rf
  have hl : lv_has ls 1 [(0, .ref a)] := hl
  rw [f_X2_clear] at hm
  refine lv_aload_n hx hb dX2_clear_0 rfl (lv_at hl 0 rfl) ?_
  refine lv_iconst (v := (0 : Int32)) hx hb dX2_clear_1 (by decide) ?_
  obtain ⟨S1, e_S1, hm⟩ := m_let_of hm
  refine n_puti X hH hS tyX2 (k := 2) (a := a) (j := 0) hk_a (by decide) rfl m_wi2 tyX2_ok nmX2 (by decide) in_2_176 rfl rfl rfl ⟨rfl, rfl⟩ e_S1 dX2_clear_2 (fun H locs hH hS => ?_)
  refine lv_aload_n hx hb dX2_clear_5 rfl (lv_at hl 0 rfl) ?_
  refine lv_iconst (v := (0 : Int32)) hx hb dX2_clear_6 (by decide) ?_
  obtain ⟨S2, e_S2, hm⟩ := m_let_of hm
  refine n_puti X hH hS tyX2 (k := 2) (a := a) (j := 1) hk_a (by decide) rfl m_wi2 tyX2_ok nmX2 (by decide) in_2_178 rfl rfl rfl ⟨rfl, rfl⟩ e_S2 dX2_clear_7 (fun H locs hH hS => ?_)
  refine lv_aload_n hx hb dX2_clear_10 rfl (lv_at hl 0 rfl) ?_
  refine lv_iconst (v := (0 : Int32)) hx hb dX2_clear_11 (by decide) ?_
  obtain ⟨S3, e_S3, hm⟩ := m_let_of hm
  refine n_puti X hH hS tyX2 (k := 2) (a := a) (j := 2) hk_a (by decide) rfl m_wi2 tyX2_ok nmX2 (by decide) in_2_180 rfl rfl rfl ⟨rfl, rfl⟩ e_S3 dX2_clear_12 (fun H locs hH hS => ?_)
  refine lv_aload_n hx hb dX2_clear_15 rfl (lv_at hl 0 rfl) ?_
  refine lv_iconst (v := (0 : Int32)) hx hb dX2_clear_16 (by decide) ?_
  obtain ⟨S4, e_S4, hm⟩ := m_let_of hm
  refine n_puti X hH hS tyX2 (k := 2) (a := a) (j := 3) hk_a (by decide) rfl m_wi2 tyX2_ok nmX2 (by decide) in_2_183 rfl rfl rfl ⟨rfl, rfl⟩ e_S4 dX2_clear_17 (fun H locs hH hS => ?_)
  refine lv_aload_n hx hb dX2_clear_20 rfl (lv_at hl 0 rfl) ?_
  refine lv_iconst (v := (0 : Int32)) hx hb dX2_clear_21 (by decide) ?_
  obtain ⟨S5, e_S5, hm⟩ := m_let_of hm
  refine n_puti X hH hS tyX2 (k := 2) (a := a) (j := 4) hk_a (by decide) rfl m_wi2 tyX2_ok nmX2 (by decide) in_2_185 rfl rfl rfl ⟨rfl, rfl⟩ e_S5 dX2_clear_22 (fun H locs hH hS => ?_)
  refine lv_aload_n hx hb dX2_clear_25 rfl (lv_at hl 0 rfl) ?_
  refine lv_iconst (v := (0 : Int32)) hx hb dX2_clear_26 (by decide) ?_
  obtain ⟨S6, e_S6, hm⟩ := m_let_of hm
  refine n_puti X hH hS tyX2 (k := 2) (a := a) (j := 5) hk_a (by decide) rfl m_wi2 tyX2_ok nmX2 (by decide) in_2_187 rfl rfl rfl ⟨rfl, rfl⟩ e_S6 dX2_clear_27 (fun H locs hH hS => ?_)
  refine lv_aload_n hx hb dX2_clear_30 rfl (lv_at hl 0 rfl) ?_
  refine lv_iconst (v := (0 : Int32)) hx hb dX2_clear_31 (by decide) ?_
  obtain ⟨S7, e_S7, hm⟩ := m_let_of hm
  refine n_puti X hH hS tyX2 (k := 2) (a := a) (j := 6) hk_a (by decide) rfl m_wi2 tyX2_ok nmX2 (by decide) in_2_189 rfl rfl rfl ⟨rfl, rfl⟩ e_S7 dX2_clear_32 (fun H locs hH hS => ?_)
  refine lv_aload_n hx hb dX2_clear_35 rfl (lv_at hl 0 rfl) ?_
  refine lv_iconst (v := (0 : Int32)) hx hb dX2_clear_36 (by decide) ?_
  obtain ⟨S8, e_S8, hm⟩ := m_let_of hm
  refine n_puti X hH hS tyX2 (k := 2) (a := a) (j := 7) hk_a (by decide) rfl m_wi2 tyX2_ok nmX2 (by decide) in_2_191 rfl rfl rfl ⟨rfl, rfl⟩ e_S8 dX2_clear_37 (fun H locs hH hS => ?_)
  refine lv_aload_n hx hb dX2_clear_40 rfl (lv_at hl 0 rfl) ?_
  refine lv_iconst (v := (0 : Int32)) hx hb dX2_clear_41 (by decide) ?_
  obtain ⟨S9, e_S9, hm⟩ := m_let_of hm
  refine n_puti X hH hS tyX2 (k := 2) (a := a) (j := 8) hk_a (by decide) rfl m_wi2 tyX2_ok nmX2 (by decide) in_2_193 rfl rfl rfl ⟨rfl, rfl⟩ e_S9 dX2_clear_42 (fun H locs hH hS => ?_)
  refine lv_aload_n hx hb dX2_clear_45 rfl (lv_at hl 0 rfl) ?_
  refine lv_iconst (v := (0 : Int32)) hx hb dX2_clear_46 (by decide) ?_
  obtain ⟨S10, e_S10, hm⟩ := m_let_of hm
  refine n_puti X hH hS tyX2 (k := 2) (a := a) (j := 9) hk_a (by decide) rfl m_wi2 tyX2_ok nmX2 (by decide) in_2_195 rfl rfl rfl ⟨rfl, rfl⟩ e_S10 dX2_clear_47 (fun H locs hH hS => ?_)
  refine lv_aload_n hx hb dX2_clear_50 rfl (lv_at hl 0 rfl) ?_
  refine lv_iconst (v := (0 : Int32)) hx hb dX2_clear_51 (by decide) ?_
  obtain ⟨S11, e_S11, hm⟩ := m_let_of hm
  refine n_puti X hH hS tyX2 (k := 2) (a := a) (j := 10) hk_a (by decide) rfl m_wi2 tyX2_ok nmX2 (by decide) in_2_196 rfl rfl rfl ⟨rfl, rfl⟩ e_S11 dX2_clear_52 (fun H locs hH hS => ?_)
  refine lv_aload_n hx hb dX2_clear_55 rfl (lv_at hl 0 rfl) ?_
  refine lv_iconst (v := (0 : Int32)) hx hb dX2_clear_56 (by decide) ?_
  obtain ⟨S12, e_S12, hm⟩ := m_let_of hm
  refine n_puti X hH hS tyX2 (k := 2) (a := a) (j := 11) hk_a (by decide) rfl m_wi2 tyX2_ok nmX2 (by decide) in_2_199 rfl rfl rfl (m_nz (by decide)) e_S12 dX2_clear_57 (fun H locs hH hS => ?_)
  refine lv_aload_n hx hb dX2_clear_60 rfl (lv_at hl 0 rfl) ?_
  refine r_getp X hH (k := 2) (a := a) (j := 17) (b := (a + 6)) (A := 6) (B := 0) hk_a (by decide) rfl m_wi2 (by decide) in_2_212 rfl rfl rfl dX2_clear_61 ?_
  refine lv_iconst (v := (-1 : Int32)) hx hb dX2_clear_64 (by decide) ?_
  obtain ⟨S13, e_S13, hm⟩ := m_cal0_of hm
  refine r_cSv X hH hS (c_J7_fill_53178 (o0 := (a + 6)) (n0 := 200) hT (m_lay_at hT hk_a (by decide) (i := 6) rfl) e_S13) mw_J7_fill_53178 in_2_173 rfl ⟨rfl, rfl⟩ ⟨Nat.le_of_ble_eq_true rfl, Nat.le_of_ble_eq_true rfl⟩ ⟨Nat.zero_le _, Nat.zero_le _⟩ hl.1 (Nat.le_of_ble_eq_true rfl) dX2_clear_65 (fun H locs hH hS => ?_)
  exact r_vret X hr hH hS hm dX2_clear_68
def rm_X2_makeRooms : Room := { frames := 0, cells := 0, slots := 0, locals := 0 }
def b_X2_makeRooms_51 (a : Nat) (K_7 : m_M → Int32 → Int32 → Option m_M) (S : m_M) (l1 : Int32) (l2 : Int32) : Option m_M :=
    m_let (l2 + (1 : Int32)) fun v1 =>
    K_7 S l1 v1
set_option maxHeartbeats 4000000 in
set_option maxRecDepth 100000 in
theorem k_X2_makeRooms_51 {p : Program} {l : Launch} {e : Env} {s : State} {m : MethodId} {args : Array Value} {below : List Frame} {meth : Method} {c : Code} {G : m_G} {nx : Nat} {κ : Nat → Nat} {res : m_M} {a : Nat} (X : m_Cx p s m args meth c cX2_makeRooms 3 RX2 G) (hr : meth.sig.returnType = none) (hT : m_Str κ) (hk_a : κ a = 3) (K_7 : m_M → Int32 → Int32 → Option m_M) (hK_7 : ∀ (S : m_M) (l1 : Int32) (l2 : Int32) (H : Heap) (locs : List Loc) (ls : Array Slot), m_H G nx κ S H → m_S G s H locs → lv_has ls 3 [(0, .ref a), (1, .int l1), (2, .int l2)] → K_7 S l1 l2 = some res → W p l e rm_X2_makeRooms s m args below meth c H locs 0 0 (m_Qv below args s G nx κ res) (F0 m 7 ls [])) : ∀ (S : m_M) (l1 : Int32) (l2 : Int32) (H : Heap) (locs : List Loc) (ls : Array Slot), m_H G nx κ S H → m_S G s H locs → lv_has ls 3 [(0, .ref a), (1, .int l1), (2, .int l2)] → b_X2_makeRooms_51 a K_7 S l1 l2 = some res → W p l e rm_X2_makeRooms s m args below meth c H locs 0 0 (m_Qv below args s G nx κ res) (F0 m 51 ls []) := by
  have hx := X.1.1
  have hb := X.1.2.1
  intro S l1 l2 H locs ls hH hS hl hm
  rw [b_X2_makeRooms_51] at hm
  obtain ⟨v1, e_v1, hm⟩ := m_let_of hm
  refine lv_iinc (v := v1) (lv' := [(2, .int v1), (0, .ref a), (1, .int l1)]) hx hb dX2_makeRooms_51 hl (k := 2) rfl (by rw [← e_v1]; rfl) (by decide) rfl (fun ls hl => ?_)
  refine lv_goto (tgt := 7) hx hb dX2_makeRooms_54 (by decide) ?_
  exact hK_7 S l1 v1 _ _ _ hH hS (lv_sub hl [1, 2, 0] rfl) hm
def b_X2_makeRooms_7 (a : Nat)  : Nat → m_M → Int32 → Int32 → Option m_M
  | 0, _, _, _ => none
  | n + 1, S, l1, l2 =>
    if (24 : Int32) ≤ l2 then (
    some S) else (
    if ((l1 >>> (l2 &&& 31)) &&& (1 : Int32)) = 0 then (
    b_X2_makeRooms_51 a (b_X2_makeRooms_7 a n) S l1 l2) else (
    if (312 : Int32) ≤ (m_ri S a 3) then (
    b_X2_makeRooms_51 a (b_X2_makeRooms_7 a n) S l1 l2) else (
    (m_sti S (a + 5) 312 (m_ri S a 3) l2).bind fun S4 =>
    m_let (m_si S4 a 3 ((m_ri S4 a 3) + (1 : Int32))) fun S5 =>
    b_X2_makeRooms_51 a (b_X2_makeRooms_7 a n) S5 l1 l2)))
set_option maxHeartbeats 4000000 in
set_option maxRecDepth 100000 in
theorem k_X2_makeRooms_7 {p : Program} {l : Launch} {e : Env} {s : State} {m : MethodId} {args : Array Value} {below : List Frame} {meth : Method} {c : Code} {G : m_G} {nx : Nat} {κ : Nat → Nat} {res : m_M} {a : Nat} (X : m_Cx p s m args meth c cX2_makeRooms 3 RX2 G) (hr : meth.sig.returnType = none) (hT : m_Str κ) (hk_a : κ a = 3)  (n : Nat) : ∀ (S : m_M) (l1 : Int32) (l2 : Int32) (H : Heap) (locs : List Loc) (ls : Array Slot), m_H G nx κ S H → m_S G s H locs → lv_has ls 3 [(0, .ref a), (1, .int l1), (2, .int l2)] → b_X2_makeRooms_7 a n S l1 l2 = some res → W p l e rm_X2_makeRooms s m args below meth c H locs 0 0 (m_Qv below args s G nx κ res) (F0 m 7 ls []) := by
  have hx := X.1.1
  have hb := X.1.2.1
  induction n with
  | zero => intro S l1 l2 H locs ls hH hS hl hm; have hm : (none : Option m_M) = some res := hm; cases hm
  | succ n ih =>
    intro S l1 l2 H locs ls hH hS hl hm
    rw [b_X2_makeRooms_7] at hm
    refine lv_iload_n hx hb dX2_makeRooms_7 rfl (lv_at hl 2 rfl) ?_
    refine lv_bipush (v := (24 : Int32)) hx hb dX2_makeRooms_8 (by decide) ?_
    refine lv_icmp_ge (tgt := 57) hx hb dX2_makeRooms_10 (by decide) (fun c1 => ?_) (fun c1 => ?_)
    · have hm := m_ite_t hm c1
      exact r_vret X hr hH hS hm dX2_makeRooms_57
    · have hm := m_ite_f hm c1
      refine lv_iload_n hx hb dX2_makeRooms_13 rfl (lv_at hl 1 rfl) ?_
      refine lv_iload_n hx hb dX2_makeRooms_14 rfl (lv_at hl 2 rfl) ?_
      refine lv_ishr hx hb dX2_makeRooms_15 ?_
      refine lv_iconst (v := (1 : Int32)) hx hb dX2_makeRooms_16 (by decide) ?_
      refine lv_iand hx hb dX2_makeRooms_17 ?_
      refine lv_if_eq (tgt := 51) hx hb dX2_makeRooms_18 (by decide) (fun c2 => ?_) (fun c2 => ?_)
      · have hm := m_ite_t hm c2
        exact k_X2_makeRooms_51 (a := a) X hr hT hk_a (b_X2_makeRooms_7 a n) ih  S l1 l2 _ _ _ hH hS hl hm
      · have hm := m_ite_f hm c2
        refine lv_aload_n hx hb dX2_makeRooms_21 rfl (lv_at hl 0 rfl) ?_
        refine r_geti X hH (k := 2) (a := a) (j := 3) hk_a (by decide) rfl m_wi2 (by decide) in_2_183 rfl rfl dX2_makeRooms_22 ?_
        refine lv_sipush (v := (312 : Int32)) hx hb dX2_makeRooms_25 (by decide) ?_
        refine lv_icmp_ge (tgt := 51) hx hb dX2_makeRooms_28 (by decide) (fun c3 => ?_) (fun c3 => ?_)
        · have hm := m_ite_t hm c3
          exact k_X2_makeRooms_51 (a := a) X hr hT hk_a (b_X2_makeRooms_7 a n) ih  S l1 l2 _ _ _ hH hS hl hm
        · have hm := m_ite_f hm c3
          refine lv_aload_n hx hb dX2_makeRooms_31 rfl (lv_at hl 0 rfl) ?_
          refine r_getp X hH (k := 2) (a := a) (j := 16) (b := (a + 5)) (A := 5) (B := 0) hk_a (by decide) rfl m_wi2 (by decide) in_2_210 rfl rfl rfl dX2_makeRooms_32 ?_
          refine lv_aload_n hx hb dX2_makeRooms_35 rfl (lv_at hl 0 rfl) ?_
          refine r_geti X hH (k := 2) (a := a) (j := 3) hk_a (by decide) rfl m_wi2 (by decide) in_2_183 rfl rfl dX2_makeRooms_36 ?_
          refine lv_iload_n hx hb dX2_makeRooms_39 rfl (lv_at hl 2 rfl) ?_
          obtain ⟨S4, h_S4, e_S4, hm⟩ := n_sti hm
          refine n_iast X hH hS (n := 312) (m_lay_at hT hk_a (by decide) (i := 5) rfl) h_S4 e_S4 dX2_makeRooms_40 (fun H locs hH hS => ?_)
          refine lv_aload_n hx hb dX2_makeRooms_41 rfl (lv_at hl 0 rfl) ?_
          refine lv_dup hx hb dX2_makeRooms_42 rfl ?_
          refine r_geti X hH (k := 2) (a := a) (j := 3) hk_a (by decide) rfl m_wi2 (by decide) in_2_183 rfl rfl dX2_makeRooms_43 ?_
          refine lv_iconst (v := (1 : Int32)) hx hb dX2_makeRooms_46 (by decide) ?_
          refine lv_iadd hx hb dX2_makeRooms_47 ?_
          obtain ⟨S5, e_S5, hm⟩ := m_let_of hm
          refine n_puti X hH hS tyX2 (k := 2) (a := a) (j := 3) hk_a (by decide) rfl m_wi2 tyX2_ok nmX2 (by decide) in_2_183 rfl rfl rfl ⟨rfl, rfl⟩ e_S5 dX2_makeRooms_48 (fun H locs hH hS => ?_)
          exact k_X2_makeRooms_51 (a := a) X hr hT hk_a (b_X2_makeRooms_7 a n) ih  S5 l1 l2 _ _ _ hH hS hl hm
def f_X2_makeRooms (a : Nat) (S : m_M) (i1 : Int32) : Option m_M :=
    if i1 = 0 then (
    some S) else (
    b_X2_makeRooms_7 a m_fu S i1 (0 : Int32))
set_option maxHeartbeats 4000000 in
set_option maxRecDepth 100000 in
theorem c_X2_makeRooms {l : Launch} {G : m_G} {nx : Nat} {κ : Nat → Nat} {a : Nat} {S : m_M} {i1 : Int32} {res : m_M} (hT : m_Str κ) (hk_a : κ a = 3) (hm : f_X2_makeRooms a S i1 = some res) : m_Cv l yX2_makeRooms cX2_makeRooms 3 rm_X2_makeRooms G nx κ [.ref a, .int i1] S res := by
  refine m_Cv.of (by decide) (Nat.le_of_ble_eq_true rfl) ?_
  intro p e s m args below meth c ls X hr hH hl
  have hx := X.1.1
  have hb := X.1.2.1
  have hS : m_S G s s.heap [] := va_S.rf
  have hl : lv_has ls 3 [(0, .ref a), (1, .int i1)] := hl
  rw [f_X2_makeRooms] at hm
  refine lv_iload_n hx hb dX2_makeRooms_0 rfl (lv_at hl 1 rfl) ?_
  refine lv_if_ne (tgt := 5) hx hb dX2_makeRooms_1 (by decide) (fun c1 => ?_) (fun c1 => ?_)
  · have hm := m_ite_f hm c1
    refine lv_iconst (v := (0 : Int32)) hx hb dX2_makeRooms_5 (by decide) ?_
    refine lv_istore_n (lv' := [(2, .int (0 : Int32)), (0, .ref a), (1, .int i1)]) hx hb dX2_makeRooms_6 rfl hl (by decide) rfl (fun ls hl => ?_)
    exact k_X2_makeRooms_7 (a := a) X hr hT hk_a  m_fu S i1 (0 : Int32) _ _ _ hH hS (lv_sub hl [1, 2, 0] rfl) hm
  · have hm := m_ite_t hm c1
    exact r_vret X hr hH hS hm dX2_makeRooms_4
def rm_X2_setVar : Room := { frames := 0, cells := 0, slots := 0, locals := 0 }
def f_X2_setVar (a : Nat) (S : m_M) (i1 : Int32) (i2 : Int32) (i3 : Int32) (i4 : Int32) : Option m_M :=
    (m_sti S (a + 3) 351 ((i1 * (27 : Int32)) + i2) i3).bind fun S1 =>
    (m_sti S1 (a + 4) 351 ((i1 * (27 : Int32)) + i2) i4).bind fun S2 =>
    some S2
set_option maxHeartbeats 4000000 in
set_option maxRecDepth 100000 in
theorem c_X2_setVar {l : Launch} {G : m_G} {nx : Nat} {κ : Nat → Nat} {a : Nat} {S : m_M} {i1 : Int32} {i2 : Int32} {i3 : Int32} {i4 : Int32} {res : m_M} (hT : m_Str κ) (hk_a : κ a = 3) (hm : f_X2_setVar a S i1 i2 i3 i4 = some res) : m_Cv l yX2_setVar cX2_setVar 5 rm_X2_setVar G nx κ [.ref a, .int i1, .int i2, .int i3, .int i4] S res := by
  refine m_Cv.of (by decide) (Nat.le_of_ble_eq_true rfl) ?_
  intro p e s m args below meth c ls X hr hH hl
  have hx := X.1.1
  have hb := X.1.2.1
  have hS : m_S G s s.heap [] := va_S.rf
  have hl : lv_has ls 5 [(0, .ref a), (1, .int i1), (2, .int i2), (3, .int i3), (4, .int i4)] := hl
  rw [f_X2_setVar] at hm
  refine lv_aload_n hx hb dX2_setVar_0 rfl (lv_at hl 0 rfl) ?_
  refine r_getp X hH (k := 2) (a := a) (j := 14) (b := (a + 3)) (A := 3) (B := 0) hk_a (by decide) rfl m_wi2 (by decide) in_2_204 rfl rfl rfl dX2_setVar_1 ?_
  refine lv_iload_n hx hb dX2_setVar_4 rfl (lv_at hl 1 rfl) ?_
  refine lv_bipush (v := (27 : Int32)) hx hb dX2_setVar_5 (by decide) ?_
  refine lv_imul hx hb dX2_setVar_7 ?_
  refine lv_iload_n hx hb dX2_setVar_8 rfl (lv_at hl 2 rfl) ?_
  refine lv_iadd hx hb dX2_setVar_9 ?_
  refine lv_iload_n hx hb dX2_setVar_10 rfl (lv_at hl 3 rfl) ?_
  obtain ⟨S1, h_S1, e_S1, hm⟩ := n_sti hm
  refine n_iast X hH hS (n := 351) (m_lay_at hT hk_a (by decide) (i := 3) rfl) h_S1 e_S1 dX2_setVar_11 (fun H locs hH hS => ?_)
  refine lv_aload_n hx hb dX2_setVar_12 rfl (lv_at hl 0 rfl) ?_
  refine r_getp X hH (k := 2) (a := a) (j := 15) (b := (a + 4)) (A := 4) (B := 0) hk_a (by decide) rfl m_wi2 (by decide) in_2_207 rfl rfl rfl dX2_setVar_13 ?_
  refine lv_iload_n hx hb dX2_setVar_16 rfl (lv_at hl 1 rfl) ?_
  refine lv_bipush (v := (27 : Int32)) hx hb dX2_setVar_17 (by decide) ?_
  refine lv_imul hx hb dX2_setVar_19 ?_
  refine lv_iload_n hx hb dX2_setVar_20 rfl (lv_at hl 2 rfl) ?_
  refine lv_iadd hx hb dX2_setVar_21 ?_
  refine lv_iload hx hb dX2_setVar_22 (lv_at hl 4 rfl) ?_
  obtain ⟨S2, h_S2, e_S2, hm⟩ := n_sti hm
  refine n_iast X hH hS (n := 351) (m_lay_at hT hk_a (by decide) (i := 4) rfl) h_S2 e_S2 dX2_setVar_24 (fun H locs hH hS => ?_)
  exact r_vret X hr hH hS hm dX2_setVar_25
def rm_X2_openFrame : Room := { frames := 1, cells := 0, slots := 0, locals := 24 }
def b_X2_openFrame_16 (a : Nat)  : Nat → m_M → Int32 → Int32 → Option m_M
  | 0, _, _, _ => none
  | n + 1, S, l1, l3 =>
    if (27 : Int32) ≤ l3 then (
    some S) else (
    m_cal0 (f_X2_setVar a S l1 l3 (0 : Int32) (0 : Int32)) fun S2 =>
    m_let (l3 + (1 : Int32)) fun v3 =>
    b_X2_openFrame_16 a n S2 l1 v3)
set_option maxHeartbeats 4000000 in
set_option maxRecDepth 100000 in
theorem k_X2_openFrame_16 {p : Program} {l : Launch} {e : Env} {s : State} {m : MethodId} {args : Array Value} {below : List Frame} {meth : Method} {c : Code} {G : m_G} {nx : Nat} {κ : Nat → Nat} {res : m_M} {a : Nat} (X : m_Cx p s m args meth c cX2_openFrame 4 RX2 G) (hr : meth.sig.returnType = none) (hT : m_Str κ) (hk_a : κ a = 3)  (n : Nat) : ∀ (S : m_M) (l1 : Int32) (l3 : Int32) (H : Heap) (locs : List Loc) (ls : Array Slot), m_H G nx κ S H → m_S G s H locs → lv_has ls 4 [(0, .ref a), (1, .int l1), (3, .int l3)] → b_X2_openFrame_16 a n S l1 l3 = some res → W p l e rm_X2_openFrame s m args below meth c H locs 0 0 (m_Qv below args s G nx κ res) (F0 m 16 ls []) := by
  have hx := X.1.1
  have hb := X.1.2.1
  induction n with
  | zero => intro S l1 l3 H locs ls hH hS hl hm; have hm : (none : Option m_M) = some res := hm; cases hm
  | succ n ih =>
    intro S l1 l3 H locs ls hH hS hl hm
    rw [b_X2_openFrame_16] at hm
    refine lv_iload_n hx hb dX2_openFrame_16 rfl (lv_at hl 2 rfl) ?_
    refine lv_bipush (v := (27 : Int32)) hx hb dX2_openFrame_17 (by decide) ?_
    refine lv_icmp_ge (tgt := 36) hx hb dX2_openFrame_19 (by decide) (fun c1 => ?_) (fun c1 => ?_)
    · have hm := m_ite_t hm c1
      exact r_vret X hr hH hS hm dX2_openFrame_36
    · have hm := m_ite_f hm c1
      refine lv_aload_n hx hb dX2_openFrame_22 rfl (lv_at hl 0 rfl) ?_
      refine lv_iload_n hx hb dX2_openFrame_23 rfl (lv_at hl 1 rfl) ?_
      refine lv_iload_n hx hb dX2_openFrame_24 rfl (lv_at hl 2 rfl) ?_
      refine lv_iconst (v := (0 : Int32)) hx hb dX2_openFrame_25 (by decide) ?_
      refine lv_iconst (v := (0 : Int32)) hx hb dX2_openFrame_26 (by decide) ?_
      obtain ⟨S2, e_S2, hm⟩ := m_cal0_of hm
      refine r_cVv X hH hS (k := 2) (c_X2_setVar (a := a) hT hk_a e_S2) mw_X2_setVar in_5_15 hk_a (by decide) rfl rfl rfl ⟨rfl, rfl⟩ ⟨Nat.le_of_ble_eq_true rfl, Nat.le_of_ble_eq_true rfl⟩ ⟨Nat.zero_le _, Nat.zero_le _⟩ hl.1 (Nat.le_of_ble_eq_true rfl) dX2_openFrame_27 (fun H locs hH hS => ?_)
      obtain ⟨v3, e_v3, hm⟩ := m_let_of hm
      refine lv_iinc (v := v3) (lv' := [(3, .int v3), (0, .ref a), (1, .int l1)]) hx hb dX2_openFrame_30 hl (k := 2) rfl (by rw [← e_v3]; rfl) (by decide) rfl (fun ls hl => ?_)
      refine lv_goto (tgt := 16) hx hb dX2_openFrame_33 (by decide) ?_
      exact ih S2 l1 v3 _ _ _ hH hS (lv_sub hl [1, 2, 0] rfl) hm
def f_X2_openFrame (a : Nat) (S : m_M) (i1 : Int32) (i2 : Int32) : Option m_M :=
    (m_sti S (a + 1) 13 i1 i2).bind fun S1 =>
    (m_sti S1 (a + 2) 13 i1 (0 : Int32)).bind fun S2 =>
    b_X2_openFrame_16 a m_fu S2 i1 (0 : Int32)
set_option maxHeartbeats 4000000 in
set_option maxRecDepth 100000 in
theorem c_X2_openFrame {l : Launch} {G : m_G} {nx : Nat} {κ : Nat → Nat} {a : Nat} {S : m_M} {i1 : Int32} {i2 : Int32} {res : m_M} (hT : m_Str κ) (hk_a : κ a = 3) (hm : f_X2_openFrame a S i1 i2 = some res) : m_Cv l yX2_openFrame cX2_openFrame 4 rm_X2_openFrame G nx κ [.ref a, .int i1, .int i2] S res := by
  refine m_Cv.of (by decide) (Nat.le_of_ble_eq_true rfl) ?_
  intro p e s m args below meth c ls X hr hH hl
  have hx := X.1.1
  have hb := X.1.2.1
  have hS : m_S G s s.heap [] := va_S.rf
  have hl : lv_has ls 4 [(0, .ref a), (1, .int i1), (2, .int i2)] := hl
  rw [f_X2_openFrame] at hm
  refine lv_aload_n hx hb dX2_openFrame_0 rfl (lv_at hl 0 rfl) ?_
  refine r_getp X hH (k := 2) (a := a) (j := 12) (b := (a + 1)) (A := 1) (B := 0) hk_a (by decide) rfl m_wi2 (by decide) in_2_201 rfl rfl rfl dX2_openFrame_1 ?_
  refine lv_iload_n hx hb dX2_openFrame_4 rfl (lv_at hl 1 rfl) ?_
  refine lv_iload_n hx hb dX2_openFrame_5 rfl (lv_at hl 2 rfl) ?_
  obtain ⟨S1, h_S1, e_S1, hm⟩ := n_sti hm
  refine n_iast X hH hS (n := 13) (m_lay_at hT hk_a (by decide) (i := 1) rfl) h_S1 e_S1 dX2_openFrame_6 (fun H locs hH hS => ?_)
  refine lv_aload_n hx hb dX2_openFrame_7 rfl (lv_at hl 0 rfl) ?_
  refine r_getp X hH (k := 2) (a := a) (j := 13) (b := (a + 2)) (A := 2) (B := 0) hk_a (by decide) rfl m_wi2 (by decide) in_2_203 rfl rfl rfl dX2_openFrame_8 ?_
  refine lv_iload_n hx hb dX2_openFrame_11 rfl (lv_at hl 1 rfl) ?_
  refine lv_iconst (v := (0 : Int32)) hx hb dX2_openFrame_12 (by decide) ?_
  obtain ⟨S2, h_S2, e_S2, hm⟩ := n_sti hm
  refine n_iast X hH hS (n := 13) (m_lay_at hT hk_a (by decide) (i := 2) rfl) h_S2 e_S2 dX2_openFrame_13 (fun H locs hH hS => ?_)
  refine lv_iconst (v := (0 : Int32)) hx hb dX2_openFrame_14 (by decide) ?_
  refine lv_istore_n (lv' := [(3, .int (0 : Int32)), (0, .ref a), (1, .int i1), (2, .int i2)]) hx hb dX2_openFrame_15 rfl hl (by decide) rfl (fun ls hl => ?_)
  exact k_X2_openFrame_16 (a := a) X hr hT hk_a  m_fu S2 i1 (0 : Int32) _ _ _ hH hS (lv_sub hl [1, 2, 0] rfl) hm
def rm_X2_begin : Room := { frames := 2, cells := 0, slots := 0, locals := 47 }
def f_X2_begin (a o1 : Nat) (S : m_M)  : Option m_M :=
    m_cal0 (f_X2_clear a S) fun S1 =>
    if (m_ri S1 o1 0) = 0 then (
    some S1) else (
    (m_ldi S1 (o1 + 16) 5 ((m_ri S1 o1 0) - (1 : Int32))).bind fun v3 =>
    m_cal0 (f_X2_makeRooms a S1 v3) fun S4 =>
    m_cal0 (f_X2_openFrame a S4 (0 : Int32) ((m_ri S4 o1 0) - (1 : Int32))) fun S5 =>
    m_let (m_si S5 a 2 (1 : Int32)) fun S6 =>
    m_let (m_si S6 a 0 (1 : Int32)) fun S7 =>
    some S7)
set_option maxHeartbeats 4000000 in
set_option maxRecDepth 100000 in
theorem c_X2_begin {l : Launch} {G : m_G} {nx : Nat} {κ : Nat → Nat} {a o1 : Nat} {S : m_M}  {res : m_M} (hT : m_Str κ) (hk_a : κ a = 3) (hk_o1 : κ o1 = 4) (hm : f_X2_begin a o1 S = some res) : m_Cv l yX2_begin cX2_begin 2 rm_X2_begin G nx κ [.ref a, .ref o1] S res := by
  refine m_Cv.of (by decide) (Nat.le_of_ble_eq_true rfl) ?_
  intro p e s m args below meth c ls X hr hH hl
  have hx := X.1.1
  have hb := X.1.2.1
  have hS : m_S G s s.heap [] := va_S.rf
  have hl : lv_has ls 2 [(0, .ref a), (1, .ref o1)] := hl
  rw [f_X2_begin] at hm
  refine lv_aload_n hx hb dX2_begin_0 rfl (lv_at hl 0 rfl) ?_
  obtain ⟨S1, e_S1, hm⟩ := m_cal0_of hm
  refine r_cVv X hH hS (k := 2) (c_X2_clear (a := a) hT hk_a e_S1) mw_X2_clear in_5_6 hk_a (by decide) rfl rfl rfl ⟨rfl, rfl⟩ ⟨Nat.le_of_ble_eq_true rfl, Nat.le_of_ble_eq_true rfl⟩ ⟨Nat.zero_le _, Nat.zero_le _⟩ hl.1 (Nat.le_of_ble_eq_true rfl) dX2_begin_1 (fun H locs hH hS => ?_)
  refine lv_aload_n hx hb dX2_begin_4 rfl (lv_at hl 1 rfl) ?_
  refine r_geti X hH (k := 3) (a := o1) (j := 0) hk_o1 (by decide) rfl m_wi3 (by decide) in_1_125 rfl rfl dX2_begin_5 ?_
  refine lv_if_ne (tgt := 12) hx hb dX2_begin_8 (by decide) (fun c2 => ?_) (fun c2 => ?_)
  · have hm := m_ite_f hm c2
    refine lv_aload_n hx hb dX2_begin_12 rfl (lv_at hl 0 rfl) ?_
    refine lv_aload_n hx hb dX2_begin_13 rfl (lv_at hl 1 rfl) ?_
    refine r_getp X hH (k := 3) (a := o1) (j := 9) (b := (o1 + 8)) (A := 8) (B := 0) hk_o1 (by decide) rfl m_wi3 (by decide) in_1_161 rfl rfl rfl dX2_begin_14 ?_
    refine r_getp X hH (k := 6) (a := (o1 + 8)) (j := 9) (b := (o1 + 16)) (A := 8) (B := 0) (m_lay_at hT hk_o1 (by decide) (i := 8) rfl) (by decide) rfl m_wi6 (by decide) in_1_74 rfl rfl rfl dX2_begin_17 ?_
    refine lv_aload_n hx hb dX2_begin_20 rfl (lv_at hl 1 rfl) ?_
    refine r_geti X hH (k := 3) (a := o1) (j := 0) hk_o1 (by decide) rfl m_wi3 (by decide) in_1_125 rfl rfl dX2_begin_21 ?_
    refine lv_iconst (v := (1 : Int32)) hx hb dX2_begin_24 (by decide) ?_
    refine lv_isub hx hb dX2_begin_25 ?_
    obtain ⟨v3, h_v3, e_v3, hm⟩ := n_ldi hm
    refine n_iald X hH (n := 5) (m_lay_at hT hk_o1 (by decide) (i := 16) rfl) h_v3 e_v3 dX2_begin_26 ?_
    obtain ⟨S4, e_S4, hm⟩ := m_cal0_of hm
    refine r_cVv X hH hS (k := 2) (c_X2_makeRooms (a := a) hT hk_a e_S4) mw_X2_makeRooms in_5_7 hk_a (by decide) rfl rfl rfl ⟨rfl, rfl⟩ ⟨Nat.le_of_ble_eq_true rfl, Nat.le_of_ble_eq_true rfl⟩ ⟨Nat.zero_le _, Nat.zero_le _⟩ hl.1 (Nat.le_of_ble_eq_true rfl) dX2_begin_27 (fun H locs hH hS => ?_)
    refine lv_aload_n hx hb dX2_begin_30 rfl (lv_at hl 0 rfl) ?_
    refine lv_iconst (v := (0 : Int32)) hx hb dX2_begin_31 (by decide) ?_
    refine lv_aload_n hx hb dX2_begin_32 rfl (lv_at hl 1 rfl) ?_
    refine r_geti X hH (k := 3) (a := o1) (j := 0) hk_o1 (by decide) rfl m_wi3 (by decide) in_1_125 rfl rfl dX2_begin_33 ?_
    refine lv_iconst (v := (1 : Int32)) hx hb dX2_begin_36 (by decide) ?_
    refine lv_isub hx hb dX2_begin_37 ?_
    obtain ⟨S5, e_S5, hm⟩ := m_cal0_of hm
    refine r_cVv X hH hS (k := 2) (c_X2_openFrame (a := a) hT hk_a e_S5) mw_X2_openFrame in_5_11 hk_a (by decide) rfl rfl rfl ⟨rfl, rfl⟩ ⟨Nat.le_of_ble_eq_true rfl, Nat.le_of_ble_eq_true rfl⟩ ⟨Nat.zero_le _, Nat.zero_le _⟩ hl.1 (Nat.le_of_ble_eq_true rfl) dX2_begin_38 (fun H locs hH hS => ?_)
    refine lv_aload_n hx hb dX2_begin_41 rfl (lv_at hl 0 rfl) ?_
    refine lv_iconst (v := (1 : Int32)) hx hb dX2_begin_42 (by decide) ?_
    obtain ⟨S6, e_S6, hm⟩ := m_let_of hm
    refine n_puti X hH hS tyX2 (k := 2) (a := a) (j := 2) hk_a (by decide) rfl m_wi2 tyX2_ok nmX2 (by decide) in_2_180 rfl rfl rfl ⟨rfl, rfl⟩ e_S6 dX2_begin_43 (fun H locs hH hS => ?_)
    refine lv_aload_n hx hb dX2_begin_46 rfl (lv_at hl 0 rfl) ?_
    refine lv_iconst (v := (1 : Int32)) hx hb dX2_begin_47 (by decide) ?_
    obtain ⟨S7, e_S7, hm⟩ := m_let_of hm
    refine n_puti X hH hS tyX2 (k := 2) (a := a) (j := 0) hk_a (by decide) rfl m_wi2 tyX2_ok nmX2 (by decide) in_2_176 rfl rfl rfl ⟨rfl, rfl⟩ e_S7 dX2_begin_48 (fun H locs hH hS => ?_)
    exact r_vret X hr hH hS hm dX2_begin_51
  · have hm := m_ite_t hm c2
    exact r_vret X hr hH hS hm dX2_begin_11
def rm_X3_hasFun : Room := { frames := 0, cells := 0, slots := 0, locals := 0 }
def b_X3_hasFun_17 (a : Nat)  (S : m_M) (t0 : Int32) : Option (Int32 × m_M) :=
    if t0 = 0 ∨ t0 = 1 then some (t0, S) else none
set_option maxHeartbeats 4000000 in
set_option maxRecDepth 100000 in
theorem k_X3_hasFun_17 {p : Program} {l : Launch} {e : Env} {s : State} {m : MethodId} {args : Array Value} {below : List Frame} {meth : Method} {c : Code} {G : m_G} {nx : Nat} {κ : Nat → Nat} {res : (Int32 × m_M)} {a : Nat} (X : m_Cx p s m args meth c cX3_hasFun 2 RX3 G) (hr : meth.sig.returnType = (some .boolean)) (hT : m_Str κ) (hk_a : κ a = 4)  : ∀ (S : m_M) (t0 : Int32) (H : Heap) (locs : List Loc) (ls : Array Slot), m_H G nx κ S H → m_S G s H locs → lv_has ls 2 [] → b_X3_hasFun_17 a S t0 = some res → W p l e rm_X3_hasFun s m args below meth c H locs 0 0 (m_Qi below args s G nx κ res) (F0 m 17 ls [.int t0]) := by
  have hx := X.1.1
  have hb := X.1.2.1
  intro S t0 H locs ls hH hS hl hm
  rw [b_X3_hasFun_17] at hm
  exact r_zret X hr hH hS hm dX3_hasFun_17
def b_X3_hasFun_16 (a : Nat)  (S : m_M)  : Option (Int32 × m_M) :=
    b_X3_hasFun_17 a S (0 : Int32)
set_option maxHeartbeats 4000000 in
set_option maxRecDepth 100000 in
theorem k_X3_hasFun_16 {p : Program} {l : Launch} {e : Env} {s : State} {m : MethodId} {args : Array Value} {below : List Frame} {meth : Method} {c : Code} {G : m_G} {nx : Nat} {κ : Nat → Nat} {res : (Int32 × m_M)} {a : Nat} (X : m_Cx p s m args meth c cX3_hasFun 2 RX3 G) (hr : meth.sig.returnType = (some .boolean)) (hT : m_Str κ) (hk_a : κ a = 4)  : ∀ (S : m_M)  (H : Heap) (locs : List Loc) (ls : Array Slot), m_H G nx κ S H → m_S G s H locs → lv_has ls 2 [] → b_X3_hasFun_16 a S  = some res → W p l e rm_X3_hasFun s m args below meth c H locs 0 0 (m_Qi below args s G nx κ res) (F0 m 16 ls []) := by
  have hx := X.1.1
  have hb := X.1.2.1
  intro S H locs ls hH hS hl hm
  rw [b_X3_hasFun_16] at hm
  refine lv_iconst (v := (0 : Int32)) hx hb dX3_hasFun_16 (by decide) ?_
  exact k_X3_hasFun_17 (a := a) X hr hT hk_a   S (0 : Int32) _ _ _ hH hS hl hm
def f_X3_hasFun (a : Nat) (S : m_M) (i1 : Int32) : Option (Int32 × m_M) :=
    if i1 < 0 then (
    b_X3_hasFun_16 a S) else (
    if (m_ri S a 0) ≤ i1 then (
    b_X3_hasFun_16 a S) else (
    b_X3_hasFun_17 a S (1 : Int32)))
set_option maxHeartbeats 4000000 in
set_option maxRecDepth 100000 in
theorem c_X3_hasFun {l : Launch} {G : m_G} {nx : Nat} {κ : Nat → Nat} {a : Nat} {S : m_M} {i1 : Int32} {res : (Int32 × m_M)} (hT : m_Str κ) (hk_a : κ a = 4) (hm : f_X3_hasFun a S i1 = some res) : m_Ci l yX3_hasFun cX3_hasFun 2 (some .boolean) rm_X3_hasFun G nx κ [.ref a, .int i1] S res := by
  refine m_Ci.of (by decide) (Nat.le_of_ble_eq_true rfl) ?_
  intro p e s m args below meth c ls X hr hH hl
  have hx := X.1.1
  have hb := X.1.2.1
  have hS : m_S G s s.heap [] := va_S.rf
  have hl : lv_has ls 2 [(0, .ref a), (1, .int i1)] := hl
  rw [f_X3_hasFun] at hm
  refine lv_iload_n hx hb dX3_hasFun_0 rfl (lv_at hl 1 rfl) ?_
  refine lv_if_lt (tgt := 16) hx hb dX3_hasFun_1 (by decide) (fun c1 => ?_) (fun c1 => ?_)
  · have hm := m_ite_t hm c1
    exact k_X3_hasFun_16 (a := a) X hr hT hk_a   S _ _ _ hH hS (lv_sub hl [] rfl) hm
  · have hm := m_ite_f hm c1
    refine lv_iload_n hx hb dX3_hasFun_4 rfl (lv_at hl 1 rfl) ?_
    refine lv_aload_n hx hb dX3_hasFun_5 rfl (lv_at hl 0 rfl) ?_
    refine r_geti X hH (k := 3) (a := a) (j := 0) hk_a (by decide) rfl m_wi3 (by decide) in_1_122 rfl rfl dX3_hasFun_6 ?_
    refine lv_icmp_ge (tgt := 16) hx hb dX3_hasFun_9 (by decide) (fun c2 => ?_) (fun c2 => ?_)
    · have hm := m_ite_t hm c2
      exact k_X3_hasFun_16 (a := a) X hr hT hk_a   S _ _ _ hH hS (lv_sub hl [] rfl) hm
    · have hm := m_ite_f hm c2
      refine lv_iconst (v := (1 : Int32)) hx hb dX3_hasFun_12 (by decide) ?_
      refine lv_goto (tgt := 17) hx hb dX3_hasFun_13 (by decide) ?_
      exact k_X3_hasFun_17 (a := a) X hr hT hk_a   S (1 : Int32) _ _ _ hH hS (lv_sub hl [] rfl) hm
def rm_X3_hasVar : Room := { frames := 1, cells := 0, slots := 0, locals := 21 }
def b_X3_hasVar_26 (a : Nat)  (S : m_M) (t0 : Int32) : Option (Int32 × m_M) :=
    if t0 = 0 ∨ t0 = 1 then some (t0, S) else none
set_option maxHeartbeats 4000000 in
set_option maxRecDepth 100000 in
theorem k_X3_hasVar_26 {p : Program} {l : Launch} {e : Env} {s : State} {m : MethodId} {args : Array Value} {below : List Frame} {meth : Method} {c : Code} {G : m_G} {nx : Nat} {κ : Nat → Nat} {res : (Int32 × m_M)} {a : Nat} (X : m_Cx p s m args meth c cX3_hasVar 3 RX3 G) (hr : meth.sig.returnType = (some .boolean)) (hT : m_Str κ) (hk_a : κ a = 4)  : ∀ (S : m_M) (t0 : Int32) (H : Heap) (locs : List Loc) (ls : Array Slot), m_H G nx κ S H → m_S G s H locs → lv_has ls 3 [] → b_X3_hasVar_26 a S t0 = some res → W p l e rm_X3_hasVar s m args below meth c H locs 0 0 (m_Qi below args s G nx κ res) (F0 m 26 ls [.int t0]) := by
  have hx := X.1.1
  have hb := X.1.2.1
  intro S t0 H locs ls hH hS hl hm
  rw [b_X3_hasVar_26] at hm
  exact r_zret X hr hH hS hm dX3_hasVar_26
def b_X3_hasVar_25 (a : Nat)  (S : m_M)  : Option (Int32 × m_M) :=
    b_X3_hasVar_26 a S (0 : Int32)
set_option maxHeartbeats 4000000 in
set_option maxRecDepth 100000 in
theorem k_X3_hasVar_25 {p : Program} {l : Launch} {e : Env} {s : State} {m : MethodId} {args : Array Value} {below : List Frame} {meth : Method} {c : Code} {G : m_G} {nx : Nat} {κ : Nat → Nat} {res : (Int32 × m_M)} {a : Nat} (X : m_Cx p s m args meth c cX3_hasVar 3 RX3 G) (hr : meth.sig.returnType = (some .boolean)) (hT : m_Str κ) (hk_a : κ a = 4)  : ∀ (S : m_M)  (H : Heap) (locs : List Loc) (ls : Array Slot), m_H G nx κ S H → m_S G s H locs → lv_has ls 3 [] → b_X3_hasVar_25 a S  = some res → W p l e rm_X3_hasVar s m args below meth c H locs 0 0 (m_Qi below args s G nx κ res) (F0 m 25 ls []) := by
  have hx := X.1.1
  have hb := X.1.2.1
  intro S H locs ls hH hS hl hm
  rw [b_X3_hasVar_25] at hm
  refine lv_iconst (v := (0 : Int32)) hx hb dX3_hasVar_25 (by decide) ?_
  exact k_X3_hasVar_26 (a := a) X hr hT hk_a   S (0 : Int32) _ _ _ hH hS hl hm
def f_X3_hasVar (a : Nat) (S : m_M) (i1 : Int32) (i2 : Int32) : Option (Int32 × m_M) :=
    m_call (f_X3_hasFun a S i1) fun v2 S1 =>
    if v2 = 0 then (
    b_X3_hasVar_25 a S1) else (
    if i2 < 0 then (
    b_X3_hasVar_25 a S1) else (
    m_call (f_X3_varCount a S1 i1) fun v6 S5 =>
    if v6 ≤ i2 then (
    b_X3_hasVar_25 a S5) else (
    b_X3_hasVar_26 a S5 (1 : Int32))))
set_option maxHeartbeats 4000000 in
set_option maxRecDepth 100000 in
theorem c_X3_hasVar {l : Launch} {G : m_G} {nx : Nat} {κ : Nat → Nat} {a : Nat} {S : m_M} {i1 : Int32} {i2 : Int32} {res : (Int32 × m_M)} (hT : m_Str κ) (hk_a : κ a = 4) (hm : f_X3_hasVar a S i1 i2 = some res) : m_Ci l yX3_hasVar cX3_hasVar 3 (some .boolean) rm_X3_hasVar G nx κ [.ref a, .int i1, .int i2] S res := by
  refine m_Ci.of (by decide) (Nat.le_of_ble_eq_true rfl) ?_
  intro p e s m args below meth c ls X hr hH hl
  have hx := X.1.1
  have hb := X.1.2.1
  have hS : m_S G s s.heap [] := va_S.rf
  have hl : lv_has ls 3 [(0, .ref a), (1, .int i1), (2, .int i2)] := hl
  rw [f_X3_hasVar] at hm
  refine lv_aload_n hx hb dX3_hasVar_0 rfl (lv_at hl 0 rfl) ?_
  refine lv_iload_n hx hb dX3_hasVar_1 rfl (lv_at hl 1 rfl) ?_
  obtain ⟨v2, S1, e_S1, hm⟩ := m_call_of hm
  refine n_cVi X hH hS (k := 3) (c_X3_hasFun (a := a) hT hk_a e_S1) mw_X3_hasFun in_4_180 hk_a (by decide) rfl rfl rfl ⟨rfl, rfl⟩ ⟨Nat.le_of_ble_eq_true rfl, Nat.le_of_ble_eq_true rfl⟩ ⟨Nat.zero_le _, Nat.zero_le _⟩ hl.1 (Nat.le_of_ble_eq_true rfl) dX3_hasVar_2 (fun H locs hH hS => ?_)
  refine lv_if_eq (tgt := 25) hx hb dX3_hasVar_5 (by decide) (fun c3 => ?_) (fun c3 => ?_)
  · have hm := m_ite_t hm c3
    exact k_X3_hasVar_25 (a := a) X hr hT hk_a   S1 _ _ _ hH hS (lv_sub hl [] rfl) hm
  · have hm := m_ite_f hm c3
    refine lv_iload_n hx hb dX3_hasVar_8 rfl (lv_at hl 2 rfl) ?_
    refine lv_if_lt (tgt := 25) hx hb dX3_hasVar_9 (by decide) (fun c4 => ?_) (fun c4 => ?_)
    · have hm := m_ite_t hm c4
      exact k_X3_hasVar_25 (a := a) X hr hT hk_a   S1 _ _ _ hH hS (lv_sub hl [] rfl) hm
    · have hm := m_ite_f hm c4
      refine lv_iload_n hx hb dX3_hasVar_12 rfl (lv_at hl 2 rfl) ?_
      refine lv_aload_n hx hb dX3_hasVar_13 rfl (lv_at hl 0 rfl) ?_
      refine lv_iload_n hx hb dX3_hasVar_14 rfl (lv_at hl 1 rfl) ?_
      obtain ⟨v6, S5, e_S5, hm⟩ := m_call_of hm
      refine n_cVi X hH hS (k := 3) (c_X3_varCount (a := a) hT hk_a e_S5) mw_X3_varCount in_4_59 hk_a (by decide) rfl rfl rfl ⟨rfl, rfl⟩ ⟨Nat.le_of_ble_eq_true rfl, Nat.le_of_ble_eq_true rfl⟩ ⟨Nat.zero_le _, Nat.zero_le _⟩ hl.1 (Nat.le_of_ble_eq_true rfl) dX3_hasVar_15 (fun H locs hH hS => ?_)
      refine lv_icmp_ge (tgt := 25) hx hb dX3_hasVar_18 (by decide) (fun c7 => ?_) (fun c7 => ?_)
      · have hm := m_ite_t hm c7
        exact k_X3_hasVar_25 (a := a) X hr hT hk_a   S5 _ _ _ hH hS (lv_sub hl [] rfl) hm
      · have hm := m_ite_f hm c7
        refine lv_iconst (v := (1 : Int32)) hx hb dX3_hasVar_21 (by decide) ?_
        refine lv_goto (tgt := 26) hx hb dX3_hasVar_22 (by decide) ?_
        exact k_X3_hasVar_26 (a := a) X hr hT hk_a   S5 (1 : Int32) _ _ _ hH hS (lv_sub hl [] rfl) hm
def rm_X2_hasVar : Room := { frames := 2, cells := 0, slots := 0, locals := 43 }
def b_X2_hasVar_31 (a o1 : Nat)  (S : m_M) (t0 : Int32) : Option (Int32 × m_M) :=
    if t0 = 0 ∨ t0 = 1 then some (t0, S) else none
set_option maxHeartbeats 4000000 in
set_option maxRecDepth 100000 in
theorem k_X2_hasVar_31 {p : Program} {l : Launch} {e : Env} {s : State} {m : MethodId} {args : Array Value} {below : List Frame} {meth : Method} {c : Code} {G : m_G} {nx : Nat} {κ : Nat → Nat} {res : (Int32 × m_M)} {a o1 : Nat} (X : m_Cx p s m args meth c cX2_hasVar 4 RX2 G) (hr : meth.sig.returnType = (some .boolean)) (hT : m_Str κ) (hk_a : κ a = 3) (hk_o1 : κ o1 = 4)  : ∀ (S : m_M) (t0 : Int32) (H : Heap) (locs : List Loc) (ls : Array Slot), m_H G nx κ S H → m_S G s H locs → lv_has ls 4 [] → b_X2_hasVar_31 a o1 S t0 = some res → W p l e rm_X2_hasVar s m args below meth c H locs 0 0 (m_Qi below args s G nx κ res) (F0 m 31 ls [.int t0]) := by
  have hx := X.1.1
  have hb := X.1.2.1
  intro S t0 H locs ls hH hS hl hm
  rw [b_X2_hasVar_31] at hm
  exact r_zret X hr hH hS hm dX2_hasVar_31
def b_X2_hasVar_30 (a o1 : Nat)  (S : m_M)  : Option (Int32 × m_M) :=
    b_X2_hasVar_31 a o1 S (0 : Int32)
set_option maxHeartbeats 4000000 in
set_option maxRecDepth 100000 in
theorem k_X2_hasVar_30 {p : Program} {l : Launch} {e : Env} {s : State} {m : MethodId} {args : Array Value} {below : List Frame} {meth : Method} {c : Code} {G : m_G} {nx : Nat} {κ : Nat → Nat} {res : (Int32 × m_M)} {a o1 : Nat} (X : m_Cx p s m args meth c cX2_hasVar 4 RX2 G) (hr : meth.sig.returnType = (some .boolean)) (hT : m_Str κ) (hk_a : κ a = 3) (hk_o1 : κ o1 = 4)  : ∀ (S : m_M)  (H : Heap) (locs : List Loc) (ls : Array Slot), m_H G nx κ S H → m_S G s H locs → lv_has ls 4 [] → b_X2_hasVar_30 a o1 S  = some res → W p l e rm_X2_hasVar s m args below meth c H locs 0 0 (m_Qi below args s G nx κ res) (F0 m 30 ls []) := by
  have hx := X.1.1
  have hb := X.1.2.1
  intro S H locs ls hH hS hl hm
  rw [b_X2_hasVar_30] at hm
  refine lv_iconst (v := (0 : Int32)) hx hb dX2_hasVar_30 (by decide) ?_
  exact k_X2_hasVar_31 (a := a) (o1 := o1) X hr hT hk_a hk_o1   S (0 : Int32) _ _ _ hH hS hl hm
def f_X2_hasVar (a o1 : Nat) (S : m_M) (i2 : Int32) (i3 : Int32) : Option (Int32 × m_M) :=
    if i2 < 0 then (
    b_X2_hasVar_30 a o1 S) else (
    if (m_ri S a 2) ≤ i2 then (
    b_X2_hasVar_30 a o1 S) else (
    (m_ldi S (a + 1) 13 i2).bind fun v3 =>
    m_call (f_X3_hasVar o1 S v3 i3) fun v5 S4 =>
    if v5 = 0 then (
    b_X2_hasVar_30 a o1 S4) else (
    b_X2_hasVar_31 a o1 S4 (1 : Int32))))
set_option maxHeartbeats 4000000 in
set_option maxRecDepth 100000 in
theorem c_X2_hasVar {l : Launch} {G : m_G} {nx : Nat} {κ : Nat → Nat} {a o1 : Nat} {S : m_M} {i2 : Int32} {i3 : Int32} {res : (Int32 × m_M)} (hT : m_Str κ) (hk_a : κ a = 3) (hk_o1 : κ o1 = 4) (hm : f_X2_hasVar a o1 S i2 i3 = some res) : m_Ci l yX2_hasVar cX2_hasVar 4 (some .boolean) rm_X2_hasVar G nx κ [.ref a, .ref o1, .int i2, .int i3] S res := by
  refine m_Ci.of (by decide) (Nat.le_of_ble_eq_true rfl) ?_
  intro p e s m args below meth c ls X hr hH hl
  have hx := X.1.1
  have hb := X.1.2.1
  have hS : m_S G s s.heap [] := va_S.rf
  have hl : lv_has ls 4 [(0, .ref a), (1, .ref o1), (2, .int i2), (3, .int i3)] := hl
  rw [f_X2_hasVar] at hm
  refine lv_iload_n hx hb dX2_hasVar_0 rfl (lv_at hl 2 rfl) ?_
  refine lv_if_lt (tgt := 30) hx hb dX2_hasVar_1 (by decide) (fun c1 => ?_) (fun c1 => ?_)
  · have hm := m_ite_t hm c1
    exact k_X2_hasVar_30 (a := a) (o1 := o1) X hr hT hk_a hk_o1   S _ _ _ hH hS (lv_sub hl [] rfl) hm
  · have hm := m_ite_f hm c1
    refine lv_iload_n hx hb dX2_hasVar_4 rfl (lv_at hl 2 rfl) ?_
    refine lv_aload_n hx hb dX2_hasVar_5 rfl (lv_at hl 0 rfl) ?_
    refine r_geti X hH (k := 2) (a := a) (j := 2) hk_a (by decide) rfl m_wi2 (by decide) in_2_180 rfl rfl dX2_hasVar_6 ?_
    refine lv_icmp_ge (tgt := 30) hx hb dX2_hasVar_9 (by decide) (fun c2 => ?_) (fun c2 => ?_)
    · have hm := m_ite_t hm c2
      exact k_X2_hasVar_30 (a := a) (o1 := o1) X hr hT hk_a hk_o1   S _ _ _ hH hS (lv_sub hl [] rfl) hm
    · have hm := m_ite_f hm c2
      refine lv_aload_n hx hb dX2_hasVar_12 rfl (lv_at hl 1 rfl) ?_
      refine lv_aload_n hx hb dX2_hasVar_13 rfl (lv_at hl 0 rfl) ?_
      refine r_getp X hH (k := 2) (a := a) (j := 12) (b := (a + 1)) (A := 1) (B := 0) hk_a (by decide) rfl m_wi2 (by decide) in_2_201 rfl rfl rfl dX2_hasVar_14 ?_
      refine lv_iload_n hx hb dX2_hasVar_17 rfl (lv_at hl 2 rfl) ?_
      obtain ⟨v3, h_v3, e_v3, hm⟩ := n_ldi hm
      refine n_iald X hH (n := 13) (m_lay_at hT hk_a (by decide) (i := 1) rfl) h_v3 e_v3 dX2_hasVar_18 ?_
      refine lv_iload_n hx hb dX2_hasVar_19 rfl (lv_at hl 3 rfl) ?_
      obtain ⟨v5, S4, e_S4, hm⟩ := m_call_of hm
      refine n_cVi X hH hS (k := 3) (c_X3_hasVar (a := o1) hT hk_o1 e_S4) mw_X3_hasVar in_5_136 hk_o1 (by decide) rfl rfl rfl ⟨rfl, rfl⟩ ⟨Nat.le_of_ble_eq_true rfl, Nat.le_of_ble_eq_true rfl⟩ ⟨Nat.zero_le _, Nat.zero_le _⟩ hl.1 (Nat.le_of_ble_eq_true rfl) dX2_hasVar_20 (fun H locs hH hS => ?_)
      refine lv_if_eq (tgt := 30) hx hb dX2_hasVar_23 (by decide) (fun c6 => ?_) (fun c6 => ?_)
      · have hm := m_ite_t hm c6
        exact k_X2_hasVar_30 (a := a) (o1 := o1) X hr hT hk_a hk_o1   S4 _ _ _ hH hS (lv_sub hl [] rfl) hm
      · have hm := m_ite_f hm c6
        refine lv_iconst (v := (1 : Int32)) hx hb dX2_hasVar_26 (by decide) ?_
        refine lv_goto (tgt := 31) hx hb dX2_hasVar_27 (by decide) ?_
        exact k_X2_hasVar_31 (a := a) (o1 := o1) X hr hT hk_a hk_o1   S4 (1 : Int32) _ _ _ hH hS (lv_sub hl [] rfl) hm
def rm_X2_hasRoom : Room := { frames := 0, cells := 0, slots := 0, locals := 0 }
def b_X2_hasRoom_17 (a : Nat)  (S : m_M) (t0 : Int32) : Option (Int32 × m_M) :=
    if t0 = 0 ∨ t0 = 1 then some (t0, S) else none
set_option maxHeartbeats 4000000 in
set_option maxRecDepth 100000 in
theorem k_X2_hasRoom_17 {p : Program} {l : Launch} {e : Env} {s : State} {m : MethodId} {args : Array Value} {below : List Frame} {meth : Method} {c : Code} {G : m_G} {nx : Nat} {κ : Nat → Nat} {res : (Int32 × m_M)} {a : Nat} (X : m_Cx p s m args meth c cX2_hasRoom 2 RX2 G) (hr : meth.sig.returnType = (some .boolean)) (hT : m_Str κ) (hk_a : κ a = 3)  : ∀ (S : m_M) (t0 : Int32) (H : Heap) (locs : List Loc) (ls : Array Slot), m_H G nx κ S H → m_S G s H locs → lv_has ls 2 [] → b_X2_hasRoom_17 a S t0 = some res → W p l e rm_X2_hasRoom s m args below meth c H locs 0 0 (m_Qi below args s G nx κ res) (F0 m 17 ls [.int t0]) := by
  have hx := X.1.1
  have hb := X.1.2.1
  intro S t0 H locs ls hH hS hl hm
  rw [b_X2_hasRoom_17] at hm
  exact r_zret X hr hH hS hm dX2_hasRoom_17
def b_X2_hasRoom_16 (a : Nat)  (S : m_M)  : Option (Int32 × m_M) :=
    b_X2_hasRoom_17 a S (0 : Int32)
set_option maxHeartbeats 4000000 in
set_option maxRecDepth 100000 in
theorem k_X2_hasRoom_16 {p : Program} {l : Launch} {e : Env} {s : State} {m : MethodId} {args : Array Value} {below : List Frame} {meth : Method} {c : Code} {G : m_G} {nx : Nat} {κ : Nat → Nat} {res : (Int32 × m_M)} {a : Nat} (X : m_Cx p s m args meth c cX2_hasRoom 2 RX2 G) (hr : meth.sig.returnType = (some .boolean)) (hT : m_Str κ) (hk_a : κ a = 3)  : ∀ (S : m_M)  (H : Heap) (locs : List Loc) (ls : Array Slot), m_H G nx κ S H → m_S G s H locs → lv_has ls 2 [] → b_X2_hasRoom_16 a S  = some res → W p l e rm_X2_hasRoom s m args below meth c H locs 0 0 (m_Qi below args s G nx κ res) (F0 m 16 ls []) := by
  have hx := X.1.1
  have hb := X.1.2.1
  intro S H locs ls hH hS hl hm
  rw [b_X2_hasRoom_16] at hm
  refine lv_iconst (v := (0 : Int32)) hx hb dX2_hasRoom_16 (by decide) ?_
  exact k_X2_hasRoom_17 (a := a) X hr hT hk_a   S (0 : Int32) _ _ _ hH hS hl hm
def f_X2_hasRoom (a : Nat) (S : m_M) (i1 : Int32) : Option (Int32 × m_M) :=
    if i1 < 0 then (
    b_X2_hasRoom_16 a S) else (
    if (m_ri S a 3) ≤ i1 then (
    b_X2_hasRoom_16 a S) else (
    b_X2_hasRoom_17 a S (1 : Int32)))
set_option maxHeartbeats 4000000 in
set_option maxRecDepth 100000 in
theorem c_X2_hasRoom {l : Launch} {G : m_G} {nx : Nat} {κ : Nat → Nat} {a : Nat} {S : m_M} {i1 : Int32} {res : (Int32 × m_M)} (hT : m_Str κ) (hk_a : κ a = 3) (hm : f_X2_hasRoom a S i1 = some res) : m_Ci l yX2_hasRoom cX2_hasRoom 2 (some .boolean) rm_X2_hasRoom G nx κ [.ref a, .int i1] S res := by
  refine m_Ci.of (by decide) (Nat.le_of_ble_eq_true rfl) ?_
  intro p e s m args below meth c ls X hr hH hl
  have hx := X.1.1
  have hb := X.1.2.1
  have hS : m_S G s s.heap [] := va_S.rf
  have hl : lv_has ls 2 [(0, .ref a), (1, .int i1)] := hl
  rw [f_X2_hasRoom] at hm
  refine lv_iload_n hx hb dX2_hasRoom_0 rfl (lv_at hl 1 rfl) ?_
  refine lv_if_lt (tgt := 16) hx hb dX2_hasRoom_1 (by decide) (fun c1 => ?_) (fun c1 => ?_)
  · have hm := m_ite_t hm c1
    exact k_X2_hasRoom_16 (a := a) X hr hT hk_a   S _ _ _ hH hS (lv_sub hl [] rfl) hm
  · have hm := m_ite_f hm c1
    refine lv_iload_n hx hb dX2_hasRoom_4 rfl (lv_at hl 1 rfl) ?_
    refine lv_aload_n hx hb dX2_hasRoom_5 rfl (lv_at hl 0 rfl) ?_
    refine r_geti X hH (k := 2) (a := a) (j := 3) hk_a (by decide) rfl m_wi2 (by decide) in_2_183 rfl rfl dX2_hasRoom_6 ?_
    refine lv_icmp_ge (tgt := 16) hx hb dX2_hasRoom_9 (by decide) (fun c2 => ?_) (fun c2 => ?_)
    · have hm := m_ite_t hm c2
      exact k_X2_hasRoom_16 (a := a) X hr hT hk_a   S _ _ _ hH hS (lv_sub hl [] rfl) hm
    · have hm := m_ite_f hm c2
      refine lv_iconst (v := (1 : Int32)) hx hb dX2_hasRoom_12 (by decide) ?_
      refine lv_goto (tgt := 17) hx hb dX2_hasRoom_13 (by decide) ?_
      exact k_X2_hasRoom_17 (a := a) X hr hT hk_a   S (1 : Int32) _ _ _ hH hS (lv_sub hl [] rfl) hm
def rm_X2_latestFun : Room := { frames := 0, cells := 0, slots := 0, locals := 0 }
def b_X2_latestFun_22 (a : Nat)  (S : m_M) (t0 : Int32) : Option (Int32 × m_M) :=
    some (t0, S)
set_option maxHeartbeats 4000000 in
set_option maxRecDepth 100000 in
theorem k_X2_latestFun_22 {p : Program} {l : Launch} {e : Env} {s : State} {m : MethodId} {args : Array Value} {below : List Frame} {meth : Method} {c : Code} {G : m_G} {nx : Nat} {κ : Nat → Nat} {res : (Int32 × m_M)} {a : Nat} (X : m_Cx p s m args meth c cX2_latestFun 1 RX2 G) (hr : meth.sig.returnType = (some .int)) (hT : m_Str κ) (hk_a : κ a = 3)  : ∀ (S : m_M) (t0 : Int32) (H : Heap) (locs : List Loc) (ls : Array Slot), m_H G nx κ S H → m_S G s H locs → lv_has ls 1 [] → b_X2_latestFun_22 a S t0 = some res → W p l e rm_X2_latestFun s m args below meth c H locs 0 0 (m_Qi below args s G nx κ res) (F0 m 22 ls [.int t0]) := by
  have hx := X.1.1
  have hb := X.1.2.1
  intro S t0 H locs ls hH hS hl hm
  rw [b_X2_latestFun_22] at hm
  exact r_iret X hr hH hS hm dX2_latestFun_22
def f_X2_latestFun (a : Nat) (S : m_M)  : Option (Int32 × m_M) :=
    if (m_ri S a 2) ≤ 0 then (
    b_X2_latestFun_22 a S (-1 : Int32)) else (
    (m_ldi S (a + 1) 13 ((m_ri S a 2) - (1 : Int32))).bind fun v2 =>
    b_X2_latestFun_22 a S v2)
set_option maxHeartbeats 4000000 in
set_option maxRecDepth 100000 in
theorem c_X2_latestFun {l : Launch} {G : m_G} {nx : Nat} {κ : Nat → Nat} {a : Nat} {S : m_M}  {res : (Int32 × m_M)} (hT : m_Str κ) (hk_a : κ a = 3) (hm : f_X2_latestFun a S = some res) : m_Ci l yX2_latestFun cX2_latestFun 1 (some .int) rm_X2_latestFun G nx κ [.ref a] S res := by
  refine m_Ci.of (by decide) (Nat.le_of_ble_eq_true rfl) ?_
  intro p e s m args below meth c ls X hr hH hl
  have hx := X.1.1
  have hb := X.1.2.1
  have hS : m_S G s s.heap [] := va_S.rf
  have hl : lv_has ls 1 [(0, .ref a)] := hl
  rw [f_X2_latestFun] at hm
  refine lv_aload_n hx hb dX2_latestFun_0 rfl (lv_at hl 0 rfl) ?_
  refine r_geti X hH (k := 2) (a := a) (j := 2) hk_a (by decide) rfl m_wi2 (by decide) in_2_180 rfl rfl dX2_latestFun_1 ?_
  refine lv_if_le (tgt := 21) hx hb dX2_latestFun_4 (by decide) (fun c1 => ?_) (fun c1 => ?_)
  · have hm := m_ite_t hm c1
    refine lv_iconst (v := (-1 : Int32)) hx hb dX2_latestFun_21 (by decide) ?_
    exact k_X2_latestFun_22 (a := a) X hr hT hk_a   S (-1 : Int32) _ _ _ hH hS (lv_sub hl [] rfl) hm
  · have hm := m_ite_f hm c1
    refine lv_aload_n hx hb dX2_latestFun_7 rfl (lv_at hl 0 rfl) ?_
    refine r_getp X hH (k := 2) (a := a) (j := 12) (b := (a + 1)) (A := 1) (B := 0) hk_a (by decide) rfl m_wi2 (by decide) in_2_201 rfl rfl rfl dX2_latestFun_8 ?_
    refine lv_aload_n hx hb dX2_latestFun_11 rfl (lv_at hl 0 rfl) ?_
    refine r_geti X hH (k := 2) (a := a) (j := 2) hk_a (by decide) rfl m_wi2 (by decide) in_2_180 rfl rfl dX2_latestFun_12 ?_
    refine lv_iconst (v := (1 : Int32)) hx hb dX2_latestFun_15 (by decide) ?_
    refine lv_isub hx hb dX2_latestFun_16 ?_
    obtain ⟨v2, h_v2, e_v2, hm⟩ := n_ldi hm
    refine n_iald X hH (n := 13) (m_lay_at hT hk_a (by decide) (i := 1) rfl) h_v2 e_v2 dX2_latestFun_17 ?_
    refine lv_goto (tgt := 22) hx hb dX2_latestFun_18 (by decide) ?_
    exact k_X2_latestFun_22 (a := a) X hr hT hk_a   S v2 _ _ _ hH hS (lv_sub hl [] rfl) hm
def rm_X2_latestLine : Room := { frames := 0, cells := 0, slots := 0, locals := 0 }
def b_X2_latestLine_22 (a : Nat)  (S : m_M) (t0 : Int32) : Option (Int32 × m_M) :=
    some (t0, S)
set_option maxHeartbeats 4000000 in
set_option maxRecDepth 100000 in
theorem k_X2_latestLine_22 {p : Program} {l : Launch} {e : Env} {s : State} {m : MethodId} {args : Array Value} {below : List Frame} {meth : Method} {c : Code} {G : m_G} {nx : Nat} {κ : Nat → Nat} {res : (Int32 × m_M)} {a : Nat} (X : m_Cx p s m args meth c cX2_latestLine 1 RX2 G) (hr : meth.sig.returnType = (some .int)) (hT : m_Str κ) (hk_a : κ a = 3)  : ∀ (S : m_M) (t0 : Int32) (H : Heap) (locs : List Loc) (ls : Array Slot), m_H G nx κ S H → m_S G s H locs → lv_has ls 1 [] → b_X2_latestLine_22 a S t0 = some res → W p l e rm_X2_latestLine s m args below meth c H locs 0 0 (m_Qi below args s G nx κ res) (F0 m 22 ls [.int t0]) := by
  have hx := X.1.1
  have hb := X.1.2.1
  intro S t0 H locs ls hH hS hl hm
  rw [b_X2_latestLine_22] at hm
  exact r_iret X hr hH hS hm dX2_latestLine_22
def f_X2_latestLine (a : Nat) (S : m_M)  : Option (Int32 × m_M) :=
    if (m_ri S a 2) ≤ 0 then (
    b_X2_latestLine_22 a S (-1 : Int32)) else (
    (m_ldi S (a + 2) 13 ((m_ri S a 2) - (1 : Int32))).bind fun v2 =>
    b_X2_latestLine_22 a S v2)
set_option maxHeartbeats 4000000 in
set_option maxRecDepth 100000 in
theorem c_X2_latestLine {l : Launch} {G : m_G} {nx : Nat} {κ : Nat → Nat} {a : Nat} {S : m_M}  {res : (Int32 × m_M)} (hT : m_Str κ) (hk_a : κ a = 3) (hm : f_X2_latestLine a S = some res) : m_Ci l yX2_latestLine cX2_latestLine 1 (some .int) rm_X2_latestLine G nx κ [.ref a] S res := by
  refine m_Ci.of (by decide) (Nat.le_of_ble_eq_true rfl) ?_
  intro p e s m args below meth c ls X hr hH hl
  have hx := X.1.1
  have hb := X.1.2.1
  have hS : m_S G s s.heap [] := va_S.rf
  have hl : lv_has ls 1 [(0, .ref a)] := hl
  rw [f_X2_latestLine] at hm
  refine lv_aload_n hx hb dX2_latestLine_0 rfl (lv_at hl 0 rfl) ?_
  refine r_geti X hH (k := 2) (a := a) (j := 2) hk_a (by decide) rfl m_wi2 (by decide) in_2_180 rfl rfl dX2_latestLine_1 ?_
  refine lv_if_le (tgt := 21) hx hb dX2_latestLine_4 (by decide) (fun c1 => ?_) (fun c1 => ?_)
  · have hm := m_ite_t hm c1
    refine lv_iconst (v := (-1 : Int32)) hx hb dX2_latestLine_21 (by decide) ?_
    exact k_X2_latestLine_22 (a := a) X hr hT hk_a   S (-1 : Int32) _ _ _ hH hS (lv_sub hl [] rfl) hm
  · have hm := m_ite_f hm c1
    refine lv_aload_n hx hb dX2_latestLine_7 rfl (lv_at hl 0 rfl) ?_
    refine r_getp X hH (k := 2) (a := a) (j := 13) (b := (a + 2)) (A := 2) (B := 0) hk_a (by decide) rfl m_wi2 (by decide) in_2_203 rfl rfl rfl dX2_latestLine_8 ?_
    refine lv_aload_n hx hb dX2_latestLine_11 rfl (lv_at hl 0 rfl) ?_
    refine r_geti X hH (k := 2) (a := a) (j := 2) hk_a (by decide) rfl m_wi2 (by decide) in_2_180 rfl rfl dX2_latestLine_12 ?_
    refine lv_iconst (v := (1 : Int32)) hx hb dX2_latestLine_15 (by decide) ?_
    refine lv_isub hx hb dX2_latestLine_16 ?_
    obtain ⟨v2, h_v2, e_v2, hm⟩ := n_ldi hm
    refine n_iald X hH (n := 13) (m_lay_at hT hk_a (by decide) (i := 2) rfl) h_v2 e_v2 dX2_latestLine_17 ?_
    refine lv_goto (tgt := 22) hx hb dX2_latestLine_18 (by decide) ?_
    exact k_X2_latestLine_22 (a := a) X hr hT hk_a   S v2 _ _ _ hH hS (lv_sub hl [] rfl) hm
def rm_X2_regionOfCell : Room := { frames := 1, cells := 0, slots := 0, locals := 21 }
def b_X2_regionOfCell_36 (a : Nat)  (S : m_M) (t0 : Int32) : Option (Int32 × m_M) :=
    some (t0, S)
set_option maxHeartbeats 4000000 in
set_option maxRecDepth 100000 in
theorem k_X2_regionOfCell_36 {p : Program} {l : Launch} {e : Env} {s : State} {m : MethodId} {args : Array Value} {below : List Frame} {meth : Method} {c : Code} {G : m_G} {nx : Nat} {κ : Nat → Nat} {res : (Int32 × m_M)} {a : Nat} (X : m_Cx p s m args meth c cX2_regionOfCell 2 RX2 G) (hr : meth.sig.returnType = (some .int)) (hT : m_Str κ) (hk_a : κ a = 3)  : ∀ (S : m_M) (t0 : Int32) (H : Heap) (locs : List Loc) (ls : Array Slot), m_H G nx κ S H → m_S G s H locs → lv_has ls 2 [] → b_X2_regionOfCell_36 a S t0 = some res → W p l e rm_X2_regionOfCell s m args below meth c H locs 0 0 (m_Qi below args s G nx κ res) (F0 m 36 ls [.int t0]) := by
  have hx := X.1.1
  have hb := X.1.2.1
  intro S t0 H locs ls hH hS hl hm
  rw [b_X2_regionOfCell_36] at hm
  exact r_iret X hr hH hS hm dX2_regionOfCell_36
def b_X2_regionOfCell_35 (a : Nat)  (S : m_M)  : Option (Int32 × m_M) :=
    b_X2_regionOfCell_36 a S (-1 : Int32)
set_option maxHeartbeats 4000000 in
set_option maxRecDepth 100000 in
theorem k_X2_regionOfCell_35 {p : Program} {l : Launch} {e : Env} {s : State} {m : MethodId} {args : Array Value} {below : List Frame} {meth : Method} {c : Code} {G : m_G} {nx : Nat} {κ : Nat → Nat} {res : (Int32 × m_M)} {a : Nat} (X : m_Cx p s m args meth c cX2_regionOfCell 2 RX2 G) (hr : meth.sig.returnType = (some .int)) (hT : m_Str κ) (hk_a : κ a = 3)  : ∀ (S : m_M)  (H : Heap) (locs : List Loc) (ls : Array Slot), m_H G nx κ S H → m_S G s H locs → lv_has ls 2 [] → b_X2_regionOfCell_35 a S  = some res → W p l e rm_X2_regionOfCell s m args below meth c H locs 0 0 (m_Qi below args s G nx κ res) (F0 m 35 ls []) := by
  have hx := X.1.1
  have hb := X.1.2.1
  intro S H locs ls hH hS hl hm
  rw [b_X2_regionOfCell_35] at hm
  refine lv_iconst (v := (-1 : Int32)) hx hb dX2_regionOfCell_35 (by decide) ?_
  exact k_X2_regionOfCell_36 (a := a) X hr hT hk_a   S (-1 : Int32) _ _ _ hH hS hl hm
def f_X2_regionOfCell (a : Nat) (S : m_M) (i1 : Int32) : Option (Int32 × m_M) :=
    m_call (f_X2_hasCell a S i1) fun v2 S1 =>
    if v2 = 0 then (
    b_X2_regionOfCell_35 a S1) else (
    (m_ldi S1 (a + 6) 200 i1).bind fun v4 =>
    m_call (f_X2_hasRoom a S1 v4) fun v6 S5 =>
    if v6 = 0 then (
    b_X2_regionOfCell_35 a S5) else (
    (m_ldi S5 (a + 6) 200 i1).bind fun v8 =>
    (m_ldi S5 (a + 5) 312 v8).bind fun v9 =>
    b_X2_regionOfCell_36 a S5 v9))
set_option maxHeartbeats 4000000 in
set_option maxRecDepth 100000 in
theorem c_X2_regionOfCell {l : Launch} {G : m_G} {nx : Nat} {κ : Nat → Nat} {a : Nat} {S : m_M} {i1 : Int32} {res : (Int32 × m_M)} (hT : m_Str κ) (hk_a : κ a = 3) (hm : f_X2_regionOfCell a S i1 = some res) : m_Ci l yX2_regionOfCell cX2_regionOfCell 2 (some .int) rm_X2_regionOfCell G nx κ [.ref a, .int i1] S res := by
  refine m_Ci.of (by decide) (Nat.le_of_ble_eq_true rfl) ?_
  intro p e s m args below meth c ls X hr hH hl
  have hx := X.1.1
  have hb := X.1.2.1
  have hS : m_S G s s.heap [] := va_S.rf
  have hl : lv_has ls 2 [(0, .ref a), (1, .int i1)] := hl
  rw [f_X2_regionOfCell] at hm
  refine lv_aload_n hx hb dX2_regionOfCell_0 rfl (lv_at hl 0 rfl) ?_
  refine lv_iload_n hx hb dX2_regionOfCell_1 rfl (lv_at hl 1 rfl) ?_
  obtain ⟨v2, S1, e_S1, hm⟩ := m_call_of hm
  refine n_cVi X hH hS (k := 2) (c_X2_hasCell (a := a) hT hk_a e_S1) mw_X2_hasCell in_4_202 hk_a (by decide) rfl rfl rfl ⟨rfl, rfl⟩ ⟨Nat.le_of_ble_eq_true rfl, Nat.le_of_ble_eq_true rfl⟩ ⟨Nat.zero_le _, Nat.zero_le _⟩ hl.1 (Nat.le_of_ble_eq_true rfl) dX2_regionOfCell_2 (fun H locs hH hS => ?_)
  refine lv_if_eq (tgt := 35) hx hb dX2_regionOfCell_5 (by decide) (fun c3 => ?_) (fun c3 => ?_)
  · have hm := m_ite_t hm c3
    exact k_X2_regionOfCell_35 (a := a) X hr hT hk_a   S1 _ _ _ hH hS (lv_sub hl [] rfl) hm
  · have hm := m_ite_f hm c3
    refine lv_aload_n hx hb dX2_regionOfCell_8 rfl (lv_at hl 0 rfl) ?_
    refine lv_aload_n hx hb dX2_regionOfCell_9 rfl (lv_at hl 0 rfl) ?_
    refine r_getp X hH (k := 2) (a := a) (j := 17) (b := (a + 6)) (A := 6) (B := 0) hk_a (by decide) rfl m_wi2 (by decide) in_2_212 rfl rfl rfl dX2_regionOfCell_10 ?_
    refine lv_iload_n hx hb dX2_regionOfCell_13 rfl (lv_at hl 1 rfl) ?_
    obtain ⟨v4, h_v4, e_v4, hm⟩ := n_ldi hm
    refine n_iald X hH (n := 200) (m_lay_at hT hk_a (by decide) (i := 6) rfl) h_v4 e_v4 dX2_regionOfCell_14 ?_
    obtain ⟨v6, S5, e_S5, hm⟩ := m_call_of hm
    refine n_cVi X hH hS (k := 2) (c_X2_hasRoom (a := a) hT hk_a e_S5) mw_X2_hasRoom in_4_210 hk_a (by decide) rfl rfl rfl ⟨rfl, rfl⟩ ⟨Nat.le_of_ble_eq_true rfl, Nat.le_of_ble_eq_true rfl⟩ ⟨Nat.zero_le _, Nat.zero_le _⟩ hl.1 (Nat.le_of_ble_eq_true rfl) dX2_regionOfCell_15 (fun H locs hH hS => ?_)
    refine lv_if_eq (tgt := 35) hx hb dX2_regionOfCell_18 (by decide) (fun c7 => ?_) (fun c7 => ?_)
    · have hm := m_ite_t hm c7
      exact k_X2_regionOfCell_35 (a := a) X hr hT hk_a   S5 _ _ _ hH hS (lv_sub hl [] rfl) hm
    · have hm := m_ite_f hm c7
      refine lv_aload_n hx hb dX2_regionOfCell_21 rfl (lv_at hl 0 rfl) ?_
      refine r_getp X hH (k := 2) (a := a) (j := 16) (b := (a + 5)) (A := 5) (B := 0) hk_a (by decide) rfl m_wi2 (by decide) in_2_210 rfl rfl rfl dX2_regionOfCell_22 ?_
      refine lv_aload_n hx hb dX2_regionOfCell_25 rfl (lv_at hl 0 rfl) ?_
      refine r_getp X hH (k := 2) (a := a) (j := 17) (b := (a + 6)) (A := 6) (B := 0) hk_a (by decide) rfl m_wi2 (by decide) in_2_212 rfl rfl rfl dX2_regionOfCell_26 ?_
      refine lv_iload_n hx hb dX2_regionOfCell_29 rfl (lv_at hl 1 rfl) ?_
      obtain ⟨v8, h_v8, e_v8, hm⟩ := n_ldi hm
      refine n_iald X hH (n := 200) (m_lay_at hT hk_a (by decide) (i := 6) rfl) h_v8 e_v8 dX2_regionOfCell_30 ?_
      obtain ⟨v9, h_v9, e_v9, hm⟩ := n_ldi hm
      refine n_iald X hH (n := 312) (m_lay_at hT hk_a (by decide) (i := 5) rfl) h_v9 e_v9 dX2_regionOfCell_31 ?_
      refine lv_goto (tgt := 36) hx hb dX2_regionOfCell_32 (by decide) ?_
      exact k_X2_regionOfCell_36 (a := a) X hr hT hk_a   S5 v9 _ _ _ hH hS (lv_sub hl [] rfl) hm
def rm_X2_roomsOf : Room := { frames := 0, cells := 0, slots := 0, locals := 0 }
def b_X2_roomsOf_25 (a : Nat) (K_4 : m_M → Int32 → Int32 → Int32 → Option (Int32 × m_M)) (S : m_M) (l1 : Int32) (l2 : Int32) (l3 : Int32) : Option (Int32 × m_M) :=
    m_let (l3 + (1 : Int32)) fun v1 =>
    K_4 S l1 l2 v1
set_option maxHeartbeats 4000000 in
set_option maxRecDepth 100000 in
theorem k_X2_roomsOf_25 {p : Program} {l : Launch} {e : Env} {s : State} {m : MethodId} {args : Array Value} {below : List Frame} {meth : Method} {c : Code} {G : m_G} {nx : Nat} {κ : Nat → Nat} {res : (Int32 × m_M)} {a : Nat} (X : m_Cx p s m args meth c cX2_roomsOf 4 RX2 G) (hr : meth.sig.returnType = (some .int)) (hT : m_Str κ) (hk_a : κ a = 3) (K_4 : m_M → Int32 → Int32 → Int32 → Option (Int32 × m_M)) (hK_4 : ∀ (S : m_M) (l1 : Int32) (l2 : Int32) (l3 : Int32) (H : Heap) (locs : List Loc) (ls : Array Slot), m_H G nx κ S H → m_S G s H locs → lv_has ls 4 [(0, .ref a), (1, .int l1), (2, .int l2), (3, .int l3)] → K_4 S l1 l2 l3 = some res → W p l e rm_X2_roomsOf s m args below meth c H locs 0 0 (m_Qi below args s G nx κ res) (F0 m 4 ls [])) : ∀ (S : m_M) (l1 : Int32) (l2 : Int32) (l3 : Int32) (H : Heap) (locs : List Loc) (ls : Array Slot), m_H G nx κ S H → m_S G s H locs → lv_has ls 4 [(0, .ref a), (1, .int l1), (2, .int l2), (3, .int l3)] → b_X2_roomsOf_25 a K_4 S l1 l2 l3 = some res → W p l e rm_X2_roomsOf s m args below meth c H locs 0 0 (m_Qi below args s G nx κ res) (F0 m 25 ls []) := by
  have hx := X.1.1
  have hb := X.1.2.1
  intro S l1 l2 l3 H locs ls hH hS hl hm
  rw [b_X2_roomsOf_25] at hm
  obtain ⟨v1, e_v1, hm⟩ := m_let_of hm
  refine lv_iinc (v := v1) (lv' := [(3, .int v1), (0, .ref a), (1, .int l1), (2, .int l2)]) hx hb dX2_roomsOf_25 hl (k := 3) rfl (by rw [← e_v1]; rfl) (by decide) rfl (fun ls hl => ?_)
  refine lv_goto (tgt := 4) hx hb dX2_roomsOf_28 (by decide) ?_
  exact hK_4 S l1 l2 v1 _ _ _ hH hS (lv_sub hl [1, 2, 3, 0] rfl) hm
def b_X2_roomsOf_4 (a : Nat)  : Nat → m_M → Int32 → Int32 → Int32 → Option (Int32 × m_M)
  | 0, _, _, _, _ => none
  | n + 1, S, l1, l2, l3 =>
    if (m_ri S a 3) ≤ l3 then (
    some (l2, S)) else (
    (m_ldi S (a + 5) 312 l3).bind fun v2 =>
    if v2 = l1 then (
    m_let (l2 + (1 : Int32)) fun v4 =>
    b_X2_roomsOf_25 a (b_X2_roomsOf_4 a n) S l1 v4 l3) else (
    b_X2_roomsOf_25 a (b_X2_roomsOf_4 a n) S l1 l2 l3))
set_option maxHeartbeats 4000000 in
set_option maxRecDepth 100000 in
theorem k_X2_roomsOf_4 {p : Program} {l : Launch} {e : Env} {s : State} {m : MethodId} {args : Array Value} {below : List Frame} {meth : Method} {c : Code} {G : m_G} {nx : Nat} {κ : Nat → Nat} {res : (Int32 × m_M)} {a : Nat} (X : m_Cx p s m args meth c cX2_roomsOf 4 RX2 G) (hr : meth.sig.returnType = (some .int)) (hT : m_Str κ) (hk_a : κ a = 3)  (n : Nat) : ∀ (S : m_M) (l1 : Int32) (l2 : Int32) (l3 : Int32) (H : Heap) (locs : List Loc) (ls : Array Slot), m_H G nx κ S H → m_S G s H locs → lv_has ls 4 [(0, .ref a), (1, .int l1), (2, .int l2), (3, .int l3)] → b_X2_roomsOf_4 a n S l1 l2 l3 = some res → W p l e rm_X2_roomsOf s m args below meth c H locs 0 0 (m_Qi below args s G nx κ res) (F0 m 4 ls []) := by
  have hx := X.1.1
  have hb := X.1.2.1
  induction n with
  | zero => intro S l1 l2 l3 H locs ls hH hS hl hm; have hm : (none : Option (Int32 × m_M)) = some res := hm; cases hm
  | succ n ih =>
    intro S l1 l2 l3 H locs ls hH hS hl hm
    rw [b_X2_roomsOf_4] at hm
    refine lv_iload_n hx hb dX2_roomsOf_4 rfl (lv_at hl 3 rfl) ?_
    refine lv_aload_n hx hb dX2_roomsOf_5 rfl (lv_at hl 0 rfl) ?_
    refine r_geti X hH (k := 2) (a := a) (j := 3) hk_a (by decide) rfl m_wi2 (by decide) in_2_183 rfl rfl dX2_roomsOf_6 ?_
    refine lv_icmp_ge (tgt := 31) hx hb dX2_roomsOf_9 (by decide) (fun c1 => ?_) (fun c1 => ?_)
    · have hm := m_ite_t hm c1
      refine lv_iload_n hx hb dX2_roomsOf_31 rfl (lv_at hl 2 rfl) ?_
      exact r_iret X hr hH hS hm dX2_roomsOf_32
    · have hm := m_ite_f hm c1
      refine lv_aload_n hx hb dX2_roomsOf_12 rfl (lv_at hl 0 rfl) ?_
      refine r_getp X hH (k := 2) (a := a) (j := 16) (b := (a + 5)) (A := 5) (B := 0) hk_a (by decide) rfl m_wi2 (by decide) in_2_210 rfl rfl rfl dX2_roomsOf_13 ?_
      refine lv_iload_n hx hb dX2_roomsOf_16 rfl (lv_at hl 3 rfl) ?_
      obtain ⟨v2, h_v2, e_v2, hm⟩ := n_ldi hm
      refine n_iald X hH (n := 312) (m_lay_at hT hk_a (by decide) (i := 5) rfl) h_v2 e_v2 dX2_roomsOf_17 ?_
      refine lv_iload_n hx hb dX2_roomsOf_18 rfl (lv_at hl 1 rfl) ?_
      refine lv_icmp_ne (tgt := 25) hx hb dX2_roomsOf_19 (by decide) (fun c3 => ?_) (fun c3 => ?_)
      · have hm := m_ite_f hm c3
        exact k_X2_roomsOf_25 (a := a) X hr hT hk_a (b_X2_roomsOf_4 a n) ih  S l1 l2 l3 _ _ _ hH hS hl hm
      · have hm := m_ite_t hm c3
        obtain ⟨v4, e_v4, hm⟩ := m_let_of hm
        refine lv_iinc (v := v4) (lv' := [(2, .int v4), (0, .ref a), (1, .int l1), (3, .int l3)]) hx hb dX2_roomsOf_22 hl (k := 2) rfl (by rw [← e_v4]; rfl) (by decide) rfl (fun ls hl => ?_)
        exact k_X2_roomsOf_25 (a := a) X hr hT hk_a (b_X2_roomsOf_4 a n) ih  S l1 v4 l3 _ _ _ hH hS (lv_sub hl [1, 2, 0, 3] rfl) hm
def f_X2_roomsOf (a : Nat) (S : m_M) (i1 : Int32) : Option (Int32 × m_M) :=
    b_X2_roomsOf_4 a m_fu S i1 (0 : Int32) (0 : Int32)
set_option maxHeartbeats 4000000 in
set_option maxRecDepth 100000 in
theorem c_X2_roomsOf {l : Launch} {G : m_G} {nx : Nat} {κ : Nat → Nat} {a : Nat} {S : m_M} {i1 : Int32} {res : (Int32 × m_M)} (hT : m_Str κ) (hk_a : κ a = 3) (hm : f_X2_roomsOf a S i1 = some res) : m_Ci l yX2_roomsOf cX2_roomsOf 4 (some .int) rm_X2_roomsOf G nx κ [.ref a, .int i1] S res := by
  refine m_Ci.of (by decide) (Nat.le_of_ble_eq_true rfl) ?_
  intro p e s m args below meth c ls X hr hH hl
  have hx := X.1.1
  have hb := X.1.2.1
  have hS : m_S G s s.heap [] := va_S.rf
  have hl : lv_has ls 4 [(0, .ref a), (1, .int i1)] := hl
  rw [f_X2_roomsOf] at hm
  refine lv_iconst (v := (0 : Int32)) hx hb dX2_roomsOf_0 (by decide) ?_
  refine lv_istore_n (lv' := [(2, .int (0 : Int32)), (0, .ref a), (1, .int i1)]) hx hb dX2_roomsOf_1 rfl hl (by decide) rfl (fun ls hl => ?_)
  refine lv_iconst (v := (0 : Int32)) hx hb dX2_roomsOf_2 (by decide) ?_
  refine lv_istore_n (lv' := [(3, .int (0 : Int32)), (2, .int (0 : Int32)), (0, .ref a), (1, .int i1)]) hx hb dX2_roomsOf_3 rfl hl (by decide) rfl (fun ls hl => ?_)
  exact k_X2_roomsOf_4 (a := a) X hr hT hk_a  m_fu S i1 (0 : Int32) (0 : Int32) _ _ _ hH hS (lv_sub hl [2, 3, 1, 0] rfl) hm
def rm_X2_cellsOf : Room := { frames := 2, cells := 0, slots := 0, locals := 42 }
def b_X2_cellsOf_31 (a : Nat) (K_4 : m_M → Int32 → Int32 → Int32 → Option (Int32 × m_M)) (S : m_M) (l1 : Int32) (l2 : Int32) (l3 : Int32) : Option (Int32 × m_M) :=
    m_let (l3 + (1 : Int32)) fun v1 =>
    K_4 S l1 l2 v1
set_option maxHeartbeats 4000000 in
set_option maxRecDepth 100000 in
theorem k_X2_cellsOf_31 {p : Program} {l : Launch} {e : Env} {s : State} {m : MethodId} {args : Array Value} {below : List Frame} {meth : Method} {c : Code} {G : m_G} {nx : Nat} {κ : Nat → Nat} {res : (Int32 × m_M)} {a : Nat} (X : m_Cx p s m args meth c cX2_cellsOf 4 RX2 G) (hr : meth.sig.returnType = (some .int)) (hT : m_Str κ) (hk_a : κ a = 3) (K_4 : m_M → Int32 → Int32 → Int32 → Option (Int32 × m_M)) (hK_4 : ∀ (S : m_M) (l1 : Int32) (l2 : Int32) (l3 : Int32) (H : Heap) (locs : List Loc) (ls : Array Slot), m_H G nx κ S H → m_S G s H locs → lv_has ls 4 [(0, .ref a), (1, .int l1), (2, .int l2), (3, .int l3)] → K_4 S l1 l2 l3 = some res → W p l e rm_X2_cellsOf s m args below meth c H locs 0 0 (m_Qi below args s G nx κ res) (F0 m 4 ls [])) : ∀ (S : m_M) (l1 : Int32) (l2 : Int32) (l3 : Int32) (H : Heap) (locs : List Loc) (ls : Array Slot), m_H G nx κ S H → m_S G s H locs → lv_has ls 4 [(0, .ref a), (1, .int l1), (2, .int l2), (3, .int l3)] → b_X2_cellsOf_31 a K_4 S l1 l2 l3 = some res → W p l e rm_X2_cellsOf s m args below meth c H locs 0 0 (m_Qi below args s G nx κ res) (F0 m 31 ls []) := by
  have hx := X.1.1
  have hb := X.1.2.1
  intro S l1 l2 l3 H locs ls hH hS hl hm
  rw [b_X2_cellsOf_31] at hm
  obtain ⟨v1, e_v1, hm⟩ := m_let_of hm
  refine lv_iinc (v := v1) (lv' := [(3, .int v1), (0, .ref a), (1, .int l1), (2, .int l2)]) hx hb dX2_cellsOf_31 hl (k := 3) rfl (by rw [← e_v1]; rfl) (by decide) rfl (fun ls hl => ?_)
  refine lv_goto (tgt := 4) hx hb dX2_cellsOf_34 (by decide) ?_
  exact hK_4 S l1 l2 v1 _ _ _ hH hS (lv_sub hl [1, 2, 3, 0] rfl) hm
def b_X2_cellsOf_4 (a : Nat)  : Nat → m_M → Int32 → Int32 → Int32 → Option (Int32 × m_M)
  | 0, _, _, _, _ => none
  | n + 1, S, l1, l2, l3 =>
    if (200 : Int32) ≤ l3 then (
    some (l2, S)) else (
    m_call (f_X2_hasCell a S l3) fun v3 S2 =>
    if v3 = 0 then (
    b_X2_cellsOf_31 a (b_X2_cellsOf_4 a n) S2 l1 l2 l3) else (
    m_call (f_X2_regionOfCell a S2 l3) fun v6 S5 =>
    if v6 = l1 then (
    m_let (l2 + (1 : Int32)) fun v8 =>
    b_X2_cellsOf_31 a (b_X2_cellsOf_4 a n) S5 l1 v8 l3) else (
    b_X2_cellsOf_31 a (b_X2_cellsOf_4 a n) S5 l1 l2 l3)))
set_option maxHeartbeats 4000000 in
set_option maxRecDepth 100000 in
theorem k_X2_cellsOf_4 {p : Program} {l : Launch} {e : Env} {s : State} {m : MethodId} {args : Array Value} {below : List Frame} {meth : Method} {c : Code} {G : m_G} {nx : Nat} {κ : Nat → Nat} {res : (Int32 × m_M)} {a : Nat} (X : m_Cx p s m args meth c cX2_cellsOf 4 RX2 G) (hr : meth.sig.returnType = (some .int)) (hT : m_Str κ) (hk_a : κ a = 3)  (n : Nat) : ∀ (S : m_M) (l1 : Int32) (l2 : Int32) (l3 : Int32) (H : Heap) (locs : List Loc) (ls : Array Slot), m_H G nx κ S H → m_S G s H locs → lv_has ls 4 [(0, .ref a), (1, .int l1), (2, .int l2), (3, .int l3)] → b_X2_cellsOf_4 a n S l1 l2 l3 = some res → W p l e rm_X2_cellsOf s m args below meth c H locs 0 0 (m_Qi below args s G nx κ res) (F0 m 4 ls []) := by
  have hx := X.1.1
  have hb := X.1.2.1
  induction n with
  | zero => intro S l1 l2 l3 H locs ls hH hS hl hm; have hm : (none : Option (Int32 × m_M)) = some res := hm; cases hm
  | succ n ih =>
    intro S l1 l2 l3 H locs ls hH hS hl hm
    rw [b_X2_cellsOf_4] at hm
    refine lv_iload_n hx hb dX2_cellsOf_4 rfl (lv_at hl 3 rfl) ?_
    refine lv_sipush (v := (200 : Int32)) hx hb dX2_cellsOf_5 (by decide) ?_
    refine lv_icmp_ge (tgt := 37) hx hb dX2_cellsOf_8 (by decide) (fun c1 => ?_) (fun c1 => ?_)
    · have hm := m_ite_t hm c1
      refine lv_iload_n hx hb dX2_cellsOf_37 rfl (lv_at hl 2 rfl) ?_
      exact r_iret X hr hH hS hm dX2_cellsOf_38
    · have hm := m_ite_f hm c1
      refine lv_aload_n hx hb dX2_cellsOf_11 rfl (lv_at hl 0 rfl) ?_
      refine lv_iload_n hx hb dX2_cellsOf_12 rfl (lv_at hl 3 rfl) ?_
      obtain ⟨v3, S2, e_S2, hm⟩ := m_call_of hm
      refine n_cVi X hH hS (k := 2) (c_X2_hasCell (a := a) hT hk_a e_S2) mw_X2_hasCell in_4_202 hk_a (by decide) rfl rfl rfl ⟨rfl, rfl⟩ ⟨Nat.le_of_ble_eq_true rfl, Nat.le_of_ble_eq_true rfl⟩ ⟨Nat.zero_le _, Nat.zero_le _⟩ hl.1 (Nat.le_of_ble_eq_true rfl) dX2_cellsOf_13 (fun H locs hH hS => ?_)
      refine lv_if_eq (tgt := 31) hx hb dX2_cellsOf_16 (by decide) (fun c4 => ?_) (fun c4 => ?_)
      · have hm := m_ite_t hm c4
        exact k_X2_cellsOf_31 (a := a) X hr hT hk_a (b_X2_cellsOf_4 a n) ih  S2 l1 l2 l3 _ _ _ hH hS hl hm
      · have hm := m_ite_f hm c4
        refine lv_aload_n hx hb dX2_cellsOf_19 rfl (lv_at hl 0 rfl) ?_
        refine lv_iload_n hx hb dX2_cellsOf_20 rfl (lv_at hl 3 rfl) ?_
        obtain ⟨v6, S5, e_S5, hm⟩ := m_call_of hm
        refine n_cVi X hH hS (k := 2) (c_X2_regionOfCell (a := a) hT hk_a e_S5) mw_X2_regionOfCell in_4_206 hk_a (by decide) rfl rfl rfl ⟨rfl, rfl⟩ ⟨Nat.le_of_ble_eq_true rfl, Nat.le_of_ble_eq_true rfl⟩ ⟨Nat.zero_le _, Nat.zero_le _⟩ hl.1 (Nat.le_of_ble_eq_true rfl) dX2_cellsOf_21 (fun H locs hH hS => ?_)
        refine lv_iload_n hx hb dX2_cellsOf_24 rfl (lv_at hl 1 rfl) ?_
        refine lv_icmp_ne (tgt := 31) hx hb dX2_cellsOf_25 (by decide) (fun c7 => ?_) (fun c7 => ?_)
        · have hm := m_ite_f hm c7
          exact k_X2_cellsOf_31 (a := a) X hr hT hk_a (b_X2_cellsOf_4 a n) ih  S5 l1 l2 l3 _ _ _ hH hS hl hm
        · have hm := m_ite_t hm c7
          obtain ⟨v8, e_v8, hm⟩ := m_let_of hm
          refine lv_iinc (v := v8) (lv' := [(2, .int v8), (0, .ref a), (1, .int l1), (3, .int l3)]) hx hb dX2_cellsOf_28 hl (k := 2) rfl (by rw [← e_v8]; rfl) (by decide) rfl (fun ls hl => ?_)
          exact k_X2_cellsOf_31 (a := a) X hr hT hk_a (b_X2_cellsOf_4 a n) ih  S5 l1 v8 l3 _ _ _ hH hS (lv_sub hl [1, 2, 0, 3] rfl) hm
def f_X2_cellsOf (a : Nat) (S : m_M) (i1 : Int32) : Option (Int32 × m_M) :=
    b_X2_cellsOf_4 a m_fu S i1 (0 : Int32) (0 : Int32)
set_option maxHeartbeats 4000000 in
set_option maxRecDepth 100000 in
theorem c_X2_cellsOf {l : Launch} {G : m_G} {nx : Nat} {κ : Nat → Nat} {a : Nat} {S : m_M} {i1 : Int32} {res : (Int32 × m_M)} (hT : m_Str κ) (hk_a : κ a = 3) (hm : f_X2_cellsOf a S i1 = some res) : m_Ci l yX2_cellsOf cX2_cellsOf 4 (some .int) rm_X2_cellsOf G nx κ [.ref a, .int i1] S res := by
  refine m_Ci.of (by decide) (Nat.le_of_ble_eq_true rfl) ?_
  intro p e s m args below meth c ls X hr hH hl
  have hx := X.1.1
  have hb := X.1.2.1
  have hS : m_S G s s.heap [] := va_S.rf
  have hl : lv_has ls 4 [(0, .ref a), (1, .int i1)] := hl
  rw [f_X2_cellsOf] at hm
  refine lv_iconst (v := (0 : Int32)) hx hb dX2_cellsOf_0 (by decide) ?_
  refine lv_istore_n (lv' := [(2, .int (0 : Int32)), (0, .ref a), (1, .int i1)]) hx hb dX2_cellsOf_1 rfl hl (by decide) rfl (fun ls hl => ?_)
  refine lv_iconst (v := (0 : Int32)) hx hb dX2_cellsOf_2 (by decide) ?_
  refine lv_istore_n (lv' := [(3, .int (0 : Int32)), (2, .int (0 : Int32)), (0, .ref a), (1, .int i1)]) hx hb dX2_cellsOf_3 rfl hl (by decide) rfl (fun ls hl => ?_)
  exact k_X2_cellsOf_4 (a := a) X hr hT hk_a  m_fu S i1 (0 : Int32) (0 : Int32) _ _ _ hH hS (lv_sub hl [2, 3, 1, 0] rfl) hm
def rm_X2_cellsIn : Room := { frames := 0, cells := 0, slots := 0, locals := 0 }
def b_X2_cellsIn_24 (a : Nat) (K_4 : m_M → Int32 → Int32 → Int32 → Option (Int32 × m_M)) (S : m_M) (l1 : Int32) (l2 : Int32) (l3 : Int32) : Option (Int32 × m_M) :=
    m_let (l3 + (1 : Int32)) fun v1 =>
    K_4 S l1 l2 v1
set_option maxHeartbeats 4000000 in
set_option maxRecDepth 100000 in
theorem k_X2_cellsIn_24 {p : Program} {l : Launch} {e : Env} {s : State} {m : MethodId} {args : Array Value} {below : List Frame} {meth : Method} {c : Code} {G : m_G} {nx : Nat} {κ : Nat → Nat} {res : (Int32 × m_M)} {a : Nat} (X : m_Cx p s m args meth c cX2_cellsIn 4 RX2 G) (hr : meth.sig.returnType = (some .int)) (hT : m_Str κ) (hk_a : κ a = 3) (K_4 : m_M → Int32 → Int32 → Int32 → Option (Int32 × m_M)) (hK_4 : ∀ (S : m_M) (l1 : Int32) (l2 : Int32) (l3 : Int32) (H : Heap) (locs : List Loc) (ls : Array Slot), m_H G nx κ S H → m_S G s H locs → lv_has ls 4 [(0, .ref a), (1, .int l1), (2, .int l2), (3, .int l3)] → K_4 S l1 l2 l3 = some res → W p l e rm_X2_cellsIn s m args below meth c H locs 0 0 (m_Qi below args s G nx κ res) (F0 m 4 ls [])) : ∀ (S : m_M) (l1 : Int32) (l2 : Int32) (l3 : Int32) (H : Heap) (locs : List Loc) (ls : Array Slot), m_H G nx κ S H → m_S G s H locs → lv_has ls 4 [(0, .ref a), (1, .int l1), (2, .int l2), (3, .int l3)] → b_X2_cellsIn_24 a K_4 S l1 l2 l3 = some res → W p l e rm_X2_cellsIn s m args below meth c H locs 0 0 (m_Qi below args s G nx κ res) (F0 m 24 ls []) := by
  have hx := X.1.1
  have hb := X.1.2.1
  intro S l1 l2 l3 H locs ls hH hS hl hm
  rw [b_X2_cellsIn_24] at hm
  obtain ⟨v1, e_v1, hm⟩ := m_let_of hm
  refine lv_iinc (v := v1) (lv' := [(3, .int v1), (0, .ref a), (1, .int l1), (2, .int l2)]) hx hb dX2_cellsIn_24 hl (k := 3) rfl (by rw [← e_v1]; rfl) (by decide) rfl (fun ls hl => ?_)
  refine lv_goto (tgt := 4) hx hb dX2_cellsIn_27 (by decide) ?_
  exact hK_4 S l1 l2 v1 _ _ _ hH hS (lv_sub hl [1, 2, 3, 0] rfl) hm
def b_X2_cellsIn_4 (a : Nat)  : Nat → m_M → Int32 → Int32 → Int32 → Option (Int32 × m_M)
  | 0, _, _, _, _ => none
  | n + 1, S, l1, l2, l3 =>
    if (200 : Int32) ≤ l3 then (
    some (l2, S)) else (
    (m_ldi S (a + 6) 200 l3).bind fun v2 =>
    if v2 = l1 then (
    m_let (l2 + (1 : Int32)) fun v4 =>
    b_X2_cellsIn_24 a (b_X2_cellsIn_4 a n) S l1 v4 l3) else (
    b_X2_cellsIn_24 a (b_X2_cellsIn_4 a n) S l1 l2 l3))
set_option maxHeartbeats 4000000 in
set_option maxRecDepth 100000 in
theorem k_X2_cellsIn_4 {p : Program} {l : Launch} {e : Env} {s : State} {m : MethodId} {args : Array Value} {below : List Frame} {meth : Method} {c : Code} {G : m_G} {nx : Nat} {κ : Nat → Nat} {res : (Int32 × m_M)} {a : Nat} (X : m_Cx p s m args meth c cX2_cellsIn 4 RX2 G) (hr : meth.sig.returnType = (some .int)) (hT : m_Str κ) (hk_a : κ a = 3)  (n : Nat) : ∀ (S : m_M) (l1 : Int32) (l2 : Int32) (l3 : Int32) (H : Heap) (locs : List Loc) (ls : Array Slot), m_H G nx κ S H → m_S G s H locs → lv_has ls 4 [(0, .ref a), (1, .int l1), (2, .int l2), (3, .int l3)] → b_X2_cellsIn_4 a n S l1 l2 l3 = some res → W p l e rm_X2_cellsIn s m args below meth c H locs 0 0 (m_Qi below args s G nx κ res) (F0 m 4 ls []) := by
  have hx := X.1.1
  have hb := X.1.2.1
  induction n with
  | zero => intro S l1 l2 l3 H locs ls hH hS hl hm; have hm : (none : Option (Int32 × m_M)) = some res := hm; cases hm
  | succ n ih =>
    intro S l1 l2 l3 H locs ls hH hS hl hm
    rw [b_X2_cellsIn_4] at hm
    refine lv_iload_n hx hb dX2_cellsIn_4 rfl (lv_at hl 3 rfl) ?_
    refine lv_sipush (v := (200 : Int32)) hx hb dX2_cellsIn_5 (by decide) ?_
    refine lv_icmp_ge (tgt := 30) hx hb dX2_cellsIn_8 (by decide) (fun c1 => ?_) (fun c1 => ?_)
    · have hm := m_ite_t hm c1
      refine lv_iload_n hx hb dX2_cellsIn_30 rfl (lv_at hl 2 rfl) ?_
      exact r_iret X hr hH hS hm dX2_cellsIn_31
    · have hm := m_ite_f hm c1
      refine lv_aload_n hx hb dX2_cellsIn_11 rfl (lv_at hl 0 rfl) ?_
      refine r_getp X hH (k := 2) (a := a) (j := 17) (b := (a + 6)) (A := 6) (B := 0) hk_a (by decide) rfl m_wi2 (by decide) in_2_212 rfl rfl rfl dX2_cellsIn_12 ?_
      refine lv_iload_n hx hb dX2_cellsIn_15 rfl (lv_at hl 3 rfl) ?_
      obtain ⟨v2, h_v2, e_v2, hm⟩ := n_ldi hm
      refine n_iald X hH (n := 200) (m_lay_at hT hk_a (by decide) (i := 6) rfl) h_v2 e_v2 dX2_cellsIn_16 ?_
      refine lv_iload_n hx hb dX2_cellsIn_17 rfl (lv_at hl 1 rfl) ?_
      refine lv_icmp_ne (tgt := 24) hx hb dX2_cellsIn_18 (by decide) (fun c3 => ?_) (fun c3 => ?_)
      · have hm := m_ite_f hm c3
        exact k_X2_cellsIn_24 (a := a) X hr hT hk_a (b_X2_cellsIn_4 a n) ih  S l1 l2 l3 _ _ _ hH hS hl hm
      · have hm := m_ite_t hm c3
        obtain ⟨v4, e_v4, hm⟩ := m_let_of hm
        refine lv_iinc (v := v4) (lv' := [(2, .int v4), (0, .ref a), (1, .int l1), (3, .int l3)]) hx hb dX2_cellsIn_21 hl (k := 2) rfl (by rw [← e_v4]; rfl) (by decide) rfl (fun ls hl => ?_)
        exact k_X2_cellsIn_24 (a := a) X hr hT hk_a (b_X2_cellsIn_4 a n) ih  S l1 v4 l3 _ _ _ hH hS (lv_sub hl [1, 2, 0, 3] rfl) hm
def f_X2_cellsIn (a : Nat) (S : m_M) (i1 : Int32) : Option (Int32 × m_M) :=
    b_X2_cellsIn_4 a m_fu S i1 (0 : Int32) (0 : Int32)
set_option maxHeartbeats 4000000 in
set_option maxRecDepth 100000 in
theorem c_X2_cellsIn {l : Launch} {G : m_G} {nx : Nat} {κ : Nat → Nat} {a : Nat} {S : m_M} {i1 : Int32} {res : (Int32 × m_M)} (hT : m_Str κ) (hk_a : κ a = 3) (hm : f_X2_cellsIn a S i1 = some res) : m_Ci l yX2_cellsIn cX2_cellsIn 4 (some .int) rm_X2_cellsIn G nx κ [.ref a, .int i1] S res := by
  refine m_Ci.of (by decide) (Nat.le_of_ble_eq_true rfl) ?_
  intro p e s m args below meth c ls X hr hH hl
  have hx := X.1.1
  have hb := X.1.2.1
  have hS : m_S G s s.heap [] := va_S.rf
  have hl : lv_has ls 4 [(0, .ref a), (1, .int i1)] := hl
  rw [f_X2_cellsIn] at hm
  refine lv_iconst (v := (0 : Int32)) hx hb dX2_cellsIn_0 (by decide) ?_
  refine lv_istore_n (lv' := [(2, .int (0 : Int32)), (0, .ref a), (1, .int i1)]) hx hb dX2_cellsIn_1 rfl hl (by decide) rfl (fun ls hl => ?_)
  refine lv_iconst (v := (0 : Int32)) hx hb dX2_cellsIn_2 (by decide) ?_
  refine lv_istore_n (lv' := [(3, .int (0 : Int32)), (2, .int (0 : Int32)), (0, .ref a), (1, .int i1)]) hx hb dX2_cellsIn_3 rfl hl (by decide) rfl (fun ls hl => ?_)
  exact k_X2_cellsIn_4 (a := a) X hr hT hk_a  m_fu S i1 (0 : Int32) (0 : Int32) _ _ _ hH hS (lv_sub hl [2, 3, 1, 0] rfl) hm
def rm_X3_operandAt : Room := { frames := 0, cells := 0, slots := 0, locals := 0 }
def f_X3_operandAt (a : Nat) (S : m_M) (i1 : Int32) (i2 : Int32) : Option (Int32 × m_M) :=
    (m_ldi S (a + 7) 120 ((i1 * (5 : Int32)) + i2)).bind fun v1 =>
    some (v1, S)
set_option maxHeartbeats 4000000 in
set_option maxRecDepth 100000 in
theorem c_X3_operandAt {l : Launch} {G : m_G} {nx : Nat} {κ : Nat → Nat} {a : Nat} {S : m_M} {i1 : Int32} {i2 : Int32} {res : (Int32 × m_M)} (hT : m_Str κ) (hk_a : κ a = 4) (hm : f_X3_operandAt a S i1 i2 = some res) : m_Ci l yX3_operandAt cX3_operandAt 3 (some .int) rm_X3_operandAt G nx κ [.ref a, .int i1, .int i2] S res := by
  refine m_Ci.of (by decide) (Nat.le_of_ble_eq_true rfl) ?_
  intro p e s m args below meth c ls X hr hH hl
  have hx := X.1.1
  have hb := X.1.2.1
  have hS : m_S G s s.heap [] := va_S.rf
  have hl : lv_has ls 3 [(0, .ref a), (1, .int i1), (2, .int i2)] := hl
  rw [f_X3_operandAt] at hm
  refine lv_aload_n hx hb dX3_operandAt_0 rfl (lv_at hl 0 rfl) ?_
  refine r_getp X hH (k := 3) (a := a) (j := 8) (b := (a + 7)) (A := 7) (B := 0) hk_a (by decide) rfl m_wi3 (by decide) in_1_158 rfl rfl rfl dX3_operandAt_1 ?_
  refine lv_iload_n hx hb dX3_operandAt_4 rfl (lv_at hl 1 rfl) ?_
  refine lv_iconst (v := (5 : Int32)) hx hb dX3_operandAt_5 (by decide) ?_
  refine lv_imul hx hb dX3_operandAt_6 ?_
  refine lv_iload_n hx hb dX3_operandAt_7 rfl (lv_at hl 2 rfl) ?_
  refine lv_iadd hx hb dX3_operandAt_8 ?_
  obtain ⟨v1, h_v1, e_v1, hm⟩ := n_ldi hm
  refine n_iald X hH (n := 120) (m_lay_at hT hk_a (by decide) (i := 7) rfl) h_v1 e_v1 dX3_operandAt_9 ?_
  exact r_iret X hr hH hS hm dX3_operandAt_10
def rm_X2_kindAt : Room := { frames := 1, cells := 0, slots := 0, locals := 22 }
def f_X2_kindAt (a o1 : Nat) (S : m_M) (i2 : Int32) (i3 : Int32) : Option (Int32 × m_M) :=
    m_call (f_X3_operandAt o1 S i2 i3) fun v2 S1 =>
    (m_ldi S1 (a + 3) 351 ((((m_ri S a 2) - (1 : Int32)) * (27 : Int32)) + v2)).bind fun v3 =>
    some (v3, S1)
set_option maxHeartbeats 4000000 in
set_option maxRecDepth 100000 in
theorem c_X2_kindAt {l : Launch} {G : m_G} {nx : Nat} {κ : Nat → Nat} {a o1 : Nat} {S : m_M} {i2 : Int32} {i3 : Int32} {res : (Int32 × m_M)} (hT : m_Str κ) (hk_a : κ a = 3) (hk_o1 : κ o1 = 4) (hm : f_X2_kindAt a o1 S i2 i3 = some res) : m_Ci l yX2_kindAt cX2_kindAt 4 (some .int) rm_X2_kindAt G nx κ [.ref a, .ref o1, .int i2, .int i3] S res := by
  refine m_Ci.of (by decide) (Nat.le_of_ble_eq_true rfl) ?_
  intro p e s m args below meth c ls X hr hH hl
  have hx := X.1.1
  have hb := X.1.2.1
  have hS : m_S G s s.heap [] := va_S.rf
  have hl : lv_has ls 4 [(0, .ref a), (1, .ref o1), (2, .int i2), (3, .int i3)] := hl
  rw [f_X2_kindAt] at hm
  refine lv_aload_n hx hb dX2_kindAt_0 rfl (lv_at hl 0 rfl) ?_
  refine r_getp X hH (k := 2) (a := a) (j := 14) (b := (a + 3)) (A := 3) (B := 0) hk_a (by decide) rfl m_wi2 (by decide) in_2_204 rfl rfl rfl dX2_kindAt_1 ?_
  refine lv_aload_n hx hb dX2_kindAt_4 rfl (lv_at hl 0 rfl) ?_
  refine r_geti X hH (k := 2) (a := a) (j := 2) hk_a (by decide) rfl m_wi2 (by decide) in_2_180 rfl rfl dX2_kindAt_5 ?_
  refine lv_iconst (v := (1 : Int32)) hx hb dX2_kindAt_8 (by decide) ?_
  refine lv_isub hx hb dX2_kindAt_9 ?_
  refine lv_bipush (v := (27 : Int32)) hx hb dX2_kindAt_10 (by decide) ?_
  refine lv_imul hx hb dX2_kindAt_12 ?_
  refine lv_aload_n hx hb dX2_kindAt_13 rfl (lv_at hl 1 rfl) ?_
  refine lv_iload_n hx hb dX2_kindAt_14 rfl (lv_at hl 2 rfl) ?_
  refine lv_iload_n hx hb dX2_kindAt_15 rfl (lv_at hl 3 rfl) ?_
  obtain ⟨v2, S1, e_S1, hm⟩ := m_call_of hm
  refine n_cVi X hH hS (k := 3) (c_X3_operandAt (a := o1) hT hk_o1 e_S1) mw_X3_operandAt in_5_40 hk_o1 (by decide) rfl rfl rfl ⟨rfl, rfl⟩ ⟨Nat.le_of_ble_eq_true rfl, Nat.le_of_ble_eq_true rfl⟩ ⟨Nat.zero_le _, Nat.zero_le _⟩ hl.1 (Nat.le_of_ble_eq_true rfl) dX2_kindAt_16 (fun H locs hH hS => ?_)
  refine lv_iadd hx hb dX2_kindAt_19 ?_
  obtain ⟨v3, h_v3, e_v3, hm⟩ := n_ldi hm
  refine n_iald X hH (n := 351) (m_lay_at hT hk_a (by decide) (i := 3) rfl) h_v3 e_v3 dX2_kindAt_20 ?_
  exact r_iret X hr hH hS hm dX2_kindAt_21
def rm_X3_argumentCount : Room := { frames := 0, cells := 0, slots := 0, locals := 0 }
def f_X3_argumentCount (a : Nat) (S : m_M) (i1 : Int32) : Option (Int32 × m_M) :=
    (m_ldi S (a + 6) 24 i1).bind fun v1 =>
    (m_ldi S (a + 2) 5 v1).bind fun v2 =>
    some (v2, S)
set_option maxHeartbeats 4000000 in
set_option maxRecDepth 100000 in
theorem c_X3_argumentCount {l : Launch} {G : m_G} {nx : Nat} {κ : Nat → Nat} {a : Nat} {S : m_M} {i1 : Int32} {res : (Int32 × m_M)} (hT : m_Str κ) (hk_a : κ a = 4) (hm : f_X3_argumentCount a S i1 = some res) : m_Ci l yX3_argumentCount cX3_argumentCount 2 (some .int) rm_X3_argumentCount G nx κ [.ref a, .int i1] S res := by
  refine m_Ci.of (by decide) (Nat.le_of_ble_eq_true rfl) ?_
  intro p e s m args below meth c ls X hr hH hl
  have hx := X.1.1
  have hb := X.1.2.1
  have hS : m_S G s s.heap [] := va_S.rf
  have hl : lv_has ls 2 [(0, .ref a), (1, .int i1)] := hl
  rw [f_X3_argumentCount] at hm
  refine lv_aload_n hx hb dX3_argumentCount_0 rfl (lv_at hl 0 rfl) ?_
  refine r_getp X hH (k := 3) (a := a) (j := 3) (b := (a + 2)) (A := 2) (B := 0) hk_a (by decide) rfl m_wi3 (by decide) in_1_133 rfl rfl rfl dX3_argumentCount_1 ?_
  refine lv_aload_n hx hb dX3_argumentCount_4 rfl (lv_at hl 0 rfl) ?_
  refine r_getp X hH (k := 3) (a := a) (j := 7) (b := (a + 6)) (A := 6) (B := 0) hk_a (by decide) rfl m_wi3 (by decide) in_1_154 rfl rfl rfl dX3_argumentCount_5 ?_
  refine lv_iload_n hx hb dX3_argumentCount_8 rfl (lv_at hl 1 rfl) ?_
  obtain ⟨v1, h_v1, e_v1, hm⟩ := n_ldi hm
  refine n_iald X hH (n := 24) (m_lay_at hT hk_a (by decide) (i := 6) rfl) h_v1 e_v1 dX3_argumentCount_9 ?_
  obtain ⟨v2, h_v2, e_v2, hm⟩ := n_ldi hm
  refine n_iald X hH (n := 5) (m_lay_at hT hk_a (by decide) (i := 2) rfl) h_v2 e_v2 dX3_argumentCount_10 ?_
  exact r_iret X hr hH hS hm dX3_argumentCount_11
def rm_X3_conditionSlot : Room := { frames := 1, cells := 0, slots := 0, locals := 21 }
def f_X3_conditionSlot (a : Nat) (S : m_M) (i1 : Int32) : Option (Int32 × m_M) :=
    m_call (f_X3_argumentCount a S i1) fun v2 S1 =>
    some (v2, S1)
set_option maxHeartbeats 4000000 in
set_option maxRecDepth 100000 in
theorem c_X3_conditionSlot {l : Launch} {G : m_G} {nx : Nat} {κ : Nat → Nat} {a : Nat} {S : m_M} {i1 : Int32} {res : (Int32 × m_M)} (hT : m_Str κ) (hk_a : κ a = 4) (hm : f_X3_conditionSlot a S i1 = some res) : m_Ci l yX3_conditionSlot cX3_conditionSlot 2 (some .int) rm_X3_conditionSlot G nx κ [.ref a, .int i1] S res := by
  refine m_Ci.of (by decide) (Nat.le_of_ble_eq_true rfl) ?_
  intro p e s m args below meth c ls X hr hH hl
  have hx := X.1.1
  have hb := X.1.2.1
  have hS : m_S G s s.heap [] := va_S.rf
  have hl : lv_has ls 2 [(0, .ref a), (1, .int i1)] := hl
  rw [f_X3_conditionSlot] at hm
  refine lv_aload_n hx hb dX3_conditionSlot_0 rfl (lv_at hl 0 rfl) ?_
  refine lv_iload_n hx hb dX3_conditionSlot_1 rfl (lv_at hl 1 rfl) ?_
  obtain ⟨v2, S1, e_S1, hm⟩ := m_call_of hm
  refine n_cVi X hH hS (k := 3) (c_X3_argumentCount (a := a) hT hk_a e_S1) mw_X3_argumentCount in_4_67 hk_a (by decide) rfl rfl rfl ⟨rfl, rfl⟩ ⟨Nat.le_of_ble_eq_true rfl, Nat.le_of_ble_eq_true rfl⟩ ⟨Nat.zero_le _, Nat.zero_le _⟩ hl.1 (Nat.le_of_ble_eq_true rfl) dX3_conditionSlot_2 (fun H locs hH hS => ?_)
  exact r_iret X hr hH hS hm dX3_conditionSlot_5
def rm_X2_hasPairForNumber : Room := { frames := 2, cells := 0, slots := 0, locals := 45 }
def b_X2_hasPairForNumber_67 (a o1 : Nat)  (S : m_M) (t0 : Int32) : Option (Int32 × m_M) :=
    if t0 = 0 ∨ t0 = 1 then some (t0, S) else none
set_option maxHeartbeats 4000000 in
set_option maxRecDepth 100000 in
theorem k_X2_hasPairForNumber_67 {p : Program} {l : Launch} {e : Env} {s : State} {m : MethodId} {args : Array Value} {below : List Frame} {meth : Method} {c : Code} {G : m_G} {nx : Nat} {κ : Nat → Nat} {res : (Int32 × m_M)} {a o1 : Nat} (X : m_Cx p s m args meth c cX2_hasPairForNumber 3 RX2 G) (hr : meth.sig.returnType = (some .boolean)) (hT : m_Str κ) (hk_a : κ a = 3) (hk_o1 : κ o1 = 4)  : ∀ (S : m_M) (t0 : Int32) (H : Heap) (locs : List Loc) (ls : Array Slot), m_H G nx κ S H → m_S G s H locs → lv_has ls 3 [] → b_X2_hasPairForNumber_67 a o1 S t0 = some res → W p l e rm_X2_hasPairForNumber s m args below meth c H locs 0 0 (m_Qi below args s G nx κ res) (F0 m 67 ls [.int t0]) := by
  have hx := X.1.1
  have hb := X.1.2.1
  intro S t0 H locs ls hH hS hl hm
  rw [b_X2_hasPairForNumber_67] at hm
  exact r_zret X hr hH hS hm dX2_hasPairForNumber_67
def b_X2_hasPairForNumber_62 (a o1 : Nat)  (S : m_M)  : Option (Int32 × m_M) :=
    b_X2_hasPairForNumber_67 a o1 S (1 : Int32)
set_option maxHeartbeats 4000000 in
set_option maxRecDepth 100000 in
theorem k_X2_hasPairForNumber_62 {p : Program} {l : Launch} {e : Env} {s : State} {m : MethodId} {args : Array Value} {below : List Frame} {meth : Method} {c : Code} {G : m_G} {nx : Nat} {κ : Nat → Nat} {res : (Int32 × m_M)} {a o1 : Nat} (X : m_Cx p s m args meth c cX2_hasPairForNumber 3 RX2 G) (hr : meth.sig.returnType = (some .boolean)) (hT : m_Str κ) (hk_a : κ a = 3) (hk_o1 : κ o1 = 4)  : ∀ (S : m_M)  (H : Heap) (locs : List Loc) (ls : Array Slot), m_H G nx κ S H → m_S G s H locs → lv_has ls 3 [] → b_X2_hasPairForNumber_62 a o1 S  = some res → W p l e rm_X2_hasPairForNumber s m args below meth c H locs 0 0 (m_Qi below args s G nx κ res) (F0 m 62 ls []) := by
  have hx := X.1.1
  have hb := X.1.2.1
  intro S H locs ls hH hS hl hm
  rw [b_X2_hasPairForNumber_62] at hm
  refine lv_iconst (v := (1 : Int32)) hx hb dX2_hasPairForNumber_62 (by decide) ?_
  refine lv_goto (tgt := 67) hx hb dX2_hasPairForNumber_63 (by decide) ?_
  exact k_X2_hasPairForNumber_67 (a := a) (o1 := o1) X hr hT hk_a hk_o1   S (1 : Int32) _ _ _ hH hS hl hm
def b_X2_hasPairForNumber_40 (a o1 : Nat)  (S : m_M) (l2 : Int32) : Option (Int32 × m_M) :=
    m_call (f_X2_kindAt a o1 S l2 (0 : Int32)) fun v2 S1 =>
    if v2 = (2 : Int32) then (
    b_X2_hasPairForNumber_62 a o1 S1) else (
    m_call (f_X2_kindAt a o1 S1 l2 (1 : Int32)) fun v5 S4 =>
    if v5 = (2 : Int32) then (
    b_X2_hasPairForNumber_62 a o1 S4) else (
    b_X2_hasPairForNumber_67 a o1 S4 (0 : Int32)))
set_option maxHeartbeats 4000000 in
set_option maxRecDepth 100000 in
theorem k_X2_hasPairForNumber_40 {p : Program} {l : Launch} {e : Env} {s : State} {m : MethodId} {args : Array Value} {below : List Frame} {meth : Method} {c : Code} {G : m_G} {nx : Nat} {κ : Nat → Nat} {res : (Int32 × m_M)} {a o1 : Nat} (X : m_Cx p s m args meth c cX2_hasPairForNumber 3 RX2 G) (hr : meth.sig.returnType = (some .boolean)) (hT : m_Str κ) (hk_a : κ a = 3) (hk_o1 : κ o1 = 4)  : ∀ (S : m_M) (l2 : Int32) (H : Heap) (locs : List Loc) (ls : Array Slot), m_H G nx κ S H → m_S G s H locs → lv_has ls 3 [(0, .ref a), (1, .ref o1), (2, .int l2)] → b_X2_hasPairForNumber_40 a o1 S l2 = some res → W p l e rm_X2_hasPairForNumber s m args below meth c H locs 0 0 (m_Qi below args s G nx κ res) (F0 m 40 ls []) := by
  have hx := X.1.1
  have hb := X.1.2.1
  intro S l2 H locs ls hH hS hl hm
  rw [b_X2_hasPairForNumber_40] at hm
  refine lv_aload_n hx hb dX2_hasPairForNumber_40 rfl (lv_at hl 0 rfl) ?_
  refine lv_aload_n hx hb dX2_hasPairForNumber_41 rfl (lv_at hl 1 rfl) ?_
  refine lv_iload_n hx hb dX2_hasPairForNumber_42 rfl (lv_at hl 2 rfl) ?_
  refine lv_iconst (v := (0 : Int32)) hx hb dX2_hasPairForNumber_43 (by decide) ?_
  obtain ⟨v2, S1, e_S1, hm⟩ := m_call_of hm
  refine n_cVi X hH hS (k := 2) (c_X2_kindAt (a := a) (o1 := o1) hT hk_a hk_o1 e_S1) mw_X2_kindAt in_5_36 hk_a (by decide) rfl rfl rfl ⟨rfl, rfl⟩ ⟨Nat.le_of_ble_eq_true rfl, Nat.le_of_ble_eq_true rfl⟩ ⟨Nat.zero_le _, Nat.zero_le _⟩ hl.1 (Nat.le_of_ble_eq_true rfl) dX2_hasPairForNumber_44 (fun H locs hH hS => ?_)
  refine lv_iconst (v := (2 : Int32)) hx hb dX2_hasPairForNumber_47 (by decide) ?_
  refine lv_icmp_eq (tgt := 62) hx hb dX2_hasPairForNumber_48 (by decide) (fun c3 => ?_) (fun c3 => ?_)
  · have hm := m_ite_t hm c3
    exact k_X2_hasPairForNumber_62 (a := a) (o1 := o1) X hr hT hk_a hk_o1   S1 _ _ _ hH hS (lv_sub hl [] rfl) hm
  · have hm := m_ite_f hm c3
    refine lv_aload_n hx hb dX2_hasPairForNumber_51 rfl (lv_at hl 0 rfl) ?_
    refine lv_aload_n hx hb dX2_hasPairForNumber_52 rfl (lv_at hl 1 rfl) ?_
    refine lv_iload_n hx hb dX2_hasPairForNumber_53 rfl (lv_at hl 2 rfl) ?_
    refine lv_iconst (v := (1 : Int32)) hx hb dX2_hasPairForNumber_54 (by decide) ?_
    obtain ⟨v5, S4, e_S4, hm⟩ := m_call_of hm
    refine n_cVi X hH hS (k := 2) (c_X2_kindAt (a := a) (o1 := o1) hT hk_a hk_o1 e_S4) mw_X2_kindAt in_5_36 hk_a (by decide) rfl rfl rfl ⟨rfl, rfl⟩ ⟨Nat.le_of_ble_eq_true rfl, Nat.le_of_ble_eq_true rfl⟩ ⟨Nat.zero_le _, Nat.zero_le _⟩ hl.1 (Nat.le_of_ble_eq_true rfl) dX2_hasPairForNumber_55 (fun H locs hH hS => ?_)
    refine lv_iconst (v := (2 : Int32)) hx hb dX2_hasPairForNumber_58 (by decide) ?_
    refine lv_icmp_ne (tgt := 66) hx hb dX2_hasPairForNumber_59 (by decide) (fun c6 => ?_) (fun c6 => ?_)
    · have hm := m_ite_f hm c6
      refine lv_iconst (v := (0 : Int32)) hx hb dX2_hasPairForNumber_66 (by decide) ?_
      exact k_X2_hasPairForNumber_67 (a := a) (o1 := o1) X hr hT hk_a hk_o1   S4 (0 : Int32) _ _ _ hH hS (lv_sub hl [] rfl) hm
    · have hm := m_ite_t hm c6
      exact k_X2_hasPairForNumber_62 (a := a) (o1 := o1) X hr hT hk_a hk_o1   S4 _ _ _ hH hS (lv_sub hl [] rfl) hm
def b_X2_hasPairForNumber_84 (a o1 : Nat)  (S : m_M) (t0 : Int32) : Option (Int32 × m_M) :=
    if t0 = 0 ∨ t0 = 1 then some (t0, S) else none
set_option maxHeartbeats 4000000 in
set_option maxRecDepth 100000 in
theorem k_X2_hasPairForNumber_84 {p : Program} {l : Launch} {e : Env} {s : State} {m : MethodId} {args : Array Value} {below : List Frame} {meth : Method} {c : Code} {G : m_G} {nx : Nat} {κ : Nat → Nat} {res : (Int32 × m_M)} {a o1 : Nat} (X : m_Cx p s m args meth c cX2_hasPairForNumber 3 RX2 G) (hr : meth.sig.returnType = (some .boolean)) (hT : m_Str κ) (hk_a : κ a = 3) (hk_o1 : κ o1 = 4)  : ∀ (S : m_M) (t0 : Int32) (H : Heap) (locs : List Loc) (ls : Array Slot), m_H G nx κ S H → m_S G s H locs → lv_has ls 3 [] → b_X2_hasPairForNumber_84 a o1 S t0 = some res → W p l e rm_X2_hasPairForNumber s m args below meth c H locs 0 0 (m_Qi below args s G nx κ res) (F0 m 84 ls [.int t0]) := by
  have hx := X.1.1
  have hb := X.1.2.1
  intro S t0 H locs ls hH hS hl hm
  rw [b_X2_hasPairForNumber_84] at hm
  exact r_zret X hr hH hS hm dX2_hasPairForNumber_84
def b_X2_hasPairForNumber_105 (a o1 : Nat)  (S : m_M) (t0 : Int32) : Option (Int32 × m_M) :=
    if t0 = 0 ∨ t0 = 1 then some (t0, S) else none
set_option maxHeartbeats 4000000 in
set_option maxRecDepth 100000 in
theorem k_X2_hasPairForNumber_105 {p : Program} {l : Launch} {e : Env} {s : State} {m : MethodId} {args : Array Value} {below : List Frame} {meth : Method} {c : Code} {G : m_G} {nx : Nat} {κ : Nat → Nat} {res : (Int32 × m_M)} {a o1 : Nat} (X : m_Cx p s m args meth c cX2_hasPairForNumber 3 RX2 G) (hr : meth.sig.returnType = (some .boolean)) (hT : m_Str κ) (hk_a : κ a = 3) (hk_o1 : κ o1 = 4)  : ∀ (S : m_M) (t0 : Int32) (H : Heap) (locs : List Loc) (ls : Array Slot), m_H G nx κ S H → m_S G s H locs → lv_has ls 3 [] → b_X2_hasPairForNumber_105 a o1 S t0 = some res → W p l e rm_X2_hasPairForNumber s m args below meth c H locs 0 0 (m_Qi below args s G nx κ res) (F0 m 105 ls [.int t0]) := by
  have hx := X.1.1
  have hb := X.1.2.1
  intro S t0 H locs ls hH hS hl hm
  rw [b_X2_hasPairForNumber_105] at hm
  exact r_zret X hr hH hS hm dX2_hasPairForNumber_105
def b_X2_hasPairForNumber_106 (a o1 : Nat)  (S : m_M)  : Option (Int32 × m_M) :=
    if (0 : Int32) = 0 ∨ (0 : Int32) = 1 then some ((0 : Int32), S) else none
set_option maxHeartbeats 4000000 in
set_option maxRecDepth 100000 in
theorem k_X2_hasPairForNumber_106 {p : Program} {l : Launch} {e : Env} {s : State} {m : MethodId} {args : Array Value} {below : List Frame} {meth : Method} {c : Code} {G : m_G} {nx : Nat} {κ : Nat → Nat} {res : (Int32 × m_M)} {a o1 : Nat} (X : m_Cx p s m args meth c cX2_hasPairForNumber 3 RX2 G) (hr : meth.sig.returnType = (some .boolean)) (hT : m_Str κ) (hk_a : κ a = 3) (hk_o1 : κ o1 = 4)  : ∀ (S : m_M)  (H : Heap) (locs : List Loc) (ls : Array Slot), m_H G nx κ S H → m_S G s H locs → lv_has ls 3 [] → b_X2_hasPairForNumber_106 a o1 S  = some res → W p l e rm_X2_hasPairForNumber s m args below meth c H locs 0 0 (m_Qi below args s G nx κ res) (F0 m 106 ls []) := by
  have hx := X.1.1
  have hb := X.1.2.1
  intro S H locs ls hH hS hl hm
  rw [b_X2_hasPairForNumber_106] at hm
  refine lv_iconst (v := (0 : Int32)) hx hb dX2_hasPairForNumber_106 (by decide) ?_
  exact r_zret X hr hH hS hm dX2_hasPairForNumber_107
def f_X2_hasPairForNumber (a o1 : Nat) (S : m_M) (i2 : Int32) : Option (Int32 × m_M) :=
    (m_ldi S (o1 + 5) 24 i2).bind fun v1 =>
    if v1 = (5 : Int32) then (
    b_X2_hasPairForNumber_40 a o1 S i2) else (
    if v1 = (6 : Int32) then (
    b_X2_hasPairForNumber_40 a o1 S i2) else (
    if v1 = (7 : Int32) then (
    m_call (f_X2_kindAt a o1 S i2 (0 : Int32)) fun v6 S5 =>
    if v6 = (2 : Int32) then (
    b_X2_hasPairForNumber_84 a o1 S5 (1 : Int32)) else (
    b_X2_hasPairForNumber_84 a o1 S5 (0 : Int32))) else (
    if v1 = (8 : Int32) then (
    b_X2_hasPairForNumber_106 a o1 S) else (
    if v1 = (9 : Int32) then (
    m_call (f_X3_conditionSlot o1 S i2) fun v11 S10 =>
    m_call (f_X2_kindAt a o1 S10 i2 v11) fun v13 S12 =>
    if v13 = (2 : Int32) then (
    b_X2_hasPairForNumber_105 a o1 S12 (1 : Int32)) else (
    b_X2_hasPairForNumber_105 a o1 S12 (0 : Int32))) else (
    b_X2_hasPairForNumber_106 a o1 S)))))
set_option maxHeartbeats 4000000 in
set_option maxRecDepth 100000 in
theorem c_X2_hasPairForNumber {l : Launch} {G : m_G} {nx : Nat} {κ : Nat → Nat} {a o1 : Nat} {S : m_M} {i2 : Int32} {res : (Int32 × m_M)} (hT : m_Str κ) (hk_a : κ a = 3) (hk_o1 : κ o1 = 4) (hm : f_X2_hasPairForNumber a o1 S i2 = some res) : m_Ci l yX2_hasPairForNumber cX2_hasPairForNumber 3 (some .boolean) rm_X2_hasPairForNumber G nx κ [.ref a, .ref o1, .int i2] S res := by
  refine m_Ci.of (by decide) (Nat.le_of_ble_eq_true rfl) ?_
  intro p e s m args below meth c ls X hr hH hl
  have hx := X.1.1
  have hb := X.1.2.1
  have hS : m_S G s s.heap [] := va_S.rf
  have hl : lv_has ls 3 [(0, .ref a), (1, .ref o1), (2, .int i2)] := hl
  rw [f_X2_hasPairForNumber] at hm
  refine lv_aload_n hx hb dX2_hasPairForNumber_0 rfl (lv_at hl 1 rfl) ?_
  refine r_getp X hH (k := 3) (a := o1) (j := 6) (b := (o1 + 5)) (A := 5) (B := 0) hk_o1 (by decide) rfl m_wi3 (by decide) in_1_153 rfl rfl rfl dX2_hasPairForNumber_1 ?_
  refine lv_iload_n hx hb dX2_hasPairForNumber_4 rfl (lv_at hl 2 rfl) ?_
  obtain ⟨v1, h_v1, e_v1, hm⟩ := n_ldi hm
  refine n_iald X hH (n := 24) (m_lay_at hT hk_o1 (by decide) (i := 5) rfl) h_v1 e_v1 dX2_hasPairForNumber_5 ?_
  by_cases c2 : v1 = (5 : Int32)
  · have hm := m_ite_t hm c2
    refine lv_tableIn (off := 34) (tgt := 40) hx hb dX2_hasPairForNumber_6 (by rw [c2]; decide) (by rw [c2]; decide) (by rw [c2]; rfl) (by decide) ?_
    exact k_X2_hasPairForNumber_40 (a := a) (o1 := o1) X hr hT hk_a hk_o1   S i2 _ _ _ hH hS hl hm
  · have hm := m_ite_f hm c2
    by_cases c3 : v1 = (6 : Int32)
    · have hm := m_ite_t hm c3
      refine lv_tableIn (off := 34) (tgt := 40) hx hb dX2_hasPairForNumber_6 (by rw [c3]; decide) (by rw [c3]; decide) (by rw [c3]; rfl) (by decide) ?_
      exact k_X2_hasPairForNumber_40 (a := a) (o1 := o1) X hr hT hk_a hk_o1   S i2 _ _ _ hH hS hl hm
    · have hm := m_ite_f hm c3
      by_cases c4 : v1 = (7 : Int32)
      · have hm := m_ite_t hm c4
        refine lv_tableIn (off := 62) (tgt := 68) hx hb dX2_hasPairForNumber_6 (by rw [c4]; decide) (by rw [c4]; decide) (by rw [c4]; rfl) (by decide) ?_
        refine lv_aload_n hx hb dX2_hasPairForNumber_68 rfl (lv_at hl 0 rfl) ?_
        refine lv_aload_n hx hb dX2_hasPairForNumber_69 rfl (lv_at hl 1 rfl) ?_
        refine lv_iload_n hx hb dX2_hasPairForNumber_70 rfl (lv_at hl 2 rfl) ?_
        refine lv_iconst (v := (0 : Int32)) hx hb dX2_hasPairForNumber_71 (by decide) ?_
        obtain ⟨v6, S5, e_S5, hm⟩ := m_call_of hm
        refine n_cVi X hH hS (k := 2) (c_X2_kindAt (a := a) (o1 := o1) hT hk_a hk_o1 e_S5) mw_X2_kindAt in_5_36 hk_a (by decide) rfl rfl rfl ⟨rfl, rfl⟩ ⟨Nat.le_of_ble_eq_true rfl, Nat.le_of_ble_eq_true rfl⟩ ⟨Nat.zero_le _, Nat.zero_le _⟩ hl.1 (Nat.le_of_ble_eq_true rfl) dX2_hasPairForNumber_72 (fun H locs hH hS => ?_)
        refine lv_iconst (v := (2 : Int32)) hx hb dX2_hasPairForNumber_75 (by decide) ?_
        refine lv_icmp_ne (tgt := 83) hx hb dX2_hasPairForNumber_76 (by decide) (fun c7 => ?_) (fun c7 => ?_)
        · have hm := m_ite_f hm c7
          refine lv_iconst (v := (0 : Int32)) hx hb dX2_hasPairForNumber_83 (by decide) ?_
          exact k_X2_hasPairForNumber_84 (a := a) (o1 := o1) X hr hT hk_a hk_o1   S5 (0 : Int32) _ _ _ hH hS (lv_sub hl [] rfl) hm
        · have hm := m_ite_t hm c7
          refine lv_iconst (v := (1 : Int32)) hx hb dX2_hasPairForNumber_79 (by decide) ?_
          refine lv_goto (tgt := 84) hx hb dX2_hasPairForNumber_80 (by decide) ?_
          exact k_X2_hasPairForNumber_84 (a := a) (o1 := o1) X hr hT hk_a hk_o1   S5 (1 : Int32) _ _ _ hH hS (lv_sub hl [] rfl) hm
      · have hm := m_ite_f hm c4
        by_cases c8 : v1 = (8 : Int32)
        · have hm := m_ite_t hm c8
          refine lv_tableIn (off := 100) (tgt := 106) hx hb dX2_hasPairForNumber_6 (by rw [c8]; decide) (by rw [c8]; decide) (by rw [c8]; rfl) (by decide) ?_
          exact k_X2_hasPairForNumber_106 (a := a) (o1 := o1) X hr hT hk_a hk_o1   S _ _ _ hH hS (lv_sub hl [] rfl) hm
        · have hm := m_ite_f hm c8
          by_cases c9 : v1 = (9 : Int32)
          · have hm := m_ite_t hm c9
            refine lv_tableIn (off := 79) (tgt := 85) hx hb dX2_hasPairForNumber_6 (by rw [c9]; decide) (by rw [c9]; decide) (by rw [c9]; rfl) (by decide) ?_
            refine lv_aload_n hx hb dX2_hasPairForNumber_85 rfl (lv_at hl 0 rfl) ?_
            refine lv_aload_n hx hb dX2_hasPairForNumber_86 rfl (lv_at hl 1 rfl) ?_
            refine lv_iload_n hx hb dX2_hasPairForNumber_87 rfl (lv_at hl 2 rfl) ?_
            refine lv_aload_n hx hb dX2_hasPairForNumber_88 rfl (lv_at hl 1 rfl) ?_
            refine lv_iload_n hx hb dX2_hasPairForNumber_89 rfl (lv_at hl 2 rfl) ?_
            obtain ⟨v11, S10, e_S10, hm⟩ := m_call_of hm
            refine n_cVi X hH hS (k := 3) (c_X3_conditionSlot (a := o1) hT hk_o1 e_S10) mw_X3_conditionSlot in_5_45 hk_o1 (by decide) rfl rfl rfl ⟨rfl, rfl⟩ ⟨Nat.le_of_ble_eq_true rfl, Nat.le_of_ble_eq_true rfl⟩ ⟨Nat.zero_le _, Nat.zero_le _⟩ hl.1 (Nat.le_of_ble_eq_true rfl) dX2_hasPairForNumber_90 (fun H locs hH hS => ?_)
            obtain ⟨v13, S12, e_S12, hm⟩ := m_call_of hm
            refine n_cVi X hH hS (k := 2) (c_X2_kindAt (a := a) (o1 := o1) hT hk_a hk_o1 e_S12) mw_X2_kindAt in_5_36 hk_a (by decide) rfl rfl rfl ⟨rfl, rfl⟩ ⟨Nat.le_of_ble_eq_true rfl, Nat.le_of_ble_eq_true rfl⟩ ⟨Nat.zero_le _, Nat.zero_le _⟩ hl.1 (Nat.le_of_ble_eq_true rfl) dX2_hasPairForNumber_93 (fun H locs hH hS => ?_)
            refine lv_iconst (v := (2 : Int32)) hx hb dX2_hasPairForNumber_96 (by decide) ?_
            refine lv_icmp_ne (tgt := 104) hx hb dX2_hasPairForNumber_97 (by decide) (fun c14 => ?_) (fun c14 => ?_)
            · have hm := m_ite_f hm c14
              refine lv_iconst (v := (0 : Int32)) hx hb dX2_hasPairForNumber_104 (by decide) ?_
              exact k_X2_hasPairForNumber_105 (a := a) (o1 := o1) X hr hT hk_a hk_o1   S12 (0 : Int32) _ _ _ hH hS (lv_sub hl [] rfl) hm
            · have hm := m_ite_t hm c14
              refine lv_iconst (v := (1 : Int32)) hx hb dX2_hasPairForNumber_100 (by decide) ?_
              refine lv_goto (tgt := 105) hx hb dX2_hasPairForNumber_101 (by decide) ?_
              exact k_X2_hasPairForNumber_105 (a := a) (o1 := o1) X hr hT hk_a hk_o1   S12 (1 : Int32) _ _ _ hH hS (lv_sub hl [] rfl) hm
          · have hm := m_ite_f hm c9
            refine lv_tableOut (tgt := 106) hx hb dX2_hasPairForNumber_6 (by have h_c2 := lv_neT (a := 5) c2 rfl; have h_c3 := lv_neT (a := 6) c3 rfl; have h_c4 := lv_neT (a := 7) c4 rfl; have h_c8 := lv_neT (a := 8) c8 rfl; have h_c9 := lv_neT (a := 9) c9 rfl; omega) (by decide) ?_
            exact k_X2_hasPairForNumber_106 (a := a) (o1 := o1) X hr hT hk_a hk_o1   S _ _ _ hH hS (lv_sub hl [] rfl) hm
def rm_X2_valueAt : Room := { frames := 1, cells := 0, slots := 0, locals := 22 }
def f_X2_valueAt (a o1 : Nat) (S : m_M) (i2 : Int32) (i3 : Int32) : Option (Int32 × m_M) :=
    m_call (f_X3_operandAt o1 S i2 i3) fun v2 S1 =>
    (m_ldi S1 (a + 4) 351 ((((m_ri S a 2) - (1 : Int32)) * (27 : Int32)) + v2)).bind fun v3 =>
    some (v3, S1)
set_option maxHeartbeats 4000000 in
set_option maxRecDepth 100000 in
theorem c_X2_valueAt {l : Launch} {G : m_G} {nx : Nat} {κ : Nat → Nat} {a o1 : Nat} {S : m_M} {i2 : Int32} {i3 : Int32} {res : (Int32 × m_M)} (hT : m_Str κ) (hk_a : κ a = 3) (hk_o1 : κ o1 = 4) (hm : f_X2_valueAt a o1 S i2 i3 = some res) : m_Ci l yX2_valueAt cX2_valueAt 4 (some .int) rm_X2_valueAt G nx κ [.ref a, .ref o1, .int i2, .int i3] S res := by
  refine m_Ci.of (by decide) (Nat.le_of_ble_eq_true rfl) ?_
  intro p e s m args below meth c ls X hr hH hl
  have hx := X.1.1
  have hb := X.1.2.1
  have hS : m_S G s s.heap [] := va_S.rf
  have hl : lv_has ls 4 [(0, .ref a), (1, .ref o1), (2, .int i2), (3, .int i3)] := hl
  rw [f_X2_valueAt] at hm
  refine lv_aload_n hx hb dX2_valueAt_0 rfl (lv_at hl 0 rfl) ?_
  refine r_getp X hH (k := 2) (a := a) (j := 15) (b := (a + 4)) (A := 4) (B := 0) hk_a (by decide) rfl m_wi2 (by decide) in_2_207 rfl rfl rfl dX2_valueAt_1 ?_
  refine lv_aload_n hx hb dX2_valueAt_4 rfl (lv_at hl 0 rfl) ?_
  refine r_geti X hH (k := 2) (a := a) (j := 2) hk_a (by decide) rfl m_wi2 (by decide) in_2_180 rfl rfl dX2_valueAt_5 ?_
  refine lv_iconst (v := (1 : Int32)) hx hb dX2_valueAt_8 (by decide) ?_
  refine lv_isub hx hb dX2_valueAt_9 ?_
  refine lv_bipush (v := (27 : Int32)) hx hb dX2_valueAt_10 (by decide) ?_
  refine lv_imul hx hb dX2_valueAt_12 ?_
  refine lv_aload_n hx hb dX2_valueAt_13 rfl (lv_at hl 1 rfl) ?_
  refine lv_iload_n hx hb dX2_valueAt_14 rfl (lv_at hl 2 rfl) ?_
  refine lv_iload_n hx hb dX2_valueAt_15 rfl (lv_at hl 3 rfl) ?_
  obtain ⟨v2, S1, e_S1, hm⟩ := m_call_of hm
  refine n_cVi X hH hS (k := 3) (c_X3_operandAt (a := o1) hT hk_o1 e_S1) mw_X3_operandAt in_5_40 hk_o1 (by decide) rfl rfl rfl ⟨rfl, rfl⟩ ⟨Nat.le_of_ble_eq_true rfl, Nat.le_of_ble_eq_true rfl⟩ ⟨Nat.zero_le _, Nat.zero_le _⟩ hl.1 (Nat.le_of_ble_eq_true rfl) dX2_valueAt_16 (fun H locs hH hS => ?_)
  refine lv_iadd hx hb dX2_valueAt_19 ?_
  obtain ⟨v3, h_v3, e_v3, hm⟩ := n_ldi hm
  refine n_iald X hH (n := 351) (m_lay_at hT hk_a (by decide) (i := 4) rfl) h_v3 e_v3 dX2_valueAt_20 ?_
  exact r_iret X hr hH hS hm dX2_valueAt_21
def rm_X2_callsNow : Room := { frames := 2, cells := 0, slots := 0, locals := 45 }
def b_X2_callsNow_30 (a o1 : Nat)  (S : m_M) (t0 : Int32) : Option (Int32 × m_M) :=
    if t0 = 0 ∨ t0 = 1 then some (t0, S) else none
set_option maxHeartbeats 4000000 in
set_option maxRecDepth 100000 in
theorem k_X2_callsNow_30 {p : Program} {l : Launch} {e : Env} {s : State} {m : MethodId} {args : Array Value} {below : List Frame} {meth : Method} {c : Code} {G : m_G} {nx : Nat} {κ : Nat → Nat} {res : (Int32 × m_M)} {a o1 : Nat} (X : m_Cx p s m args meth c cX2_callsNow 3 RX2 G) (hr : meth.sig.returnType = (some .boolean)) (hT : m_Str κ) (hk_a : κ a = 3) (hk_o1 : κ o1 = 4)  : ∀ (S : m_M) (t0 : Int32) (H : Heap) (locs : List Loc) (ls : Array Slot), m_H G nx κ S H → m_S G s H locs → lv_has ls 3 [] → b_X2_callsNow_30 a o1 S t0 = some res → W p l e rm_X2_callsNow s m args below meth c H locs 0 0 (m_Qi below args s G nx κ res) (F0 m 30 ls [.int t0]) := by
  have hx := X.1.1
  have hb := X.1.2.1
  intro S t0 H locs ls hH hS hl hm
  rw [b_X2_callsNow_30] at hm
  exact r_zret X hr hH hS hm dX2_callsNow_30
def b_X2_callsNow_47 (a o1 : Nat)  (S : m_M) (t0 : Int32) : Option (Int32 × m_M) :=
    if t0 = 0 ∨ t0 = 1 then some (t0, S) else none
set_option maxHeartbeats 4000000 in
set_option maxRecDepth 100000 in
theorem k_X2_callsNow_47 {p : Program} {l : Launch} {e : Env} {s : State} {m : MethodId} {args : Array Value} {below : List Frame} {meth : Method} {c : Code} {G : m_G} {nx : Nat} {κ : Nat → Nat} {res : (Int32 × m_M)} {a o1 : Nat} (X : m_Cx p s m args meth c cX2_callsNow 3 RX2 G) (hr : meth.sig.returnType = (some .boolean)) (hT : m_Str κ) (hk_a : κ a = 3) (hk_o1 : κ o1 = 4)  : ∀ (S : m_M) (t0 : Int32) (H : Heap) (locs : List Loc) (ls : Array Slot), m_H G nx κ S H → m_S G s H locs → lv_has ls 3 [] → b_X2_callsNow_47 a o1 S t0 = some res → W p l e rm_X2_callsNow s m args below meth c H locs 0 0 (m_Qi below args s G nx κ res) (F0 m 47 ls [.int t0]) := by
  have hx := X.1.1
  have hb := X.1.2.1
  intro S t0 H locs ls hH hS hl hm
  rw [b_X2_callsNow_47] at hm
  exact r_zret X hr hH hS hm dX2_callsNow_47
def f_X2_callsNow (a o1 : Nat) (S : m_M) (i2 : Int32) : Option (Int32 × m_M) :=
    (m_ldi S (o1 + 5) 24 i2).bind fun v1 =>
    if v1 = (9 : Int32) then (
    m_call (f_X3_conditionSlot o1 S i2) fun v6 S5 =>
    m_call (f_X2_valueAt a o1 S5 i2 v6) fun v8 S7 =>
    if v8 = 0 then (
    b_X2_callsNow_30 a o1 S7 (0 : Int32)) else (
    b_X2_callsNow_30 a o1 S7 (1 : Int32))) else (
    (m_ldi S (o1 + 5) 24 i2).bind fun v3 =>
    if v3 = (8 : Int32) then (
    b_X2_callsNow_47 a o1 S (1 : Int32)) else (
    b_X2_callsNow_47 a o1 S (0 : Int32)))
set_option maxHeartbeats 4000000 in
set_option maxRecDepth 100000 in
theorem c_X2_callsNow {l : Launch} {G : m_G} {nx : Nat} {κ : Nat → Nat} {a o1 : Nat} {S : m_M} {i2 : Int32} {res : (Int32 × m_M)} (hT : m_Str κ) (hk_a : κ a = 3) (hk_o1 : κ o1 = 4) (hm : f_X2_callsNow a o1 S i2 = some res) : m_Ci l yX2_callsNow cX2_callsNow 3 (some .boolean) rm_X2_callsNow G nx κ [.ref a, .ref o1, .int i2] S res := by
  refine m_Ci.of (by decide) (Nat.le_of_ble_eq_true rfl) ?_
  intro p e s m args below meth c ls X hr hH hl
  have hx := X.1.1
  have hb := X.1.2.1
  have hS : m_S G s s.heap [] := va_S.rf
  have hl : lv_has ls 3 [(0, .ref a), (1, .ref o1), (2, .int i2)] := hl
  rw [f_X2_callsNow] at hm
  refine lv_aload_n hx hb dX2_callsNow_0 rfl (lv_at hl 1 rfl) ?_
  refine r_getp X hH (k := 3) (a := o1) (j := 6) (b := (o1 + 5)) (A := 5) (B := 0) hk_o1 (by decide) rfl m_wi3 (by decide) in_1_153 rfl rfl rfl dX2_callsNow_1 ?_
  refine lv_iload_n hx hb dX2_callsNow_4 rfl (lv_at hl 2 rfl) ?_
  obtain ⟨v1, h_v1, e_v1, hm⟩ := n_ldi hm
  refine n_iald X hH (n := 24) (m_lay_at hT hk_o1 (by decide) (i := 5) rfl) h_v1 e_v1 dX2_callsNow_5 ?_
  refine lv_bipush (v := (9 : Int32)) hx hb dX2_callsNow_6 (by decide) ?_
  refine lv_icmp_ne (tgt := 31) hx hb dX2_callsNow_8 (by decide) (fun c2 => ?_) (fun c2 => ?_)
  · have hm := m_ite_f hm c2
    refine lv_aload_n hx hb dX2_callsNow_31 rfl (lv_at hl 1 rfl) ?_
    refine r_getp X hH (k := 3) (a := o1) (j := 6) (b := (o1 + 5)) (A := 5) (B := 0) hk_o1 (by decide) rfl m_wi3 (by decide) in_1_153 rfl rfl rfl dX2_callsNow_32 ?_
    refine lv_iload_n hx hb dX2_callsNow_35 rfl (lv_at hl 2 rfl) ?_
    obtain ⟨v3, h_v3, e_v3, hm⟩ := n_ldi hm
    refine n_iald X hH (n := 24) (m_lay_at hT hk_o1 (by decide) (i := 5) rfl) h_v3 e_v3 dX2_callsNow_36 ?_
    refine lv_bipush (v := (8 : Int32)) hx hb dX2_callsNow_37 (by decide) ?_
    refine lv_icmp_ne (tgt := 46) hx hb dX2_callsNow_39 (by decide) (fun c4 => ?_) (fun c4 => ?_)
    · have hm := m_ite_f hm c4
      refine lv_iconst (v := (0 : Int32)) hx hb dX2_callsNow_46 (by decide) ?_
      exact k_X2_callsNow_47 (a := a) (o1 := o1) X hr hT hk_a hk_o1   S (0 : Int32) _ _ _ hH hS (lv_sub hl [] rfl) hm
    · have hm := m_ite_t hm c4
      refine lv_iconst (v := (1 : Int32)) hx hb dX2_callsNow_42 (by decide) ?_
      refine lv_goto (tgt := 47) hx hb dX2_callsNow_43 (by decide) ?_
      exact k_X2_callsNow_47 (a := a) (o1 := o1) X hr hT hk_a hk_o1   S (1 : Int32) _ _ _ hH hS (lv_sub hl [] rfl) hm
  · have hm := m_ite_t hm c2
    refine lv_aload_n hx hb dX2_callsNow_11 rfl (lv_at hl 0 rfl) ?_
    refine lv_aload_n hx hb dX2_callsNow_12 rfl (lv_at hl 1 rfl) ?_
    refine lv_iload_n hx hb dX2_callsNow_13 rfl (lv_at hl 2 rfl) ?_
    refine lv_aload_n hx hb dX2_callsNow_14 rfl (lv_at hl 1 rfl) ?_
    refine lv_iload_n hx hb dX2_callsNow_15 rfl (lv_at hl 2 rfl) ?_
    obtain ⟨v6, S5, e_S5, hm⟩ := m_call_of hm
    refine n_cVi X hH hS (k := 3) (c_X3_conditionSlot (a := o1) hT hk_o1 e_S5) mw_X3_conditionSlot in_5_45 hk_o1 (by decide) rfl rfl rfl ⟨rfl, rfl⟩ ⟨Nat.le_of_ble_eq_true rfl, Nat.le_of_ble_eq_true rfl⟩ ⟨Nat.zero_le _, Nat.zero_le _⟩ hl.1 (Nat.le_of_ble_eq_true rfl) dX2_callsNow_16 (fun H locs hH hS => ?_)
    obtain ⟨v8, S7, e_S7, hm⟩ := m_call_of hm
    refine n_cVi X hH hS (k := 2) (c_X2_valueAt (a := a) (o1 := o1) hT hk_a hk_o1 e_S7) mw_X2_valueAt in_5_53 hk_a (by decide) rfl rfl rfl ⟨rfl, rfl⟩ ⟨Nat.le_of_ble_eq_true rfl, Nat.le_of_ble_eq_true rfl⟩ ⟨Nat.zero_le _, Nat.zero_le _⟩ hl.1 (Nat.le_of_ble_eq_true rfl) dX2_callsNow_19 (fun H locs hH hS => ?_)
    refine lv_if_eq (tgt := 29) hx hb dX2_callsNow_22 (by decide) (fun c9 => ?_) (fun c9 => ?_)
    · have hm := m_ite_t hm c9
      refine lv_iconst (v := (0 : Int32)) hx hb dX2_callsNow_29 (by decide) ?_
      exact k_X2_callsNow_30 (a := a) (o1 := o1) X hr hT hk_a hk_o1   S7 (0 : Int32) _ _ _ hH hS (lv_sub hl [] rfl) hm
    · have hm := m_ite_f hm c9
      refine lv_iconst (v := (1 : Int32)) hx hb dX2_callsNow_25 (by decide) ?_
      refine lv_goto (tgt := 30) hx hb dX2_callsNow_26 (by decide) ?_
      exact k_X2_callsNow_30 (a := a) (o1 := o1) X hr hT hk_a hk_o1   S7 (1 : Int32) _ _ _ hH hS (lv_sub hl [] rfl) hm
def rm_X3_leavesBy : Room := { frames := 0, cells := 0, slots := 0, locals := 0 }
def b_X3_leavesBy_36 (a : Nat)  (S : m_M) (t0 : Int32) : Option (Int32 × m_M) :=
    if t0 = 0 ∨ t0 = 1 then some (t0, S) else none
set_option maxHeartbeats 4000000 in
set_option maxRecDepth 100000 in
theorem k_X3_leavesBy_36 {p : Program} {l : Launch} {e : Env} {s : State} {m : MethodId} {args : Array Value} {below : List Frame} {meth : Method} {c : Code} {G : m_G} {nx : Nat} {κ : Nat → Nat} {res : (Int32 × m_M)} {a : Nat} (X : m_Cx p s m args meth c cX3_leavesBy 3 RX3 G) (hr : meth.sig.returnType = (some .boolean)) (hT : m_Str κ) (hk_a : κ a = 4)  : ∀ (S : m_M) (t0 : Int32) (H : Heap) (locs : List Loc) (ls : Array Slot), m_H G nx κ S H → m_S G s H locs → lv_has ls 3 [] → b_X3_leavesBy_36 a S t0 = some res → W p l e rm_X3_leavesBy s m args below meth c H locs 0 0 (m_Qi below args s G nx κ res) (F0 m 36 ls [.int t0]) := by
  have hx := X.1.1
  have hb := X.1.2.1
  intro S t0 H locs ls hH hS hl hm
  rw [b_X3_leavesBy_36] at hm
  exact r_zret X hr hH hS hm dX3_leavesBy_36
def b_X3_leavesBy_35 (a : Nat)  (S : m_M)  : Option (Int32 × m_M) :=
    b_X3_leavesBy_36 a S (0 : Int32)
set_option maxHeartbeats 4000000 in
set_option maxRecDepth 100000 in
theorem k_X3_leavesBy_35 {p : Program} {l : Launch} {e : Env} {s : State} {m : MethodId} {args : Array Value} {below : List Frame} {meth : Method} {c : Code} {G : m_G} {nx : Nat} {κ : Nat → Nat} {res : (Int32 × m_M)} {a : Nat} (X : m_Cx p s m args meth c cX3_leavesBy 3 RX3 G) (hr : meth.sig.returnType = (some .boolean)) (hT : m_Str κ) (hk_a : κ a = 4)  : ∀ (S : m_M)  (H : Heap) (locs : List Loc) (ls : Array Slot), m_H G nx κ S H → m_S G s H locs → lv_has ls 3 [] → b_X3_leavesBy_35 a S  = some res → W p l e rm_X3_leavesBy s m args below meth c H locs 0 0 (m_Qi below args s G nx κ res) (F0 m 35 ls []) := by
  have hx := X.1.1
  have hb := X.1.2.1
  intro S H locs ls hH hS hl hm
  rw [b_X3_leavesBy_35] at hm
  refine lv_iconst (v := (0 : Int32)) hx hb dX3_leavesBy_35 (by decide) ?_
  exact k_X3_leavesBy_36 (a := a) X hr hT hk_a   S (0 : Int32) _ _ _ hH hS hl hm
def f_X3_leavesBy (a : Nat) (S : m_M) (i1 : Int32) (i2 : Int32) : Option (Int32 × m_M) :=
    (m_ldi S (a + 3) 5 i1).bind fun v1 =>
    (m_ldi S (a + 4) 5 i1).bind fun v2 =>
    if i2 = ((v1 + v2) - (1 : Int32)) then (
    (m_ldi S (a + 21) 24 i2).bind fun v4 =>
    if v4 = 0 then (
    b_X3_leavesBy_36 a S (1 : Int32)) else (
    b_X3_leavesBy_35 a S)) else (
    b_X3_leavesBy_35 a S)
set_option maxHeartbeats 4000000 in
set_option maxRecDepth 100000 in
theorem c_X3_leavesBy {l : Launch} {G : m_G} {nx : Nat} {κ : Nat → Nat} {a : Nat} {S : m_M} {i1 : Int32} {i2 : Int32} {res : (Int32 × m_M)} (hT : m_Str κ) (hk_a : κ a = 4) (hm : f_X3_leavesBy a S i1 i2 = some res) : m_Ci l yX3_leavesBy cX3_leavesBy 3 (some .boolean) rm_X3_leavesBy G nx κ [.ref a, .int i1, .int i2] S res := by
  refine m_Ci.of (by decide) (Nat.le_of_ble_eq_true rfl) ?_
  intro p e s m args below meth c ls X hr hH hl
  have hx := X.1.1
  have hb := X.1.2.1
  have hS : m_S G s s.heap [] := va_S.rf
  have hl : lv_has ls 3 [(0, .ref a), (1, .int i1), (2, .int i2)] := hl
  rw [f_X3_leavesBy] at hm
  refine lv_iload_n hx hb dX3_leavesBy_0 rfl (lv_at hl 2 rfl) ?_
  refine lv_aload_n hx hb dX3_leavesBy_1 rfl (lv_at hl 0 rfl) ?_
  refine r_getp X hH (k := 3) (a := a) (j := 4) (b := (a + 3)) (A := 3) (B := 0) hk_a (by decide) rfl m_wi3 (by decide) in_1_139 rfl rfl rfl dX3_leavesBy_2 ?_
  refine lv_iload_n hx hb dX3_leavesBy_5 rfl (lv_at hl 1 rfl) ?_
  obtain ⟨v1, h_v1, e_v1, hm⟩ := n_ldi hm
  refine n_iald X hH (n := 5) (m_lay_at hT hk_a (by decide) (i := 3) rfl) h_v1 e_v1 dX3_leavesBy_6 ?_
  refine lv_aload_n hx hb dX3_leavesBy_7 rfl (lv_at hl 0 rfl) ?_
  refine r_getp X hH (k := 3) (a := a) (j := 5) (b := (a + 4)) (A := 4) (B := 0) hk_a (by decide) rfl m_wi3 (by decide) in_1_143 rfl rfl rfl dX3_leavesBy_8 ?_
  refine lv_iload_n hx hb dX3_leavesBy_11 rfl (lv_at hl 1 rfl) ?_
  obtain ⟨v2, h_v2, e_v2, hm⟩ := n_ldi hm
  refine n_iald X hH (n := 5) (m_lay_at hT hk_a (by decide) (i := 4) rfl) h_v2 e_v2 dX3_leavesBy_12 ?_
  refine lv_iadd hx hb dX3_leavesBy_13 ?_
  refine lv_iconst (v := (1 : Int32)) hx hb dX3_leavesBy_14 (by decide) ?_
  refine lv_isub hx hb dX3_leavesBy_15 ?_
  refine lv_icmp_ne (tgt := 35) hx hb dX3_leavesBy_16 (by decide) (fun c3 => ?_) (fun c3 => ?_)
  · have hm := m_ite_f hm c3
    exact k_X3_leavesBy_35 (a := a) X hr hT hk_a   S _ _ _ hH hS (lv_sub hl [] rfl) hm
  · have hm := m_ite_t hm c3
    refine lv_aload_n hx hb dX3_leavesBy_19 rfl (lv_at hl 0 rfl) ?_
    refine r_getp X hH (k := 3) (a := a) (j := 9) (b := (a + 8)) (A := 8) (B := 0) hk_a (by decide) rfl m_wi3 (by decide) in_1_160 rfl rfl rfl dX3_leavesBy_20 ?_
    refine r_getp X hH (k := 6) (a := (a + 8)) (j := 14) (b := (a + 21)) (A := 13) (B := 0) (m_lay_at hT hk_a (by decide) (i := 8) rfl) (by decide) rfl m_wi6 (by decide) in_1_86 rfl rfl rfl dX3_leavesBy_23 ?_
    refine lv_iload_n hx hb dX3_leavesBy_26 rfl (lv_at hl 2 rfl) ?_
    obtain ⟨v4, h_v4, e_v4, hm⟩ := n_ldi hm
    refine n_iald X hH (n := 24) (m_lay_at hT hk_a (by decide) (i := 21) rfl) h_v4 e_v4 dX3_leavesBy_27 ?_
    refine lv_if_ne (tgt := 35) hx hb dX3_leavesBy_28 (by decide) (fun c5 => ?_) (fun c5 => ?_)
    · have hm := m_ite_f hm c5
      exact k_X3_leavesBy_35 (a := a) X hr hT hk_a   S _ _ _ hH hS (lv_sub hl [] rfl) hm
    · have hm := m_ite_t hm c5
      refine lv_iconst (v := (1 : Int32)) hx hb dX3_leavesBy_31 (by decide) ?_
      refine lv_goto (tgt := 36) hx hb dX3_leavesBy_32 (by decide) ?_
      exact k_X3_leavesBy_36 (a := a) X hr hT hk_a   S (1 : Int32) _ _ _ hH hS (lv_sub hl [] rfl) hm
def rm_X2_stopReason : Room := { frames := 3, cells := 0, slots := 0, locals := 67 }
def b_X2_stopReason_106 (a o1 : Nat)  (S : m_M) (t0 : Int32) : Option (Int32 × m_M) :=
    some (t0, S)
set_option maxHeartbeats 4000000 in
set_option maxRecDepth 100000 in
theorem k_X2_stopReason_106 {p : Program} {l : Launch} {e : Env} {s : State} {m : MethodId} {args : Array Value} {below : List Frame} {meth : Method} {c : Code} {G : m_G} {nx : Nat} {κ : Nat → Nat} {res : (Int32 × m_M)} {a o1 : Nat} (X : m_Cx p s m args meth c cX2_stopReason 5 RX2 G) (hr : meth.sig.returnType = (some .int)) (hT : m_Str κ) (hk_a : κ a = 3) (hk_o1 : κ o1 = 4)  : ∀ (S : m_M) (t0 : Int32) (H : Heap) (locs : List Loc) (ls : Array Slot), m_H G nx κ S H → m_S G s H locs → lv_has ls 5 [] → b_X2_stopReason_106 a o1 S t0 = some res → W p l e rm_X2_stopReason s m args below meth c H locs 0 0 (m_Qi below args s G nx κ res) (F0 m 106 ls [.int t0]) := by
  have hx := X.1.1
  have hb := X.1.2.1
  intro S t0 H locs ls hH hS hl hm
  rw [b_X2_stopReason_106] at hm
  exact r_iret X hr hH hS hm dX2_stopReason_106
def b_X2_stopReason_91 (a o1 : Nat)  (S : m_M)  : Option (Int32 × m_M) :=
    if (m_ri S a 6) < (5000 : Int32) then (
    b_X2_stopReason_106 a o1 S (0 : Int32)) else (
    b_X2_stopReason_106 a o1 S (5 : Int32))
set_option maxHeartbeats 4000000 in
set_option maxRecDepth 100000 in
theorem k_X2_stopReason_91 {p : Program} {l : Launch} {e : Env} {s : State} {m : MethodId} {args : Array Value} {below : List Frame} {meth : Method} {c : Code} {G : m_G} {nx : Nat} {κ : Nat → Nat} {res : (Int32 × m_M)} {a o1 : Nat} (X : m_Cx p s m args meth c cX2_stopReason 5 RX2 G) (hr : meth.sig.returnType = (some .int)) (hT : m_Str κ) (hk_a : κ a = 3) (hk_o1 : κ o1 = 4)  : ∀ (S : m_M)  (H : Heap) (locs : List Loc) (ls : Array Slot), m_H G nx κ S H → m_S G s H locs → lv_has ls 5 [(0, .ref a)] → b_X2_stopReason_91 a o1 S  = some res → W p l e rm_X2_stopReason s m args below meth c H locs 0 0 (m_Qi below args s G nx κ res) (F0 m 91 ls []) := by
  have hx := X.1.1
  have hb := X.1.2.1
  intro S H locs ls hH hS hl hm
  rw [b_X2_stopReason_91] at hm
  refine lv_aload_n hx hb dX2_stopReason_91 rfl (lv_at hl 0 rfl) ?_
  refine r_geti X hH (k := 2) (a := a) (j := 6) hk_a (by decide) rfl m_wi2 (by decide) in_2_189 rfl rfl dX2_stopReason_92 ?_
  refine lv_sipush (v := (5000 : Int32)) hx hb dX2_stopReason_95 (by decide) ?_
  refine lv_icmp_lt (tgt := 105) hx hb dX2_stopReason_98 (by decide) (fun c1 => ?_) (fun c1 => ?_)
  · have hm := m_ite_t hm c1
    refine lv_iconst (v := (0 : Int32)) hx hb dX2_stopReason_105 (by decide) ?_
    exact k_X2_stopReason_106 (a := a) (o1 := o1) X hr hT hk_a hk_o1   S (0 : Int32) _ _ _ hH hS (lv_sub hl [] rfl) hm
  · have hm := m_ite_f hm c1
    refine lv_iconst (v := (5 : Int32)) hx hb dX2_stopReason_101 (by decide) ?_
    refine lv_goto (tgt := 106) hx hb dX2_stopReason_102 (by decide) ?_
    exact k_X2_stopReason_106 (a := a) (o1 := o1) X hr hT hk_a hk_o1   S (5 : Int32) _ _ _ hH hS (lv_sub hl [] rfl) hm
def b_X2_stopReason_73 (a o1 : Nat)  (S : m_M) (l4 : Int32) : Option (Int32 × m_M) :=
    if l4 = (2 : Int32) then (
    if (m_ri S a 4) < (200 : Int32) then (
    b_X2_stopReason_91 a o1 S) else (
    some ((4 : Int32), S))) else (
    b_X2_stopReason_91 a o1 S)
set_option maxHeartbeats 4000000 in
set_option maxRecDepth 100000 in
theorem k_X2_stopReason_73 {p : Program} {l : Launch} {e : Env} {s : State} {m : MethodId} {args : Array Value} {below : List Frame} {meth : Method} {c : Code} {G : m_G} {nx : Nat} {κ : Nat → Nat} {res : (Int32 × m_M)} {a o1 : Nat} (X : m_Cx p s m args meth c cX2_stopReason 5 RX2 G) (hr : meth.sig.returnType = (some .int)) (hT : m_Str κ) (hk_a : κ a = 3) (hk_o1 : κ o1 = 4)  : ∀ (S : m_M) (l4 : Int32) (H : Heap) (locs : List Loc) (ls : Array Slot), m_H G nx κ S H → m_S G s H locs → lv_has ls 5 [(0, .ref a), (4, .int l4)] → b_X2_stopReason_73 a o1 S l4 = some res → W p l e rm_X2_stopReason s m args below meth c H locs 0 0 (m_Qi below args s G nx κ res) (F0 m 73 ls []) := by
  have hx := X.1.1
  have hb := X.1.2.1
  intro S l4 H locs ls hH hS hl hm
  rw [b_X2_stopReason_73] at hm
  refine lv_iload hx hb dX2_stopReason_73 (lv_at hl 1 rfl) ?_
  refine lv_iconst (v := (2 : Int32)) hx hb dX2_stopReason_75 (by decide) ?_
  refine lv_icmp_ne (tgt := 91) hx hb dX2_stopReason_76 (by decide) (fun c1 => ?_) (fun c1 => ?_)
  · have hm := m_ite_f hm c1
    exact k_X2_stopReason_91 (a := a) (o1 := o1) X hr hT hk_a hk_o1   S _ _ _ hH hS (lv_sub hl [0] rfl) hm
  · have hm := m_ite_t hm c1
    refine lv_aload_n hx hb dX2_stopReason_79 rfl (lv_at hl 0 rfl) ?_
    refine r_geti X hH (k := 2) (a := a) (j := 4) hk_a (by decide) rfl m_wi2 (by decide) in_2_185 rfl rfl dX2_stopReason_80 ?_
    refine lv_sipush (v := (200 : Int32)) hx hb dX2_stopReason_83 (by decide) ?_
    refine lv_icmp_lt (tgt := 91) hx hb dX2_stopReason_86 (by decide) (fun c2 => ?_) (fun c2 => ?_)
    · have hm := m_ite_t hm c2
      exact k_X2_stopReason_91 (a := a) (o1 := o1) X hr hT hk_a hk_o1   S _ _ _ hH hS (lv_sub hl [0] rfl) hm
    · have hm := m_ite_f hm c2
      refine lv_iconst (v := (4 : Int32)) hx hb dX2_stopReason_89 (by decide) ?_
      exact r_iret X hr hH hS hm dX2_stopReason_90
def b_X2_stopReason_33 (a o1 : Nat)  (S : m_M) (l2 : Int32) (l3 : Int32) (l4 : Int32) : Option (Int32 × m_M) :=
    m_call (f_X2_hasPairForNumber a o1 S l3) fun v2 S1 =>
    if v2 = 0 then (
    m_call (f_X2_callsNow a o1 S1 l3) fun v5 S4 =>
    if v5 = 0 then (
    b_X2_stopReason_73 a o1 S4 l4) else (
    if (m_ri S4 a 2) < (12 : Int32) then (
    b_X2_stopReason_73 a o1 S4 l4) else (
    m_call (f_X3_leavesBy o1 S4 l2 l3) fun v9 S8 =>
    if v9 = 0 then (
    some ((3 : Int32), S8)) else (
    b_X2_stopReason_73 a o1 S8 l4)))) else (
    some ((2 : Int32), S1))
set_option maxHeartbeats 4000000 in
set_option maxRecDepth 100000 in
theorem k_X2_stopReason_33 {p : Program} {l : Launch} {e : Env} {s : State} {m : MethodId} {args : Array Value} {below : List Frame} {meth : Method} {c : Code} {G : m_G} {nx : Nat} {κ : Nat → Nat} {res : (Int32 × m_M)} {a o1 : Nat} (X : m_Cx p s m args meth c cX2_stopReason 5 RX2 G) (hr : meth.sig.returnType = (some .int)) (hT : m_Str κ) (hk_a : κ a = 3) (hk_o1 : κ o1 = 4)  : ∀ (S : m_M) (l2 : Int32) (l3 : Int32) (l4 : Int32) (H : Heap) (locs : List Loc) (ls : Array Slot), m_H G nx κ S H → m_S G s H locs → lv_has ls 5 [(0, .ref a), (1, .ref o1), (2, .int l2), (3, .int l3), (4, .int l4)] → b_X2_stopReason_33 a o1 S l2 l3 l4 = some res → W p l e rm_X2_stopReason s m args below meth c H locs 0 0 (m_Qi below args s G nx κ res) (F0 m 33 ls []) := by
  have hx := X.1.1
  have hb := X.1.2.1
  intro S l2 l3 l4 H locs ls hH hS hl hm
  rw [b_X2_stopReason_33] at hm
  refine lv_aload_n hx hb dX2_stopReason_33 rfl (lv_at hl 0 rfl) ?_
  refine lv_aload_n hx hb dX2_stopReason_34 rfl (lv_at hl 1 rfl) ?_
  refine lv_iload_n hx hb dX2_stopReason_35 rfl (lv_at hl 3 rfl) ?_
  obtain ⟨v2, S1, e_S1, hm⟩ := m_call_of hm
  refine n_cVi X hH hS (k := 2) (c_X2_hasPairForNumber (a := a) (o1 := o1) hT hk_a hk_o1 e_S1) mw_X2_hasPairForNumber in_5_41 hk_a (by decide) rfl rfl rfl ⟨rfl, rfl⟩ ⟨Nat.le_of_ble_eq_true rfl, Nat.le_of_ble_eq_true rfl⟩ ⟨Nat.zero_le _, Nat.zero_le _⟩ hl.1 (Nat.le_of_ble_eq_true rfl) dX2_stopReason_36 (fun H locs hH hS => ?_)
  refine lv_if_eq (tgt := 44) hx hb dX2_stopReason_39 (by decide) (fun c3 => ?_) (fun c3 => ?_)
  · have hm := m_ite_t hm c3
    refine lv_aload_n hx hb dX2_stopReason_44 rfl (lv_at hl 0 rfl) ?_
    refine lv_aload_n hx hb dX2_stopReason_45 rfl (lv_at hl 1 rfl) ?_
    refine lv_iload_n hx hb dX2_stopReason_46 rfl (lv_at hl 3 rfl) ?_
    obtain ⟨v5, S4, e_S4, hm⟩ := m_call_of hm
    refine n_cVi X hH hS (k := 2) (c_X2_callsNow (a := a) (o1 := o1) hT hk_a hk_o1 e_S4) mw_X2_callsNow in_5_49 hk_a (by decide) rfl rfl rfl ⟨rfl, rfl⟩ ⟨Nat.le_of_ble_eq_true rfl, Nat.le_of_ble_eq_true rfl⟩ ⟨Nat.zero_le _, Nat.zero_le _⟩ hl.1 (Nat.le_of_ble_eq_true rfl) dX2_stopReason_47 (fun H locs hH hS => ?_)
    refine lv_if_eq (tgt := 73) hx hb dX2_stopReason_50 (by decide) (fun c6 => ?_) (fun c6 => ?_)
    · have hm := m_ite_t hm c6
      exact k_X2_stopReason_73 (a := a) (o1 := o1) X hr hT hk_a hk_o1   S4 l4 _ _ _ hH hS (lv_sub hl [0, 4] rfl) hm
    · have hm := m_ite_f hm c6
      refine lv_aload_n hx hb dX2_stopReason_53 rfl (lv_at hl 0 rfl) ?_
      refine r_geti X hH (k := 2) (a := a) (j := 2) hk_a (by decide) rfl m_wi2 (by decide) in_2_180 rfl rfl dX2_stopReason_54 ?_
      refine lv_bipush (v := (12 : Int32)) hx hb dX2_stopReason_57 (by decide) ?_
      refine lv_icmp_lt (tgt := 73) hx hb dX2_stopReason_59 (by decide) (fun c7 => ?_) (fun c7 => ?_)
      · have hm := m_ite_t hm c7
        exact k_X2_stopReason_73 (a := a) (o1 := o1) X hr hT hk_a hk_o1   S4 l4 _ _ _ hH hS (lv_sub hl [0, 4] rfl) hm
      · have hm := m_ite_f hm c7
        refine lv_aload_n hx hb dX2_stopReason_62 rfl (lv_at hl 1 rfl) ?_
        refine lv_iload_n hx hb dX2_stopReason_63 rfl (lv_at hl 2 rfl) ?_
        refine lv_iload_n hx hb dX2_stopReason_64 rfl (lv_at hl 3 rfl) ?_
        obtain ⟨v9, S8, e_S8, hm⟩ := m_call_of hm
        refine n_cVi X hH hS (k := 3) (c_X3_leavesBy (a := o1) hT hk_o1 e_S8) mw_X3_leavesBy in_5_57 hk_o1 (by decide) rfl rfl rfl ⟨rfl, rfl⟩ ⟨Nat.le_of_ble_eq_true rfl, Nat.le_of_ble_eq_true rfl⟩ ⟨Nat.zero_le _, Nat.zero_le _⟩ hl.1 (Nat.le_of_ble_eq_true rfl) dX2_stopReason_65 (fun H locs hH hS => ?_)
        refine lv_if_ne (tgt := 73) hx hb dX2_stopReason_68 (by decide) (fun c10 => ?_) (fun c10 => ?_)
        · have hm := m_ite_f hm c10
          exact k_X2_stopReason_73 (a := a) (o1 := o1) X hr hT hk_a hk_o1   S8 l4 _ _ _ hH hS (lv_sub hl [0, 4] rfl) hm
        · have hm := m_ite_t hm c10
          refine lv_iconst (v := (3 : Int32)) hx hb dX2_stopReason_71 (by decide) ?_
          exact r_iret X hr hH hS hm dX2_stopReason_72
  · have hm := m_ite_f hm c3
    refine lv_iconst (v := (2 : Int32)) hx hb dX2_stopReason_42 (by decide) ?_
    exact r_iret X hr hH hS hm dX2_stopReason_43
def b_X2_stopReason_20 (a o1 : Nat)  (S : m_M) (l2 : Int32) (l3 : Int32) (l4 : Int32) : Option (Int32 × m_M) :=
    m_call (f_X2_kindAt a o1 S l3 (0 : Int32)) fun v2 S1 =>
    if v2 = (2 : Int32) then (
    b_X2_stopReason_33 a o1 S1 l2 l3 l4) else (
    some ((1 : Int32), S1))
set_option maxHeartbeats 4000000 in
set_option maxRecDepth 100000 in
theorem k_X2_stopReason_20 {p : Program} {l : Launch} {e : Env} {s : State} {m : MethodId} {args : Array Value} {below : List Frame} {meth : Method} {c : Code} {G : m_G} {nx : Nat} {κ : Nat → Nat} {res : (Int32 × m_M)} {a o1 : Nat} (X : m_Cx p s m args meth c cX2_stopReason 5 RX2 G) (hr : meth.sig.returnType = (some .int)) (hT : m_Str κ) (hk_a : κ a = 3) (hk_o1 : κ o1 = 4)  : ∀ (S : m_M) (l2 : Int32) (l3 : Int32) (l4 : Int32) (H : Heap) (locs : List Loc) (ls : Array Slot), m_H G nx κ S H → m_S G s H locs → lv_has ls 5 [(0, .ref a), (1, .ref o1), (2, .int l2), (3, .int l3), (4, .int l4)] → b_X2_stopReason_20 a o1 S l2 l3 l4 = some res → W p l e rm_X2_stopReason s m args below meth c H locs 0 0 (m_Qi below args s G nx κ res) (F0 m 20 ls []) := by
  have hx := X.1.1
  have hb := X.1.2.1
  intro S l2 l3 l4 H locs ls hH hS hl hm
  rw [b_X2_stopReason_20] at hm
  refine lv_aload_n hx hb dX2_stopReason_20 rfl (lv_at hl 0 rfl) ?_
  refine lv_aload_n hx hb dX2_stopReason_21 rfl (lv_at hl 1 rfl) ?_
  refine lv_iload_n hx hb dX2_stopReason_22 rfl (lv_at hl 3 rfl) ?_
  refine lv_iconst (v := (0 : Int32)) hx hb dX2_stopReason_23 (by decide) ?_
  obtain ⟨v2, S1, e_S1, hm⟩ := m_call_of hm
  refine n_cVi X hH hS (k := 2) (c_X2_kindAt (a := a) (o1 := o1) hT hk_a hk_o1 e_S1) mw_X2_kindAt in_5_36 hk_a (by decide) rfl rfl rfl ⟨rfl, rfl⟩ ⟨Nat.le_of_ble_eq_true rfl, Nat.le_of_ble_eq_true rfl⟩ ⟨Nat.zero_le _, Nat.zero_le _⟩ hl.1 (Nat.le_of_ble_eq_true rfl) dX2_stopReason_24 (fun H locs hH hS => ?_)
  refine lv_iconst (v := (2 : Int32)) hx hb dX2_stopReason_27 (by decide) ?_
  refine lv_icmp_eq (tgt := 33) hx hb dX2_stopReason_28 (by decide) (fun c3 => ?_) (fun c3 => ?_)
  · have hm := m_ite_t hm c3
    exact k_X2_stopReason_33 (a := a) (o1 := o1) X hr hT hk_a hk_o1   S1 l2 l3 l4 _ _ _ hH hS hl hm
  · have hm := m_ite_f hm c3
    refine lv_iconst (v := (1 : Int32)) hx hb dX2_stopReason_31 (by decide) ?_
    exact r_iret X hr hH hS hm dX2_stopReason_32
def f_X2_stopReason (a o1 : Nat) (S : m_M) (i2 : Int32) (i3 : Int32) : Option (Int32 × m_M) :=
    (m_ldi S (o1 + 5) 24 i3).bind fun v1 =>
    if v1 = (3 : Int32) then (
    b_X2_stopReason_20 a o1 S i2 i3 v1) else (
    if v1 = (4 : Int32) then (
    b_X2_stopReason_20 a o1 S i2 i3 v1) else (
    b_X2_stopReason_33 a o1 S i2 i3 v1))
set_option maxHeartbeats 4000000 in
set_option maxRecDepth 100000 in
theorem c_X2_stopReason {l : Launch} {G : m_G} {nx : Nat} {κ : Nat → Nat} {a o1 : Nat} {S : m_M} {i2 : Int32} {i3 : Int32} {res : (Int32 × m_M)} (hT : m_Str κ) (hk_a : κ a = 3) (hk_o1 : κ o1 = 4) (hm : f_X2_stopReason a o1 S i2 i3 = some res) : m_Ci l yX2_stopReason cX2_stopReason 5 (some .int) rm_X2_stopReason G nx κ [.ref a, .ref o1, .int i2, .int i3] S res := by
  refine m_Ci.of (by decide) (Nat.le_of_ble_eq_true rfl) ?_
  intro p e s m args below meth c ls X hr hH hl
  have hx := X.1.1
  have hb := X.1.2.1
  have hS : m_S G s s.heap [] := va_S.rf
  have hl : lv_has ls 5 [(0, .ref a), (1, .ref o1), (2, .int i2), (3, .int i3)] := hl
  rw [f_X2_stopReason] at hm
  refine lv_aload_n hx hb dX2_stopReason_0 rfl (lv_at hl 1 rfl) ?_
  refine r_getp X hH (k := 3) (a := o1) (j := 6) (b := (o1 + 5)) (A := 5) (B := 0) hk_o1 (by decide) rfl m_wi3 (by decide) in_1_153 rfl rfl rfl dX2_stopReason_1 ?_
  refine lv_iload_n hx hb dX2_stopReason_4 rfl (lv_at hl 3 rfl) ?_
  obtain ⟨v1, h_v1, e_v1, hm⟩ := n_ldi hm
  refine n_iald X hH (n := 24) (m_lay_at hT hk_o1 (by decide) (i := 5) rfl) h_v1 e_v1 dX2_stopReason_5 ?_
  refine lv_istore (lv' := [(4, .int v1), (0, .ref a), (1, .ref o1), (2, .int i2), (3, .int i3)]) hx hb dX2_stopReason_6 hl (by decide) rfl (fun ls hl => ?_)
  refine lv_iload hx hb dX2_stopReason_8 (lv_at hl 0 rfl) ?_
  refine lv_iconst (v := (3 : Int32)) hx hb dX2_stopReason_10 (by decide) ?_
  refine lv_icmp_eq (tgt := 20) hx hb dX2_stopReason_11 (by decide) (fun c2 => ?_) (fun c2 => ?_)
  · have hm := m_ite_t hm c2
    exact k_X2_stopReason_20 (a := a) (o1 := o1) X hr hT hk_a hk_o1   S i2 i3 v1 _ _ _ hH hS (lv_sub hl [1, 2, 3, 4, 0] rfl) hm
  · have hm := m_ite_f hm c2
    refine lv_iload hx hb dX2_stopReason_14 (lv_at hl 0 rfl) ?_
    refine lv_iconst (v := (4 : Int32)) hx hb dX2_stopReason_16 (by decide) ?_
    refine lv_icmp_ne (tgt := 33) hx hb dX2_stopReason_17 (by decide) (fun c3 => ?_) (fun c3 => ?_)
    · have hm := m_ite_f hm c3
      exact k_X2_stopReason_33 (a := a) (o1 := o1) X hr hT hk_a hk_o1   S i2 i3 v1 _ _ _ hH hS (lv_sub hl [1, 2, 3, 4, 0] rfl) hm
    · have hm := m_ite_t hm c3
      exact k_X2_stopReason_20 (a := a) (o1 := o1) X hr hT hk_a hk_o1   S i2 i3 v1 _ _ _ hH hS (lv_sub hl [1, 2, 3, 4, 0] rfl) hm
def rm_X2_moveFrame : Room := { frames := 1, cells := 0, slots := 0, locals := 60 }
def f_X2_moveFrame (a : Nat) (S : m_M) (i1 : Int32) (i2 : Int32) : Option m_M :=
    (m_ldi S (a + 1) 13 i1).bind fun v1 =>
    (m_sti S (a + 1) 13 i2 v1).bind fun S2 =>
    (m_ldi S2 (a + 2) 13 i1).bind fun v3 =>
    (m_sti S2 (a + 2) 13 i2 v3).bind fun S4 =>
    (m_cpi S4 (a + 3) 351 (a + 3) 351 (i1 * (27 : Int32)) (i2 * (27 : Int32)) (27 : Int32)).bind fun S5 =>
    (m_cpi S5 (a + 4) 351 (a + 4) 351 (i1 * (27 : Int32)) (i2 * (27 : Int32)) (27 : Int32)).bind fun S6 =>
    some S6
set_option maxHeartbeats 4000000 in
set_option maxRecDepth 100000 in
theorem c_X2_moveFrame {l : Launch} {G : m_G} {nx : Nat} {κ : Nat → Nat} {a : Nat} {S : m_M} {i1 : Int32} {i2 : Int32} {res : m_M} (hT : m_Str κ) (hk_a : κ a = 3) (hm : f_X2_moveFrame a S i1 i2 = some res) : m_Cv l yX2_moveFrame cX2_moveFrame 3 rm_X2_moveFrame G nx κ [.ref a, .int i1, .int i2] S res := by
  refine m_Cv.of (by decide) (Nat.le_of_ble_eq_true rfl) ?_
  intro p e s m args below meth c ls X hr hH hl
  have hx := X.1.1
  have hb := X.1.2.1
  have hS : m_S G s s.heap [] := va_S.rf
  have hl : lv_has ls 3 [(0, .ref a), (1, .int i1), (2, .int i2)] := hl
  rw [f_X2_moveFrame] at hm
  refine lv_aload_n hx hb dX2_moveFrame_0 rfl (lv_at hl 0 rfl) ?_
  refine r_getp X hH (k := 2) (a := a) (j := 12) (b := (a + 1)) (A := 1) (B := 0) hk_a (by decide) rfl m_wi2 (by decide) in_2_201 rfl rfl rfl dX2_moveFrame_1 ?_
  refine lv_iload_n hx hb dX2_moveFrame_4 rfl (lv_at hl 2 rfl) ?_
  refine lv_aload_n hx hb dX2_moveFrame_5 rfl (lv_at hl 0 rfl) ?_
  refine r_getp X hH (k := 2) (a := a) (j := 12) (b := (a + 1)) (A := 1) (B := 0) hk_a (by decide) rfl m_wi2 (by decide) in_2_201 rfl rfl rfl dX2_moveFrame_6 ?_
  refine lv_iload_n hx hb dX2_moveFrame_9 rfl (lv_at hl 1 rfl) ?_
  obtain ⟨v1, h_v1, e_v1, hm⟩ := n_ldi hm
  refine n_iald X hH (n := 13) (m_lay_at hT hk_a (by decide) (i := 1) rfl) h_v1 e_v1 dX2_moveFrame_10 ?_
  obtain ⟨S2, h_S2, e_S2, hm⟩ := n_sti hm
  refine n_iast X hH hS (n := 13) (m_lay_at hT hk_a (by decide) (i := 1) rfl) h_S2 e_S2 dX2_moveFrame_11 (fun H locs hH hS => ?_)
  refine lv_aload_n hx hb dX2_moveFrame_12 rfl (lv_at hl 0 rfl) ?_
  refine r_getp X hH (k := 2) (a := a) (j := 13) (b := (a + 2)) (A := 2) (B := 0) hk_a (by decide) rfl m_wi2 (by decide) in_2_203 rfl rfl rfl dX2_moveFrame_13 ?_
  refine lv_iload_n hx hb dX2_moveFrame_16 rfl (lv_at hl 2 rfl) ?_
  refine lv_aload_n hx hb dX2_moveFrame_17 rfl (lv_at hl 0 rfl) ?_
  refine r_getp X hH (k := 2) (a := a) (j := 13) (b := (a + 2)) (A := 2) (B := 0) hk_a (by decide) rfl m_wi2 (by decide) in_2_203 rfl rfl rfl dX2_moveFrame_18 ?_
  refine lv_iload_n hx hb dX2_moveFrame_21 rfl (lv_at hl 1 rfl) ?_
  obtain ⟨v3, h_v3, e_v3, hm⟩ := n_ldi hm
  refine n_iald X hH (n := 13) (m_lay_at hT hk_a (by decide) (i := 2) rfl) h_v3 e_v3 dX2_moveFrame_22 ?_
  obtain ⟨S4, h_S4, e_S4, hm⟩ := n_sti hm
  refine n_iast X hH hS (n := 13) (m_lay_at hT hk_a (by decide) (i := 2) rfl) h_S4 e_S4 dX2_moveFrame_23 (fun H locs hH hS => ?_)
  refine lv_aload_n hx hb dX2_moveFrame_24 rfl (lv_at hl 0 rfl) ?_
  refine r_getp X hH (k := 2) (a := a) (j := 14) (b := (a + 3)) (A := 3) (B := 0) hk_a (by decide) rfl m_wi2 (by decide) in_2_204 rfl rfl rfl dX2_moveFrame_25 ?_
  refine lv_iload_n hx hb dX2_moveFrame_28 rfl (lv_at hl 1 rfl) ?_
  refine lv_bipush (v := (27 : Int32)) hx hb dX2_moveFrame_29 (by decide) ?_
  refine lv_imul hx hb dX2_moveFrame_31 ?_
  refine lv_aload_n hx hb dX2_moveFrame_32 rfl (lv_at hl 0 rfl) ?_
  refine r_getp X hH (k := 2) (a := a) (j := 14) (b := (a + 3)) (A := 3) (B := 0) hk_a (by decide) rfl m_wi2 (by decide) in_2_204 rfl rfl rfl dX2_moveFrame_33 ?_
  refine lv_iload_n hx hb dX2_moveFrame_36 rfl (lv_at hl 2 rfl) ?_
  refine lv_bipush (v := (27 : Int32)) hx hb dX2_moveFrame_37 (by decide) ?_
  refine lv_imul hx hb dX2_moveFrame_39 ?_
  refine lv_bipush (v := (27 : Int32)) hx hb dX2_moveFrame_40 (by decide) ?_
  obtain ⟨S5, e_S5, hm⟩ := m_bind_of hm
  refine n_cpi X hH hS hl.1 (n0 := 351) (n1 := 351) (m_lay_at hT hk_a (by decide) (i := 3) rfl) (m_lay_at hT hk_a (by decide) (i := 3) rfl) e_S5 in_4_237 in_4_150 in_4_149 in_1_21 (Nat.le_of_ble_eq_true rfl) (Nat.le_of_ble_eq_true rfl) dX2_moveFrame_42 (fun H locs hH hS => ?_)
  refine lv_aload_n hx hb dX2_moveFrame_45 rfl (lv_at hl 0 rfl) ?_
  refine r_getp X hH (k := 2) (a := a) (j := 15) (b := (a + 4)) (A := 4) (B := 0) hk_a (by decide) rfl m_wi2 (by decide) in_2_207 rfl rfl rfl dX2_moveFrame_46 ?_
  refine lv_iload_n hx hb dX2_moveFrame_49 rfl (lv_at hl 1 rfl) ?_
  refine lv_bipush (v := (27 : Int32)) hx hb dX2_moveFrame_50 (by decide) ?_
  refine lv_imul hx hb dX2_moveFrame_52 ?_
  refine lv_aload_n hx hb dX2_moveFrame_53 rfl (lv_at hl 0 rfl) ?_
  refine r_getp X hH (k := 2) (a := a) (j := 15) (b := (a + 4)) (A := 4) (B := 0) hk_a (by decide) rfl m_wi2 (by decide) in_2_207 rfl rfl rfl dX2_moveFrame_54 ?_
  refine lv_iload_n hx hb dX2_moveFrame_57 rfl (lv_at hl 2 rfl) ?_
  refine lv_bipush (v := (27 : Int32)) hx hb dX2_moveFrame_58 (by decide) ?_
  refine lv_imul hx hb dX2_moveFrame_60 ?_
  refine lv_bipush (v := (27 : Int32)) hx hb dX2_moveFrame_61 (by decide) ?_
  obtain ⟨S6, e_S6, hm⟩ := m_bind_of hm
  refine n_cpi X hH hS hl.1 (n0 := 351) (n1 := 351) (m_lay_at hT hk_a (by decide) (i := 4) rfl) (m_lay_at hT hk_a (by decide) (i := 4) rfl) e_S6 in_4_237 in_4_150 in_4_149 in_1_21 (Nat.le_of_ble_eq_true rfl) (Nat.le_of_ble_eq_true rfl) dX2_moveFrame_63 (fun H locs hH hS => ?_)
  exact r_vret X hr hH hS hm dX2_moveFrame_66
def rm_X2_callBy : Room := { frames := 2, cells := 0, slots := 0, locals := 82 }
def b_X2_callBy_110 (a o1 : Nat)  (S : m_M)  : Option m_M :=
    some S
set_option maxHeartbeats 4000000 in
set_option maxRecDepth 100000 in
theorem k_X2_callBy_110 {p : Program} {l : Launch} {e : Env} {s : State} {m : MethodId} {args : Array Value} {below : List Frame} {meth : Method} {c : Code} {G : m_G} {nx : Nat} {κ : Nat → Nat} {res : m_M} {a o1 : Nat} (X : m_Cx p s m args meth c cX2_callBy 5 RX2 G) (hr : meth.sig.returnType = none) (hT : m_Str κ) (hk_a : κ a = 3) (hk_o1 : κ o1 = 4)  : ∀ (S : m_M)  (H : Heap) (locs : List Loc) (ls : Array Slot), m_H G nx κ S H → m_S G s H locs → lv_has ls 5 [] → b_X2_callBy_110 a o1 S  = some res → W p l e rm_X2_callBy s m args below meth c H locs 0 0 (m_Qv below args s G nx κ res) (F0 m 110 ls []) := by
  have hx := X.1.1
  have hb := X.1.2.1
  intro S H locs ls hH hS hl hm
  rw [b_X2_callBy_110] at hm
  exact r_vret X hr hH hS hm dX2_callBy_110
def b_X2_callBy_17 (a o1 : Nat)  : Nat → m_M → Int32 → Int32 → Int32 → Option m_M
  | 0, _, _, _, _ => none
  | n + 1, S, l2, l3, l4 =>
    m_call (f_X3_argumentCount o1 S l3) fun v2 S1 =>
    if v2 ≤ l4 then (
    m_call (f_X3_leavesBy o1 S1 l2 l3) fun v5 S4 =>
    if v5 = 0 then (
    m_let (m_si S4 a 2 ((m_ri S4 a 2) + (1 : Int32))) fun S7 =>
    b_X2_callBy_110 a o1 S7) else (
    m_cal0 (f_X2_moveFrame a S4 (m_ri S4 a 2) ((m_ri S4 a 2) - (1 : Int32))) fun S8 =>
    m_let (m_si S8 a 11 (1 : Int32)) fun S9 =>
    m_let (m_si S9 a 8 ((m_ri S9 a 8) + (1 : Int32))) fun S10 =>
    b_X2_callBy_110 a o1 S10)) else (
    m_call (f_X2_kindAt a o1 S1 l3 l4) fun v12 S11 =>
    m_call (f_X2_valueAt a o1 S11 l3 l4) fun v14 S13 =>
    m_cal0 (f_X2_setVar a S13 (m_ri S1 a 2) l4 v12 v14) fun S15 =>
    m_let (l4 + (1 : Int32)) fun v16 =>
    b_X2_callBy_17 a o1 n S15 l2 l3 v16)
set_option maxHeartbeats 4000000 in
set_option maxRecDepth 100000 in
theorem k_X2_callBy_17 {p : Program} {l : Launch} {e : Env} {s : State} {m : MethodId} {args : Array Value} {below : List Frame} {meth : Method} {c : Code} {G : m_G} {nx : Nat} {κ : Nat → Nat} {res : m_M} {a o1 : Nat} (X : m_Cx p s m args meth c cX2_callBy 5 RX2 G) (hr : meth.sig.returnType = none) (hT : m_Str κ) (hk_a : κ a = 3) (hk_o1 : κ o1 = 4)  (n : Nat) : ∀ (S : m_M) (l2 : Int32) (l3 : Int32) (l4 : Int32) (H : Heap) (locs : List Loc) (ls : Array Slot), m_H G nx κ S H → m_S G s H locs → lv_has ls 5 [(0, .ref a), (1, .ref o1), (2, .int l2), (3, .int l3), (4, .int l4)] → b_X2_callBy_17 a o1 n S l2 l3 l4 = some res → W p l e rm_X2_callBy s m args below meth c H locs 0 0 (m_Qv below args s G nx κ res) (F0 m 17 ls []) := by
  have hx := X.1.1
  have hb := X.1.2.1
  induction n with
  | zero => intro S l2 l3 l4 H locs ls hH hS hl hm; have hm : (none : Option m_M) = some res := hm; cases hm
  | succ n ih =>
    intro S l2 l3 l4 H locs ls hH hS hl hm
    rw [b_X2_callBy_17] at hm
    refine lv_iload hx hb dX2_callBy_17 (lv_at hl 4 rfl) ?_
    refine lv_aload_n hx hb dX2_callBy_19 rfl (lv_at hl 1 rfl) ?_
    refine lv_iload_n hx hb dX2_callBy_20 rfl (lv_at hl 3 rfl) ?_
    obtain ⟨v2, S1, e_S1, hm⟩ := m_call_of hm
    refine n_cVi X hH hS (k := 3) (c_X3_argumentCount (a := o1) hT hk_o1 e_S1) mw_X3_argumentCount in_5_65 hk_o1 (by decide) rfl rfl rfl ⟨rfl, rfl⟩ ⟨Nat.le_of_ble_eq_true rfl, Nat.le_of_ble_eq_true rfl⟩ ⟨Nat.zero_le _, Nat.zero_le _⟩ hl.1 (Nat.le_of_ble_eq_true rfl) dX2_callBy_21 (fun H locs hH hS => ?_)
    refine lv_icmp_ge (tgt := 59) hx hb dX2_callBy_24 (by decide) (fun c3 => ?_) (fun c3 => ?_)
    · have hm := m_ite_t hm c3
      refine lv_aload_n hx hb dX2_callBy_59 rfl (lv_at hl 1 rfl) ?_
      refine lv_iload_n hx hb dX2_callBy_60 rfl (lv_at hl 2 rfl) ?_
      refine lv_iload_n hx hb dX2_callBy_61 rfl (lv_at hl 3 rfl) ?_
      obtain ⟨v5, S4, e_S4, hm⟩ := m_call_of hm
      refine n_cVi X hH hS (k := 3) (c_X3_leavesBy (a := o1) hT hk_o1 e_S4) mw_X3_leavesBy in_5_57 hk_o1 (by decide) rfl rfl rfl ⟨rfl, rfl⟩ ⟨Nat.le_of_ble_eq_true rfl, Nat.le_of_ble_eq_true rfl⟩ ⟨Nat.zero_le _, Nat.zero_le _⟩ hl.1 (Nat.le_of_ble_eq_true rfl) dX2_callBy_62 (fun H locs hH hS => ?_)
      refine lv_if_eq (tgt := 100) hx hb dX2_callBy_65 (by decide) (fun c6 => ?_) (fun c6 => ?_)
      · have hm := m_ite_t hm c6
        refine lv_aload_n hx hb dX2_callBy_100 rfl (lv_at hl 0 rfl) ?_
        refine lv_dup hx hb dX2_callBy_101 rfl ?_
        refine r_geti X hH (k := 2) (a := a) (j := 2) hk_a (by decide) rfl m_wi2 (by decide) in_2_180 rfl rfl dX2_callBy_102 ?_
        refine lv_iconst (v := (1 : Int32)) hx hb dX2_callBy_105 (by decide) ?_
        refine lv_iadd hx hb dX2_callBy_106 ?_
        obtain ⟨S7, e_S7, hm⟩ := m_let_of hm
        refine n_puti X hH hS tyX2 (k := 2) (a := a) (j := 2) hk_a (by decide) rfl m_wi2 tyX2_ok nmX2 (by decide) in_2_180 rfl rfl rfl ⟨rfl, rfl⟩ e_S7 dX2_callBy_107 (fun H locs hH hS => ?_)
        exact k_X2_callBy_110 (a := a) (o1 := o1) X hr hT hk_a hk_o1   S7 _ _ _ hH hS (lv_sub hl [] rfl) hm
      · have hm := m_ite_f hm c6
        refine lv_aload_n hx hb dX2_callBy_68 rfl (lv_at hl 0 rfl) ?_
        refine lv_aload_n hx hb dX2_callBy_69 rfl (lv_at hl 0 rfl) ?_
        refine r_geti X hH (k := 2) (a := a) (j := 2) hk_a (by decide) rfl m_wi2 (by decide) in_2_180 rfl rfl dX2_callBy_70 ?_
        refine lv_aload_n hx hb dX2_callBy_73 rfl (lv_at hl 0 rfl) ?_
        refine r_geti X hH (k := 2) (a := a) (j := 2) hk_a (by decide) rfl m_wi2 (by decide) in_2_180 rfl rfl dX2_callBy_74 ?_
        refine lv_iconst (v := (1 : Int32)) hx hb dX2_callBy_77 (by decide) ?_
        refine lv_isub hx hb dX2_callBy_78 ?_
        obtain ⟨S8, e_S8, hm⟩ := m_cal0_of hm
        refine r_cVv X hH hS (k := 2) (c_X2_moveFrame (a := a) hT hk_a e_S8) mw_X2_moveFrame in_5_66 hk_a (by decide) rfl rfl rfl ⟨rfl, rfl⟩ ⟨Nat.le_of_ble_eq_true rfl, Nat.le_of_ble_eq_true rfl⟩ ⟨Nat.zero_le _, Nat.zero_le _⟩ hl.1 (Nat.le_of_ble_eq_true rfl) dX2_callBy_79 (fun H locs hH hS => ?_)
        refine lv_aload_n hx hb dX2_callBy_82 rfl (lv_at hl 0 rfl) ?_
        refine lv_iconst (v := (1 : Int32)) hx hb dX2_callBy_83 (by decide) ?_
        obtain ⟨S9, e_S9, hm⟩ := m_let_of hm
        refine n_puti X hH hS tyX2 (k := 2) (a := a) (j := 11) hk_a (by decide) rfl m_wi2 tyX2_ok nmX2 (by decide) in_2_199 rfl rfl rfl (m_nz (by decide)) e_S9 dX2_callBy_84 (fun H locs hH hS => ?_)
        refine lv_aload_n hx hb dX2_callBy_87 rfl (lv_at hl 0 rfl) ?_
        refine lv_dup hx hb dX2_callBy_88 rfl ?_
        refine r_geti X hH (k := 2) (a := a) (j := 8) hk_a (by decide) rfl m_wi2 (by decide) in_2_193 rfl rfl dX2_callBy_89 ?_
        refine lv_iconst (v := (1 : Int32)) hx hb dX2_callBy_92 (by decide) ?_
        refine lv_iadd hx hb dX2_callBy_93 ?_
        obtain ⟨S10, e_S10, hm⟩ := m_let_of hm
        refine n_puti X hH hS tyX2 (k := 2) (a := a) (j := 8) hk_a (by decide) rfl m_wi2 tyX2_ok nmX2 (by decide) in_2_193 rfl rfl rfl ⟨rfl, rfl⟩ e_S10 dX2_callBy_94 (fun H locs hH hS => ?_)
        refine lv_goto (tgt := 110) hx hb dX2_callBy_97 (by decide) ?_
        exact k_X2_callBy_110 (a := a) (o1 := o1) X hr hT hk_a hk_o1   S10 _ _ _ hH hS (lv_sub hl [] rfl) hm
    · have hm := m_ite_f hm c3
      refine lv_aload_n hx hb dX2_callBy_27 rfl (lv_at hl 0 rfl) ?_
      refine lv_aload_n hx hb dX2_callBy_28 rfl (lv_at hl 0 rfl) ?_
      refine r_geti X hH (k := 2) (a := a) (j := 2) hk_a (by decide) rfl m_wi2 (by decide) in_2_180 rfl rfl dX2_callBy_29 ?_
      refine lv_iload hx hb dX2_callBy_32 (lv_at hl 4 rfl) ?_
      refine lv_aload_n hx hb dX2_callBy_34 rfl (lv_at hl 0 rfl) ?_
      refine lv_aload_n hx hb dX2_callBy_35 rfl (lv_at hl 1 rfl) ?_
      refine lv_iload_n hx hb dX2_callBy_36 rfl (lv_at hl 3 rfl) ?_
      refine lv_iload hx hb dX2_callBy_37 (lv_at hl 4 rfl) ?_
      obtain ⟨v12, S11, e_S11, hm⟩ := m_call_of hm
      refine n_cVi X hH hS (k := 2) (c_X2_kindAt (a := a) (o1 := o1) hT hk_a hk_o1 e_S11) mw_X2_kindAt in_5_36 hk_a (by decide) rfl rfl rfl ⟨rfl, rfl⟩ ⟨Nat.le_of_ble_eq_true rfl, Nat.le_of_ble_eq_true rfl⟩ ⟨Nat.zero_le _, Nat.zero_le _⟩ hl.1 (Nat.le_of_ble_eq_true rfl) dX2_callBy_39 (fun H locs hH hS => ?_)
      refine lv_aload_n hx hb dX2_callBy_42 rfl (lv_at hl 0 rfl) ?_
      refine lv_aload_n hx hb dX2_callBy_43 rfl (lv_at hl 1 rfl) ?_
      refine lv_iload_n hx hb dX2_callBy_44 rfl (lv_at hl 3 rfl) ?_
      refine lv_iload hx hb dX2_callBy_45 (lv_at hl 4 rfl) ?_
      obtain ⟨v14, S13, e_S13, hm⟩ := m_call_of hm
      refine n_cVi X hH hS (k := 2) (c_X2_valueAt (a := a) (o1 := o1) hT hk_a hk_o1 e_S13) mw_X2_valueAt in_5_53 hk_a (by decide) rfl rfl rfl ⟨rfl, rfl⟩ ⟨Nat.le_of_ble_eq_true rfl, Nat.le_of_ble_eq_true rfl⟩ ⟨Nat.zero_le _, Nat.zero_le _⟩ hl.1 (Nat.le_of_ble_eq_true rfl) dX2_callBy_47 (fun H locs hH hS => ?_)
      obtain ⟨S15, e_S15, hm⟩ := m_cal0_of hm
      refine r_cVv X hH hS (k := 2) (c_X2_setVar (a := a) hT hk_a e_S15) mw_X2_setVar in_5_15 hk_a (by decide) rfl rfl rfl ⟨rfl, rfl⟩ ⟨Nat.le_of_ble_eq_true rfl, Nat.le_of_ble_eq_true rfl⟩ ⟨Nat.zero_le _, Nat.zero_le _⟩ hl.1 (Nat.le_of_ble_eq_true rfl) dX2_callBy_50 (fun H locs hH hS => ?_)
      obtain ⟨v16, e_v16, hm⟩ := m_let_of hm
      refine lv_iinc (v := v16) (lv' := [(4, .int v16), (0, .ref a), (1, .ref o1), (2, .int l2), (3, .int l3)]) hx hb dX2_callBy_53 hl (k := 4) rfl (by rw [← e_v16]; rfl) (by decide) rfl (fun ls hl => ?_)
      refine lv_goto (tgt := 17) hx hb dX2_callBy_56 (by decide) ?_
      exact ih S15 l2 l3 v16 _ _ _ hH hS (lv_sub hl [1, 2, 3, 4, 0] rfl) hm
def f_X2_callBy (a o1 : Nat) (S : m_M) (i2 : Int32) (i3 : Int32) : Option m_M :=
    (m_ldi S (o1 + 6) 24 i3).bind fun v1 =>
    m_cal0 (f_X2_openFrame a S (m_ri S a 2) v1) fun S2 =>
    b_X2_callBy_17 a o1 m_fu S2 i2 i3 (0 : Int32)
set_option maxHeartbeats 4000000 in
set_option maxRecDepth 100000 in
theorem c_X2_callBy {l : Launch} {G : m_G} {nx : Nat} {κ : Nat → Nat} {a o1 : Nat} {S : m_M} {i2 : Int32} {i3 : Int32} {res : m_M} (hT : m_Str κ) (hk_a : κ a = 3) (hk_o1 : κ o1 = 4) (hm : f_X2_callBy a o1 S i2 i3 = some res) : m_Cv l yX2_callBy cX2_callBy 5 rm_X2_callBy G nx κ [.ref a, .ref o1, .int i2, .int i3] S res := by
  refine m_Cv.of (by decide) (Nat.le_of_ble_eq_true rfl) ?_
  intro p e s m args below meth c ls X hr hH hl
  have hx := X.1.1
  have hb := X.1.2.1
  have hS : m_S G s s.heap [] := va_S.rf
  have hl : lv_has ls 5 [(0, .ref a), (1, .ref o1), (2, .int i2), (3, .int i3)] := hl
  rw [f_X2_callBy] at hm
  refine lv_aload_n hx hb dX2_callBy_0 rfl (lv_at hl 0 rfl) ?_
  refine lv_aload_n hx hb dX2_callBy_1 rfl (lv_at hl 0 rfl) ?_
  refine r_geti X hH (k := 2) (a := a) (j := 2) hk_a (by decide) rfl m_wi2 (by decide) in_2_180 rfl rfl dX2_callBy_2 ?_
  refine lv_aload_n hx hb dX2_callBy_5 rfl (lv_at hl 1 rfl) ?_
  refine r_getp X hH (k := 3) (a := o1) (j := 7) (b := (o1 + 6)) (A := 6) (B := 0) hk_o1 (by decide) rfl m_wi3 (by decide) in_1_157 rfl rfl rfl dX2_callBy_6 ?_
  refine lv_iload_n hx hb dX2_callBy_9 rfl (lv_at hl 3 rfl) ?_
  obtain ⟨v1, h_v1, e_v1, hm⟩ := n_ldi hm
  refine n_iald X hH (n := 24) (m_lay_at hT hk_o1 (by decide) (i := 6) rfl) h_v1 e_v1 dX2_callBy_10 ?_
  obtain ⟨S2, e_S2, hm⟩ := m_cal0_of hm
  refine r_cVv X hH hS (k := 2) (c_X2_openFrame (a := a) hT hk_a e_S2) mw_X2_openFrame in_5_11 hk_a (by decide) rfl rfl rfl ⟨rfl, rfl⟩ ⟨Nat.le_of_ble_eq_true rfl, Nat.le_of_ble_eq_true rfl⟩ ⟨Nat.zero_le _, Nat.zero_le _⟩ hl.1 (Nat.le_of_ble_eq_true rfl) dX2_callBy_11 (fun H locs hH hS => ?_)
  refine lv_iconst (v := (0 : Int32)) hx hb dX2_callBy_14 (by decide) ?_
  refine lv_istore (lv' := [(4, .int (0 : Int32)), (0, .ref a), (1, .ref o1), (2, .int i2), (3, .int i3)]) hx hb dX2_callBy_15 hl (by decide) rfl (fun ls hl => ?_)
  exact k_X2_callBy_17 (a := a) (o1 := o1) X hr hT hk_a hk_o1  m_fu S2 i2 i3 (0 : Int32) _ _ _ hH hS (lv_sub hl [1, 2, 3, 4, 0] rfl) hm
def rm_X2_give : Room := { frames := 0, cells := 0, slots := 0, locals := 0 }
def f_X2_give (a : Nat) (S : m_M) (i1 : Int32) (i2 : Int32) : Option m_M :=
    m_let (m_si S a 9 i1) fun S1 =>
    m_let (m_si S1 a 10 i2) fun S2 =>
    some S2
set_option maxHeartbeats 4000000 in
set_option maxRecDepth 100000 in
theorem c_X2_give {l : Launch} {G : m_G} {nx : Nat} {κ : Nat → Nat} {a : Nat} {S : m_M} {i1 : Int32} {i2 : Int32} {res : m_M} (hT : m_Str κ) (hk_a : κ a = 3) (hm : f_X2_give a S i1 i2 = some res) : m_Cv l yX2_give cX2_give 3 rm_X2_give G nx κ [.ref a, .int i1, .int i2] S res := by
  refine m_Cv.of (by decide) (Nat.le_of_ble_eq_true rfl) ?_
  intro p e s m args below meth c ls X hr hH hl
  have hx := X.1.1
  have hb := X.1.2.1
  have hS : m_S G s s.heap [] := va_S.rf
  have hl : lv_has ls 3 [(0, .ref a), (1, .int i1), (2, .int i2)] := hl
  rw [f_X2_give] at hm
  refine lv_aload_n hx hb dX2_give_0 rfl (lv_at hl 0 rfl) ?_
  refine lv_iload_n hx hb dX2_give_1 rfl (lv_at hl 1 rfl) ?_
  obtain ⟨S1, e_S1, hm⟩ := m_let_of hm
  refine n_puti X hH hS tyX2 (k := 2) (a := a) (j := 9) hk_a (by decide) rfl m_wi2 tyX2_ok nmX2 (by decide) in_2_195 rfl rfl rfl ⟨rfl, rfl⟩ e_S1 dX2_give_2 (fun H locs hH hS => ?_)
  refine lv_aload_n hx hb dX2_give_5 rfl (lv_at hl 0 rfl) ?_
  refine lv_iload_n hx hb dX2_give_6 rfl (lv_at hl 2 rfl) ?_
  obtain ⟨S2, e_S2, hm⟩ := m_let_of hm
  refine n_puti X hH hS tyX2 (k := 2) (a := a) (j := 10) hk_a (by decide) rfl m_wi2 tyX2_ok nmX2 (by decide) in_2_196 rfl rfl rfl ⟨rfl, rfl⟩ e_S2 dX2_give_7 (fun H locs hH hS => ?_)
  exact r_vret X hr hH hS hm dX2_give_10
def rm_X2_freeCell : Room := { frames := 0, cells := 0, slots := 0, locals := 0 }
def b_X2_freeCell_2 (a : Nat)  : Nat → m_M → Int32 → Option (Int32 × m_M)
  | 0, _, _ => none
  | n + 1, S, l1 =>
    if (200 : Int32) ≤ l1 then (
    some ((-1 : Int32), S)) else (
    (m_ldi S (a + 6) 200 l1).bind fun v2 =>
    if v2 = (-1 : Int32) then (
    some (l1, S)) else (
    m_let (l1 + (1 : Int32)) fun v4 =>
    b_X2_freeCell_2 a n S v4))
set_option maxHeartbeats 4000000 in
set_option maxRecDepth 100000 in
theorem k_X2_freeCell_2 {p : Program} {l : Launch} {e : Env} {s : State} {m : MethodId} {args : Array Value} {below : List Frame} {meth : Method} {c : Code} {G : m_G} {nx : Nat} {κ : Nat → Nat} {res : (Int32 × m_M)} {a : Nat} (X : m_Cx p s m args meth c cX2_freeCell 2 RX2 G) (hr : meth.sig.returnType = (some .int)) (hT : m_Str κ) (hk_a : κ a = 3)  (n : Nat) : ∀ (S : m_M) (l1 : Int32) (H : Heap) (locs : List Loc) (ls : Array Slot), m_H G nx κ S H → m_S G s H locs → lv_has ls 2 [(0, .ref a), (1, .int l1)] → b_X2_freeCell_2 a n S l1 = some res → W p l e rm_X2_freeCell s m args below meth c H locs 0 0 (m_Qi below args s G nx κ res) (F0 m 2 ls []) := by
  have hx := X.1.1
  have hb := X.1.2.1
  induction n with
  | zero => intro S l1 H locs ls hH hS hl hm; have hm : (none : Option (Int32 × m_M)) = some res := hm; cases hm
  | succ n ih =>
    intro S l1 H locs ls hH hS hl hm
    rw [b_X2_freeCell_2] at hm
    refine lv_iload_n hx hb dX2_freeCell_2 rfl (lv_at hl 1 rfl) ?_
    refine lv_sipush (v := (200 : Int32)) hx hb dX2_freeCell_3 (by decide) ?_
    refine lv_icmp_ge (tgt := 27) hx hb dX2_freeCell_6 (by decide) (fun c1 => ?_) (fun c1 => ?_)
    · have hm := m_ite_t hm c1
      refine lv_iconst (v := (-1 : Int32)) hx hb dX2_freeCell_27 (by decide) ?_
      exact r_iret X hr hH hS hm dX2_freeCell_28
    · have hm := m_ite_f hm c1
      refine lv_aload_n hx hb dX2_freeCell_9 rfl (lv_at hl 0 rfl) ?_
      refine r_getp X hH (k := 2) (a := a) (j := 17) (b := (a + 6)) (A := 6) (B := 0) hk_a (by decide) rfl m_wi2 (by decide) in_2_212 rfl rfl rfl dX2_freeCell_10 ?_
      refine lv_iload_n hx hb dX2_freeCell_13 rfl (lv_at hl 1 rfl) ?_
      obtain ⟨v2, h_v2, e_v2, hm⟩ := n_ldi hm
      refine n_iald X hH (n := 200) (m_lay_at hT hk_a (by decide) (i := 6) rfl) h_v2 e_v2 dX2_freeCell_14 ?_
      refine lv_iconst (v := (-1 : Int32)) hx hb dX2_freeCell_15 (by decide) ?_
      refine lv_icmp_ne (tgt := 21) hx hb dX2_freeCell_16 (by decide) (fun c3 => ?_) (fun c3 => ?_)
      · have hm := m_ite_f hm c3
        obtain ⟨v4, e_v4, hm⟩ := m_let_of hm
        refine lv_iinc (v := v4) (lv' := [(1, .int v4), (0, .ref a)]) hx hb dX2_freeCell_21 hl (k := 1) rfl (by rw [← e_v4]; rfl) (by decide) rfl (fun ls hl => ?_)
        refine lv_goto (tgt := 2) hx hb dX2_freeCell_24 (by decide) ?_
        exact ih S v4 _ _ _ hH hS (lv_sub hl [1, 0] rfl) hm
      · have hm := m_ite_t hm c3
        refine lv_iload_n hx hb dX2_freeCell_19 rfl (lv_at hl 1 rfl) ?_
        exact r_iret X hr hH hS hm dX2_freeCell_20
def f_X2_freeCell (a : Nat) (S : m_M)  : Option (Int32 × m_M) :=
    b_X2_freeCell_2 a m_fu S (0 : Int32)
set_option maxHeartbeats 4000000 in
set_option maxRecDepth 100000 in
theorem c_X2_freeCell {l : Launch} {G : m_G} {nx : Nat} {κ : Nat → Nat} {a : Nat} {S : m_M}  {res : (Int32 × m_M)} (hT : m_Str κ) (hk_a : κ a = 3) (hm : f_X2_freeCell a S = some res) : m_Ci l yX2_freeCell cX2_freeCell 2 (some .int) rm_X2_freeCell G nx κ [.ref a] S res := by
  refine m_Ci.of (by decide) (Nat.le_of_ble_eq_true rfl) ?_
  intro p e s m args below meth c ls X hr hH hl
  have hx := X.1.1
  have hb := X.1.2.1
  have hS : m_S G s s.heap [] := va_S.rf
  have hl : lv_has ls 2 [(0, .ref a)] := hl
  rw [f_X2_freeCell] at hm
  refine lv_iconst (v := (0 : Int32)) hx hb dX2_freeCell_0 (by decide) ?_
  refine lv_istore_n (lv' := [(1, .int (0 : Int32)), (0, .ref a)]) hx hb dX2_freeCell_1 rfl hl (by decide) rfl (fun ls hl => ?_)
  exact k_X2_freeCell_2 (a := a) X hr hT hk_a  m_fu S (0 : Int32) _ _ _ hH hS (lv_sub hl [1, 0] rfl) hm
def rm_X3_varOfLine : Room := { frames := 0, cells := 0, slots := 0, locals := 0 }
def f_X3_varOfLine (a : Nat) (S : m_M) (i1 : Int32) (i2 : Int32) : Option (Int32 × m_M) :=
    (m_ldi S (a + 2) 5 i1).bind fun v1 =>
    (m_ldi S (a + 3) 5 i1).bind fun v2 =>
    some (((v1 + i2) - v2), S)
set_option maxHeartbeats 4000000 in
set_option maxRecDepth 100000 in
theorem c_X3_varOfLine {l : Launch} {G : m_G} {nx : Nat} {κ : Nat → Nat} {a : Nat} {S : m_M} {i1 : Int32} {i2 : Int32} {res : (Int32 × m_M)} (hT : m_Str κ) (hk_a : κ a = 4) (hm : f_X3_varOfLine a S i1 i2 = some res) : m_Ci l yX3_varOfLine cX3_varOfLine 3 (some .int) rm_X3_varOfLine G nx κ [.ref a, .int i1, .int i2] S res := by
  refine m_Ci.of (by decide) (Nat.le_of_ble_eq_true rfl) ?_
  intro p e s m args below meth c ls X hr hH hl
  have hx := X.1.1
  have hb := X.1.2.1
  have hS : m_S G s s.heap [] := va_S.rf
  have hl : lv_has ls 3 [(0, .ref a), (1, .int i1), (2, .int i2)] := hl
  rw [f_X3_varOfLine] at hm
  refine lv_aload_n hx hb dX3_varOfLine_0 rfl (lv_at hl 0 rfl) ?_
  refine r_getp X hH (k := 3) (a := a) (j := 3) (b := (a + 2)) (A := 2) (B := 0) hk_a (by decide) rfl m_wi3 (by decide) in_1_133 rfl rfl rfl dX3_varOfLine_1 ?_
  refine lv_iload_n hx hb dX3_varOfLine_4 rfl (lv_at hl 1 rfl) ?_
  obtain ⟨v1, h_v1, e_v1, hm⟩ := n_ldi hm
  refine n_iald X hH (n := 5) (m_lay_at hT hk_a (by decide) (i := 2) rfl) h_v1 e_v1 dX3_varOfLine_5 ?_
  refine lv_iload_n hx hb dX3_varOfLine_6 rfl (lv_at hl 2 rfl) ?_
  refine lv_iadd hx hb dX3_varOfLine_7 ?_
  refine lv_aload_n hx hb dX3_varOfLine_8 rfl (lv_at hl 0 rfl) ?_
  refine r_getp X hH (k := 3) (a := a) (j := 4) (b := (a + 3)) (A := 3) (B := 0) hk_a (by decide) rfl m_wi3 (by decide) in_1_139 rfl rfl rfl dX3_varOfLine_9 ?_
  refine lv_iload_n hx hb dX3_varOfLine_12 rfl (lv_at hl 1 rfl) ?_
  obtain ⟨v2, h_v2, e_v2, hm⟩ := n_ldi hm
  refine n_iald X hH (n := 5) (m_lay_at hT hk_a (by decide) (i := 3) rfl) h_v2 e_v2 dX3_varOfLine_13 ?_
  refine lv_isub hx hb dX3_varOfLine_14 ?_
  exact r_iret X hr hH hS hm dX3_varOfLine_15
def rm_X6_pointedBy : Room := { frames := 0, cells := 0, slots := 0, locals := 0 }
def f_X6_pointedBy (a : Nat) (S : m_M) (i1 : Int32) (i2 : Int32) : Option (Int32 × m_M) :=
    (m_ldi S (a + 1) 135 ((i1 * (27 : Int32)) + i2)).bind fun v1 =>
    some (v1, S)
set_option maxHeartbeats 4000000 in
set_option maxRecDepth 100000 in
theorem c_X6_pointedBy {l : Launch} {G : m_G} {nx : Nat} {κ : Nat → Nat} {a : Nat} {S : m_M} {i1 : Int32} {i2 : Int32} {res : (Int32 × m_M)} (hT : m_Str κ) (hk_a : κ a = 7) (hm : f_X6_pointedBy a S i1 i2 = some res) : m_Ci l yX6_pointedBy cX6_pointedBy 3 (some .int) rm_X6_pointedBy G nx κ [.ref a, .int i1, .int i2] S res := by
  refine m_Ci.of (by decide) (Nat.le_of_ble_eq_true rfl) ?_
  intro p e s m args below meth c ls X hr hH hl
  have hx := X.1.1
  have hb := X.1.2.1
  have hS : m_S G s s.heap [] := va_S.rf
  have hl : lv_has ls 3 [(0, .ref a), (1, .int i1), (2, .int i2)] := hl
  rw [f_X6_pointedBy] at hm
  refine lv_aload_n hx hb dX6_pointedBy_0 rfl (lv_at hl 0 rfl) ?_
  refine r_getp X hH (k := 6) (a := a) (j := 2) (b := (a + 1)) (A := 1) (B := 0) hk_a (by decide) rfl m_wi6 (by decide) in_1_57 rfl rfl rfl dX6_pointedBy_1 ?_
  refine lv_iload_n hx hb dX6_pointedBy_4 rfl (lv_at hl 1 rfl) ?_
  refine lv_bipush (v := (27 : Int32)) hx hb dX6_pointedBy_5 (by decide) ?_
  refine lv_imul hx hb dX6_pointedBy_7 ?_
  refine lv_iload_n hx hb dX6_pointedBy_8 rfl (lv_at hl 2 rfl) ?_
  refine lv_iadd hx hb dX6_pointedBy_9 ?_
  obtain ⟨v1, h_v1, e_v1, hm⟩ := n_ldi hm
  refine n_iald X hH (n := 135) (m_lay_at hT hk_a (by decide) (i := 1) rfl) h_v1 e_v1 dX6_pointedBy_10 ?_
  exact r_iret X hr hH hS hm dX6_pointedBy_11
def rm_X2_latestRoom : Room := { frames := 0, cells := 0, slots := 0, locals := 0 }
def b_X2_latestRoom_7 (a : Nat)  : Nat → m_M → Int32 → Int32 → Option (Int32 × m_M)
  | 0, _, _, _ => none
  | n + 1, S, l1, l2 =>
    if l2 < 0 then (
    some ((-1 : Int32), S)) else (
    (m_ldi S (a + 5) 312 l2).bind fun v2 =>
    if v2 = l1 then (
    some (l2, S)) else (
    m_let (l2 + (-1 : Int32)) fun v4 =>
    b_X2_latestRoom_7 a n S l1 v4))
set_option maxHeartbeats 4000000 in
set_option maxRecDepth 100000 in
theorem k_X2_latestRoom_7 {p : Program} {l : Launch} {e : Env} {s : State} {m : MethodId} {args : Array Value} {below : List Frame} {meth : Method} {c : Code} {G : m_G} {nx : Nat} {κ : Nat → Nat} {res : (Int32 × m_M)} {a : Nat} (X : m_Cx p s m args meth c cX2_latestRoom 3 RX2 G) (hr : meth.sig.returnType = (some .int)) (hT : m_Str κ) (hk_a : κ a = 3)  (n : Nat) : ∀ (S : m_M) (l1 : Int32) (l2 : Int32) (H : Heap) (locs : List Loc) (ls : Array Slot), m_H G nx κ S H → m_S G s H locs → lv_has ls 3 [(0, .ref a), (1, .int l1), (2, .int l2)] → b_X2_latestRoom_7 a n S l1 l2 = some res → W p l e rm_X2_latestRoom s m args below meth c H locs 0 0 (m_Qi below args s G nx κ res) (F0 m 7 ls []) := by
  have hx := X.1.1
  have hb := X.1.2.1
  induction n with
  | zero => intro S l1 l2 H locs ls hH hS hl hm; have hm : (none : Option (Int32 × m_M)) = some res := hm; cases hm
  | succ n ih =>
    intro S l1 l2 H locs ls hH hS hl hm
    rw [b_X2_latestRoom_7] at hm
    refine lv_iload_n hx hb dX2_latestRoom_7 rfl (lv_at hl 2 rfl) ?_
    refine lv_if_lt (tgt := 29) hx hb dX2_latestRoom_8 (by decide) (fun c1 => ?_) (fun c1 => ?_)
    · have hm := m_ite_t hm c1
      refine lv_iconst (v := (-1 : Int32)) hx hb dX2_latestRoom_29 (by decide) ?_
      exact r_iret X hr hH hS hm dX2_latestRoom_30
    · have hm := m_ite_f hm c1
      refine lv_aload_n hx hb dX2_latestRoom_11 rfl (lv_at hl 0 rfl) ?_
      refine r_getp X hH (k := 2) (a := a) (j := 16) (b := (a + 5)) (A := 5) (B := 0) hk_a (by decide) rfl m_wi2 (by decide) in_2_210 rfl rfl rfl dX2_latestRoom_12 ?_
      refine lv_iload_n hx hb dX2_latestRoom_15 rfl (lv_at hl 2 rfl) ?_
      obtain ⟨v2, h_v2, e_v2, hm⟩ := n_ldi hm
      refine n_iald X hH (n := 312) (m_lay_at hT hk_a (by decide) (i := 5) rfl) h_v2 e_v2 dX2_latestRoom_16 ?_
      refine lv_iload_n hx hb dX2_latestRoom_17 rfl (lv_at hl 1 rfl) ?_
      refine lv_icmp_ne (tgt := 23) hx hb dX2_latestRoom_18 (by decide) (fun c3 => ?_) (fun c3 => ?_)
      · have hm := m_ite_f hm c3
        obtain ⟨v4, e_v4, hm⟩ := m_let_of hm
        refine lv_iinc (v := v4) (lv' := [(2, .int v4), (0, .ref a), (1, .int l1)]) hx hb dX2_latestRoom_23 hl (k := 2) rfl (by rw [← e_v4]; rfl) (by decide) rfl (fun ls hl => ?_)
        refine lv_goto (tgt := 7) hx hb dX2_latestRoom_26 (by decide) ?_
        exact ih S l1 v4 _ _ _ hH hS (lv_sub hl [1, 2, 0] rfl) hm
      · have hm := m_ite_t hm c3
        refine lv_iload_n hx hb dX2_latestRoom_21 rfl (lv_at hl 2 rfl) ?_
        exact r_iret X hr hH hS hm dX2_latestRoom_22
def f_X2_latestRoom (a : Nat) (S : m_M) (i1 : Int32) : Option (Int32 × m_M) :=
    m_let ((m_ri S a 3) - (1 : Int32)) fun v1 =>
    b_X2_latestRoom_7 a m_fu S i1 v1
set_option maxHeartbeats 4000000 in
set_option maxRecDepth 100000 in
theorem c_X2_latestRoom {l : Launch} {G : m_G} {nx : Nat} {κ : Nat → Nat} {a : Nat} {S : m_M} {i1 : Int32} {res : (Int32 × m_M)} (hT : m_Str κ) (hk_a : κ a = 3) (hm : f_X2_latestRoom a S i1 = some res) : m_Ci l yX2_latestRoom cX2_latestRoom 3 (some .int) rm_X2_latestRoom G nx κ [.ref a, .int i1] S res := by
  refine m_Ci.of (by decide) (Nat.le_of_ble_eq_true rfl) ?_
  intro p e s m args below meth c ls X hr hH hl
  have hx := X.1.1
  have hb := X.1.2.1
  have hS : m_S G s s.heap [] := va_S.rf
  have hl : lv_has ls 3 [(0, .ref a), (1, .int i1)] := hl
  rw [f_X2_latestRoom] at hm
  refine lv_aload_n hx hb dX2_latestRoom_0 rfl (lv_at hl 0 rfl) ?_
  refine r_geti X hH (k := 2) (a := a) (j := 3) hk_a (by decide) rfl m_wi2 (by decide) in_2_183 rfl rfl dX2_latestRoom_1 ?_
  refine lv_iconst (v := (1 : Int32)) hx hb dX2_latestRoom_4 (by decide) ?_
  refine lv_isub hx hb dX2_latestRoom_5 ?_
  obtain ⟨v1, e_v1, hm⟩ := m_let_of hm
  refine n_topi e_v1 ?_
  refine lv_istore_n (lv' := [(2, .int v1), (0, .ref a), (1, .int i1)]) hx hb dX2_latestRoom_6 rfl hl (by decide) rfl (fun ls hl => ?_)
  exact k_X2_latestRoom_7 (a := a) X hr hT hk_a  m_fu S i1 v1 _ _ _ hH hS (lv_sub hl [1, 2, 0] rfl) hm
def rm_X2_layCell : Room := { frames := 2, cells := 0, slots := 0, locals := 60 }
def b_X2_layCell_38 (a o1 : Nat)  (S : m_M)  : Option (Int32 × m_M) :=
    some ((-1 : Int32), S)
set_option maxHeartbeats 4000000 in
set_option maxRecDepth 100000 in
theorem k_X2_layCell_38 {p : Program} {l : Launch} {e : Env} {s : State} {m : MethodId} {args : Array Value} {below : List Frame} {meth : Method} {c : Code} {G : m_G} {nx : Nat} {κ : Nat → Nat} {res : (Int32 × m_M)} {a o1 : Nat} (X : m_Cx p s m args meth c cX2_layCell 7 RX2 G) (hr : meth.sig.returnType = (some .int)) (hT : m_Str κ) (hk_a : κ a = 3) (hk_o1 : κ o1 = 4)  : ∀ (S : m_M)  (H : Heap) (locs : List Loc) (ls : Array Slot), m_H G nx κ S H → m_S G s H locs → lv_has ls 7 [] → b_X2_layCell_38 a o1 S  = some res → W p l e rm_X2_layCell s m args below meth c H locs 0 0 (m_Qi below args s G nx κ res) (F0 m 38 ls []) := by
  have hx := X.1.1
  have hb := X.1.2.1
  intro S H locs ls hH hS hl hm
  rw [b_X2_layCell_38] at hm
  refine lv_iconst (v := (-1 : Int32)) hx hb dX2_layCell_38 (by decide) ?_
  exact r_iret X hr hH hS hm dX2_layCell_39
def b_X2_layCell_52 (a o1 : Nat)  : Nat → m_M → Int32 → Int32 → Int32 → Option (Int32 × m_M)
  | 0, _, _, _, _ => none
  | n + 1, S, l3, l4, l6 =>
    if (2 : Int32) ≤ l6 then (
    m_let (m_si S a 4 ((m_ri S a 4) + (1 : Int32))) fun S2 =>
    m_let (m_si S2 a 7 ((m_ri S2 a 7) + (1 : Int32))) fun S3 =>
    m_let (m_si S3 a 5 (if (m_ri S3 a 5) < (m_ri S3 a 4) then (m_ri S3 a 4) else (m_ri S3 a 5))) fun S4 =>
    some (l4, S4)) else (
    m_call (f_X2_kindAt a o1 S l3 l6) fun v6 S5 =>
    (m_sti S5 (a + 7) 400 (((2 : Int32) * l4) + l6) v6).bind fun S7 =>
    m_call (f_X2_valueAt a o1 S7 l3 l6) fun v9 S8 =>
    (m_sti S8 (a + 8) 400 (((2 : Int32) * l4) + l6) v9).bind fun S10 =>
    m_let (l6 + (1 : Int32)) fun v11 =>
    b_X2_layCell_52 a o1 n S10 l3 l4 v11)
set_option maxHeartbeats 4000000 in
set_option maxRecDepth 100000 in
theorem k_X2_layCell_52 {p : Program} {l : Launch} {e : Env} {s : State} {m : MethodId} {args : Array Value} {below : List Frame} {meth : Method} {c : Code} {G : m_G} {nx : Nat} {κ : Nat → Nat} {res : (Int32 × m_M)} {a o1 : Nat} (X : m_Cx p s m args meth c cX2_layCell 7 RX2 G) (hr : meth.sig.returnType = (some .int)) (hT : m_Str κ) (hk_a : κ a = 3) (hk_o1 : κ o1 = 4)  (n : Nat) : ∀ (S : m_M) (l3 : Int32) (l4 : Int32) (l6 : Int32) (H : Heap) (locs : List Loc) (ls : Array Slot), m_H G nx κ S H → m_S G s H locs → lv_has ls 7 [(0, .ref a), (1, .ref o1), (3, .int l3), (4, .int l4), (6, .int l6)] → b_X2_layCell_52 a o1 n S l3 l4 l6 = some res → W p l e rm_X2_layCell s m args below meth c H locs 0 0 (m_Qi below args s G nx κ res) (F0 m 52 ls []) := by
  have hx := X.1.1
  have hb := X.1.2.1
  induction n with
  | zero => intro S l3 l4 l6 H locs ls hH hS hl hm; have hm : (none : Option (Int32 × m_M)) = some res := hm; cases hm
  | succ n ih =>
    intro S l3 l4 l6 H locs ls hH hS hl hm
    rw [b_X2_layCell_52] at hm
    refine lv_iload hx hb dX2_layCell_52 (lv_at hl 4 rfl) ?_
    refine lv_iconst (v := (2 : Int32)) hx hb dX2_layCell_54 (by decide) ?_
    refine lv_icmp_ge (tgt := 104) hx hb dX2_layCell_55 (by decide) (fun c1 => ?_) (fun c1 => ?_)
    · have hm := m_ite_t hm c1
      refine lv_aload_n hx hb dX2_layCell_104 rfl (lv_at hl 0 rfl) ?_
      refine lv_dup hx hb dX2_layCell_105 rfl ?_
      refine r_geti X hH (k := 2) (a := a) (j := 4) hk_a (by decide) rfl m_wi2 (by decide) in_2_185 rfl rfl dX2_layCell_106 ?_
      refine lv_iconst (v := (1 : Int32)) hx hb dX2_layCell_109 (by decide) ?_
      refine lv_iadd hx hb dX2_layCell_110 ?_
      obtain ⟨S2, e_S2, hm⟩ := m_let_of hm
      refine n_puti X hH hS tyX2 (k := 2) (a := a) (j := 4) hk_a (by decide) rfl m_wi2 tyX2_ok nmX2 (by decide) in_2_185 rfl rfl rfl ⟨rfl, rfl⟩ e_S2 dX2_layCell_111 (fun H locs hH hS => ?_)
      refine lv_aload_n hx hb dX2_layCell_114 rfl (lv_at hl 0 rfl) ?_
      refine lv_dup hx hb dX2_layCell_115 rfl ?_
      refine r_geti X hH (k := 2) (a := a) (j := 7) hk_a (by decide) rfl m_wi2 (by decide) in_2_191 rfl rfl dX2_layCell_116 ?_
      refine lv_iconst (v := (1 : Int32)) hx hb dX2_layCell_119 (by decide) ?_
      refine lv_iadd hx hb dX2_layCell_120 ?_
      obtain ⟨S3, e_S3, hm⟩ := m_let_of hm
      refine n_puti X hH hS tyX2 (k := 2) (a := a) (j := 7) hk_a (by decide) rfl m_wi2 tyX2_ok nmX2 (by decide) in_2_191 rfl rfl rfl ⟨rfl, rfl⟩ e_S3 dX2_layCell_121 (fun H locs hH hS => ?_)
      refine lv_aload_n hx hb dX2_layCell_124 rfl (lv_at hl 0 rfl) ?_
      refine lv_aload_n hx hb dX2_layCell_125 rfl (lv_at hl 0 rfl) ?_
      refine r_geti X hH (k := 2) (a := a) (j := 5) hk_a (by decide) rfl m_wi2 (by decide) in_2_187 rfl rfl dX2_layCell_126 ?_
      refine lv_aload_n hx hb dX2_layCell_129 rfl (lv_at hl 0 rfl) ?_
      refine r_geti X hH (k := 2) (a := a) (j := 4) hk_a (by decide) rfl m_wi2 (by decide) in_2_185 rfl rfl dX2_layCell_130 ?_
      refine va_mmax hx hb (X.1.2.2.1.trans hl.1.symm) X.1.2.2.2.1 (m_w X in_5_92) (m_w X in_1_194) (m_w X in_1_6) (m_w X in_1_195) (Nat.le_of_ble_eq_true rfl) (Nat.le_of_ble_eq_true rfl) (Nat.zero_le _) (Nat.zero_le _) dX2_layCell_133 ?_
      obtain ⟨S4, e_S4, hm⟩ := m_let_of hm
      refine n_puti X hH hS tyX2 (k := 2) (a := a) (j := 5) hk_a (by decide) rfl m_wi2 tyX2_ok nmX2 (by decide) in_2_187 rfl rfl rfl ⟨rfl, rfl⟩ e_S4 dX2_layCell_136 (fun H locs hH hS => ?_)
      refine lv_iload hx hb dX2_layCell_139 (lv_at hl 3 rfl) ?_
      exact r_iret X hr hH hS hm dX2_layCell_141
    · have hm := m_ite_f hm c1
      refine lv_aload_n hx hb dX2_layCell_58 rfl (lv_at hl 0 rfl) ?_
      refine r_getp X hH (k := 2) (a := a) (j := 18) (b := (a + 7)) (A := 7) (B := 0) hk_a (by decide) rfl m_wi2 (by decide) in_2_213 rfl rfl rfl dX2_layCell_59 ?_
      refine lv_iconst (v := (2 : Int32)) hx hb dX2_layCell_62 (by decide) ?_
      refine lv_iload hx hb dX2_layCell_63 (lv_at hl 3 rfl) ?_
      refine lv_imul hx hb dX2_layCell_65 ?_
      refine lv_iload hx hb dX2_layCell_66 (lv_at hl 4 rfl) ?_
      refine lv_iadd hx hb dX2_layCell_68 ?_
      refine lv_aload_n hx hb dX2_layCell_69 rfl (lv_at hl 0 rfl) ?_
      refine lv_aload_n hx hb dX2_layCell_70 rfl (lv_at hl 1 rfl) ?_
      refine lv_iload_n hx hb dX2_layCell_71 rfl (lv_at hl 2 rfl) ?_
      refine lv_iload hx hb dX2_layCell_72 (lv_at hl 4 rfl) ?_
      obtain ⟨v6, S5, e_S5, hm⟩ := m_call_of hm
      refine n_cVi X hH hS (k := 2) (c_X2_kindAt (a := a) (o1 := o1) hT hk_a hk_o1 e_S5) mw_X2_kindAt in_5_36 hk_a (by decide) rfl rfl rfl ⟨rfl, rfl⟩ ⟨Nat.le_of_ble_eq_true rfl, Nat.le_of_ble_eq_true rfl⟩ ⟨Nat.zero_le _, Nat.zero_le _⟩ hl.1 (Nat.le_of_ble_eq_true rfl) dX2_layCell_74 (fun H locs hH hS => ?_)
      obtain ⟨S7, h_S7, e_S7, hm⟩ := n_sti hm
      refine n_iast X hH hS (n := 400) (m_lay_at hT hk_a (by decide) (i := 7) rfl) h_S7 e_S7 dX2_layCell_77 (fun H locs hH hS => ?_)
      refine lv_aload_n hx hb dX2_layCell_78 rfl (lv_at hl 0 rfl) ?_
      refine r_getp X hH (k := 2) (a := a) (j := 19) (b := (a + 8)) (A := 8) (B := 0) hk_a (by decide) rfl m_wi2 (by decide) in_2_216 rfl rfl rfl dX2_layCell_79 ?_
      refine lv_iconst (v := (2 : Int32)) hx hb dX2_layCell_82 (by decide) ?_
      refine lv_iload hx hb dX2_layCell_83 (lv_at hl 3 rfl) ?_
      refine lv_imul hx hb dX2_layCell_85 ?_
      refine lv_iload hx hb dX2_layCell_86 (lv_at hl 4 rfl) ?_
      refine lv_iadd hx hb dX2_layCell_88 ?_
      refine lv_aload_n hx hb dX2_layCell_89 rfl (lv_at hl 0 rfl) ?_
      refine lv_aload_n hx hb dX2_layCell_90 rfl (lv_at hl 1 rfl) ?_
      refine lv_iload_n hx hb dX2_layCell_91 rfl (lv_at hl 2 rfl) ?_
      refine lv_iload hx hb dX2_layCell_92 (lv_at hl 4 rfl) ?_
      obtain ⟨v9, S8, e_S8, hm⟩ := m_call_of hm
      refine n_cVi X hH hS (k := 2) (c_X2_valueAt (a := a) (o1 := o1) hT hk_a hk_o1 e_S8) mw_X2_valueAt in_5_53 hk_a (by decide) rfl rfl rfl ⟨rfl, rfl⟩ ⟨Nat.le_of_ble_eq_true rfl, Nat.le_of_ble_eq_true rfl⟩ ⟨Nat.zero_le _, Nat.zero_le _⟩ hl.1 (Nat.le_of_ble_eq_true rfl) dX2_layCell_94 (fun H locs hH hS => ?_)
      obtain ⟨S10, h_S10, e_S10, hm⟩ := n_sti hm
      refine n_iast X hH hS (n := 400) (m_lay_at hT hk_a (by decide) (i := 8) rfl) h_S10 e_S10 dX2_layCell_97 (fun H locs hH hS => ?_)
      obtain ⟨v11, e_v11, hm⟩ := m_let_of hm
      refine lv_iinc (v := v11) (lv' := [(6, .int v11), (0, .ref a), (1, .ref o1), (3, .int l3), (4, .int l4)]) hx hb dX2_layCell_98 hl (k := 4) rfl (by rw [← e_v11]; rfl) (by decide) rfl (fun ls hl => ?_)
      refine lv_goto (tgt := 52) hx hb dX2_layCell_101 (by decide) ?_
      exact ih S10 l3 l4 v11 _ _ _ hH hS (lv_sub hl [1, 2, 3, 4, 0] rfl) hm
def f_X2_layCell (a o1 : Nat) (S : m_M) (i2 : Int32) (i3 : Int32) : Option (Int32 × m_M) :=
    m_call (f_X2_freeCell a S) fun v2 S1 =>
    m_call (f_X3_varOfLine o1 S1 i2 i3) fun v4 S3 =>
    m_call (f_X6_pointedBy (o1 + 8) S3 i2 v4) fun v6 S5 =>
    m_call (f_X2_latestRoom a S5 v6) fun v8 S7 =>
    if v2 = (-1 : Int32) then (
    b_X2_layCell_38 a o1 S7) else (
    if v8 = (-1 : Int32) then (
    b_X2_layCell_38 a o1 S7) else (
    (m_sti S7 (a + 6) 200 v2 v8).bind fun S11 =>
    b_X2_layCell_52 a o1 m_fu S11 i3 v2 (0 : Int32)))
set_option maxHeartbeats 4000000 in
set_option maxRecDepth 100000 in
theorem c_X2_layCell {l : Launch} {G : m_G} {nx : Nat} {κ : Nat → Nat} {a o1 : Nat} {S : m_M} {i2 : Int32} {i3 : Int32} {res : (Int32 × m_M)} (hT : m_Str κ) (hk_a : κ a = 3) (hk_o1 : κ o1 = 4) (hm : f_X2_layCell a o1 S i2 i3 = some res) : m_Ci l yX2_layCell cX2_layCell 7 (some .int) rm_X2_layCell G nx κ [.ref a, .ref o1, .int i2, .int i3] S res := by
  refine m_Ci.of (by decide) (Nat.le_of_ble_eq_true rfl) ?_
  intro p e s m args below meth c ls X hr hH hl
  have hx := X.1.1
  have hb := X.1.2.1
  have hS : m_S G s s.heap [] := va_S.rf
  have hl : lv_has ls 7 [(0, .ref a), (1, .ref o1), (2, .int i2), (3, .int i3)] := hl
  rw [f_X2_layCell] at hm
  refine lv_aload_n hx hb dX2_layCell_0 rfl (lv_at hl 0 rfl) ?_
  obtain ⟨v2, S1, e_S1, hm⟩ := m_call_of hm
  refine n_cVi X hH hS (k := 2) (c_X2_freeCell (a := a) hT hk_a e_S1) mw_X2_freeCell in_5_82 hk_a (by decide) rfl rfl rfl ⟨rfl, rfl⟩ ⟨Nat.le_of_ble_eq_true rfl, Nat.le_of_ble_eq_true rfl⟩ ⟨Nat.zero_le _, Nat.zero_le _⟩ hl.1 (Nat.le_of_ble_eq_true rfl) dX2_layCell_1 (fun H locs hH hS => ?_)
  refine lv_istore (lv' := [(4, .int v2), (0, .ref a), (1, .ref o1), (2, .int i2), (3, .int i3)]) hx hb dX2_layCell_4 hl (by decide) rfl (fun ls hl => ?_)
  refine lv_aload_n hx hb dX2_layCell_6 rfl (lv_at hl 1 rfl) ?_
  refine lv_aload_n hx hb dX2_layCell_7 rfl (lv_at hl 2 rfl) ?_
  refine r_getp X hH (k := 3) (a := o1) (j := 9) (b := (o1 + 8)) (A := 8) (B := 0) hk_o1 (by decide) rfl m_wi3 (by decide) in_1_161 rfl rfl rfl dX2_layCell_8 ?_
  refine lv_iload_n hx hb dX2_layCell_11 rfl (lv_at hl 3 rfl) ?_
  refine lv_aload_n hx hb dX2_layCell_12 rfl (lv_at hl 2 rfl) ?_
  refine lv_iload_n hx hb dX2_layCell_13 rfl (lv_at hl 3 rfl) ?_
  refine lv_iload_n hx hb dX2_layCell_14 rfl (lv_at hl 4 rfl) ?_
  obtain ⟨v4, S3, e_S3, hm⟩ := m_call_of hm
  refine n_cVi X hH hS (k := 3) (c_X3_varOfLine (a := o1) hT hk_o1 e_S3) mw_X3_varOfLine in_5_86 hk_o1 (by decide) rfl rfl rfl ⟨rfl, rfl⟩ ⟨Nat.le_of_ble_eq_true rfl, Nat.le_of_ble_eq_true rfl⟩ ⟨Nat.zero_le _, Nat.zero_le _⟩ hl.1 (Nat.le_of_ble_eq_true rfl) dX2_layCell_15 (fun H locs hH hS => ?_)
  obtain ⟨v6, S5, e_S5, hm⟩ := m_call_of hm
  refine n_cVi X hH hS (k := 6) (c_X6_pointedBy (a := (o1 + 8)) hT (m_lay_at hT hk_o1 (by decide) (i := 8) rfl) e_S5) mw_X6_pointedBy in_5_87 (m_lay_at hT hk_o1 (by decide) (i := 8) rfl) (by decide) rfl rfl rfl ⟨rfl, rfl⟩ ⟨Nat.le_of_ble_eq_true rfl, Nat.le_of_ble_eq_true rfl⟩ ⟨Nat.zero_le _, Nat.zero_le _⟩ hl.1 (Nat.le_of_ble_eq_true rfl) dX2_layCell_18 (fun H locs hH hS => ?_)
  obtain ⟨v8, S7, e_S7, hm⟩ := m_call_of hm
  refine n_cVi X hH hS (k := 2) (c_X2_latestRoom (a := a) hT hk_a e_S7) mw_X2_latestRoom in_5_88 hk_a (by decide) rfl rfl rfl ⟨rfl, rfl⟩ ⟨Nat.le_of_ble_eq_true rfl, Nat.le_of_ble_eq_true rfl⟩ ⟨Nat.zero_le _, Nat.zero_le _⟩ hl.1 (Nat.le_of_ble_eq_true rfl) dX2_layCell_21 (fun H locs hH hS => ?_)
  refine lv_istore (lv' := [(5, .int v8), (4, .int v2), (0, .ref a), (1, .ref o1), (2, .int i2), (3, .int i3)]) hx hb dX2_layCell_24 hl (by decide) rfl (fun ls hl => ?_)
  refine lv_iload hx hb dX2_layCell_26 (lv_at hl 1 rfl) ?_
  refine lv_iconst (v := (-1 : Int32)) hx hb dX2_layCell_28 (by decide) ?_
  refine lv_icmp_eq (tgt := 38) hx hb dX2_layCell_29 (by decide) (fun c9 => ?_) (fun c9 => ?_)
  · have hm := m_ite_t hm c9
    exact k_X2_layCell_38 (a := a) (o1 := o1) X hr hT hk_a hk_o1   S7 _ _ _ hH hS (lv_sub hl [] rfl) hm
  · have hm := m_ite_f hm c9
    refine lv_iload hx hb dX2_layCell_32 (lv_at hl 0 rfl) ?_
    refine lv_iconst (v := (-1 : Int32)) hx hb dX2_layCell_34 (by decide) ?_
    refine lv_icmp_ne (tgt := 40) hx hb dX2_layCell_35 (by decide) (fun c10 => ?_) (fun c10 => ?_)
    · have hm := m_ite_f hm c10
      refine lv_aload_n hx hb dX2_layCell_40 rfl (lv_at hl 2 rfl) ?_
      refine r_getp X hH (k := 2) (a := a) (j := 17) (b := (a + 6)) (A := 6) (B := 0) hk_a (by decide) rfl m_wi2 (by decide) in_2_212 rfl rfl rfl dX2_layCell_41 ?_
      refine lv_iload hx hb dX2_layCell_44 (lv_at hl 1 rfl) ?_
      refine lv_iload hx hb dX2_layCell_46 (lv_at hl 0 rfl) ?_
      obtain ⟨S11, h_S11, e_S11, hm⟩ := n_sti hm
      refine n_iast X hH hS (n := 200) (m_lay_at hT hk_a (by decide) (i := 6) rfl) h_S11 e_S11 dX2_layCell_48 (fun H locs hH hS => ?_)
      refine lv_iconst (v := (0 : Int32)) hx hb dX2_layCell_49 (by decide) ?_
      refine lv_istore (lv' := [(6, .int (0 : Int32)), (5, .int v8), (4, .int v2), (0, .ref a), (1, .ref o1), (2, .int i2), (3, .int i3)]) hx hb dX2_layCell_50 hl (by decide) rfl (fun ls hl => ?_)
      exact k_X2_layCell_52 (a := a) (o1 := o1) X hr hT hk_a hk_o1  m_fu S11 i3 v2 (0 : Int32) _ _ _ hH hS (lv_sub hl [3, 4, 6, 2, 0] rfl) hm
    · have hm := m_ite_t hm c10
      exact k_X2_layCell_38 (a := a) (o1 := o1) X hr hT hk_a hk_o1   S7 _ _ _ hH hS (lv_sub hl [] rfl) hm
def rm_X2_giveSide : Room := { frames := 1, cells := 0, slots := 0, locals := 22 }
def b_X2_giveSide_43 (a : Nat)  (S : m_M) (t1 : Int32) (t2 : Int32) : Option m_M :=
    m_cal0 (f_X2_give a S t1 t2) fun S1 =>
    some S1
set_option maxHeartbeats 4000000 in
set_option maxRecDepth 100000 in
theorem k_X2_giveSide_43 {p : Program} {l : Launch} {e : Env} {s : State} {m : MethodId} {args : Array Value} {below : List Frame} {meth : Method} {c : Code} {G : m_G} {nx : Nat} {κ : Nat → Nat} {res : m_M} {a : Nat} (X : m_Cx p s m args meth c cX2_giveSide 4 RX2 G) (hr : meth.sig.returnType = none) (hT : m_Str κ) (hk_a : κ a = 3)  : ∀ (S : m_M) (t1 : Int32) (t2 : Int32) (H : Heap) (locs : List Loc) (ls : Array Slot), m_H G nx κ S H → m_S G s H locs → lv_has ls 4 [] → b_X2_giveSide_43 a S t1 t2 = some res → W p l e rm_X2_giveSide s m args below meth c H locs 0 0 (m_Qv below args s G nx κ res) (F0 m 43 ls [.int t2, .int t1, .ref a]) := by
  have hx := X.1.1
  have hb := X.1.2.1
  intro S t1 t2 H locs ls hH hS hl hm
  rw [b_X2_giveSide_43] at hm
  obtain ⟨S1, e_S1, hm⟩ := m_cal0_of hm
  refine r_cVv X hH hS (k := 2) (c_X2_give (a := a) hT hk_a e_S1) mw_X2_give in_5_74 hk_a (by decide) rfl rfl rfl ⟨rfl, rfl⟩ ⟨Nat.le_of_ble_eq_true rfl, Nat.le_of_ble_eq_true rfl⟩ ⟨Nat.zero_le _, Nat.zero_le _⟩ hl.1 (Nat.le_of_ble_eq_true rfl) dX2_giveSide_43 (fun H locs hH hS => ?_)
  exact r_vret X hr hH hS hm dX2_giveSide_46
def b_X2_giveSide_25 (a : Nat)  (S : m_M) (l1 : Int32) (l2 : Int32) (l3 : Int32) (t1 : Int32) : Option m_M :=
    if l3 = 0 then (
    b_X2_giveSide_43 a S t1 (0 : Int32)) else (
    (m_ldi S (a + 8) 400 (((2 : Int32) * l1) + l2)).bind fun v2 =>
    b_X2_giveSide_43 a S t1 v2)
set_option maxHeartbeats 4000000 in
set_option maxRecDepth 100000 in
theorem k_X2_giveSide_25 {p : Program} {l : Launch} {e : Env} {s : State} {m : MethodId} {args : Array Value} {below : List Frame} {meth : Method} {c : Code} {G : m_G} {nx : Nat} {κ : Nat → Nat} {res : m_M} {a : Nat} (X : m_Cx p s m args meth c cX2_giveSide 4 RX2 G) (hr : meth.sig.returnType = none) (hT : m_Str κ) (hk_a : κ a = 3)  : ∀ (S : m_M) (l1 : Int32) (l2 : Int32) (l3 : Int32) (t1 : Int32) (H : Heap) (locs : List Loc) (ls : Array Slot), m_H G nx κ S H → m_S G s H locs → lv_has ls 4 [(0, .ref a), (1, .int l1), (2, .int l2), (3, .int l3)] → b_X2_giveSide_25 a S l1 l2 l3 t1 = some res → W p l e rm_X2_giveSide s m args below meth c H locs 0 0 (m_Qv below args s G nx κ res) (F0 m 25 ls [.int t1, .ref a]) := by
  have hx := X.1.1
  have hb := X.1.2.1
  intro S l1 l2 l3 t1 H locs ls hH hS hl hm
  rw [b_X2_giveSide_25] at hm
  refine lv_iload_n hx hb dX2_giveSide_25 rfl (lv_at hl 3 rfl) ?_
  refine lv_if_eq (tgt := 42) hx hb dX2_giveSide_26 (by decide) (fun c1 => ?_) (fun c1 => ?_)
  · have hm := m_ite_t hm c1
    refine lv_iconst (v := (0 : Int32)) hx hb dX2_giveSide_42 (by decide) ?_
    exact k_X2_giveSide_43 (a := a) X hr hT hk_a   S t1 (0 : Int32) _ _ _ hH hS (lv_sub hl [] rfl) hm
  · have hm := m_ite_f hm c1
    refine lv_aload_n hx hb dX2_giveSide_29 rfl (lv_at hl 0 rfl) ?_
    refine r_getp X hH (k := 2) (a := a) (j := 19) (b := (a + 8)) (A := 8) (B := 0) hk_a (by decide) rfl m_wi2 (by decide) in_2_216 rfl rfl rfl dX2_giveSide_30 ?_
    refine lv_iconst (v := (2 : Int32)) hx hb dX2_giveSide_33 (by decide) ?_
    refine lv_iload_n hx hb dX2_giveSide_34 rfl (lv_at hl 1 rfl) ?_
    refine lv_imul hx hb dX2_giveSide_35 ?_
    refine lv_iload_n hx hb dX2_giveSide_36 rfl (lv_at hl 2 rfl) ?_
    refine lv_iadd hx hb dX2_giveSide_37 ?_
    obtain ⟨v2, h_v2, e_v2, hm⟩ := n_ldi hm
    refine n_iald X hH (n := 400) (m_lay_at hT hk_a (by decide) (i := 8) rfl) h_v2 e_v2 dX2_giveSide_38 ?_
    refine lv_goto (tgt := 43) hx hb dX2_giveSide_39 (by decide) ?_
    exact k_X2_giveSide_43 (a := a) X hr hT hk_a   S t1 v2 _ _ _ hH hS (lv_sub hl [] rfl) hm
def f_X2_giveSide (a : Nat) (S : m_M) (i1 : Int32) (i2 : Int32) : Option m_M :=
    m_call (f_X2_hasCell a S i1) fun v2 S1 =>
    if v2 = 0 then (
    b_X2_giveSide_25 a S1 i1 i2 v2 (1 : Int32)) else (
    (m_ldi S1 (a + 7) 400 (((2 : Int32) * i1) + i2)).bind fun v4 =>
    b_X2_giveSide_25 a S1 i1 i2 v2 v4)
set_option maxHeartbeats 4000000 in
set_option maxRecDepth 100000 in
theorem c_X2_giveSide {l : Launch} {G : m_G} {nx : Nat} {κ : Nat → Nat} {a : Nat} {S : m_M} {i1 : Int32} {i2 : Int32} {res : m_M} (hT : m_Str κ) (hk_a : κ a = 3) (hm : f_X2_giveSide a S i1 i2 = some res) : m_Cv l yX2_giveSide cX2_giveSide 4 rm_X2_giveSide G nx κ [.ref a, .int i1, .int i2] S res := by
  refine m_Cv.of (by decide) (Nat.le_of_ble_eq_true rfl) ?_
  intro p e s m args below meth c ls X hr hH hl
  have hx := X.1.1
  have hb := X.1.2.1
  have hS : m_S G s s.heap [] := va_S.rf
  have hl : lv_has ls 4 [(0, .ref a), (1, .int i1), (2, .int i2)] := hl
  rw [f_X2_giveSide] at hm
  refine lv_aload_n hx hb dX2_giveSide_0 rfl (lv_at hl 0 rfl) ?_
  refine lv_iload_n hx hb dX2_giveSide_1 rfl (lv_at hl 1 rfl) ?_
  obtain ⟨v2, S1, e_S1, hm⟩ := m_call_of hm
  refine n_cVi X hH hS (k := 2) (c_X2_hasCell (a := a) hT hk_a e_S1) mw_X2_hasCell in_4_202 hk_a (by decide) rfl rfl rfl ⟨rfl, rfl⟩ ⟨Nat.le_of_ble_eq_true rfl, Nat.le_of_ble_eq_true rfl⟩ ⟨Nat.zero_le _, Nat.zero_le _⟩ hl.1 (Nat.le_of_ble_eq_true rfl) dX2_giveSide_2 (fun H locs hH hS => ?_)
  refine lv_istore_n (lv' := [(3, .int v2), (0, .ref a), (1, .int i1), (2, .int i2)]) hx hb dX2_giveSide_5 rfl hl (by decide) rfl (fun ls hl => ?_)
  refine lv_aload_n hx hb dX2_giveSide_6 rfl (lv_at hl 1 rfl) ?_
  refine lv_iload_n hx hb dX2_giveSide_7 rfl (lv_at hl 0 rfl) ?_
  refine lv_if_eq (tgt := 24) hx hb dX2_giveSide_8 (by decide) (fun c3 => ?_) (fun c3 => ?_)
  · have hm := m_ite_t hm c3
    refine lv_iconst (v := (1 : Int32)) hx hb dX2_giveSide_24 (by decide) ?_
    exact k_X2_giveSide_25 (a := a) X hr hT hk_a   S1 i1 i2 v2 (1 : Int32) _ _ _ hH hS (lv_sub hl [1, 2, 3, 0] rfl) hm
  · have hm := m_ite_f hm c3
    refine lv_aload_n hx hb dX2_giveSide_11 rfl (lv_at hl 1 rfl) ?_
    refine r_getp X hH (k := 2) (a := a) (j := 18) (b := (a + 7)) (A := 7) (B := 0) hk_a (by decide) rfl m_wi2 (by decide) in_2_213 rfl rfl rfl dX2_giveSide_12 ?_
    refine lv_iconst (v := (2 : Int32)) hx hb dX2_giveSide_15 (by decide) ?_
    refine lv_iload_n hx hb dX2_giveSide_16 rfl (lv_at hl 2 rfl) ?_
    refine lv_imul hx hb dX2_giveSide_17 ?_
    refine lv_iload_n hx hb dX2_giveSide_18 rfl (lv_at hl 3 rfl) ?_
    refine lv_iadd hx hb dX2_giveSide_19 ?_
    obtain ⟨v4, h_v4, e_v4, hm⟩ := n_ldi hm
    refine n_iald X hH (n := 400) (m_lay_at hT hk_a (by decide) (i := 7) rfl) h_v4 e_v4 dX2_giveSide_20 ?_
    refine lv_goto (tgt := 25) hx hb dX2_giveSide_21 (by decide) ?_
    exact k_X2_giveSide_25 (a := a) X hr hT hk_a   S1 i1 i2 v2 v4 _ _ _ hH hS (lv_sub hl [1, 2, 3, 0] rfl) hm
def rm_X2_giveVar : Room := { frames := 2, cells := 0, slots := 0, locals := 45 }
def f_X2_giveVar (a o1 : Nat) (S : m_M) (i2 : Int32) (i3 : Int32) : Option m_M :=
    m_call (f_X2_kindAt a o1 S i2 i3) fun v2 S1 =>
    m_call (f_X2_valueAt a o1 S1 i2 i3) fun v4 S3 =>
    m_cal0 (f_X2_give a S3 v2 v4) fun S5 =>
    some S5
set_option maxHeartbeats 4000000 in
set_option maxRecDepth 100000 in
theorem c_X2_giveVar {l : Launch} {G : m_G} {nx : Nat} {κ : Nat → Nat} {a o1 : Nat} {S : m_M} {i2 : Int32} {i3 : Int32} {res : m_M} (hT : m_Str κ) (hk_a : κ a = 3) (hk_o1 : κ o1 = 4) (hm : f_X2_giveVar a o1 S i2 i3 = some res) : m_Cv l yX2_giveVar cX2_giveVar 4 rm_X2_giveVar G nx κ [.ref a, .ref o1, .int i2, .int i3] S res := by
  refine m_Cv.of (by decide) (Nat.le_of_ble_eq_true rfl) ?_
  intro p e s m args below meth c ls X hr hH hl
  have hx := X.1.1
  have hb := X.1.2.1
  have hS : m_S G s s.heap [] := va_S.rf
  have hl : lv_has ls 4 [(0, .ref a), (1, .ref o1), (2, .int i2), (3, .int i3)] := hl
  rw [f_X2_giveVar] at hm
  refine lv_aload_n hx hb dX2_giveVar_0 rfl (lv_at hl 0 rfl) ?_
  refine lv_aload_n hx hb dX2_giveVar_1 rfl (lv_at hl 0 rfl) ?_
  refine lv_aload_n hx hb dX2_giveVar_2 rfl (lv_at hl 1 rfl) ?_
  refine lv_iload_n hx hb dX2_giveVar_3 rfl (lv_at hl 2 rfl) ?_
  refine lv_iload_n hx hb dX2_giveVar_4 rfl (lv_at hl 3 rfl) ?_
  obtain ⟨v2, S1, e_S1, hm⟩ := m_call_of hm
  refine n_cVi X hH hS (k := 2) (c_X2_kindAt (a := a) (o1 := o1) hT hk_a hk_o1 e_S1) mw_X2_kindAt in_5_36 hk_a (by decide) rfl rfl rfl ⟨rfl, rfl⟩ ⟨Nat.le_of_ble_eq_true rfl, Nat.le_of_ble_eq_true rfl⟩ ⟨Nat.zero_le _, Nat.zero_le _⟩ hl.1 (Nat.le_of_ble_eq_true rfl) dX2_giveVar_5 (fun H locs hH hS => ?_)
  refine lv_aload_n hx hb dX2_giveVar_8 rfl (lv_at hl 0 rfl) ?_
  refine lv_aload_n hx hb dX2_giveVar_9 rfl (lv_at hl 1 rfl) ?_
  refine lv_iload_n hx hb dX2_giveVar_10 rfl (lv_at hl 2 rfl) ?_
  refine lv_iload_n hx hb dX2_giveVar_11 rfl (lv_at hl 3 rfl) ?_
  obtain ⟨v4, S3, e_S3, hm⟩ := m_call_of hm
  refine n_cVi X hH hS (k := 2) (c_X2_valueAt (a := a) (o1 := o1) hT hk_a hk_o1 e_S3) mw_X2_valueAt in_5_53 hk_a (by decide) rfl rfl rfl ⟨rfl, rfl⟩ ⟨Nat.le_of_ble_eq_true rfl, Nat.le_of_ble_eq_true rfl⟩ ⟨Nat.zero_le _, Nat.zero_le _⟩ hl.1 (Nat.le_of_ble_eq_true rfl) dX2_giveVar_12 (fun H locs hH hS => ?_)
  obtain ⟨S5, e_S5, hm⟩ := m_cal0_of hm
  refine r_cVv X hH hS (k := 2) (c_X2_give (a := a) hT hk_a e_S5) mw_X2_give in_5_74 hk_a (by decide) rfl rfl rfl ⟨rfl, rfl⟩ ⟨Nat.le_of_ble_eq_true rfl, Nat.le_of_ble_eq_true rfl⟩ ⟨Nat.zero_le _, Nat.zero_le _⟩ hl.1 (Nat.le_of_ble_eq_true rfl) dX2_giveVar_15 (fun H locs hH hS => ?_)
  exact r_vret X hr hH hS hm dX2_giveVar_18
def rm_X3_elseSlot : Room := { frames := 1, cells := 0, slots := 0, locals := 21 }
def f_X3_elseSlot (a : Nat) (S : m_M) (i1 : Int32) : Option (Int32 × m_M) :=
    m_call (f_X3_argumentCount a S i1) fun v2 S1 =>
    some ((v2 + (1 : Int32)), S1)
set_option maxHeartbeats 4000000 in
set_option maxRecDepth 100000 in
theorem c_X3_elseSlot {l : Launch} {G : m_G} {nx : Nat} {κ : Nat → Nat} {a : Nat} {S : m_M} {i1 : Int32} {res : (Int32 × m_M)} (hT : m_Str κ) (hk_a : κ a = 4) (hm : f_X3_elseSlot a S i1 = some res) : m_Ci l yX3_elseSlot cX3_elseSlot 2 (some .int) rm_X3_elseSlot G nx κ [.ref a, .int i1] S res := by
  refine m_Ci.of (by decide) (Nat.le_of_ble_eq_true rfl) ?_
  intro p e s m args below meth c ls X hr hH hl
  have hx := X.1.1
  have hb := X.1.2.1
  have hS : m_S G s s.heap [] := va_S.rf
  have hl : lv_has ls 2 [(0, .ref a), (1, .int i1)] := hl
  rw [f_X3_elseSlot] at hm
  refine lv_aload_n hx hb dX3_elseSlot_0 rfl (lv_at hl 0 rfl) ?_
  refine lv_iload_n hx hb dX3_elseSlot_1 rfl (lv_at hl 1 rfl) ?_
  obtain ⟨v2, S1, e_S1, hm⟩ := m_call_of hm
  refine n_cVi X hH hS (k := 3) (c_X3_argumentCount (a := a) hT hk_a e_S1) mw_X3_argumentCount in_4_67 hk_a (by decide) rfl rfl rfl ⟨rfl, rfl⟩ ⟨Nat.le_of_ble_eq_true rfl, Nat.le_of_ble_eq_true rfl⟩ ⟨Nat.zero_le _, Nat.zero_le _⟩ hl.1 (Nat.le_of_ble_eq_true rfl) dX3_elseSlot_2 (fun H locs hH hS => ?_)
  refine lv_iconst (v := (1 : Int32)) hx hb dX3_elseSlot_5 (by decide) ?_
  refine lv_iadd hx hb dX3_elseSlot_6 ?_
  exact r_iret X hr hH hS hm dX3_elseSlot_7
def rm_X2_work : Room := { frames := 3, cells := 0, slots := 0, locals := 86 }
def b_X2_work_261 (a o1 : Nat)  (S : m_M)  : Option m_M :=
    some S
set_option maxHeartbeats 4000000 in
set_option maxRecDepth 100000 in
theorem k_X2_work_261 {p : Program} {l : Launch} {e : Env} {s : State} {m : MethodId} {args : Array Value} {below : List Frame} {meth : Method} {c : Code} {G : m_G} {nx : Nat} {κ : Nat → Nat} {res : m_M} {a o1 : Nat} (X : m_Cx p s m args meth c cX2_work 4 RX2 G) (hr : meth.sig.returnType = none) (hT : m_Str κ) (hk_a : κ a = 3) (hk_o1 : κ o1 = 4)  : ∀ (S : m_M)  (H : Heap) (locs : List Loc) (ls : Array Slot), m_H G nx κ S H → m_S G s H locs → lv_has ls 4 [] → b_X2_work_261 a o1 S  = some res → W p l e rm_X2_work s m args below meth c H locs 0 0 (m_Qv below args s G nx κ res) (F0 m 261 ls []) := by
  have hx := X.1.1
  have hb := X.1.2.1
  intro S H locs ls hH hS hl hm
  rw [b_X2_work_261] at hm
  exact r_vret X hr hH hS hm dX2_work_261
def b_X2_work_210 (a o1 : Nat)  (S : m_M) (t1 : Int32) (t2 : Int32) : Option m_M :=
    m_cal0 (f_X2_give a S t1 t2) fun S1 =>
    b_X2_work_261 a o1 S1
set_option maxHeartbeats 4000000 in
set_option maxRecDepth 100000 in
theorem k_X2_work_210 {p : Program} {l : Launch} {e : Env} {s : State} {m : MethodId} {args : Array Value} {below : List Frame} {meth : Method} {c : Code} {G : m_G} {nx : Nat} {κ : Nat → Nat} {res : m_M} {a o1 : Nat} (X : m_Cx p s m args meth c cX2_work 4 RX2 G) (hr : meth.sig.returnType = none) (hT : m_Str κ) (hk_a : κ a = 3) (hk_o1 : κ o1 = 4)  : ∀ (S : m_M) (t1 : Int32) (t2 : Int32) (H : Heap) (locs : List Loc) (ls : Array Slot), m_H G nx κ S H → m_S G s H locs → lv_has ls 4 [] → b_X2_work_210 a o1 S t1 t2 = some res → W p l e rm_X2_work s m args below meth c H locs 0 0 (m_Qv below args s G nx κ res) (F0 m 210 ls [.int t2, .int t1, .ref a]) := by
  have hx := X.1.1
  have hb := X.1.2.1
  intro S t1 t2 H locs ls hH hS hl hm
  rw [b_X2_work_210] at hm
  obtain ⟨S1, e_S1, hm⟩ := m_cal0_of hm
  refine r_cVv X hH hS (k := 2) (c_X2_give (a := a) hT hk_a e_S1) mw_X2_give in_5_74 hk_a (by decide) rfl rfl rfl ⟨rfl, rfl⟩ ⟨Nat.le_of_ble_eq_true rfl, Nat.le_of_ble_eq_true rfl⟩ ⟨Nat.zero_le _, Nat.zero_le _⟩ hl.1 (Nat.le_of_ble_eq_true rfl) dX2_work_210 (fun H locs hH hS => ?_)
  refine lv_goto (tgt := 261) hx hb dX2_work_213 (by decide) ?_
  exact k_X2_work_261 (a := a) (o1 := o1) X hr hT hk_a hk_o1   S1 _ _ _ hH hS hl hm
def b_X2_work_234 (a o1 : Nat)  (S : m_M) (t2 : Int32) (t3 : Int32) : Option m_M :=
    m_cal0 (f_X2_giveVar a o1 S t2 t3) fun S1 =>
    b_X2_work_261 a o1 S1
set_option maxHeartbeats 4000000 in
set_option maxRecDepth 100000 in
theorem k_X2_work_234 {p : Program} {l : Launch} {e : Env} {s : State} {m : MethodId} {args : Array Value} {below : List Frame} {meth : Method} {c : Code} {G : m_G} {nx : Nat} {κ : Nat → Nat} {res : m_M} {a o1 : Nat} (X : m_Cx p s m args meth c cX2_work 4 RX2 G) (hr : meth.sig.returnType = none) (hT : m_Str κ) (hk_a : κ a = 3) (hk_o1 : κ o1 = 4)  : ∀ (S : m_M) (t2 : Int32) (t3 : Int32) (H : Heap) (locs : List Loc) (ls : Array Slot), m_H G nx κ S H → m_S G s H locs → lv_has ls 4 [] → b_X2_work_234 a o1 S t2 t3 = some res → W p l e rm_X2_work s m args below meth c H locs 0 0 (m_Qv below args s G nx κ res) (F0 m 234 ls [.int t3, .int t2, .ref o1, .ref a]) := by
  have hx := X.1.1
  have hb := X.1.2.1
  intro S t2 t3 H locs ls hH hS hl hm
  rw [b_X2_work_234] at hm
  obtain ⟨S1, e_S1, hm⟩ := m_cal0_of hm
  refine r_cVv X hH hS (k := 2) (c_X2_giveVar (a := a) (o1 := o1) hT hk_a hk_o1 e_S1) mw_X2_giveVar in_5_97 hk_a (by decide) rfl rfl rfl ⟨rfl, rfl⟩ ⟨Nat.le_of_ble_eq_true rfl, Nat.le_of_ble_eq_true rfl⟩ ⟨Nat.zero_le _, Nat.zero_le _⟩ hl.1 (Nat.le_of_ble_eq_true rfl) dX2_work_234 (fun H locs hH hS => ?_)
  refine lv_goto (tgt := 261) hx hb dX2_work_237 (by decide) ?_
  exact k_X2_work_261 (a := a) (o1 := o1) X hr hT hk_a hk_o1   S1 _ _ _ hH hS hl hm
def b_X2_work_254 (a o1 : Nat)  (S : m_M) (l3 : Int32) : Option m_M :=
    m_cal0 (f_X2_giveVar a o1 S l3 (0 : Int32)) fun S1 =>
    b_X2_work_261 a o1 S1
set_option maxHeartbeats 4000000 in
set_option maxRecDepth 100000 in
theorem k_X2_work_254 {p : Program} {l : Launch} {e : Env} {s : State} {m : MethodId} {args : Array Value} {below : List Frame} {meth : Method} {c : Code} {G : m_G} {nx : Nat} {κ : Nat → Nat} {res : m_M} {a o1 : Nat} (X : m_Cx p s m args meth c cX2_work 4 RX2 G) (hr : meth.sig.returnType = none) (hT : m_Str κ) (hk_a : κ a = 3) (hk_o1 : κ o1 = 4)  : ∀ (S : m_M) (l3 : Int32) (H : Heap) (locs : List Loc) (ls : Array Slot), m_H G nx κ S H → m_S G s H locs → lv_has ls 4 [(0, .ref a), (1, .ref o1), (3, .int l3)] → b_X2_work_254 a o1 S l3 = some res → W p l e rm_X2_work s m args below meth c H locs 0 0 (m_Qv below args s G nx κ res) (F0 m 254 ls []) := by
  have hx := X.1.1
  have hb := X.1.2.1
  intro S l3 H locs ls hH hS hl hm
  rw [b_X2_work_254] at hm
  refine lv_aload_n hx hb dX2_work_254 rfl (lv_at hl 0 rfl) ?_
  refine lv_aload_n hx hb dX2_work_255 rfl (lv_at hl 1 rfl) ?_
  refine lv_iload_n hx hb dX2_work_256 rfl (lv_at hl 2 rfl) ?_
  refine lv_iconst (v := (0 : Int32)) hx hb dX2_work_257 (by decide) ?_
  obtain ⟨S1, e_S1, hm⟩ := m_cal0_of hm
  refine r_cVv X hH hS (k := 2) (c_X2_giveVar (a := a) (o1 := o1) hT hk_a hk_o1 e_S1) mw_X2_giveVar in_5_97 hk_a (by decide) rfl rfl rfl ⟨rfl, rfl⟩ ⟨Nat.le_of_ble_eq_true rfl, Nat.le_of_ble_eq_true rfl⟩ ⟨Nat.zero_le _, Nat.zero_le _⟩ hl.1 (Nat.le_of_ble_eq_true rfl) dX2_work_258 (fun H locs hH hS => ?_)
  exact k_X2_work_261 (a := a) (o1 := o1) X hr hT hk_a hk_o1   S1 _ _ _ hH hS (lv_sub hl [] rfl) hm
def f_X2_work (a o1 : Nat) (S : m_M) (i2 : Int32) (i3 : Int32) : Option m_M :=
    (m_ldi S (o1 + 5) 24 i3).bind fun v1 =>
    if v1 = (2 : Int32) then (
    m_call (f_X2_layCell a o1 S i2 i3) fun v4 S3 =>
    m_cal0 (f_X2_give a S3 (2 : Int32) v4) fun S5 =>
    b_X2_work_261 a o1 S5) else (
    if v1 = (3 : Int32) then (
    m_call (f_X2_valueAt a o1 S i3 (0 : Int32)) fun v8 S7 =>
    m_cal0 (f_X2_giveSide a S7 v8 (0 : Int32)) fun S9 =>
    b_X2_work_261 a o1 S9) else (
    if v1 = (4 : Int32) then (
    m_call (f_X2_valueAt a o1 S i3 (0 : Int32)) fun v12 S11 =>
    m_cal0 (f_X2_giveSide a S11 v12 (1 : Int32)) fun S13 =>
    b_X2_work_261 a o1 S13) else (
    if v1 = (5 : Int32) then (
    m_call (f_X2_valueAt a o1 S i3 (0 : Int32)) fun v16 S15 =>
    m_call (f_X2_valueAt a o1 S15 i3 (1 : Int32)) fun v18 S17 =>
    m_cal0 (f_X2_give a S17 (1 : Int32) (v16 + v18)) fun S19 =>
    b_X2_work_261 a o1 S19) else (
    if v1 = (6 : Int32) then (
    m_call (f_X2_valueAt a o1 S i3 (0 : Int32)) fun v22 S21 =>
    m_call (f_X2_valueAt a o1 S21 i3 (1 : Int32)) fun v24 S23 =>
    if v24 ≤ v22 then (
    b_X2_work_210 a o1 S23 (1 : Int32) (0 : Int32)) else (
    b_X2_work_210 a o1 S23 (1 : Int32) (1 : Int32))) else (
    if v1 = (7 : Int32) then (
    m_call (f_X2_valueAt a o1 S i3 (0 : Int32)) fun v28 S27 =>
    if v28 = 0 then (
    b_X2_work_234 a o1 S27 i3 (2 : Int32)) else (
    b_X2_work_234 a o1 S27 i3 (1 : Int32))) else (
    if v1 = (8 : Int32) then (
    b_X2_work_254 a o1 S i3) else (
    if v1 = (9 : Int32) then (
    m_call (f_X3_elseSlot o1 S i3) fun v33 S32 =>
    m_cal0 (f_X2_giveVar a o1 S32 i3 v33) fun S34 =>
    b_X2_work_261 a o1 S34) else (
    if v1 = (10 : Int32) then (
    b_X2_work_254 a o1 S i3) else (
    if v1 = (11 : Int32) then (
    b_X2_work_254 a o1 S i3) else (
    if v1 = (12 : Int32) then (
    b_X2_work_254 a o1 S i3) else (
    if v1 = (13 : Int32) then (
    b_X2_work_254 a o1 S i3) else (
    if v1 = (14 : Int32) then (
    b_X2_work_254 a o1 S i3) else (
    if v1 = (15 : Int32) then (
    b_X2_work_254 a o1 S i3) else (
    if v1 = (16 : Int32) then (
    b_X2_work_254 a o1 S i3) else (
    if v1 = (17 : Int32) then (
    b_X2_work_254 a o1 S i3) else (
    if v1 = (18 : Int32) then (
    b_X2_work_254 a o1 S i3) else (
    if v1 = (19 : Int32) then (
    b_X2_work_254 a o1 S i3) else (
    if v1 = (20 : Int32) then (
    b_X2_work_254 a o1 S i3) else (
    if v1 = (21 : Int32) then (
    b_X2_work_254 a o1 S i3) else (
    if v1 = (22 : Int32) then (
    m_call (f_X3_operandAt o1 S i3 (0 : Int32)) fun v49 S48 =>
    m_cal0 (f_X2_give a S48 (1 : Int32) v49) fun S50 =>
    b_X2_work_261 a o1 S50) else (
    b_X2_work_254 a o1 S i3)))))))))))))))))))))
set_option maxHeartbeats 4000000 in
set_option maxRecDepth 100000 in
theorem c_X2_work {l : Launch} {G : m_G} {nx : Nat} {κ : Nat → Nat} {a o1 : Nat} {S : m_M} {i2 : Int32} {i3 : Int32} {res : m_M} (hT : m_Str κ) (hk_a : κ a = 3) (hk_o1 : κ o1 = 4) (hm : f_X2_work a o1 S i2 i3 = some res) : m_Cv l yX2_work cX2_work 4 rm_X2_work G nx κ [.ref a, .ref o1, .int i2, .int i3] S res := by
  refine m_Cv.of (by decide) (Nat.le_of_ble_eq_true rfl) ?_
  intro p e s m args below meth c ls X hr hH hl
  have hx := X.1.1
  have hb := X.1.2.1
  have hS : m_S G s s.heap [] := va_S.rf
  have hl : lv_has ls 4 [(0, .ref a), (1, .ref o1), (2, .int i2), (3, .int i3)] := hl
  rw [f_X2_work] at hm
  refine lv_aload_n hx hb dX2_work_0 rfl (lv_at hl 1 rfl) ?_
  refine r_getp X hH (k := 3) (a := o1) (j := 6) (b := (o1 + 5)) (A := 5) (B := 0) hk_o1 (by decide) rfl m_wi3 (by decide) in_1_153 rfl rfl rfl dX2_work_1 ?_
  refine lv_iload_n hx hb dX2_work_4 rfl (lv_at hl 3 rfl) ?_
  obtain ⟨v1, h_v1, e_v1, hm⟩ := n_ldi hm
  refine n_iald X hH (n := 24) (m_lay_at hT hk_o1 (by decide) (i := 5) rfl) h_v1 e_v1 dX2_work_5 ?_
  by_cases c2 : v1 = (2 : Int32)
  · have hm := m_ite_t hm c2
    refine lv_tableIn (off := 112) (tgt := 118) hx hb dX2_work_6 (by rw [c2]; decide) (by rw [c2]; decide) (by rw [c2]; rfl) (by decide) ?_
    refine lv_aload_n hx hb dX2_work_118 rfl (lv_at hl 0 rfl) ?_
    refine lv_iconst (v := (2 : Int32)) hx hb dX2_work_119 (by decide) ?_
    refine lv_aload_n hx hb dX2_work_120 rfl (lv_at hl 0 rfl) ?_
    refine lv_aload_n hx hb dX2_work_121 rfl (lv_at hl 1 rfl) ?_
    refine lv_iload_n hx hb dX2_work_122 rfl (lv_at hl 2 rfl) ?_
    refine lv_iload_n hx hb dX2_work_123 rfl (lv_at hl 3 rfl) ?_
    obtain ⟨v4, S3, e_S3, hm⟩ := m_call_of hm
    refine n_cVi X hH hS (k := 2) (c_X2_layCell (a := a) (o1 := o1) hT hk_a hk_o1 e_S3) mw_X2_layCell in_5_78 hk_a (by decide) rfl rfl rfl ⟨rfl, rfl⟩ ⟨Nat.le_of_ble_eq_true rfl, Nat.le_of_ble_eq_true rfl⟩ ⟨Nat.zero_le _, Nat.zero_le _⟩ hl.1 (Nat.le_of_ble_eq_true rfl) dX2_work_124 (fun H locs hH hS => ?_)
    obtain ⟨S5, e_S5, hm⟩ := m_cal0_of hm
    refine r_cVv X hH hS (k := 2) (c_X2_give (a := a) hT hk_a e_S5) mw_X2_give in_5_74 hk_a (by decide) rfl rfl rfl ⟨rfl, rfl⟩ ⟨Nat.le_of_ble_eq_true rfl, Nat.le_of_ble_eq_true rfl⟩ ⟨Nat.zero_le _, Nat.zero_le _⟩ hl.1 (Nat.le_of_ble_eq_true rfl) dX2_work_127 (fun H locs hH hS => ?_)
    refine lv_goto (tgt := 261) hx hb dX2_work_130 (by decide) ?_
    exact k_X2_work_261 (a := a) (o1 := o1) X hr hT hk_a hk_o1   S5 _ _ _ hH hS (lv_sub hl [] rfl) hm
  · have hm := m_ite_f hm c2
    by_cases c6 : v1 = (3 : Int32)
    · have hm := m_ite_t hm c6
      refine lv_tableIn (off := 127) (tgt := 133) hx hb dX2_work_6 (by rw [c6]; decide) (by rw [c6]; decide) (by rw [c6]; rfl) (by decide) ?_
      refine lv_aload_n hx hb dX2_work_133 rfl (lv_at hl 0 rfl) ?_
      refine lv_aload_n hx hb dX2_work_134 rfl (lv_at hl 0 rfl) ?_
      refine lv_aload_n hx hb dX2_work_135 rfl (lv_at hl 1 rfl) ?_
      refine lv_iload_n hx hb dX2_work_136 rfl (lv_at hl 3 rfl) ?_
      refine lv_iconst (v := (0 : Int32)) hx hb dX2_work_137 (by decide) ?_
      obtain ⟨v8, S7, e_S7, hm⟩ := m_call_of hm
      refine n_cVi X hH hS (k := 2) (c_X2_valueAt (a := a) (o1 := o1) hT hk_a hk_o1 e_S7) mw_X2_valueAt in_5_53 hk_a (by decide) rfl rfl rfl ⟨rfl, rfl⟩ ⟨Nat.le_of_ble_eq_true rfl, Nat.le_of_ble_eq_true rfl⟩ ⟨Nat.zero_le _, Nat.zero_le _⟩ hl.1 (Nat.le_of_ble_eq_true rfl) dX2_work_138 (fun H locs hH hS => ?_)
      refine lv_iconst (v := (0 : Int32)) hx hb dX2_work_141 (by decide) ?_
      obtain ⟨S9, e_S9, hm⟩ := m_cal0_of hm
      refine r_cVv X hH hS (k := 2) (c_X2_giveSide (a := a) hT hk_a e_S9) mw_X2_giveSide in_5_93 hk_a (by decide) rfl rfl rfl ⟨rfl, rfl⟩ ⟨Nat.le_of_ble_eq_true rfl, Nat.le_of_ble_eq_true rfl⟩ ⟨Nat.zero_le _, Nat.zero_le _⟩ hl.1 (Nat.le_of_ble_eq_true rfl) dX2_work_142 (fun H locs hH hS => ?_)
      refine lv_goto (tgt := 261) hx hb dX2_work_145 (by decide) ?_
      exact k_X2_work_261 (a := a) (o1 := o1) X hr hT hk_a hk_o1   S9 _ _ _ hH hS (lv_sub hl [] rfl) hm
    · have hm := m_ite_f hm c6
      by_cases c10 : v1 = (4 : Int32)
      · have hm := m_ite_t hm c10
        refine lv_tableIn (off := 142) (tgt := 148) hx hb dX2_work_6 (by rw [c10]; decide) (by rw [c10]; decide) (by rw [c10]; rfl) (by decide) ?_
        refine lv_aload_n hx hb dX2_work_148 rfl (lv_at hl 0 rfl) ?_
        refine lv_aload_n hx hb dX2_work_149 rfl (lv_at hl 0 rfl) ?_
        refine lv_aload_n hx hb dX2_work_150 rfl (lv_at hl 1 rfl) ?_
        refine lv_iload_n hx hb dX2_work_151 rfl (lv_at hl 3 rfl) ?_
        refine lv_iconst (v := (0 : Int32)) hx hb dX2_work_152 (by decide) ?_
        obtain ⟨v12, S11, e_S11, hm⟩ := m_call_of hm
        refine n_cVi X hH hS (k := 2) (c_X2_valueAt (a := a) (o1 := o1) hT hk_a hk_o1 e_S11) mw_X2_valueAt in_5_53 hk_a (by decide) rfl rfl rfl ⟨rfl, rfl⟩ ⟨Nat.le_of_ble_eq_true rfl, Nat.le_of_ble_eq_true rfl⟩ ⟨Nat.zero_le _, Nat.zero_le _⟩ hl.1 (Nat.le_of_ble_eq_true rfl) dX2_work_153 (fun H locs hH hS => ?_)
        refine lv_iconst (v := (1 : Int32)) hx hb dX2_work_156 (by decide) ?_
        obtain ⟨S13, e_S13, hm⟩ := m_cal0_of hm
        refine r_cVv X hH hS (k := 2) (c_X2_giveSide (a := a) hT hk_a e_S13) mw_X2_giveSide in_5_93 hk_a (by decide) rfl rfl rfl ⟨rfl, rfl⟩ ⟨Nat.le_of_ble_eq_true rfl, Nat.le_of_ble_eq_true rfl⟩ ⟨Nat.zero_le _, Nat.zero_le _⟩ hl.1 (Nat.le_of_ble_eq_true rfl) dX2_work_157 (fun H locs hH hS => ?_)
        refine lv_goto (tgt := 261) hx hb dX2_work_160 (by decide) ?_
        exact k_X2_work_261 (a := a) (o1 := o1) X hr hT hk_a hk_o1   S13 _ _ _ hH hS (lv_sub hl [] rfl) hm
      · have hm := m_ite_f hm c10
        by_cases c14 : v1 = (5 : Int32)
        · have hm := m_ite_t hm c14
          refine lv_tableIn (off := 157) (tgt := 163) hx hb dX2_work_6 (by rw [c14]; decide) (by rw [c14]; decide) (by rw [c14]; rfl) (by decide) ?_
          refine lv_aload_n hx hb dX2_work_163 rfl (lv_at hl 0 rfl) ?_
          refine lv_iconst (v := (1 : Int32)) hx hb dX2_work_164 (by decide) ?_
          refine lv_aload_n hx hb dX2_work_165 rfl (lv_at hl 0 rfl) ?_
          refine lv_aload_n hx hb dX2_work_166 rfl (lv_at hl 1 rfl) ?_
          refine lv_iload_n hx hb dX2_work_167 rfl (lv_at hl 3 rfl) ?_
          refine lv_iconst (v := (0 : Int32)) hx hb dX2_work_168 (by decide) ?_
          obtain ⟨v16, S15, e_S15, hm⟩ := m_call_of hm
          refine n_cVi X hH hS (k := 2) (c_X2_valueAt (a := a) (o1 := o1) hT hk_a hk_o1 e_S15) mw_X2_valueAt in_5_53 hk_a (by decide) rfl rfl rfl ⟨rfl, rfl⟩ ⟨Nat.le_of_ble_eq_true rfl, Nat.le_of_ble_eq_true rfl⟩ ⟨Nat.zero_le _, Nat.zero_le _⟩ hl.1 (Nat.le_of_ble_eq_true rfl) dX2_work_169 (fun H locs hH hS => ?_)
          refine lv_aload_n hx hb dX2_work_172 rfl (lv_at hl 0 rfl) ?_
          refine lv_aload_n hx hb dX2_work_173 rfl (lv_at hl 1 rfl) ?_
          refine lv_iload_n hx hb dX2_work_174 rfl (lv_at hl 3 rfl) ?_
          refine lv_iconst (v := (1 : Int32)) hx hb dX2_work_175 (by decide) ?_
          obtain ⟨v18, S17, e_S17, hm⟩ := m_call_of hm
          refine n_cVi X hH hS (k := 2) (c_X2_valueAt (a := a) (o1 := o1) hT hk_a hk_o1 e_S17) mw_X2_valueAt in_5_53 hk_a (by decide) rfl rfl rfl ⟨rfl, rfl⟩ ⟨Nat.le_of_ble_eq_true rfl, Nat.le_of_ble_eq_true rfl⟩ ⟨Nat.zero_le _, Nat.zero_le _⟩ hl.1 (Nat.le_of_ble_eq_true rfl) dX2_work_176 (fun H locs hH hS => ?_)
          refine lv_iadd hx hb dX2_work_179 ?_
          obtain ⟨S19, e_S19, hm⟩ := m_cal0_of hm
          refine r_cVv X hH hS (k := 2) (c_X2_give (a := a) hT hk_a e_S19) mw_X2_give in_5_74 hk_a (by decide) rfl rfl rfl ⟨rfl, rfl⟩ ⟨Nat.le_of_ble_eq_true rfl, Nat.le_of_ble_eq_true rfl⟩ ⟨Nat.zero_le _, Nat.zero_le _⟩ hl.1 (Nat.le_of_ble_eq_true rfl) dX2_work_180 (fun H locs hH hS => ?_)
          refine lv_goto (tgt := 261) hx hb dX2_work_183 (by decide) ?_
          exact k_X2_work_261 (a := a) (o1 := o1) X hr hT hk_a hk_o1   S19 _ _ _ hH hS (lv_sub hl [] rfl) hm
        · have hm := m_ite_f hm c14
          by_cases c20 : v1 = (6 : Int32)
          · have hm := m_ite_t hm c20
            refine lv_tableIn (off := 180) (tgt := 186) hx hb dX2_work_6 (by rw [c20]; decide) (by rw [c20]; decide) (by rw [c20]; rfl) (by decide) ?_
            refine lv_aload_n hx hb dX2_work_186 rfl (lv_at hl 0 rfl) ?_
            refine lv_iconst (v := (1 : Int32)) hx hb dX2_work_187 (by decide) ?_
            refine lv_aload_n hx hb dX2_work_188 rfl (lv_at hl 0 rfl) ?_
            refine lv_aload_n hx hb dX2_work_189 rfl (lv_at hl 1 rfl) ?_
            refine lv_iload_n hx hb dX2_work_190 rfl (lv_at hl 3 rfl) ?_
            refine lv_iconst (v := (0 : Int32)) hx hb dX2_work_191 (by decide) ?_
            obtain ⟨v22, S21, e_S21, hm⟩ := m_call_of hm
            refine n_cVi X hH hS (k := 2) (c_X2_valueAt (a := a) (o1 := o1) hT hk_a hk_o1 e_S21) mw_X2_valueAt in_5_53 hk_a (by decide) rfl rfl rfl ⟨rfl, rfl⟩ ⟨Nat.le_of_ble_eq_true rfl, Nat.le_of_ble_eq_true rfl⟩ ⟨Nat.zero_le _, Nat.zero_le _⟩ hl.1 (Nat.le_of_ble_eq_true rfl) dX2_work_192 (fun H locs hH hS => ?_)
            refine lv_aload_n hx hb dX2_work_195 rfl (lv_at hl 0 rfl) ?_
            refine lv_aload_n hx hb dX2_work_196 rfl (lv_at hl 1 rfl) ?_
            refine lv_iload_n hx hb dX2_work_197 rfl (lv_at hl 3 rfl) ?_
            refine lv_iconst (v := (1 : Int32)) hx hb dX2_work_198 (by decide) ?_
            obtain ⟨v24, S23, e_S23, hm⟩ := m_call_of hm
            refine n_cVi X hH hS (k := 2) (c_X2_valueAt (a := a) (o1 := o1) hT hk_a hk_o1 e_S23) mw_X2_valueAt in_5_53 hk_a (by decide) rfl rfl rfl ⟨rfl, rfl⟩ ⟨Nat.le_of_ble_eq_true rfl, Nat.le_of_ble_eq_true rfl⟩ ⟨Nat.zero_le _, Nat.zero_le _⟩ hl.1 (Nat.le_of_ble_eq_true rfl) dX2_work_199 (fun H locs hH hS => ?_)
            refine lv_icmp_ge (tgt := 209) hx hb dX2_work_202 (by decide) (fun c25 => ?_) (fun c25 => ?_)
            · have hm := m_ite_t hm c25
              refine lv_iconst (v := (0 : Int32)) hx hb dX2_work_209 (by decide) ?_
              exact k_X2_work_210 (a := a) (o1 := o1) X hr hT hk_a hk_o1   S23 (1 : Int32) (0 : Int32) _ _ _ hH hS (lv_sub hl [] rfl) hm
            · have hm := m_ite_f hm c25
              refine lv_iconst (v := (1 : Int32)) hx hb dX2_work_205 (by decide) ?_
              refine lv_goto (tgt := 210) hx hb dX2_work_206 (by decide) ?_
              exact k_X2_work_210 (a := a) (o1 := o1) X hr hT hk_a hk_o1   S23 (1 : Int32) (1 : Int32) _ _ _ hH hS (lv_sub hl [] rfl) hm
          · have hm := m_ite_f hm c20
            by_cases c26 : v1 = (7 : Int32)
            · have hm := m_ite_t hm c26
              refine lv_tableIn (off := 210) (tgt := 216) hx hb dX2_work_6 (by rw [c26]; decide) (by rw [c26]; decide) (by rw [c26]; rfl) (by decide) ?_
              refine lv_aload_n hx hb dX2_work_216 rfl (lv_at hl 0 rfl) ?_
              refine lv_aload_n hx hb dX2_work_217 rfl (lv_at hl 1 rfl) ?_
              refine lv_iload_n hx hb dX2_work_218 rfl (lv_at hl 3 rfl) ?_
              refine lv_aload_n hx hb dX2_work_219 rfl (lv_at hl 0 rfl) ?_
              refine lv_aload_n hx hb dX2_work_220 rfl (lv_at hl 1 rfl) ?_
              refine lv_iload_n hx hb dX2_work_221 rfl (lv_at hl 3 rfl) ?_
              refine lv_iconst (v := (0 : Int32)) hx hb dX2_work_222 (by decide) ?_
              obtain ⟨v28, S27, e_S27, hm⟩ := m_call_of hm
              refine n_cVi X hH hS (k := 2) (c_X2_valueAt (a := a) (o1 := o1) hT hk_a hk_o1 e_S27) mw_X2_valueAt in_5_53 hk_a (by decide) rfl rfl rfl ⟨rfl, rfl⟩ ⟨Nat.le_of_ble_eq_true rfl, Nat.le_of_ble_eq_true rfl⟩ ⟨Nat.zero_le _, Nat.zero_le _⟩ hl.1 (Nat.le_of_ble_eq_true rfl) dX2_work_223 (fun H locs hH hS => ?_)
              refine lv_if_eq (tgt := 233) hx hb dX2_work_226 (by decide) (fun c29 => ?_) (fun c29 => ?_)
              · have hm := m_ite_t hm c29
                refine lv_iconst (v := (2 : Int32)) hx hb dX2_work_233 (by decide) ?_
                exact k_X2_work_234 (a := a) (o1 := o1) X hr hT hk_a hk_o1   S27 i3 (2 : Int32) _ _ _ hH hS (lv_sub hl [] rfl) hm
              · have hm := m_ite_f hm c29
                refine lv_iconst (v := (1 : Int32)) hx hb dX2_work_229 (by decide) ?_
                refine lv_goto (tgt := 234) hx hb dX2_work_230 (by decide) ?_
                exact k_X2_work_234 (a := a) (o1 := o1) X hr hT hk_a hk_o1   S27 i3 (1 : Int32) _ _ _ hH hS (lv_sub hl [] rfl) hm
            · have hm := m_ite_f hm c26
              by_cases c30 : v1 = (8 : Int32)
              · have hm := m_ite_t hm c30
                refine lv_tableIn (off := 248) (tgt := 254) hx hb dX2_work_6 (by rw [c30]; decide) (by rw [c30]; decide) (by rw [c30]; rfl) (by decide) ?_
                exact k_X2_work_254 (a := a) (o1 := o1) X hr hT hk_a hk_o1   S i3 _ _ _ hH hS (lv_sub hl [0, 1, 3] rfl) hm
              · have hm := m_ite_f hm c30
                by_cases c31 : v1 = (9 : Int32)
                · have hm := m_ite_t hm c31
                  refine lv_tableIn (off := 234) (tgt := 240) hx hb dX2_work_6 (by rw [c31]; decide) (by rw [c31]; decide) (by rw [c31]; rfl) (by decide) ?_
                  refine lv_aload_n hx hb dX2_work_240 rfl (lv_at hl 0 rfl) ?_
                  refine lv_aload_n hx hb dX2_work_241 rfl (lv_at hl 1 rfl) ?_
                  refine lv_iload_n hx hb dX2_work_242 rfl (lv_at hl 3 rfl) ?_
                  refine lv_aload_n hx hb dX2_work_243 rfl (lv_at hl 1 rfl) ?_
                  refine lv_iload_n hx hb dX2_work_244 rfl (lv_at hl 3 rfl) ?_
                  obtain ⟨v33, S32, e_S32, hm⟩ := m_call_of hm
                  refine n_cVi X hH hS (k := 3) (c_X3_elseSlot (a := o1) hT hk_o1 e_S32) mw_X3_elseSlot in_5_101 hk_o1 (by decide) rfl rfl rfl ⟨rfl, rfl⟩ ⟨Nat.le_of_ble_eq_true rfl, Nat.le_of_ble_eq_true rfl⟩ ⟨Nat.zero_le _, Nat.zero_le _⟩ hl.1 (Nat.le_of_ble_eq_true rfl) dX2_work_245 (fun H locs hH hS => ?_)
                  obtain ⟨S34, e_S34, hm⟩ := m_cal0_of hm
                  refine r_cVv X hH hS (k := 2) (c_X2_giveVar (a := a) (o1 := o1) hT hk_a hk_o1 e_S34) mw_X2_giveVar in_5_97 hk_a (by decide) rfl rfl rfl ⟨rfl, rfl⟩ ⟨Nat.le_of_ble_eq_true rfl, Nat.le_of_ble_eq_true rfl⟩ ⟨Nat.zero_le _, Nat.zero_le _⟩ hl.1 (Nat.le_of_ble_eq_true rfl) dX2_work_248 (fun H locs hH hS => ?_)
                  refine lv_goto (tgt := 261) hx hb dX2_work_251 (by decide) ?_
                  exact k_X2_work_261 (a := a) (o1 := o1) X hr hT hk_a hk_o1   S34 _ _ _ hH hS (lv_sub hl [] rfl) hm
                · have hm := m_ite_f hm c31
                  by_cases c35 : v1 = (10 : Int32)
                  · have hm := m_ite_t hm c35
                    refine lv_tableIn (off := 248) (tgt := 254) hx hb dX2_work_6 (by rw [c35]; decide) (by rw [c35]; decide) (by rw [c35]; rfl) (by decide) ?_
                    exact k_X2_work_254 (a := a) (o1 := o1) X hr hT hk_a hk_o1   S i3 _ _ _ hH hS (lv_sub hl [0, 1, 3] rfl) hm
                  · have hm := m_ite_f hm c35
                    by_cases c36 : v1 = (11 : Int32)
                    · have hm := m_ite_t hm c36
                      refine lv_tableIn (off := 248) (tgt := 254) hx hb dX2_work_6 (by rw [c36]; decide) (by rw [c36]; decide) (by rw [c36]; rfl) (by decide) ?_
                      exact k_X2_work_254 (a := a) (o1 := o1) X hr hT hk_a hk_o1   S i3 _ _ _ hH hS (lv_sub hl [0, 1, 3] rfl) hm
                    · have hm := m_ite_f hm c36
                      by_cases c37 : v1 = (12 : Int32)
                      · have hm := m_ite_t hm c37
                        refine lv_tableIn (off := 248) (tgt := 254) hx hb dX2_work_6 (by rw [c37]; decide) (by rw [c37]; decide) (by rw [c37]; rfl) (by decide) ?_
                        exact k_X2_work_254 (a := a) (o1 := o1) X hr hT hk_a hk_o1   S i3 _ _ _ hH hS (lv_sub hl [0, 1, 3] rfl) hm
                      · have hm := m_ite_f hm c37
                        by_cases c38 : v1 = (13 : Int32)
                        · have hm := m_ite_t hm c38
                          refine lv_tableIn (off := 248) (tgt := 254) hx hb dX2_work_6 (by rw [c38]; decide) (by rw [c38]; decide) (by rw [c38]; rfl) (by decide) ?_
                          exact k_X2_work_254 (a := a) (o1 := o1) X hr hT hk_a hk_o1   S i3 _ _ _ hH hS (lv_sub hl [0, 1, 3] rfl) hm
                        · have hm := m_ite_f hm c38
                          by_cases c39 : v1 = (14 : Int32)
                          · have hm := m_ite_t hm c39
                            refine lv_tableIn (off := 248) (tgt := 254) hx hb dX2_work_6 (by rw [c39]; decide) (by rw [c39]; decide) (by rw [c39]; rfl) (by decide) ?_
                            exact k_X2_work_254 (a := a) (o1 := o1) X hr hT hk_a hk_o1   S i3 _ _ _ hH hS (lv_sub hl [0, 1, 3] rfl) hm
                          · have hm := m_ite_f hm c39
                            by_cases c40 : v1 = (15 : Int32)
                            · have hm := m_ite_t hm c40
                              refine lv_tableIn (off := 248) (tgt := 254) hx hb dX2_work_6 (by rw [c40]; decide) (by rw [c40]; decide) (by rw [c40]; rfl) (by decide) ?_
                              exact k_X2_work_254 (a := a) (o1 := o1) X hr hT hk_a hk_o1   S i3 _ _ _ hH hS (lv_sub hl [0, 1, 3] rfl) hm
                            · have hm := m_ite_f hm c40
                              by_cases c41 : v1 = (16 : Int32)
                              · have hm := m_ite_t hm c41
                                refine lv_tableIn (off := 248) (tgt := 254) hx hb dX2_work_6 (by rw [c41]; decide) (by rw [c41]; decide) (by rw [c41]; rfl) (by decide) ?_
                                exact k_X2_work_254 (a := a) (o1 := o1) X hr hT hk_a hk_o1   S i3 _ _ _ hH hS (lv_sub hl [0, 1, 3] rfl) hm
                              · have hm := m_ite_f hm c41
                                by_cases c42 : v1 = (17 : Int32)
                                · have hm := m_ite_t hm c42
                                  refine lv_tableIn (off := 248) (tgt := 254) hx hb dX2_work_6 (by rw [c42]; decide) (by rw [c42]; decide) (by rw [c42]; rfl) (by decide) ?_
                                  exact k_X2_work_254 (a := a) (o1 := o1) X hr hT hk_a hk_o1   S i3 _ _ _ hH hS (lv_sub hl [0, 1, 3] rfl) hm
                                · have hm := m_ite_f hm c42
                                  by_cases c43 : v1 = (18 : Int32)
                                  · have hm := m_ite_t hm c43
                                    refine lv_tableIn (off := 248) (tgt := 254) hx hb dX2_work_6 (by rw [c43]; decide) (by rw [c43]; decide) (by rw [c43]; rfl) (by decide) ?_
                                    exact k_X2_work_254 (a := a) (o1 := o1) X hr hT hk_a hk_o1   S i3 _ _ _ hH hS (lv_sub hl [0, 1, 3] rfl) hm
                                  · have hm := m_ite_f hm c43
                                    by_cases c44 : v1 = (19 : Int32)
                                    · have hm := m_ite_t hm c44
                                      refine lv_tableIn (off := 248) (tgt := 254) hx hb dX2_work_6 (by rw [c44]; decide) (by rw [c44]; decide) (by rw [c44]; rfl) (by decide) ?_
                                      exact k_X2_work_254 (a := a) (o1 := o1) X hr hT hk_a hk_o1   S i3 _ _ _ hH hS (lv_sub hl [0, 1, 3] rfl) hm
                                    · have hm := m_ite_f hm c44
                                      by_cases c45 : v1 = (20 : Int32)
                                      · have hm := m_ite_t hm c45
                                        refine lv_tableIn (off := 248) (tgt := 254) hx hb dX2_work_6 (by rw [c45]; decide) (by rw [c45]; decide) (by rw [c45]; rfl) (by decide) ?_
                                        exact k_X2_work_254 (a := a) (o1 := o1) X hr hT hk_a hk_o1   S i3 _ _ _ hH hS (lv_sub hl [0, 1, 3] rfl) hm
                                      · have hm := m_ite_f hm c45
                                        by_cases c46 : v1 = (21 : Int32)
                                        · have hm := m_ite_t hm c46
                                          refine lv_tableIn (off := 248) (tgt := 254) hx hb dX2_work_6 (by rw [c46]; decide) (by rw [c46]; decide) (by rw [c46]; rfl) (by decide) ?_
                                          exact k_X2_work_254 (a := a) (o1 := o1) X hr hT hk_a hk_o1   S i3 _ _ _ hH hS (lv_sub hl [0, 1, 3] rfl) hm
                                        · have hm := m_ite_f hm c46
                                          by_cases c47 : v1 = (22 : Int32)
                                          · have hm := m_ite_t hm c47
                                            refine lv_tableIn (off := 98) (tgt := 104) hx hb dX2_work_6 (by rw [c47]; decide) (by rw [c47]; decide) (by rw [c47]; rfl) (by decide) ?_
                                            refine lv_aload_n hx hb dX2_work_104 rfl (lv_at hl 0 rfl) ?_
                                            refine lv_iconst (v := (1 : Int32)) hx hb dX2_work_105 (by decide) ?_
                                            refine lv_aload_n hx hb dX2_work_106 rfl (lv_at hl 1 rfl) ?_
                                            refine lv_iload_n hx hb dX2_work_107 rfl (lv_at hl 3 rfl) ?_
                                            refine lv_iconst (v := (0 : Int32)) hx hb dX2_work_108 (by decide) ?_
                                            obtain ⟨v49, S48, e_S48, hm⟩ := m_call_of hm
                                            refine n_cVi X hH hS (k := 3) (c_X3_operandAt (a := o1) hT hk_o1 e_S48) mw_X3_operandAt in_5_40 hk_o1 (by decide) rfl rfl rfl ⟨rfl, rfl⟩ ⟨Nat.le_of_ble_eq_true rfl, Nat.le_of_ble_eq_true rfl⟩ ⟨Nat.zero_le _, Nat.zero_le _⟩ hl.1 (Nat.le_of_ble_eq_true rfl) dX2_work_109 (fun H locs hH hS => ?_)
                                            obtain ⟨S50, e_S50, hm⟩ := m_cal0_of hm
                                            refine r_cVv X hH hS (k := 2) (c_X2_give (a := a) hT hk_a e_S50) mw_X2_give in_5_74 hk_a (by decide) rfl rfl rfl ⟨rfl, rfl⟩ ⟨Nat.le_of_ble_eq_true rfl, Nat.le_of_ble_eq_true rfl⟩ ⟨Nat.zero_le _, Nat.zero_le _⟩ hl.1 (Nat.le_of_ble_eq_true rfl) dX2_work_112 (fun H locs hH hS => ?_)
                                            refine lv_goto (tgt := 261) hx hb dX2_work_115 (by decide) ?_
                                            exact k_X2_work_261 (a := a) (o1 := o1) X hr hT hk_a hk_o1   S50 _ _ _ hH hS (lv_sub hl [] rfl) hm
                                          · have hm := m_ite_f hm c47
                                            refine lv_tableOut (tgt := 254) hx hb dX2_work_6 (by have h_c2 := lv_neT (a := 2) c2 rfl; have h_c6 := lv_neT (a := 3) c6 rfl; have h_c10 := lv_neT (a := 4) c10 rfl; have h_c14 := lv_neT (a := 5) c14 rfl; have h_c20 := lv_neT (a := 6) c20 rfl; have h_c26 := lv_neT (a := 7) c26 rfl; have h_c30 := lv_neT (a := 8) c30 rfl; have h_c31 := lv_neT (a := 9) c31 rfl; have h_c35 := lv_neT (a := 10) c35 rfl; have h_c36 := lv_neT (a := 11) c36 rfl; have h_c37 := lv_neT (a := 12) c37 rfl; have h_c38 := lv_neT (a := 13) c38 rfl; have h_c39 := lv_neT (a := 14) c39 rfl; have h_c40 := lv_neT (a := 15) c40 rfl; have h_c41 := lv_neT (a := 16) c41 rfl; have h_c42 := lv_neT (a := 17) c42 rfl; have h_c43 := lv_neT (a := 18) c43 rfl; have h_c44 := lv_neT (a := 19) c44 rfl; have h_c45 := lv_neT (a := 20) c45 rfl; have h_c46 := lv_neT (a := 21) c46 rfl; have h_c47 := lv_neT (a := 22) c47 rfl; omega) (by decide) ?_
                                            exact k_X2_work_254 (a := a) (o1 := o1) X hr hT hk_a hk_o1   S i3 _ _ _ hH hS (lv_sub hl [0, 1, 3] rfl) hm
def rm_X2_freeRoom : Room := { frames := 1, cells := 0, slots := 0, locals := 60 }
def b_X2_freeRoom_68 (a : Nat) (K_11 : m_M → Int32 → Int32 → Option m_M) (S : m_M) (l1 : Int32) (l2 : Int32) : Option m_M :=
    m_let (l2 + (1 : Int32)) fun v1 =>
    K_11 S l1 v1
set_option maxHeartbeats 4000000 in
set_option maxRecDepth 100000 in
theorem k_X2_freeRoom_68 {p : Program} {l : Launch} {e : Env} {s : State} {m : MethodId} {args : Array Value} {below : List Frame} {meth : Method} {c : Code} {G : m_G} {nx : Nat} {κ : Nat → Nat} {res : m_M} {a : Nat} (X : m_Cx p s m args meth c cX2_freeRoom 3 RX2 G) (hr : meth.sig.returnType = none) (hT : m_Str κ) (hk_a : κ a = 3) (K_11 : m_M → Int32 → Int32 → Option m_M) (hK_11 : ∀ (S : m_M) (l1 : Int32) (l2 : Int32) (H : Heap) (locs : List Loc) (ls : Array Slot), m_H G nx κ S H → m_S G s H locs → lv_has ls 3 [(0, .ref a), (1, .int l1), (2, .int l2)] → K_11 S l1 l2 = some res → W p l e rm_X2_freeRoom s m args below meth c H locs 0 0 (m_Qv below args s G nx κ res) (F0 m 11 ls [])) : ∀ (S : m_M) (l1 : Int32) (l2 : Int32) (H : Heap) (locs : List Loc) (ls : Array Slot), m_H G nx κ S H → m_S G s H locs → lv_has ls 3 [(0, .ref a), (1, .int l1), (2, .int l2)] → b_X2_freeRoom_68 a K_11 S l1 l2 = some res → W p l e rm_X2_freeRoom s m args below meth c H locs 0 0 (m_Qv below args s G nx κ res) (F0 m 68 ls []) := by
  have hx := X.1.1
  have hb := X.1.2.1
  intro S l1 l2 H locs ls hH hS hl hm
  rw [b_X2_freeRoom_68] at hm
  obtain ⟨v1, e_v1, hm⟩ := m_let_of hm
  refine lv_iinc (v := v1) (lv' := [(2, .int v1), (0, .ref a), (1, .int l1)]) hx hb dX2_freeRoom_68 hl (k := 2) rfl (by rw [← e_v1]; rfl) (by decide) rfl (fun ls hl => ?_)
  refine lv_goto (tgt := 11) hx hb dX2_freeRoom_71 (by decide) ?_
  exact hK_11 S l1 v1 _ _ _ hH hS (lv_sub hl [1, 2, 0] rfl) hm
def b_X2_freeRoom_11 (a : Nat)  : Nat → m_M → Int32 → Int32 → Option m_M
  | 0, _, _, _ => none
  | n + 1, S, l1, l2 =>
    if (200 : Int32) ≤ l2 then (
    (m_cpi S (a + 5) 312 (a + 5) 312 (l1 + (1 : Int32)) l1 (((m_ri S a 3) - l1) - (1 : Int32))).bind fun S2 =>
    m_let (m_si S2 a 3 ((m_ri S2 a 3) - (1 : Int32))) fun S3 =>
    some S3) else (
    (m_ldi S (a + 6) 200 l2).bind fun v4 =>
    if v4 = l1 then (
    (m_sti S (a + 6) 200 l2 (-1 : Int32)).bind fun S10 =>
    m_let (m_si S10 a 4 ((m_ri S10 a 4) - (1 : Int32))) fun S11 =>
    b_X2_freeRoom_68 a (b_X2_freeRoom_11 a n) S11 l1 l2) else (
    (m_ldi S (a + 6) 200 l2).bind fun v6 =>
    if v6 ≤ l1 then (
    b_X2_freeRoom_68 a (b_X2_freeRoom_11 a n) S l1 l2) else (
    (m_ldi S (a + 6) 200 l2).bind fun v8 =>
    (m_sti S (a + 6) 200 l2 (v8 - (1 : Int32))).bind fun S9 =>
    b_X2_freeRoom_68 a (b_X2_freeRoom_11 a n) S9 l1 l2)))
set_option maxHeartbeats 4000000 in
set_option maxRecDepth 100000 in
theorem k_X2_freeRoom_11 {p : Program} {l : Launch} {e : Env} {s : State} {m : MethodId} {args : Array Value} {below : List Frame} {meth : Method} {c : Code} {G : m_G} {nx : Nat} {κ : Nat → Nat} {res : m_M} {a : Nat} (X : m_Cx p s m args meth c cX2_freeRoom 3 RX2 G) (hr : meth.sig.returnType = none) (hT : m_Str κ) (hk_a : κ a = 3)  (n : Nat) : ∀ (S : m_M) (l1 : Int32) (l2 : Int32) (H : Heap) (locs : List Loc) (ls : Array Slot), m_H G nx κ S H → m_S G s H locs → lv_has ls 3 [(0, .ref a), (1, .int l1), (2, .int l2)] → b_X2_freeRoom_11 a n S l1 l2 = some res → W p l e rm_X2_freeRoom s m args below meth c H locs 0 0 (m_Qv below args s G nx κ res) (F0 m 11 ls []) := by
  have hx := X.1.1
  have hb := X.1.2.1
  induction n with
  | zero => intro S l1 l2 H locs ls hH hS hl hm; have hm : (none : Option m_M) = some res := hm; cases hm
  | succ n ih =>
    intro S l1 l2 H locs ls hH hS hl hm
    rw [b_X2_freeRoom_11] at hm
    refine lv_iload_n hx hb dX2_freeRoom_11 rfl (lv_at hl 2 rfl) ?_
    refine lv_sipush (v := (200 : Int32)) hx hb dX2_freeRoom_12 (by decide) ?_
    refine lv_icmp_ge (tgt := 74) hx hb dX2_freeRoom_15 (by decide) (fun c1 => ?_) (fun c1 => ?_)
    · have hm := m_ite_t hm c1
      refine lv_aload_n hx hb dX2_freeRoom_74 rfl (lv_at hl 0 rfl) ?_
      refine r_getp X hH (k := 2) (a := a) (j := 16) (b := (a + 5)) (A := 5) (B := 0) hk_a (by decide) rfl m_wi2 (by decide) in_2_210 rfl rfl rfl dX2_freeRoom_75 ?_
      refine lv_iload_n hx hb dX2_freeRoom_78 rfl (lv_at hl 1 rfl) ?_
      refine lv_iconst (v := (1 : Int32)) hx hb dX2_freeRoom_79 (by decide) ?_
      refine lv_iadd hx hb dX2_freeRoom_80 ?_
      refine lv_aload_n hx hb dX2_freeRoom_81 rfl (lv_at hl 0 rfl) ?_
      refine r_getp X hH (k := 2) (a := a) (j := 16) (b := (a + 5)) (A := 5) (B := 0) hk_a (by decide) rfl m_wi2 (by decide) in_2_210 rfl rfl rfl dX2_freeRoom_82 ?_
      refine lv_iload_n hx hb dX2_freeRoom_85 rfl (lv_at hl 1 rfl) ?_
      refine lv_aload_n hx hb dX2_freeRoom_86 rfl (lv_at hl 0 rfl) ?_
      refine r_geti X hH (k := 2) (a := a) (j := 3) hk_a (by decide) rfl m_wi2 (by decide) in_2_183 rfl rfl dX2_freeRoom_87 ?_
      refine lv_iload_n hx hb dX2_freeRoom_90 rfl (lv_at hl 1 rfl) ?_
      refine lv_isub hx hb dX2_freeRoom_91 ?_
      refine lv_iconst (v := (1 : Int32)) hx hb dX2_freeRoom_92 (by decide) ?_
      refine lv_isub hx hb dX2_freeRoom_93 ?_
      obtain ⟨S2, e_S2, hm⟩ := m_bind_of hm
      refine n_cpi X hH hS hl.1 (n0 := 312) (n1 := 312) (m_lay_at hT hk_a (by decide) (i := 5) rfl) (m_lay_at hT hk_a (by decide) (i := 5) rfl) e_S2 in_4_237 in_4_150 in_4_149 in_1_21 (Nat.le_of_ble_eq_true rfl) (Nat.le_of_ble_eq_true rfl) dX2_freeRoom_94 (fun H locs hH hS => ?_)
      refine lv_aload_n hx hb dX2_freeRoom_97 rfl (lv_at hl 0 rfl) ?_
      refine lv_dup hx hb dX2_freeRoom_98 rfl ?_
      refine r_geti X hH (k := 2) (a := a) (j := 3) hk_a (by decide) rfl m_wi2 (by decide) in_2_183 rfl rfl dX2_freeRoom_99 ?_
      refine lv_iconst (v := (1 : Int32)) hx hb dX2_freeRoom_102 (by decide) ?_
      refine lv_isub hx hb dX2_freeRoom_103 ?_
      obtain ⟨S3, e_S3, hm⟩ := m_let_of hm
      refine n_puti X hH hS tyX2 (k := 2) (a := a) (j := 3) hk_a (by decide) rfl m_wi2 tyX2_ok nmX2 (by decide) in_2_183 rfl rfl rfl ⟨rfl, rfl⟩ e_S3 dX2_freeRoom_104 (fun H locs hH hS => ?_)
      exact r_vret X hr hH hS hm dX2_freeRoom_107
    · have hm := m_ite_f hm c1
      refine lv_aload_n hx hb dX2_freeRoom_18 rfl (lv_at hl 0 rfl) ?_
      refine r_getp X hH (k := 2) (a := a) (j := 17) (b := (a + 6)) (A := 6) (B := 0) hk_a (by decide) rfl m_wi2 (by decide) in_2_212 rfl rfl rfl dX2_freeRoom_19 ?_
      refine lv_iload_n hx hb dX2_freeRoom_22 rfl (lv_at hl 2 rfl) ?_
      obtain ⟨v4, h_v4, e_v4, hm⟩ := n_ldi hm
      refine n_iald X hH (n := 200) (m_lay_at hT hk_a (by decide) (i := 6) rfl) h_v4 e_v4 dX2_freeRoom_23 ?_
      refine lv_iload_n hx hb dX2_freeRoom_24 rfl (lv_at hl 1 rfl) ?_
      refine lv_icmp_ne (tgt := 48) hx hb dX2_freeRoom_25 (by decide) (fun c5 => ?_) (fun c5 => ?_)
      · have hm := m_ite_f hm c5
        refine lv_aload_n hx hb dX2_freeRoom_48 rfl (lv_at hl 0 rfl) ?_
        refine r_getp X hH (k := 2) (a := a) (j := 17) (b := (a + 6)) (A := 6) (B := 0) hk_a (by decide) rfl m_wi2 (by decide) in_2_212 rfl rfl rfl dX2_freeRoom_49 ?_
        refine lv_iload_n hx hb dX2_freeRoom_52 rfl (lv_at hl 2 rfl) ?_
        obtain ⟨v6, h_v6, e_v6, hm⟩ := n_ldi hm
        refine n_iald X hH (n := 200) (m_lay_at hT hk_a (by decide) (i := 6) rfl) h_v6 e_v6 dX2_freeRoom_53 ?_
        refine lv_iload_n hx hb dX2_freeRoom_54 rfl (lv_at hl 1 rfl) ?_
        refine lv_icmp_le (tgt := 68) hx hb dX2_freeRoom_55 (by decide) (fun c7 => ?_) (fun c7 => ?_)
        · have hm := m_ite_t hm c7
          exact k_X2_freeRoom_68 (a := a) X hr hT hk_a (b_X2_freeRoom_11 a n) ih  S l1 l2 _ _ _ hH hS hl hm
        · have hm := m_ite_f hm c7
          refine lv_aload_n hx hb dX2_freeRoom_58 rfl (lv_at hl 0 rfl) ?_
          refine r_getp X hH (k := 2) (a := a) (j := 17) (b := (a + 6)) (A := 6) (B := 0) hk_a (by decide) rfl m_wi2 (by decide) in_2_212 rfl rfl rfl dX2_freeRoom_59 ?_
          refine lv_iload_n hx hb dX2_freeRoom_62 rfl (lv_at hl 2 rfl) ?_
          refine lv_dup2_11 hx hb dX2_freeRoom_63 rfl rfl ?_
          obtain ⟨v8, h_v8, e_v8, hm⟩ := n_ldi hm
          refine n_iald X hH (n := 200) (m_lay_at hT hk_a (by decide) (i := 6) rfl) h_v8 e_v8 dX2_freeRoom_64 ?_
          refine lv_iconst (v := (1 : Int32)) hx hb dX2_freeRoom_65 (by decide) ?_
          refine lv_isub hx hb dX2_freeRoom_66 ?_
          obtain ⟨S9, h_S9, e_S9, hm⟩ := n_sti hm
          refine n_iast X hH hS (n := 200) (m_lay_at hT hk_a (by decide) (i := 6) rfl) h_S9 e_S9 dX2_freeRoom_67 (fun H locs hH hS => ?_)
          exact k_X2_freeRoom_68 (a := a) X hr hT hk_a (b_X2_freeRoom_11 a n) ih  S9 l1 l2 _ _ _ hH hS hl hm
      · have hm := m_ite_t hm c5
        refine lv_aload_n hx hb dX2_freeRoom_28 rfl (lv_at hl 0 rfl) ?_
        refine r_getp X hH (k := 2) (a := a) (j := 17) (b := (a + 6)) (A := 6) (B := 0) hk_a (by decide) rfl m_wi2 (by decide) in_2_212 rfl rfl rfl dX2_freeRoom_29 ?_
        refine lv_iload_n hx hb dX2_freeRoom_32 rfl (lv_at hl 2 rfl) ?_
        refine lv_iconst (v := (-1 : Int32)) hx hb dX2_freeRoom_33 (by decide) ?_
        obtain ⟨S10, h_S10, e_S10, hm⟩ := n_sti hm
        refine n_iast X hH hS (n := 200) (m_lay_at hT hk_a (by decide) (i := 6) rfl) h_S10 e_S10 dX2_freeRoom_34 (fun H locs hH hS => ?_)
        refine lv_aload_n hx hb dX2_freeRoom_35 rfl (lv_at hl 0 rfl) ?_
        refine lv_dup hx hb dX2_freeRoom_36 rfl ?_
        refine r_geti X hH (k := 2) (a := a) (j := 4) hk_a (by decide) rfl m_wi2 (by decide) in_2_185 rfl rfl dX2_freeRoom_37 ?_
        refine lv_iconst (v := (1 : Int32)) hx hb dX2_freeRoom_40 (by decide) ?_
        refine lv_isub hx hb dX2_freeRoom_41 ?_
        obtain ⟨S11, e_S11, hm⟩ := m_let_of hm
        refine n_puti X hH hS tyX2 (k := 2) (a := a) (j := 4) hk_a (by decide) rfl m_wi2 tyX2_ok nmX2 (by decide) in_2_185 rfl rfl rfl ⟨rfl, rfl⟩ e_S11 dX2_freeRoom_42 (fun H locs hH hS => ?_)
        refine lv_goto (tgt := 68) hx hb dX2_freeRoom_45 (by decide) ?_
        exact k_X2_freeRoom_68 (a := a) X hr hT hk_a (b_X2_freeRoom_11 a n) ih  S11 l1 l2 _ _ _ hH hS hl hm
def f_X2_freeRoom (a : Nat) (S : m_M) (i1 : Int32) : Option m_M :=
    m_call (f_X2_hasRoom a S i1) fun v2 S1 =>
    if v2 = 0 then (
    some S1) else (
    b_X2_freeRoom_11 a m_fu S1 i1 (0 : Int32))
set_option maxHeartbeats 4000000 in
set_option maxRecDepth 100000 in
theorem c_X2_freeRoom {l : Launch} {G : m_G} {nx : Nat} {κ : Nat → Nat} {a : Nat} {S : m_M} {i1 : Int32} {res : m_M} (hT : m_Str κ) (hk_a : κ a = 3) (hm : f_X2_freeRoom a S i1 = some res) : m_Cv l yX2_freeRoom cX2_freeRoom 3 rm_X2_freeRoom G nx κ [.ref a, .int i1] S res := by
  refine m_Cv.of (by decide) (Nat.le_of_ble_eq_true rfl) ?_
  intro p e s m args below meth c ls X hr hH hl
  have hx := X.1.1
  have hb := X.1.2.1
  have hS : m_S G s s.heap [] := va_S.rf
  have hl : lv_has ls 3 [(0, .ref a), (1, .int i1)] := hl
  rw [f_X2_freeRoom] at hm
  refine lv_aload_n hx hb dX2_freeRoom_0 rfl (lv_at hl 0 rfl) ?_
  refine lv_iload_n hx hb dX2_freeRoom_1 rfl (lv_at hl 1 rfl) ?_
  obtain ⟨v2, S1, e_S1, hm⟩ := m_call_of hm
  refine n_cVi X hH hS (k := 2) (c_X2_hasRoom (a := a) hT hk_a e_S1) mw_X2_hasRoom in_4_210 hk_a (by decide) rfl rfl rfl ⟨rfl, rfl⟩ ⟨Nat.le_of_ble_eq_true rfl, Nat.le_of_ble_eq_true rfl⟩ ⟨Nat.zero_le _, Nat.zero_le _⟩ hl.1 (Nat.le_of_ble_eq_true rfl) dX2_freeRoom_2 (fun H locs hH hS => ?_)
  refine lv_if_ne (tgt := 9) hx hb dX2_freeRoom_5 (by decide) (fun c3 => ?_) (fun c3 => ?_)
  · have hm := m_ite_f hm c3
    refine lv_iconst (v := (0 : Int32)) hx hb dX2_freeRoom_9 (by decide) ?_
    refine lv_istore_n (lv' := [(2, .int (0 : Int32)), (0, .ref a), (1, .int i1)]) hx hb dX2_freeRoom_10 rfl hl (by decide) rfl (fun ls hl => ?_)
    exact k_X2_freeRoom_11 (a := a) X hr hT hk_a  m_fu S1 i1 (0 : Int32) _ _ _ hH hS (lv_sub hl [1, 2, 0] rfl) hm
  · have hm := m_ite_t hm c3
    exact r_vret X hr hH hS hm dX2_freeRoom_8
def rm_X6_reachOfVar : Room := { frames := 0, cells := 0, slots := 0, locals := 0 }
def f_X6_reachOfVar (a : Nat) (S : m_M) (i1 : Int32) (i2 : Int32) : Option (Int32 × m_M) :=
    (m_ldi S (a + 2) 135 ((i1 * (27 : Int32)) + i2)).bind fun v1 =>
    some (v1, S)
set_option maxHeartbeats 4000000 in
set_option maxRecDepth 100000 in
theorem c_X6_reachOfVar {l : Launch} {G : m_G} {nx : Nat} {κ : Nat → Nat} {a : Nat} {S : m_M} {i1 : Int32} {i2 : Int32} {res : (Int32 × m_M)} (hT : m_Str κ) (hk_a : κ a = 7) (hm : f_X6_reachOfVar a S i1 i2 = some res) : m_Ci l yX6_reachOfVar cX6_reachOfVar 3 (some .int) rm_X6_reachOfVar G nx κ [.ref a, .int i1, .int i2] S res := by
  refine m_Ci.of (by decide) (Nat.le_of_ble_eq_true rfl) ?_
  intro p e s m args below meth c ls X hr hH hl
  have hx := X.1.1
  have hb := X.1.2.1
  have hS : m_S G s s.heap [] := va_S.rf
  have hl : lv_has ls 3 [(0, .ref a), (1, .int i1), (2, .int i2)] := hl
  rw [f_X6_reachOfVar] at hm
  refine lv_aload_n hx hb dX6_reachOfVar_0 rfl (lv_at hl 0 rfl) ?_
  refine r_getp X hH (k := 6) (a := a) (j := 3) (b := (a + 2)) (A := 2) (B := 0) hk_a (by decide) rfl m_wi6 (by decide) in_1_59 rfl rfl rfl dX6_reachOfVar_1 ?_
  refine lv_iload_n hx hb dX6_reachOfVar_4 rfl (lv_at hl 1 rfl) ?_
  refine lv_bipush (v := (27 : Int32)) hx hb dX6_reachOfVar_5 (by decide) ?_
  refine lv_imul hx hb dX6_reachOfVar_7 ?_
  refine lv_iload_n hx hb dX6_reachOfVar_8 rfl (lv_at hl 2 rfl) ?_
  refine lv_iadd hx hb dX6_reachOfVar_9 ?_
  obtain ⟨v1, h_v1, e_v1, hm⟩ := n_ldi hm
  refine n_iald X hH (n := 135) (m_lay_at hT hk_a (by decide) (i := 2) rfl) h_v1 e_v1 dX6_reachOfVar_10 ?_
  exact r_iret X hr hH hS hm dX6_reachOfVar_11
def rm_X2_freeRooms : Room := { frames := 2, cells := 0, slots := 0, locals := 82 }
def b_X2_freeRooms_39 (a o1 : Nat) (K_13 : m_M → Int32 → Int32 → Int32 → Option m_M) (S : m_M) (l2 : Int32) (l3 : Int32) (l4 : Int32) : Option m_M :=
    m_let (l4 + (1 : Int32)) fun v1 =>
    K_13 S l2 l3 v1
set_option maxHeartbeats 4000000 in
set_option maxRecDepth 100000 in
theorem k_X2_freeRooms_39 {p : Program} {l : Launch} {e : Env} {s : State} {m : MethodId} {args : Array Value} {below : List Frame} {meth : Method} {c : Code} {G : m_G} {nx : Nat} {κ : Nat → Nat} {res : m_M} {a o1 : Nat} (X : m_Cx p s m args meth c cX2_freeRooms 6 RX2 G) (hr : meth.sig.returnType = none) (hT : m_Str κ) (hk_a : κ a = 3) (hk_o1 : κ o1 = 4) (K_13 : m_M → Int32 → Int32 → Int32 → Option m_M) (hK_13 : ∀ (S : m_M) (l2 : Int32) (l3 : Int32) (l4 : Int32) (H : Heap) (locs : List Loc) (ls : Array Slot), m_H G nx κ S H → m_S G s H locs → lv_has ls 6 [(0, .ref a), (1, .ref o1), (2, .int l2), (3, .int l3), (4, .int l4)] → K_13 S l2 l3 l4 = some res → W p l e rm_X2_freeRooms s m args below meth c H locs 0 0 (m_Qv below args s G nx κ res) (F0 m 13 ls [])) : ∀ (S : m_M) (l2 : Int32) (l3 : Int32) (l4 : Int32) (H : Heap) (locs : List Loc) (ls : Array Slot), m_H G nx κ S H → m_S G s H locs → lv_has ls 6 [(0, .ref a), (1, .ref o1), (2, .int l2), (3, .int l3), (4, .int l4)] → b_X2_freeRooms_39 a o1 K_13 S l2 l3 l4 = some res → W p l e rm_X2_freeRooms s m args below meth c H locs 0 0 (m_Qv below args s G nx κ res) (F0 m 39 ls []) := by
  have hx := X.1.1
  have hb := X.1.2.1
  intro S l2 l3 l4 H locs ls hH hS hl hm
  rw [b_X2_freeRooms_39] at hm
  obtain ⟨v1, e_v1, hm⟩ := m_let_of hm
  refine lv_iinc (v := v1) (lv' := [(4, .int v1), (0, .ref a), (1, .ref o1), (2, .int l2), (3, .int l3)]) hx hb dX2_freeRooms_39 hl (k := 4) rfl (by rw [← e_v1]; rfl) (by decide) rfl (fun ls hl => ?_)
  refine lv_goto (tgt := 13) hx hb dX2_freeRooms_42 (by decide) ?_
  exact hK_13 S l2 l3 v1 _ _ _ hH hS (lv_sub hl [1, 2, 3, 4, 0] rfl) hm
def b_X2_freeRooms_92 (a o1 : Nat) (K_56 : m_M → Int32 → Int32 → Int32 → Int32 → Option m_M) (S : m_M) (l2 : Int32) (l3 : Int32) (l4 : Int32) (l5 : Int32) : Option m_M :=
    m_let (l5 + (1 : Int32)) fun v1 =>
    K_56 S l2 l3 l4 v1
set_option maxHeartbeats 4000000 in
set_option maxRecDepth 100000 in
theorem k_X2_freeRooms_92 {p : Program} {l : Launch} {e : Env} {s : State} {m : MethodId} {args : Array Value} {below : List Frame} {meth : Method} {c : Code} {G : m_G} {nx : Nat} {κ : Nat → Nat} {res : m_M} {a o1 : Nat} (X : m_Cx p s m args meth c cX2_freeRooms 6 RX2 G) (hr : meth.sig.returnType = none) (hT : m_Str κ) (hk_a : κ a = 3) (hk_o1 : κ o1 = 4) (K_56 : m_M → Int32 → Int32 → Int32 → Int32 → Option m_M) (hK_56 : ∀ (S : m_M) (l2 : Int32) (l3 : Int32) (l4 : Int32) (l5 : Int32) (H : Heap) (locs : List Loc) (ls : Array Slot), m_H G nx κ S H → m_S G s H locs → lv_has ls 6 [(0, .ref a), (1, .ref o1), (2, .int l2), (3, .int l3), (4, .int l4), (5, .int l5)] → K_56 S l2 l3 l4 l5 = some res → W p l e rm_X2_freeRooms s m args below meth c H locs 0 0 (m_Qv below args s G nx κ res) (F0 m 56 ls [])) : ∀ (S : m_M) (l2 : Int32) (l3 : Int32) (l4 : Int32) (l5 : Int32) (H : Heap) (locs : List Loc) (ls : Array Slot), m_H G nx κ S H → m_S G s H locs → lv_has ls 6 [(0, .ref a), (1, .ref o1), (2, .int l2), (3, .int l3), (4, .int l4), (5, .int l5)] → b_X2_freeRooms_92 a o1 K_56 S l2 l3 l4 l5 = some res → W p l e rm_X2_freeRooms s m args below meth c H locs 0 0 (m_Qv below args s G nx κ res) (F0 m 92 ls []) := by
  have hx := X.1.1
  have hb := X.1.2.1
  intro S l2 l3 l4 l5 H locs ls hH hS hl hm
  rw [b_X2_freeRooms_92] at hm
  obtain ⟨v1, e_v1, hm⟩ := m_let_of hm
  refine lv_iinc (v := v1) (lv' := [(5, .int v1), (0, .ref a), (1, .ref o1), (2, .int l2), (3, .int l3), (4, .int l4)]) hx hb dX2_freeRooms_92 hl (k := 5) rfl (by rw [← e_v1]; rfl) (by decide) rfl (fun ls hl => ?_)
  refine lv_goto (tgt := 56) hx hb dX2_freeRooms_95 (by decide) ?_
  exact hK_56 S l2 l3 l4 v1 _ _ _ hH hS (lv_sub hl [1, 2, 3, 4, 5, 0] rfl) hm
def b_X2_freeRooms_56 (a o1 : Nat)  : Nat → m_M → Int32 → Int32 → Int32 → Int32 → Option m_M
  | 0, _, _, _, _, _ => none
  | n + 1, S, l2, l3, l4, l5 =>
    m_call (f_X3_varCount o1 S l4) fun v2 S1 =>
    if v2 ≤ l5 then (
    some S1) else (
    m_call (f_X6_reachOfVar (o1 + 8) S1 l4 l5) fun v5 S4 =>
    if (v5 &&& l3) = 0 then (
    b_X2_freeRooms_92 a o1 (b_X2_freeRooms_56 a o1 n) S4 l2 l3 l4 l5) else (
    m_cal0 (f_X2_setVar a S4 l2 l5 (0 : Int32) (0 : Int32)) fun S7 =>
    b_X2_freeRooms_92 a o1 (b_X2_freeRooms_56 a o1 n) S7 l2 l3 l4 l5))
set_option maxHeartbeats 4000000 in
set_option maxRecDepth 100000 in
theorem k_X2_freeRooms_56 {p : Program} {l : Launch} {e : Env} {s : State} {m : MethodId} {args : Array Value} {below : List Frame} {meth : Method} {c : Code} {G : m_G} {nx : Nat} {κ : Nat → Nat} {res : m_M} {a o1 : Nat} (X : m_Cx p s m args meth c cX2_freeRooms 6 RX2 G) (hr : meth.sig.returnType = none) (hT : m_Str κ) (hk_a : κ a = 3) (hk_o1 : κ o1 = 4)  (n : Nat) : ∀ (S : m_M) (l2 : Int32) (l3 : Int32) (l4 : Int32) (l5 : Int32) (H : Heap) (locs : List Loc) (ls : Array Slot), m_H G nx κ S H → m_S G s H locs → lv_has ls 6 [(0, .ref a), (1, .ref o1), (2, .int l2), (3, .int l3), (4, .int l4), (5, .int l5)] → b_X2_freeRooms_56 a o1 n S l2 l3 l4 l5 = some res → W p l e rm_X2_freeRooms s m args below meth c H locs 0 0 (m_Qv below args s G nx κ res) (F0 m 56 ls []) := by
  have hx := X.1.1
  have hb := X.1.2.1
  induction n with
  | zero => intro S l2 l3 l4 l5 H locs ls hH hS hl hm; have hm : (none : Option m_M) = some res := hm; cases hm
  | succ n ih =>
    intro S l2 l3 l4 l5 H locs ls hH hS hl hm
    rw [b_X2_freeRooms_56] at hm
    refine lv_iload hx hb dX2_freeRooms_56 (lv_at hl 5 rfl) ?_
    refine lv_aload_n hx hb dX2_freeRooms_58 rfl (lv_at hl 1 rfl) ?_
    refine lv_iload hx hb dX2_freeRooms_59 (lv_at hl 4 rfl) ?_
    obtain ⟨v2, S1, e_S1, hm⟩ := m_call_of hm
    refine n_cVi X hH hS (k := 3) (c_X3_varCount (a := o1) hT hk_o1 e_S1) mw_X3_varCount in_5_114 hk_o1 (by decide) rfl rfl rfl ⟨rfl, rfl⟩ ⟨Nat.le_of_ble_eq_true rfl, Nat.le_of_ble_eq_true rfl⟩ ⟨Nat.zero_le _, Nat.zero_le _⟩ hl.1 (Nat.le_of_ble_eq_true rfl) dX2_freeRooms_61 (fun H locs hH hS => ?_)
    refine lv_icmp_ge (tgt := 98) hx hb dX2_freeRooms_64 (by decide) (fun c3 => ?_) (fun c3 => ?_)
    · have hm := m_ite_t hm c3
      exact r_vret X hr hH hS hm dX2_freeRooms_98
    · have hm := m_ite_f hm c3
      refine lv_aload_n hx hb dX2_freeRooms_67 rfl (lv_at hl 1 rfl) ?_
      refine r_getp X hH (k := 3) (a := o1) (j := 9) (b := (o1 + 8)) (A := 8) (B := 0) hk_o1 (by decide) rfl m_wi3 (by decide) in_1_161 rfl rfl rfl dX2_freeRooms_68 ?_
      refine lv_iload hx hb dX2_freeRooms_71 (lv_at hl 4 rfl) ?_
      refine lv_iload hx hb dX2_freeRooms_73 (lv_at hl 5 rfl) ?_
      obtain ⟨v5, S4, e_S4, hm⟩ := m_call_of hm
      refine n_cVi X hH hS (k := 6) (c_X6_reachOfVar (a := (o1 + 8)) hT (m_lay_at hT hk_o1 (by decide) (i := 8) rfl) e_S4) mw_X6_reachOfVar in_5_115 (m_lay_at hT hk_o1 (by decide) (i := 8) rfl) (by decide) rfl rfl rfl ⟨rfl, rfl⟩ ⟨Nat.le_of_ble_eq_true rfl, Nat.le_of_ble_eq_true rfl⟩ ⟨Nat.zero_le _, Nat.zero_le _⟩ hl.1 (Nat.le_of_ble_eq_true rfl) dX2_freeRooms_75 (fun H locs hH hS => ?_)
      refine lv_iload_n hx hb dX2_freeRooms_78 rfl (lv_at hl 3 rfl) ?_
      refine lv_iand hx hb dX2_freeRooms_79 ?_
      refine lv_if_eq (tgt := 92) hx hb dX2_freeRooms_80 (by decide) (fun c6 => ?_) (fun c6 => ?_)
      · have hm := m_ite_t hm c6
        exact k_X2_freeRooms_92 (a := a) (o1 := o1) X hr hT hk_a hk_o1 (b_X2_freeRooms_56 a o1 n) ih  S4 l2 l3 l4 l5 _ _ _ hH hS hl hm
      · have hm := m_ite_f hm c6
        refine lv_aload_n hx hb dX2_freeRooms_83 rfl (lv_at hl 0 rfl) ?_
        refine lv_iload_n hx hb dX2_freeRooms_84 rfl (lv_at hl 2 rfl) ?_
        refine lv_iload hx hb dX2_freeRooms_85 (lv_at hl 5 rfl) ?_
        refine lv_iconst (v := (0 : Int32)) hx hb dX2_freeRooms_87 (by decide) ?_
        refine lv_iconst (v := (0 : Int32)) hx hb dX2_freeRooms_88 (by decide) ?_
        obtain ⟨S7, e_S7, hm⟩ := m_cal0_of hm
        refine r_cVv X hH hS (k := 2) (c_X2_setVar (a := a) hT hk_a e_S7) mw_X2_setVar in_5_15 hk_a (by decide) rfl rfl rfl ⟨rfl, rfl⟩ ⟨Nat.le_of_ble_eq_true rfl, Nat.le_of_ble_eq_true rfl⟩ ⟨Nat.zero_le _, Nat.zero_le _⟩ hl.1 (Nat.le_of_ble_eq_true rfl) dX2_freeRooms_89 (fun H locs hH hS => ?_)
        exact k_X2_freeRooms_92 (a := a) (o1 := o1) X hr hT hk_a hk_o1 (b_X2_freeRooms_56 a o1 n) ih  S7 l2 l3 l4 l5 _ _ _ hH hS hl hm
def b_X2_freeRooms_13 (a o1 : Nat)  : Nat → m_M → Int32 → Int32 → Int32 → Option m_M
  | 0, _, _, _, _ => none
  | n + 1, S, l2, l3, l4 =>
    if (24 : Int32) ≤ l4 then (
    (m_ldi S (a + 1) 13 l2).bind fun v2 =>
    b_X2_freeRooms_56 a o1 m_fu S l2 l3 v2 (0 : Int32)) else (
    if ((l3 >>> (l4 &&& 31)) &&& (1 : Int32)) = 0 then (
    b_X2_freeRooms_39 a o1 (b_X2_freeRooms_13 a o1 n) S l2 l3 l4) else (
    m_call (f_X2_latestRoom a S l4) fun v5 S4 =>
    m_cal0 (f_X2_freeRoom a S4 v5) fun S6 =>
    b_X2_freeRooms_39 a o1 (b_X2_freeRooms_13 a o1 n) S6 l2 l3 l4))
set_option maxHeartbeats 4000000 in
set_option maxRecDepth 100000 in
theorem k_X2_freeRooms_13 {p : Program} {l : Launch} {e : Env} {s : State} {m : MethodId} {args : Array Value} {below : List Frame} {meth : Method} {c : Code} {G : m_G} {nx : Nat} {κ : Nat → Nat} {res : m_M} {a o1 : Nat} (X : m_Cx p s m args meth c cX2_freeRooms 6 RX2 G) (hr : meth.sig.returnType = none) (hT : m_Str κ) (hk_a : κ a = 3) (hk_o1 : κ o1 = 4)  (n : Nat) : ∀ (S : m_M) (l2 : Int32) (l3 : Int32) (l4 : Int32) (H : Heap) (locs : List Loc) (ls : Array Slot), m_H G nx κ S H → m_S G s H locs → lv_has ls 6 [(0, .ref a), (1, .ref o1), (2, .int l2), (3, .int l3), (4, .int l4)] → b_X2_freeRooms_13 a o1 n S l2 l3 l4 = some res → W p l e rm_X2_freeRooms s m args below meth c H locs 0 0 (m_Qv below args s G nx κ res) (F0 m 13 ls []) := by
  have hx := X.1.1
  have hb := X.1.2.1
  induction n with
  | zero => intro S l2 l3 l4 H locs ls hH hS hl hm; have hm : (none : Option m_M) = some res := hm; cases hm
  | succ n ih =>
    intro S l2 l3 l4 H locs ls hH hS hl hm
    rw [b_X2_freeRooms_13] at hm
    refine lv_iload hx hb dX2_freeRooms_13 (lv_at hl 4 rfl) ?_
    refine lv_bipush (v := (24 : Int32)) hx hb dX2_freeRooms_15 (by decide) ?_
    refine lv_icmp_ge (tgt := 45) hx hb dX2_freeRooms_17 (by decide) (fun c1 => ?_) (fun c1 => ?_)
    · have hm := m_ite_t hm c1
      refine lv_aload_n hx hb dX2_freeRooms_45 rfl (lv_at hl 0 rfl) ?_
      refine r_getp X hH (k := 2) (a := a) (j := 12) (b := (a + 1)) (A := 1) (B := 0) hk_a (by decide) rfl m_wi2 (by decide) in_2_201 rfl rfl rfl dX2_freeRooms_46 ?_
      refine lv_iload_n hx hb dX2_freeRooms_49 rfl (lv_at hl 2 rfl) ?_
      obtain ⟨v2, h_v2, e_v2, hm⟩ := n_ldi hm
      refine n_iald X hH (n := 13) (m_lay_at hT hk_a (by decide) (i := 1) rfl) h_v2 e_v2 dX2_freeRooms_50 ?_
      refine lv_istore (lv' := [(4, .int v2), (0, .ref a), (1, .ref o1), (2, .int l2), (3, .int l3)]) hx hb dX2_freeRooms_51 hl (by decide) rfl (fun ls hl => ?_)
      refine lv_iconst (v := (0 : Int32)) hx hb dX2_freeRooms_53 (by decide) ?_
      refine lv_istore (lv' := [(5, .int (0 : Int32)), (4, .int v2), (0, .ref a), (1, .ref o1), (2, .int l2), (3, .int l3)]) hx hb dX2_freeRooms_54 hl (by decide) rfl (fun ls hl => ?_)
      exact k_X2_freeRooms_56 (a := a) (o1 := o1) X hr hT hk_a hk_o1  m_fu S l2 l3 v2 (0 : Int32) _ _ _ hH hS (lv_sub hl [2, 3, 4, 5, 1, 0] rfl) hm
    · have hm := m_ite_f hm c1
      refine lv_iload_n hx hb dX2_freeRooms_20 rfl (lv_at hl 3 rfl) ?_
      refine lv_iload hx hb dX2_freeRooms_21 (lv_at hl 4 rfl) ?_
      refine lv_ishr hx hb dX2_freeRooms_23 ?_
      refine lv_iconst (v := (1 : Int32)) hx hb dX2_freeRooms_24 (by decide) ?_
      refine lv_iand hx hb dX2_freeRooms_25 ?_
      refine lv_if_eq (tgt := 39) hx hb dX2_freeRooms_26 (by decide) (fun c3 => ?_) (fun c3 => ?_)
      · have hm := m_ite_t hm c3
        exact k_X2_freeRooms_39 (a := a) (o1 := o1) X hr hT hk_a hk_o1 (b_X2_freeRooms_13 a o1 n) ih  S l2 l3 l4 _ _ _ hH hS hl hm
      · have hm := m_ite_f hm c3
        refine lv_aload_n hx hb dX2_freeRooms_29 rfl (lv_at hl 0 rfl) ?_
        refine lv_aload_n hx hb dX2_freeRooms_30 rfl (lv_at hl 0 rfl) ?_
        refine lv_iload hx hb dX2_freeRooms_31 (lv_at hl 4 rfl) ?_
        obtain ⟨v5, S4, e_S4, hm⟩ := m_call_of hm
        refine n_cVi X hH hS (k := 2) (c_X2_latestRoom (a := a) hT hk_a e_S4) mw_X2_latestRoom in_5_88 hk_a (by decide) rfl rfl rfl ⟨rfl, rfl⟩ ⟨Nat.le_of_ble_eq_true rfl, Nat.le_of_ble_eq_true rfl⟩ ⟨Nat.zero_le _, Nat.zero_le _⟩ hl.1 (Nat.le_of_ble_eq_true rfl) dX2_freeRooms_33 (fun H locs hH hS => ?_)
        obtain ⟨S6, e_S6, hm⟩ := m_cal0_of hm
        refine r_cVv X hH hS (k := 2) (c_X2_freeRoom (a := a) hT hk_a e_S6) mw_X2_freeRoom in_5_110 hk_a (by decide) rfl rfl rfl ⟨rfl, rfl⟩ ⟨Nat.le_of_ble_eq_true rfl, Nat.le_of_ble_eq_true rfl⟩ ⟨Nat.zero_le _, Nat.zero_le _⟩ hl.1 (Nat.le_of_ble_eq_true rfl) dX2_freeRooms_36 (fun H locs hH hS => ?_)
        exact k_X2_freeRooms_39 (a := a) (o1 := o1) X hr hT hk_a hk_o1 (b_X2_freeRooms_13 a o1 n) ih  S6 l2 l3 l4 _ _ _ hH hS hl hm
def f_X2_freeRooms (a o1 : Nat) (S : m_M) (i2 : Int32) (i3 : Int32) : Option m_M :=
    if i3 = 0 then (
    some S) else (
    m_let (m_si S a 11 (1 : Int32)) fun S2 =>
    b_X2_freeRooms_13 a o1 m_fu S2 i2 i3 (0 : Int32))
set_option maxHeartbeats 4000000 in
set_option maxRecDepth 100000 in
theorem c_X2_freeRooms {l : Launch} {G : m_G} {nx : Nat} {κ : Nat → Nat} {a o1 : Nat} {S : m_M} {i2 : Int32} {i3 : Int32} {res : m_M} (hT : m_Str κ) (hk_a : κ a = 3) (hk_o1 : κ o1 = 4) (hm : f_X2_freeRooms a o1 S i2 i3 = some res) : m_Cv l yX2_freeRooms cX2_freeRooms 6 rm_X2_freeRooms G nx κ [.ref a, .ref o1, .int i2, .int i3] S res := by
  refine m_Cv.of (by decide) (Nat.le_of_ble_eq_true rfl) ?_
  intro p e s m args below meth c ls X hr hH hl
  have hx := X.1.1
  have hb := X.1.2.1
  have hS : m_S G s s.heap [] := va_S.rf
  have hl : lv_has ls 6 [(0, .ref a), (1, .ref o1), (2, .int i2), (3, .int i3)] := hl
  rw [f_X2_freeRooms] at hm
  refine lv_iload_n hx hb dX2_freeRooms_0 rfl (lv_at hl 3 rfl) ?_
  refine lv_if_ne (tgt := 5) hx hb dX2_freeRooms_1 (by decide) (fun c1 => ?_) (fun c1 => ?_)
  · have hm := m_ite_f hm c1
    refine lv_aload_n hx hb dX2_freeRooms_5 rfl (lv_at hl 0 rfl) ?_
    refine lv_iconst (v := (1 : Int32)) hx hb dX2_freeRooms_6 (by decide) ?_
    obtain ⟨S2, e_S2, hm⟩ := m_let_of hm
    refine n_puti X hH hS tyX2 (k := 2) (a := a) (j := 11) hk_a (by decide) rfl m_wi2 tyX2_ok nmX2 (by decide) in_2_199 rfl rfl rfl (m_nz (by decide)) e_S2 dX2_freeRooms_7 (fun H locs hH hS => ?_)
    refine lv_iconst (v := (0 : Int32)) hx hb dX2_freeRooms_10 (by decide) ?_
    refine lv_istore (lv' := [(4, .int (0 : Int32)), (0, .ref a), (1, .ref o1), (2, .int i2), (3, .int i3)]) hx hb dX2_freeRooms_11 hl (by decide) rfl (fun ls hl => ?_)
    exact k_X2_freeRooms_13 (a := a) (o1 := o1) X hr hT hk_a hk_o1  m_fu S2 i2 i3 (0 : Int32) _ _ _ hH hS (lv_sub hl [1, 2, 3, 4, 0] rfl) hm
  · have hm := m_ite_t hm c1
    exact r_vret X hr hH hS hm dX2_freeRooms_4
