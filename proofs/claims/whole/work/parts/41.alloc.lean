def rm_X0_keep : Room := { frames := 2, cells := 9, slots := 2060, locals := 81 }
def b_X0_keep_67 (nx0 a o1 : Nat)  (S : m_M) (l2 : Int32) : Option m_M :=
    (m_ldr S (a + 1) 8 l2).bind fun v1 =>
    v1.bind fun b2 =>
    m_cal0 (f_X2_copyFrom b2 o1 S) fun S3 =>
    m_let (m_si S3 a 2 ((m_ri S3 a 2) + (1 : Int32))) fun S4 =>
    some S4
set_option maxHeartbeats 4000000 in
set_option maxRecDepth 100000 in
theorem k_X0_keep_67 {p : Program} {l : Launch} {e : Env} {s : State} {m : MethodId} {args : Array Value} {below : List Frame} {meth : Method} {c : Code} {G : m_G} {κ0 : Nat → Nat} {res : m_M} {nx0 a o1 : Nat} (X : m_Cx p s m args meth c cX0_keep 3 RX0 G) (hN : m_N s) (hr : meth.sig.returnType = none)  : ∀ (nx : Nat) (κ : Nat → Nat) (S : m_M) (l2 : Int32) (H : Heap) (locs : List Loc) (ls : Array Slot), m_Str κ → κ a = 1 → κ o1 = 3 → nx0 ≤ nx → (∀ q, q < nx0 → κ q = κ0 q) → m_H G nx κ S H → m_S G s H locs → lv_has ls 3 [(0, .ref a), (1, .ref o1), (2, .int l2)] → b_X0_keep_67 nx0 a o1 S l2 = some res → W p l e rm_X0_keep s m args below meth c H locs 9 2060 (m_QAv below args s G nx0 κ0 res 9 2060) (F0 m 67 ls []) := by
  have hx := X.1.1
  have hb := X.1.2.1
  intro nx κ S l2 H locs ls hT hk_a hk_o1 hle hq hH hS hl hm
  rw [b_X0_keep_67] at hm
  refine lv_aload_n hx hb dX0_keep_67 rfl (lv_at hl 0 rfl) ?_
  refine r_getp X hH (k := 0) (a := a) (j := 0) (b := (a + 1)) (A := 1) (B := 0) hk_a (by decide) rfl m_wi0 (by decide) in_3_62 rfl rfl rfl dX0_keep_68 ?_
  refine lv_iload_n hx hb dX0_keep_71 rfl (lv_at hl 2 rfl) ?_
  obtain ⟨v1, h_v1, e_v1, hm⟩ := n_ldr hm
  obtain ⟨b2, e_b2, hm⟩ := m_bind_of hm
  subst e_b2
  refine n_aald X hH (t := 4) (n := 8) (v := some b2) (m_lay_at hT hk_a (by decide) (i := 1) rfl) (by decide) h_v1 e_v1 dX0_keep_72 ?_
  have hk_b2 : κ b2 = 3 := m_kel hH (t := 4) (n := 8) (m_lay_at hT hk_a (by decide) (i := 1) rfl) (by decide) e_v1
  refine lv_aload_n hx hb dX0_keep_73 rfl (lv_at hl 1 rfl) ?_
  obtain ⟨S3, e_S3, hm⟩ := m_cal0_of hm
  refine r_cVv X hH hS (k := 2) (c_X2_copyFrom (a := b2) (o1 := o1) hT hk_b2 hk_o1 e_S3) mw_X2_copyFrom in_4_233 hk_b2 (by decide) rfl rfl rfl ⟨rfl, rfl⟩ ⟨Nat.le_of_ble_eq_true rfl, Nat.le_of_ble_eq_true rfl⟩ ⟨Nat.le_of_ble_eq_true rfl, Nat.le_of_ble_eq_true rfl⟩ hl.1 (Nat.le_of_ble_eq_true rfl) dX0_keep_74 (fun H locs hH hS => ?_)
  refine lv_aload_n hx hb dX0_keep_77 rfl (lv_at hl 0 rfl) ?_
  refine lv_dup hx hb dX0_keep_78 rfl ?_
  refine r_geti X hH (k := 0) (a := a) (j := 2) hk_a (by decide) rfl m_wi0 (by decide) in_3_64 rfl rfl dX0_keep_79 ?_
  refine lv_iconst (v := (1 : Int32)) hx hb dX0_keep_82 (by decide) ?_
  refine lv_iadd hx hb dX0_keep_83 ?_
  obtain ⟨S4, e_S4, hm⟩ := m_let_of hm
  refine n_puti X hH hS tyX0 (k := 0) (a := a) (j := 2) hk_a (by decide) rfl m_wi0 tyX0_ok nmX0 (by decide) in_3_64 rfl rfl rfl ⟨rfl, rfl⟩ e_S4 dX0_keep_84 (fun H locs hH hS => ?_)
  exact r_avret X hN hr hH hS hm hT hle hq (Nat.le_of_ble_eq_true rfl) (Nat.le_of_ble_eq_true rfl) dX0_keep_87
def b_X0_keep_32 (nx0 a o1 : Nat)  (S : m_M)  : Option m_M :=
    m_let (((m_ri S a 1) + (m_ri S a 2)) - ((m_ri S a 1) + (m_ri S a 2)) / (8 : Int32) * (8 : Int32)) fun v1 =>
    (m_ldr S (a + 1) 8 v1).bind fun v2 =>
    if v2 = none then (
    m_let (m_new S nx0) fun S4 =>
    m_cal0 (f_X2_init nx0 S4) fun S5 =>
    (m_str S5 (a + 1) 8 v1 (some nx0)).bind fun S6 =>
    b_X0_keep_67 nx0 a o1 S6 v1) else (
    b_X0_keep_67 nx0 a o1 S v1)
set_option maxHeartbeats 4000000 in
set_option maxRecDepth 100000 in
theorem k_X0_keep_32 {p : Program} {l : Launch} {e : Env} {s : State} {m : MethodId} {args : Array Value} {below : List Frame} {meth : Method} {c : Code} {G : m_G} {κ0 : Nat → Nat} {res : m_M} {nx0 a o1 : Nat} (X : m_Cx p s m args meth c cX0_keep 3 RX0 G) (hN : m_N s) (hr : meth.sig.returnType = none)  : ∀ (S : m_M)  (H : Heap) (locs : List Loc) (ls : Array Slot), m_Str κ0 → κ0 a = 1 → κ0 o1 = 3 → m_H G nx0 κ0 S H → m_S G s H locs → lv_has ls 3 [(0, .ref a), (1, .ref o1)] → b_X0_keep_32 nx0 a o1 S  = some res → W p l e rm_X0_keep s m args below meth c H locs 0 0 (m_QAv below args s G nx0 κ0 res 9 2060) (F0 m 32 ls []) := by
  have hx := X.1.1
  have hb := X.1.2.1
  intro S H locs ls hT hk_a hk_o1 hH hS hl hm
  rw [b_X0_keep_32] at hm
  have hle : nx0 ≤ nx0 := Nat.le_refl _
  have hq : ∀ q, q < nx0 → κ0 q = κ0 q := fun _ _ => rfl
  refine lv_aload_n hx hb dX0_keep_32 rfl (lv_at hl 0 rfl) ?_
  refine r_geti X hH (k := 0) (a := a) (j := 1) hk_a (by decide) rfl m_wi0 (by decide) in_3_63 rfl rfl dX0_keep_33 ?_
  refine lv_aload_n hx hb dX0_keep_36 rfl (lv_at hl 0 rfl) ?_
  refine r_geti X hH (k := 0) (a := a) (j := 2) hk_a (by decide) rfl m_wi0 (by decide) in_3_64 rfl rfl dX0_keep_37 ?_
  refine lv_iadd hx hb dX0_keep_40 ?_
  refine lv_bipush (v := (8 : Int32)) hx hb dX0_keep_41 (by decide) ?_
  refine lv_irem hx hb dX0_keep_43 (by decide) ?_
  obtain ⟨v1, e_v1, hm⟩ := m_let_of hm
  refine n_topi e_v1 ?_
  refine lv_istore_n (lv' := [(2, .int v1), (0, .ref a), (1, .ref o1)]) hx hb dX0_keep_44 rfl hl (by decide) rfl (fun ls hl => ?_)
  refine lv_aload_n hx hb dX0_keep_45 rfl (lv_at hl 1 rfl) ?_
  refine r_getp X hH (k := 0) (a := a) (j := 0) (b := (a + 1)) (A := 1) (B := 0) hk_a (by decide) rfl m_wi0 (by decide) in_3_62 rfl rfl rfl dX0_keep_46 ?_
  refine lv_iload_n hx hb dX0_keep_49 rfl (lv_at hl 0 rfl) ?_
  obtain ⟨v2, h_v2, e_v2, hm⟩ := n_ldr hm
  refine n_aald X hH (t := 4) (n := 8) (m_lay_at hT hk_a (by decide) (i := 1) rfl) (by decide) h_v2 e_v2 dX0_keep_50 ?_
  refine n_ifnn (tgt := 67) hx hb dX0_keep_51 (by decide) (fun c3 => ?_) (fun c3 => ?_)
  · have hm := m_ite_f hm c3
    refine W.widen (k := 9) (n := 2060) (Nat.le_of_ble_eq_true rfl) (Nat.le_of_ble_eq_true rfl) ?_
    exact k_X0_keep_67 (nx0 := nx0) (a := a) (o1 := o1) (κ0 := κ0) X hN hr   nx0 κ0 S v1 _ _ _ hT hk_a hk_o1 hle hq hH hS (lv_sub hl [1, 2, 0] rfl) hm
  · have hm := m_ite_t hm c3
    refine lv_aload_n hx hb dX0_keep_54 rfl (lv_at hl 1 rfl) ?_
    refine r_getp X hH (k := 0) (a := a) (j := 0) (b := (a + 1)) (A := 1) (B := 0) hk_a (by decide) rfl m_wi0 (by decide) in_3_62 rfl rfl rfl dX0_keep_55 ?_
    refine lv_iload_n hx hb dX0_keep_58 rfl (lv_at hl 0 rfl) ?_
    obtain ⟨S4, e_S4, hm⟩ := m_let_of hm
    have hHo := hH
    refine n_new X hH hS hT (k := 2) tyX2 (by decide) rfl m_wi2 tyX2_ok in_3_60 in_2_168 in_1_15 m_df2 e_S4 (nx' := nx0 + 1) rfl (Nat.le_of_ble_eq_true rfl) (Nat.le_of_ble_eq_true rfl) dX0_keep_59 (fun H κ1 hq1 hk1 hT hH hS => ?_)
    refine lv_dup hx hb dX0_keep_62 rfl ?_
    obtain ⟨S5, e_S5, hm⟩ := m_cal0_of hm
    refine n_cI X hN hH hS (c_X2_init (a := nx0) hT hk1 e_S5) mw_X2_init in_2_170 rfl in_4_232 rfl ⟨rfl, rfl⟩ ⟨Nat.le_of_ble_eq_true rfl, Nat.le_of_ble_eq_true rfl⟩ ⟨Nat.le_of_ble_eq_true rfl, Nat.le_of_ble_eq_true rfl⟩ hl.1 (Nat.le_of_ble_eq_true rfl) dX0_keep_63 (fun H locs κ2 hq2 hg hT hH hS => ?_)
    have hq12 : ∀ q, q < nx0 → κ2 q = κ0 q := fun q h => (hq2 q h).trans (hq1 q h)
    have hk_a := m_hk hHo hk_a (by decide) hq12
    have hk_o1 := m_hk hHo hk_o1 (by decide) hq12
    have hk_nx0 : κ2 nx0 = 3 := hg 0 _ rfl
    have hle : nx0 ≤ nx0 + (m_lay 3).length := Nat.le_add_right _ _
    have hq := hq12
    obtain ⟨S6, h_S6, e_S6, hm⟩ := n_str hm
    refine n_aast X hH hS (t := 4) (n := 8) (k := 2) (m_lay_at hT hk_a (by decide) (i := 1) rfl) (by decide) rfl (by decide) rfl rfl hk_nx0 h_S6 e_S6 dX0_keep_66 (fun H locs hH hS => ?_)
    refine W.widen (k := 9) (n := 2060) (Nat.le_of_ble_eq_true rfl) (Nat.le_of_ble_eq_true rfl) ?_
    exact k_X0_keep_67 (nx0 := nx0) (a := a) (o1 := o1) (κ0 := κ0) X hN hr   (nx0 + (m_lay 3).length) κ2 S6 v1 _ _ _ hT hk_a hk_o1 hle hq hH hS (lv_sub hl [1, 2, 0] rfl) hm
def f_X0_keep (nx0 a o1 : Nat) (S : m_M)  : Option m_M :=
    if (m_ri S a 2) = (8 : Int32) then (
    m_let (m_si S a 1 (((m_ri S a 1) + (1 : Int32)) - ((m_ri S a 1) + (1 : Int32)) / (8 : Int32) * (8 : Int32))) fun S2 =>
    m_let (m_si S2 a 2 ((m_ri S2 a 2) - (1 : Int32))) fun S3 =>
    b_X0_keep_32 nx0 a o1 S3) else (
    b_X0_keep_32 nx0 a o1 S)
set_option maxHeartbeats 4000000 in
set_option maxRecDepth 100000 in
theorem c_X0_keep {l : Launch} {G : m_G} {κ0 : Nat → Nat} {nx0 a o1 : Nat} {S : m_M}  {res : m_M} (hT : m_Str κ0) (hk_a : κ0 a = 1) (hk_o1 : κ0 o1 = 3) (hm : f_X0_keep nx0 a o1 S = some res) : m_Av l yX0_keep cX0_keep 3 rm_X0_keep G nx0 κ0 [.ref a, .ref o1] S res 9 2060 := by
  refine m_Av.of (by decide) (Nat.le_of_ble_eq_true rfl) ?_
  intro p e s m args below meth c ls X hN hr hH hl
  have hx := X.1.1
  have hb := X.1.2.1
  have hS : m_S G s s.heap [] := va_S.rf
  have hl : lv_has ls 3 [(0, .ref a), (1, .ref o1)] := hl
  have hle : nx0 ≤ nx0 := Nat.le_refl _
  have hq : ∀ q, q < nx0 → κ0 q = κ0 q := fun _ _ => rfl
  rw [f_X0_keep] at hm
  refine lv_aload_n hx hb dX0_keep_0 rfl (lv_at hl 0 rfl) ?_
  refine r_geti X hH (k := 0) (a := a) (j := 2) hk_a (by decide) rfl m_wi0 (by decide) in_3_64 rfl rfl dX0_keep_1 ?_
  refine lv_bipush (v := (8 : Int32)) hx hb dX0_keep_4 (by decide) ?_
  refine lv_icmp_ne (tgt := 32) hx hb dX0_keep_6 (by decide) (fun c1 => ?_) (fun c1 => ?_)
  · have hm := m_ite_f hm c1
    refine W.widen (k := 0) (n := 0) (Nat.le_of_ble_eq_true rfl) (Nat.le_of_ble_eq_true rfl) ?_
    exact k_X0_keep_32 (nx0 := nx0) (a := a) (o1 := o1) (κ0 := κ0) X hN hr   S _ _ _ hT hk_a hk_o1 hH hS hl hm
  · have hm := m_ite_t hm c1
    refine lv_aload_n hx hb dX0_keep_9 rfl (lv_at hl 0 rfl) ?_
    refine lv_aload_n hx hb dX0_keep_10 rfl (lv_at hl 0 rfl) ?_
    refine r_geti X hH (k := 0) (a := a) (j := 1) hk_a (by decide) rfl m_wi0 (by decide) in_3_63 rfl rfl dX0_keep_11 ?_
    refine lv_iconst (v := (1 : Int32)) hx hb dX0_keep_14 (by decide) ?_
    refine lv_iadd hx hb dX0_keep_15 ?_
    refine lv_bipush (v := (8 : Int32)) hx hb dX0_keep_16 (by decide) ?_
    refine lv_irem hx hb dX0_keep_18 (by decide) ?_
    obtain ⟨S2, e_S2, hm⟩ := m_let_of hm
    refine n_puti X hH hS tyX0 (k := 0) (a := a) (j := 1) hk_a (by decide) rfl m_wi0 tyX0_ok nmX0 (by decide) in_3_63 rfl rfl rfl ⟨rfl, rfl⟩ e_S2 dX0_keep_19 (fun H locs hH hS => ?_)
    refine lv_aload_n hx hb dX0_keep_22 rfl (lv_at hl 0 rfl) ?_
    refine lv_dup hx hb dX0_keep_23 rfl ?_
    refine r_geti X hH (k := 0) (a := a) (j := 2) hk_a (by decide) rfl m_wi0 (by decide) in_3_64 rfl rfl dX0_keep_24 ?_
    refine lv_iconst (v := (1 : Int32)) hx hb dX0_keep_27 (by decide) ?_
    refine lv_isub hx hb dX0_keep_28 ?_
    obtain ⟨S3, e_S3, hm⟩ := m_let_of hm
    refine n_puti X hH hS tyX0 (k := 0) (a := a) (j := 2) hk_a (by decide) rfl m_wi0 tyX0_ok nmX0 (by decide) in_3_64 rfl rfl rfl ⟨rfl, rfl⟩ e_S3 dX0_keep_29 (fun H locs hH hS => ?_)
    refine W.widen (k := 0) (n := 0) (Nat.le_of_ble_eq_true rfl) (Nat.le_of_ble_eq_true rfl) ?_
    exact k_X0_keep_32 (nx0 := nx0) (a := a) (o1 := o1) (κ0 := κ0) X hN hr   S3 _ _ _ hT hk_a hk_o1 hH hS hl hm
def rm_X11_load : Room := { frames := 4, cells := 9, slots := 2060, locals := 103 }
def f_X11_load (nx0 a : Nat) (S : m_M)  : Option (Int32 × m_M) :=
    m_call (f_X11_takeTape a S) fun v2 S1 =>
    m_call (f_X11_fitsMain a S1 v2) fun v4 S3 =>
    if v4 = 0 then (
    if (0 : Int32) = 0 ∨ (0 : Int32) = 1 then some ((0 : Int32), S3) else none) else (
    m_cal0 (f_X0_keep nx0 (a + 96) (a + 70) S3) fun S6 =>
    m_cal0 (f_X11_beginWithTape a (a + 70) S6) fun S7 =>
    if (1 : Int32) = 0 ∨ (1 : Int32) = 1 then some ((1 : Int32), S7) else none)
set_option maxHeartbeats 4000000 in
set_option maxRecDepth 100000 in
theorem c_X11_load {l : Launch} {G : m_G} {κ0 : Nat → Nat} {nx0 a : Nat} {S : m_M}  {res : (Int32 × m_M)} (hT : m_Str κ0) (hk_a : κ0 a = 12) (hm : f_X11_load nx0 a S = some res) : m_Ai l yX11_load cX11_load 1 (some .boolean) rm_X11_load G nx0 κ0 [.ref a] S res 9 2060 := by
  refine m_Ai.of (by decide) (Nat.le_of_ble_eq_true rfl) ?_
  intro p e s m args below meth c ls X hN hr hH hl
  have hx := X.1.1
  have hb := X.1.2.1
  have hS : m_S G s s.heap [] := va_S.rf
  have hl : lv_has ls 1 [(0, .ref a)] := hl
  have hle : nx0 ≤ nx0 := Nat.le_refl _
  have hq : ∀ q, q < nx0 → κ0 q = κ0 q := fun _ _ => rfl
  rw [f_X11_load] at hm
  refine lv_aload_n hx hb dX11_load_0 rfl (lv_at hl 0 rfl) ?_
  refine lv_aload_n hx hb dX11_load_1 rfl (lv_at hl 0 rfl) ?_
  obtain ⟨v2, S1, e_S1, hm⟩ := m_call_of hm
  refine n_cVi X hH hS (k := 11) (c_X11_takeTape (a := a) hT hk_a e_S1) mw_X11_takeTape in_3_129 hk_a (by decide) rfl rfl rfl ⟨rfl, rfl⟩ ⟨Nat.le_of_ble_eq_true rfl, Nat.le_of_ble_eq_true rfl⟩ ⟨Nat.le_of_ble_eq_true rfl, Nat.le_of_ble_eq_true rfl⟩ hl.1 (Nat.le_of_ble_eq_true rfl) dX11_load_2 (fun H locs hH hS => ?_)
  obtain ⟨v4, S3, e_S3, hm⟩ := m_call_of hm
  refine n_cVi X hH hS (k := 11) (c_X11_fitsMain (a := a) hT hk_a e_S3) mw_X11_fitsMain in_4_224 hk_a (by decide) rfl rfl rfl ⟨rfl, rfl⟩ ⟨Nat.le_of_ble_eq_true rfl, Nat.le_of_ble_eq_true rfl⟩ ⟨Nat.le_of_ble_eq_true rfl, Nat.le_of_ble_eq_true rfl⟩ hl.1 (Nat.le_of_ble_eq_true rfl) dX11_load_5 (fun H locs hH hS => ?_)
  refine lv_if_ne (tgt := 13) hx hb dX11_load_8 (by decide) (fun c5 => ?_) (fun c5 => ?_)
  · have hm := m_ite_f hm c5
    refine lv_aload_n hx hb dX11_load_13 rfl (lv_at hl 0 rfl) ?_
    refine r_getp X hH (k := 11) (a := a) (j := 9) (b := (a + 96)) (A := 96) (B := 0) hk_a (by decide) rfl m_wi11 (by decide) in_3_82 rfl rfl rfl dX11_load_14 ?_
    refine lv_aload_n hx hb dX11_load_17 rfl (lv_at hl 0 rfl) ?_
    refine r_getp X hH (k := 11) (a := a) (j := 6) (b := (a + 47)) (A := 47) (B := 0) hk_a (by decide) rfl m_wi11 (by decide) in_3_79 rfl rfl rfl dX11_load_18 ?_
    refine r_getp X hH (k := 10) (a := (a + 47)) (j := 1) (b := (a + 70)) (A := 23) (B := 0) (m_lay_at hT hk_a (by decide) (i := 47) rfl) (by decide) rfl m_wi10 (by decide) in_3_25 rfl rfl rfl dX11_load_21 ?_
    obtain ⟨S6, e_S6, hm⟩ := m_cal0_of hm
    have hHo := hH
    refine n_cAv X hN hH hS (k := 0) (c_X0_keep (nx0 := nx0) (a := (a + 96)) (o1 := (a + 70)) hT (m_lay_at hT hk_a (by decide) (i := 96) rfl) (m_lay_at hT hk_a (by decide) (i := 70) rfl) e_S6) mw_X0_keep in_4_228 (m_lay_at hT hk_a (by decide) (i := 96) rfl) (by decide) rfl rfl rfl ⟨rfl, rfl⟩ ⟨Nat.le_of_ble_eq_true rfl, Nat.le_of_ble_eq_true rfl⟩ ⟨Nat.le_of_ble_eq_true rfl, Nat.le_of_ble_eq_true rfl⟩ hl.1 (Nat.le_of_ble_eq_true rfl) dX11_load_24 (fun H locs nx κ hle1 hq1 hT hH hS => ?_)
    have hk_a := m_hk hHo hk_a (by decide) hq1
    have hq : ∀ q, q < nx0 → κ q = κ0 q := fun q h => (hq1 q (by omega)).trans (hq q h)
    have hle : nx0 ≤ nx := by omega
    refine lv_aload_n hx hb dX11_load_27 rfl (lv_at hl 0 rfl) ?_
    refine lv_aload_n hx hb dX11_load_28 rfl (lv_at hl 0 rfl) ?_
    refine r_getp X hH (k := 11) (a := a) (j := 6) (b := (a + 47)) (A := 47) (B := 0) hk_a (by decide) rfl m_wi11 (by decide) in_3_79 rfl rfl rfl dX11_load_29 ?_
    refine r_getp X hH (k := 10) (a := (a + 47)) (j := 1) (b := (a + 70)) (A := 23) (B := 0) (m_lay_at hT hk_a (by decide) (i := 47) rfl) (by decide) rfl m_wi10 (by decide) in_3_25 rfl rfl rfl dX11_load_32 ?_
    obtain ⟨S7, e_S7, hm⟩ := m_cal0_of hm
    refine r_cVv X hH hS (k := 11) (c_X11_beginWithTape (a := a) (o1 := (a + 70)) hT hk_a (m_lay_at hT hk_a (by decide) (i := 70) rfl) e_S7) mw_X11_beginWithTape in_4_238 hk_a (by decide) rfl rfl rfl ⟨rfl, rfl⟩ ⟨Nat.le_of_ble_eq_true rfl, Nat.le_of_ble_eq_true rfl⟩ ⟨Nat.le_of_ble_eq_true rfl, Nat.le_of_ble_eq_true rfl⟩ hl.1 (Nat.le_of_ble_eq_true rfl) dX11_load_35 (fun H locs hH hS => ?_)
    refine lv_iconst (v := (1 : Int32)) hx hb dX11_load_38 (by decide) ?_
    exact r_azret X hN hr hH hS hm hT hle hq (Nat.le_of_ble_eq_true rfl) (Nat.le_of_ble_eq_true rfl) dX11_load_39
  · have hm := m_ite_t hm c5
    refine lv_iconst (v := (0 : Int32)) hx hb dX11_load_11 (by decide) ?_
    exact r_azret X hN hr hH hS hm hT hle hq (Nat.le_of_ble_eq_true rfl) (Nat.le_of_ble_eq_true rfl) dX11_load_12
def rm_X11_steps : Room := { frames := 5, cells := 9, slots := 2060, locals := 155 }
def b_X11_steps_12 (nx0 a : Nat)  (S : m_M)  : Option (Int32 × m_M) :=
    some ((-1 : Int32), S)
set_option maxHeartbeats 4000000 in
set_option maxRecDepth 100000 in
theorem k_X11_steps_12 {p : Program} {l : Launch} {e : Env} {s : State} {m : MethodId} {args : Array Value} {below : List Frame} {meth : Method} {c : Code} {G : m_G} {κ0 : Nat → Nat} {res : (Int32 × m_M)} {nx0 a : Nat} (X : m_Cx p s m args meth c cX11_steps 4 RX11 G) (hN : m_N s) (hr : meth.sig.returnType = (some .int))  : ∀ (S : m_M)  (H : Heap) (locs : List Loc) (ls : Array Slot), m_Str κ0 → κ0 a = 12 → m_H G nx0 κ0 S H → m_S G s H locs → lv_has ls 4 [] → b_X11_steps_12 nx0 a S  = some res → W p l e rm_X11_steps s m args below meth c H locs 0 0 (m_QAi below args s G nx0 κ0 res 9 2060) (F0 m 12 ls []) := by
  have hx := X.1.1
  have hb := X.1.2.1
  intro S H locs ls hT hk_a hH hS hl hm
  rw [b_X11_steps_12] at hm
  have hle : nx0 ≤ nx0 := Nat.le_refl _
  have hq : ∀ q, q < nx0 → κ0 q = κ0 q := fun _ _ => rfl
  refine lv_iconst (v := (-1 : Int32)) hx hb dX11_steps_12 (by decide) ?_
  exact r_airet X hN hr hH hS hm hT hle hq (Nat.le_of_ble_eq_true rfl) (Nat.le_of_ble_eq_true rfl) dX11_steps_13
def b_X11_steps_93 (nx0 a : Nat)  (S : m_M) (l2 : Int32) : Option (Int32 × m_M) :=
    some (l2, S)
set_option maxHeartbeats 4000000 in
set_option maxRecDepth 100000 in
theorem k_X11_steps_93 {p : Program} {l : Launch} {e : Env} {s : State} {m : MethodId} {args : Array Value} {below : List Frame} {meth : Method} {c : Code} {G : m_G} {κ0 : Nat → Nat} {res : (Int32 × m_M)} {nx0 a : Nat} (X : m_Cx p s m args meth c cX11_steps 4 RX11 G) (hN : m_N s) (hr : meth.sig.returnType = (some .int))  : ∀ (nx : Nat) (κ : Nat → Nat) (S : m_M) (l2 : Int32) (H : Heap) (locs : List Loc) (ls : Array Slot), m_Str κ → κ a = 12 → nx0 ≤ nx → (∀ q, q < nx0 → κ q = κ0 q) → m_H G nx κ S H → m_S G s H locs → lv_has ls 4 [(2, .int l2)] → b_X11_steps_93 nx0 a S l2 = some res → W p l e rm_X11_steps s m args below meth c H locs 9 2060 (m_QAi below args s G nx0 κ0 res 9 2060) (F0 m 93 ls []) := by
  have hx := X.1.1
  have hb := X.1.2.1
  intro nx κ S l2 H locs ls hT hk_a hle hq hH hS hl hm
  rw [b_X11_steps_93] at hm
  refine lv_iload_n hx hb dX11_steps_93 rfl (lv_at hl 0 rfl) ?_
  exact r_airet X hN hr hH hS hm hT hle hq (Nat.le_of_ble_eq_true rfl) (Nat.le_of_ble_eq_true rfl) dX11_steps_94
def b_X11_steps_48 (nx0 a : Nat)  : Nat → m_M → Int32 → Int32 → Int32 → Option (Int32 × m_M)
  | 0, _, _, _, _ => none
  | n + 1, S, l1, l2, l3 =>
    if l1 ≤ l3 then (
    b_X11_steps_93 nx0 a S l2) else (
    if (m_ri S (a + 70) 0) = (1 : Int32) then (
    m_cal0 (f_X2_makeStep (a + 70) (a + 48) S) fun S3 =>
    m_let (l2 + (1 : Int32)) fun v4 =>
    m_let (l3 + (1 : Int32)) fun v5 =>
    b_X11_steps_48 nx0 a n S3 l1 v4 v5) else (
    b_X11_steps_93 nx0 a S l2))
set_option maxHeartbeats 4000000 in
set_option maxRecDepth 100000 in
theorem k_X11_steps_48 {p : Program} {l : Launch} {e : Env} {s : State} {m : MethodId} {args : Array Value} {below : List Frame} {meth : Method} {c : Code} {G : m_G} {κ0 : Nat → Nat} {res : (Int32 × m_M)} {nx0 a : Nat} (X : m_Cx p s m args meth c cX11_steps 4 RX11 G) (hN : m_N s) (hr : meth.sig.returnType = (some .int))  (n : Nat) : ∀ (nx : Nat) (κ : Nat → Nat) (S : m_M) (l1 : Int32) (l2 : Int32) (l3 : Int32) (H : Heap) (locs : List Loc) (ls : Array Slot), m_Str κ → κ a = 12 → nx0 ≤ nx → (∀ q, q < nx0 → κ q = κ0 q) → m_H G nx κ S H → m_S G s H locs → lv_has ls 4 [(0, .ref a), (1, .int l1), (2, .int l2), (3, .int l3)] → b_X11_steps_48 nx0 a n S l1 l2 l3 = some res → W p l e rm_X11_steps s m args below meth c H locs 9 2060 (m_QAi below args s G nx0 κ0 res 9 2060) (F0 m 48 ls []) := by
  have hx := X.1.1
  have hb := X.1.2.1
  induction n with
  | zero => intro nx κ S l1 l2 l3 H locs ls hT hk_a hle hq hH hS hl hm; have hm : (none : Option (Int32 × m_M)) = some res := hm; cases hm
  | succ n ih =>
    intro nx κ S l1 l2 l3 H locs ls hT hk_a hle hq hH hS hl hm
    rw [b_X11_steps_48] at hm
    refine lv_iload_n hx hb dX11_steps_48 rfl (lv_at hl 3 rfl) ?_
    refine lv_iload_n hx hb dX11_steps_49 rfl (lv_at hl 1 rfl) ?_
    refine lv_icmp_ge (tgt := 93) hx hb dX11_steps_50 (by decide) (fun c1 => ?_) (fun c1 => ?_)
    · have hm := m_ite_t hm c1
      refine W.widen (k := 9) (n := 2060) (Nat.le_of_ble_eq_true rfl) (Nat.le_of_ble_eq_true rfl) ?_
      exact k_X11_steps_93 (nx0 := nx0) (a := a) (κ0 := κ0) X hN hr   nx κ S l2 _ _ _ hT hk_a hle hq hH hS (lv_sub hl [2] rfl) hm
    · have hm := m_ite_f hm c1
      refine lv_aload_n hx hb dX11_steps_53 rfl (lv_at hl 0 rfl) ?_
      refine r_getp X hH (k := 11) (a := a) (j := 6) (b := (a + 47)) (A := 47) (B := 0) hk_a (by decide) rfl m_wi11 (by decide) in_3_79 rfl rfl rfl dX11_steps_54 ?_
      refine r_getp X hH (k := 10) (a := (a + 47)) (j := 1) (b := (a + 70)) (A := 23) (B := 0) (m_lay_at hT hk_a (by decide) (i := 47) rfl) (by decide) rfl m_wi10 (by decide) in_3_25 rfl rfl rfl dX11_steps_57 ?_
      refine r_geti X hH (k := 2) (a := (a + 70)) (j := 0) (m_lay_at hT hk_a (by decide) (i := 70) rfl) (by decide) rfl m_wi2 (by decide) in_2_177 rfl rfl dX11_steps_60 ?_
      refine lv_iconst (v := (1 : Int32)) hx hb dX11_steps_63 (by decide) ?_
      refine lv_icmp_ne (tgt := 93) hx hb dX11_steps_64 (by decide) (fun c2 => ?_) (fun c2 => ?_)
      · have hm := m_ite_f hm c2
        refine W.widen (k := 9) (n := 2060) (Nat.le_of_ble_eq_true rfl) (Nat.le_of_ble_eq_true rfl) ?_
        exact k_X11_steps_93 (nx0 := nx0) (a := a) (κ0 := κ0) X hN hr   nx κ S l2 _ _ _ hT hk_a hle hq hH hS (lv_sub hl [2] rfl) hm
      · have hm := m_ite_t hm c2
        refine lv_aload_n hx hb dX11_steps_67 rfl (lv_at hl 0 rfl) ?_
        refine r_getp X hH (k := 11) (a := a) (j := 6) (b := (a + 47)) (A := 47) (B := 0) hk_a (by decide) rfl m_wi11 (by decide) in_3_79 rfl rfl rfl dX11_steps_68 ?_
        refine r_getp X hH (k := 10) (a := (a + 47)) (j := 1) (b := (a + 70)) (A := 23) (B := 0) (m_lay_at hT hk_a (by decide) (i := 47) rfl) (by decide) rfl m_wi10 (by decide) in_3_25 rfl rfl rfl dX11_steps_71 ?_
        refine lv_aload_n hx hb dX11_steps_74 rfl (lv_at hl 0 rfl) ?_
        refine r_getp X hH (k := 11) (a := a) (j := 6) (b := (a + 47)) (A := 47) (B := 0) hk_a (by decide) rfl m_wi11 (by decide) in_3_79 rfl rfl rfl dX11_steps_75 ?_
        refine r_getp X hH (k := 10) (a := (a + 47)) (j := 0) (b := (a + 48)) (A := 1) (B := 0) (m_lay_at hT hk_a (by decide) (i := 47) rfl) (by decide) rfl m_wi10 (by decide) in_3_23 rfl rfl rfl dX11_steps_78 ?_
        obtain ⟨S3, e_S3, hm⟩ := m_cal0_of hm
        refine r_cVv X hH hS (k := 2) (c_X2_makeStep (a := (a + 70)) (o1 := (a + 48)) hT (m_lay_at hT hk_a (by decide) (i := 70) rfl) (m_lay_at hT hk_a (by decide) (i := 48) rfl) e_S3) mw_X2_makeStep in_5_28 (m_lay_at hT hk_a (by decide) (i := 70) rfl) (by decide) rfl rfl rfl ⟨rfl, rfl⟩ ⟨Nat.le_of_ble_eq_true rfl, Nat.le_of_ble_eq_true rfl⟩ ⟨Nat.le_of_ble_eq_true rfl, Nat.le_of_ble_eq_true rfl⟩ hl.1 (Nat.le_of_ble_eq_true rfl) dX11_steps_81 (fun H locs hH hS => ?_)
        obtain ⟨v4, e_v4, hm⟩ := m_let_of hm
        refine lv_iinc (v := v4) (lv' := [(2, .int v4), (0, .ref a), (1, .int l1), (3, .int l3)]) hx hb dX11_steps_84 hl (k := 2) rfl (by rw [← e_v4]; rfl) (by decide) rfl (fun ls hl => ?_)
        obtain ⟨v5, e_v5, hm⟩ := m_let_of hm
        refine lv_iinc (v := v5) (lv' := [(3, .int v5), (2, .int v4), (0, .ref a), (1, .int l1)]) hx hb dX11_steps_87 hl (k := 3) rfl (by rw [← e_v5]; rfl) (by decide) rfl (fun ls hl => ?_)
        refine lv_goto (tgt := 48) hx hb dX11_steps_90 (by decide) ?_
        refine W.widen (k := 9) (n := 2060) (Nat.le_of_ble_eq_true rfl) (Nat.le_of_ble_eq_true rfl) ?_
        exact ih nx κ S3 l1 v4 v5 _ _ _ hT hk_a hle hq hH hS (lv_sub hl [2, 3, 1, 0] rfl) hm
def f_X11_steps (nx0 a : Nat) (S : m_M) (i1 : Int32) : Option (Int32 × m_M) :=
    if i1 < (1 : Int32) then (
    b_X11_steps_12 nx0 a S) else (
    if i1 ≤ (500 : Int32) then (
    if (m_ri S (a + 70) 0) = (1 : Int32) then (
    m_cal0 (f_X0_keep nx0 (a + 96) (a + 70) S) fun S4 =>
    b_X11_steps_48 nx0 a m_fu S4 i1 (0 : Int32) (0 : Int32)) else (
    some ((0 : Int32), S))) else (
    b_X11_steps_12 nx0 a S))
set_option maxHeartbeats 4000000 in
set_option maxRecDepth 100000 in
theorem c_X11_steps {l : Launch} {G : m_G} {κ0 : Nat → Nat} {nx0 a : Nat} {S : m_M} {i1 : Int32} {res : (Int32 × m_M)} (hT : m_Str κ0) (hk_a : κ0 a = 12) (hm : f_X11_steps nx0 a S i1 = some res) : m_Ai l yX11_steps cX11_steps 4 (some .int) rm_X11_steps G nx0 κ0 [.ref a, .int i1] S res 9 2060 := by
  refine m_Ai.of (by decide) (Nat.le_of_ble_eq_true rfl) ?_
  intro p e s m args below meth c ls X hN hr hH hl
  have hx := X.1.1
  have hb := X.1.2.1
  have hS : m_S G s s.heap [] := va_S.rf
  have hl : lv_has ls 4 [(0, .ref a), (1, .int i1)] := hl
  have hle : nx0 ≤ nx0 := Nat.le_refl _
  have hq : ∀ q, q < nx0 → κ0 q = κ0 q := fun _ _ => rfl
  rw [f_X11_steps] at hm
  refine lv_iload_n hx hb dX11_steps_0 rfl (lv_at hl 1 rfl) ?_
  refine lv_iconst (v := (1 : Int32)) hx hb dX11_steps_1 (by decide) ?_
  refine lv_icmp_lt (tgt := 12) hx hb dX11_steps_2 (by decide) (fun c1 => ?_) (fun c1 => ?_)
  · have hm := m_ite_t hm c1
    refine W.widen (k := 0) (n := 0) (Nat.le_of_ble_eq_true rfl) (Nat.le_of_ble_eq_true rfl) ?_
    exact k_X11_steps_12 (nx0 := nx0) (a := a) (κ0 := κ0) X hN hr   S _ _ _ hT hk_a hH hS (lv_sub hl [] rfl) hm
  · have hm := m_ite_f hm c1
    refine lv_iload_n hx hb dX11_steps_5 rfl (lv_at hl 1 rfl) ?_
    refine lv_sipush (v := (500 : Int32)) hx hb dX11_steps_6 (by decide) ?_
    refine lv_icmp_le (tgt := 14) hx hb dX11_steps_9 (by decide) (fun c2 => ?_) (fun c2 => ?_)
    · have hm := m_ite_t hm c2
      refine lv_aload_n hx hb dX11_steps_14 rfl (lv_at hl 0 rfl) ?_
      refine r_getp X hH (k := 11) (a := a) (j := 6) (b := (a + 47)) (A := 47) (B := 0) hk_a (by decide) rfl m_wi11 (by decide) in_3_79 rfl rfl rfl dX11_steps_15 ?_
      refine r_getp X hH (k := 10) (a := (a + 47)) (j := 1) (b := (a + 70)) (A := 23) (B := 0) (m_lay_at hT hk_a (by decide) (i := 47) rfl) (by decide) rfl m_wi10 (by decide) in_3_25 rfl rfl rfl dX11_steps_18 ?_
      refine r_geti X hH (k := 2) (a := (a + 70)) (j := 0) (m_lay_at hT hk_a (by decide) (i := 70) rfl) (by decide) rfl m_wi2 (by decide) in_2_177 rfl rfl dX11_steps_21 ?_
      refine lv_iconst (v := (1 : Int32)) hx hb dX11_steps_24 (by decide) ?_
      refine lv_icmp_eq (tgt := 30) hx hb dX11_steps_25 (by decide) (fun c3 => ?_) (fun c3 => ?_)
      · have hm := m_ite_t hm c3
        refine lv_aload_n hx hb dX11_steps_30 rfl (lv_at hl 0 rfl) ?_
        refine r_getp X hH (k := 11) (a := a) (j := 9) (b := (a + 96)) (A := 96) (B := 0) hk_a (by decide) rfl m_wi11 (by decide) in_3_82 rfl rfl rfl dX11_steps_31 ?_
        refine lv_aload_n hx hb dX11_steps_34 rfl (lv_at hl 0 rfl) ?_
        refine r_getp X hH (k := 11) (a := a) (j := 6) (b := (a + 47)) (A := 47) (B := 0) hk_a (by decide) rfl m_wi11 (by decide) in_3_79 rfl rfl rfl dX11_steps_35 ?_
        refine r_getp X hH (k := 10) (a := (a + 47)) (j := 1) (b := (a + 70)) (A := 23) (B := 0) (m_lay_at hT hk_a (by decide) (i := 47) rfl) (by decide) rfl m_wi10 (by decide) in_3_25 rfl rfl rfl dX11_steps_38 ?_
        obtain ⟨S4, e_S4, hm⟩ := m_cal0_of hm
        have hHo := hH
        refine n_cAv X hN hH hS (k := 0) (c_X0_keep (nx0 := nx0) (a := (a + 96)) (o1 := (a + 70)) hT (m_lay_at hT hk_a (by decide) (i := 96) rfl) (m_lay_at hT hk_a (by decide) (i := 70) rfl) e_S4) mw_X0_keep in_4_228 (m_lay_at hT hk_a (by decide) (i := 96) rfl) (by decide) rfl rfl rfl ⟨rfl, rfl⟩ ⟨Nat.le_of_ble_eq_true rfl, Nat.le_of_ble_eq_true rfl⟩ ⟨Nat.le_of_ble_eq_true rfl, Nat.le_of_ble_eq_true rfl⟩ hl.1 (Nat.le_of_ble_eq_true rfl) dX11_steps_41 (fun H locs nx κ hle1 hq1 hT hH hS => ?_)
        have hk_a := m_hk hHo hk_a (by decide) hq1
        have hq : ∀ q, q < nx0 → κ q = κ0 q := fun q h => (hq1 q (by omega)).trans (hq q h)
        have hle : nx0 ≤ nx := by omega
        refine lv_iconst (v := (0 : Int32)) hx hb dX11_steps_44 (by decide) ?_
        refine lv_istore_n (lv' := [(2, .int (0 : Int32)), (0, .ref a), (1, .int i1)]) hx hb dX11_steps_45 rfl hl (by decide) rfl (fun ls hl => ?_)
        refine lv_iconst (v := (0 : Int32)) hx hb dX11_steps_46 (by decide) ?_
        refine lv_istore_n (lv' := [(3, .int (0 : Int32)), (2, .int (0 : Int32)), (0, .ref a), (1, .int i1)]) hx hb dX11_steps_47 rfl hl (by decide) rfl (fun ls hl => ?_)
        refine W.widen (k := 9) (n := 2060) (Nat.le_of_ble_eq_true rfl) (Nat.le_of_ble_eq_true rfl) ?_
        exact k_X11_steps_48 (nx0 := nx0) (a := a) (κ0 := κ0) X hN hr  m_fu nx κ S4 i1 (0 : Int32) (0 : Int32) _ _ _ hT hk_a hle hq hH hS (lv_sub hl [2, 3, 1, 0] rfl) hm
      · have hm := m_ite_f hm c3
        refine lv_iconst (v := (0 : Int32)) hx hb dX11_steps_28 (by decide) ?_
        exact r_airet X hN hr hH hS hm hT hle hq (Nat.le_of_ble_eq_true rfl) (Nat.le_of_ble_eq_true rfl) dX11_steps_29
    · have hm := m_ite_f hm c2
      refine W.widen (k := 0) (n := 0) (Nat.le_of_ble_eq_true rfl) (Nat.le_of_ble_eq_true rfl) ?_
      exact k_X11_steps_12 (nx0 := nx0) (a := a) (κ0 := κ0) X hN hr   S _ _ _ hT hk_a hH hS (lv_sub hl [] rfl) hm
def rm_X11_image : Room := { frames := 4, cells := 37, slots := 3131, locals := 123 }
def b_X11_image_9 (nx0 a : Nat)  (S : m_M)  : Option (Int32 × m_M) :=
    if (0 : Int32) = 0 ∨ (0 : Int32) = 1 then some ((0 : Int32), S) else none
set_option maxHeartbeats 4000000 in
set_option maxRecDepth 100000 in
theorem k_X11_image_9 {p : Program} {l : Launch} {e : Env} {s : State} {m : MethodId} {args : Array Value} {below : List Frame} {meth : Method} {c : Code} {G : m_G} {κ0 : Nat → Nat} {res : (Int32 × m_M)} {nx0 a : Nat} (X : m_Cx p s m args meth c cX11_image 2 RX11 G) (hN : m_N s) (hr : meth.sig.returnType = (some .boolean))  : ∀ (S : m_M)  (H : Heap) (locs : List Loc) (ls : Array Slot), m_Str κ0 → κ0 a = 12 → m_H G nx0 κ0 S H → m_S G s H locs → lv_has ls 2 [] → b_X11_image_9 nx0 a S  = some res → W p l e rm_X11_image s m args below meth c H locs 0 0 (m_QAi below args s G nx0 κ0 res 37 3131) (F0 m 9 ls []) := by
  have hx := X.1.1
  have hb := X.1.2.1
  intro S H locs ls hT hk_a hH hS hl hm
  rw [b_X11_image_9] at hm
  have hle : nx0 ≤ nx0 := Nat.le_refl _
  have hq : ∀ q, q < nx0 → κ0 q = κ0 q := fun _ _ => rfl
  refine lv_iconst (v := (0 : Int32)) hx hb dX11_image_9 (by decide) ?_
  exact r_azret X hN hr hH hS hm hT hle hq (Nat.le_of_ble_eq_true rfl) (Nat.le_of_ble_eq_true rfl) dX11_image_10
def b_X11_image_33 (nx0 a : Nat)  (S : m_M) (l1 : Int32) : Option (Int32 × m_M) :=
    (m_ldr S (a + 98) 2 l1).bind fun v1 =>
    v1.bind fun b2 =>
    m_cal0 (f_X10_copyFrom b2 (a + 47) S) fun S3 =>
    if (1 : Int32) = 0 ∨ (1 : Int32) = 1 then some ((1 : Int32), S3) else none
set_option maxHeartbeats 4000000 in
set_option maxRecDepth 100000 in
theorem k_X11_image_33 {p : Program} {l : Launch} {e : Env} {s : State} {m : MethodId} {args : Array Value} {below : List Frame} {meth : Method} {c : Code} {G : m_G} {κ0 : Nat → Nat} {res : (Int32 × m_M)} {nx0 a : Nat} (X : m_Cx p s m args meth c cX11_image 2 RX11 G) (hN : m_N s) (hr : meth.sig.returnType = (some .boolean))  : ∀ (nx : Nat) (κ : Nat → Nat) (S : m_M) (l1 : Int32) (H : Heap) (locs : List Loc) (ls : Array Slot), m_Str κ → κ a = 12 → nx0 ≤ nx → (∀ q, q < nx0 → κ q = κ0 q) → m_H G nx κ S H → m_S G s H locs → lv_has ls 2 [(0, .ref a), (1, .int l1)] → b_X11_image_33 nx0 a S l1 = some res → W p l e rm_X11_image s m args below meth c H locs 37 3131 (m_QAi below args s G nx0 κ0 res 37 3131) (F0 m 33 ls []) := by
  have hx := X.1.1
  have hb := X.1.2.1
  intro nx κ S l1 H locs ls hT hk_a hle hq hH hS hl hm
  rw [b_X11_image_33] at hm
  refine lv_aload_n hx hb dX11_image_33 rfl (lv_at hl 0 rfl) ?_
  refine r_getp X hH (k := 11) (a := a) (j := 10) (b := (a + 98)) (A := 98) (B := 0) hk_a (by decide) rfl m_wi11 (by decide) in_3_83 rfl rfl rfl dX11_image_34 ?_
  refine lv_iload_n hx hb dX11_image_37 rfl (lv_at hl 1 rfl) ?_
  obtain ⟨v1, h_v1, e_v1, hm⟩ := n_ldr hm
  obtain ⟨b2, e_b2, hm⟩ := m_bind_of hm
  subst e_b2
  refine n_aald X hH (t := 5) (n := 2) (v := some b2) (m_lay_at hT hk_a (by decide) (i := 98) rfl) (by decide) h_v1 e_v1 dX11_image_38 ?_
  have hk_b2 : κ b2 = 11 := m_kel hH (t := 5) (n := 2) (m_lay_at hT hk_a (by decide) (i := 98) rfl) (by decide) e_v1
  refine lv_aload_n hx hb dX11_image_39 rfl (lv_at hl 0 rfl) ?_
  refine r_getp X hH (k := 11) (a := a) (j := 6) (b := (a + 47)) (A := 47) (B := 0) hk_a (by decide) rfl m_wi11 (by decide) in_3_79 rfl rfl rfl dX11_image_40 ?_
  obtain ⟨S3, e_S3, hm⟩ := m_cal0_of hm
  refine r_cVv X hH hS (k := 10) (c_X10_copyFrom (a := b2) (o1 := (a + 47)) hT hk_b2 (m_lay_at hT hk_a (by decide) (i := 47) rfl) e_S3) mw_X10_copyFrom in_6_43 hk_b2 (by decide) rfl rfl rfl ⟨rfl, rfl⟩ ⟨Nat.le_of_ble_eq_true rfl, Nat.le_of_ble_eq_true rfl⟩ ⟨Nat.le_of_ble_eq_true rfl, Nat.le_of_ble_eq_true rfl⟩ hl.1 (Nat.le_of_ble_eq_true rfl) dX11_image_43 (fun H locs hH hS => ?_)
  refine lv_iconst (v := (1 : Int32)) hx hb dX11_image_46 (by decide) ?_
  exact r_azret X hN hr hH hS hm hT hle hq (Nat.le_of_ble_eq_true rfl) (Nat.le_of_ble_eq_true rfl) dX11_image_47
def f_X11_image (nx0 a : Nat) (S : m_M) (i1 : Int32) : Option (Int32 × m_M) :=
    if i1 < 0 then (
    b_X11_image_9 nx0 a S) else (
    if i1 < (2 : Int32) then (
    (m_ldr S (a + 98) 2 i1).bind fun v3 =>
    if v3 = none then (
    m_let (m_new S nx0) fun S5 =>
    m_cal0 (f_X10_init nx0 S5) fun S6 =>
    (m_str S6 (a + 98) 2 i1 (some nx0)).bind fun S7 =>
    b_X11_image_33 nx0 a S7 i1) else (
    b_X11_image_33 nx0 a S i1)) else (
    b_X11_image_9 nx0 a S))
set_option maxHeartbeats 4000000 in
set_option maxRecDepth 100000 in
theorem c_X11_image {l : Launch} {G : m_G} {κ0 : Nat → Nat} {nx0 a : Nat} {S : m_M} {i1 : Int32} {res : (Int32 × m_M)} (hT : m_Str κ0) (hk_a : κ0 a = 12) (hm : f_X11_image nx0 a S i1 = some res) : m_Ai l yX11_image cX11_image 2 (some .boolean) rm_X11_image G nx0 κ0 [.ref a, .int i1] S res 37 3131 := by
  refine m_Ai.of (by decide) (Nat.le_of_ble_eq_true rfl) ?_
  intro p e s m args below meth c ls X hN hr hH hl
  have hx := X.1.1
  have hb := X.1.2.1
  have hS : m_S G s s.heap [] := va_S.rf
  have hl : lv_has ls 2 [(0, .ref a), (1, .int i1)] := hl
  have hle : nx0 ≤ nx0 := Nat.le_refl _
  have hq : ∀ q, q < nx0 → κ0 q = κ0 q := fun _ _ => rfl
  rw [f_X11_image] at hm
  refine lv_iload_n hx hb dX11_image_0 rfl (lv_at hl 1 rfl) ?_
  refine lv_if_lt (tgt := 9) hx hb dX11_image_1 (by decide) (fun c1 => ?_) (fun c1 => ?_)
  · have hm := m_ite_t hm c1
    refine W.widen (k := 0) (n := 0) (Nat.le_of_ble_eq_true rfl) (Nat.le_of_ble_eq_true rfl) ?_
    exact k_X11_image_9 (nx0 := nx0) (a := a) (κ0 := κ0) X hN hr   S _ _ _ hT hk_a hH hS (lv_sub hl [] rfl) hm
  · have hm := m_ite_f hm c1
    refine lv_iload_n hx hb dX11_image_4 rfl (lv_at hl 1 rfl) ?_
    refine lv_iconst (v := (2 : Int32)) hx hb dX11_image_5 (by decide) ?_
    refine lv_icmp_lt (tgt := 11) hx hb dX11_image_6 (by decide) (fun c2 => ?_) (fun c2 => ?_)
    · have hm := m_ite_t hm c2
      refine lv_aload_n hx hb dX11_image_11 rfl (lv_at hl 0 rfl) ?_
      refine r_getp X hH (k := 11) (a := a) (j := 10) (b := (a + 98)) (A := 98) (B := 0) hk_a (by decide) rfl m_wi11 (by decide) in_3_83 rfl rfl rfl dX11_image_12 ?_
      refine lv_iload_n hx hb dX11_image_15 rfl (lv_at hl 1 rfl) ?_
      obtain ⟨v3, h_v3, e_v3, hm⟩ := n_ldr hm
      refine n_aald X hH (t := 5) (n := 2) (m_lay_at hT hk_a (by decide) (i := 98) rfl) (by decide) h_v3 e_v3 dX11_image_16 ?_
      refine n_ifnn (tgt := 33) hx hb dX11_image_17 (by decide) (fun c4 => ?_) (fun c4 => ?_)
      · have hm := m_ite_f hm c4
        refine W.widen (k := 37) (n := 3131) (Nat.le_of_ble_eq_true rfl) (Nat.le_of_ble_eq_true rfl) ?_
        exact k_X11_image_33 (nx0 := nx0) (a := a) (κ0 := κ0) X hN hr   nx0 κ0 S i1 _ _ _ hT hk_a hle hq hH hS hl hm
      · have hm := m_ite_t hm c4
        refine lv_aload_n hx hb dX11_image_20 rfl (lv_at hl 0 rfl) ?_
        refine r_getp X hH (k := 11) (a := a) (j := 10) (b := (a + 98)) (A := 98) (B := 0) hk_a (by decide) rfl m_wi11 (by decide) in_3_83 rfl rfl rfl dX11_image_21 ?_
        refine lv_iload_n hx hb dX11_image_24 rfl (lv_at hl 1 rfl) ?_
        obtain ⟨S5, e_S5, hm⟩ := m_let_of hm
        have hHo := hH
        refine n_new X hH hS hT (k := 10) tyX10 (by decide) rfl m_wi10 tyX10_ok in_2_159 in_2_160 in_1_14 m_df10 e_S5 (nx' := nx0 + 1) rfl (Nat.le_of_ble_eq_true rfl) (Nat.le_of_ble_eq_true rfl) dX11_image_25 (fun H κ1 hq1 hk1 hT hH hS => ?_)
        refine lv_dup hx hb dX11_image_28 rfl ?_
        obtain ⟨S6, e_S6, hm⟩ := m_cal0_of hm
        refine n_cIN (host := "RegionRooms") X hN hH hS (c_X10_init (a := nx0) hT hk1 e_S6) mw_X10_init in_2_162 rfl (by decide +kernel) rfl ⟨rfl, rfl⟩ ⟨Nat.le_of_ble_eq_true rfl, Nat.le_of_ble_eq_true rfl⟩ ⟨Nat.le_of_ble_eq_true rfl, Nat.le_of_ble_eq_true rfl⟩ hl.1 (Nat.le_of_ble_eq_true rfl) dX11_image_29 (fun H locs κ2 hq2 hg hT hH hS => ?_)
        have hq12 : ∀ q, q < nx0 → κ2 q = κ0 q := fun q h => (hq2 q h).trans (hq1 q h)
        have hk_a := m_hk hHo hk_a (by decide) hq12
        have hk_nx0 : κ2 nx0 = 11 := hg 0 _ rfl
        have hle : nx0 ≤ nx0 + (m_lay 11).length := Nat.le_add_right _ _
        have hq := hq12
        obtain ⟨S7, h_S7, e_S7, hm⟩ := n_str hm
        refine n_aast X hH hS (t := 5) (n := 2) (k := 10) (m_lay_at hT hk_a (by decide) (i := 98) rfl) (by decide) rfl (by decide) rfl rfl hk_nx0 h_S7 e_S7 dX11_image_32 (fun H locs hH hS => ?_)
        refine W.widen (k := 37) (n := 3131) (Nat.le_of_ble_eq_true rfl) (Nat.le_of_ble_eq_true rfl) ?_
        exact k_X11_image_33 (nx0 := nx0) (a := a) (κ0 := κ0) X hN hr   (nx0 + (m_lay 11).length) κ2 S7 i1 _ _ _ hT hk_a hle hq hH hS hl hm
    · have hm := m_ite_f hm c2
      refine W.widen (k := 0) (n := 0) (Nat.le_of_ble_eq_true rfl) (Nat.le_of_ble_eq_true rfl) ?_
      exact k_X11_image_9 (nx0 := nx0) (a := a) (κ0 := κ0) X hN hr   S _ _ _ hT hk_a hH hS (lv_sub hl [] rfl) hm
