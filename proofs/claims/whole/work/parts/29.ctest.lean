def rm_X0_init : Room := { frames := 1, cells := 1, slots := 8, locals := 40 }
def f_X0_init (a : Nat) (S : m_M) : Option m_M :=
    m_let (m_new S (a + 1)) fun S1 =>
    m_let (m_si S1 a 1 (0 : Int32)) fun S5 =>
    m_let (m_si S5 a 2 (0 : Int32)) fun S6 =>
    some S6
set_option maxHeartbeats 4000000 in
set_option maxRecDepth 100000 in
theorem c_X0_init {l : Launch} {G : m_G} {κ : Nat → Nat} {a : Nat} {S S' : m_M} (hT : m_Str κ) (hk1 : κ a = m_ac 7 (100 * 0)) (hm : f_X0_init a S = some S') : m_K l yX0_init cX0_init 1 rm_X0_init G a (m_lay 1) (a + 1) κ [.ref a] S S' 1 8 := by
  refine m_K.of (by decide) rfl (Nat.le_of_ble_eq_true rfl) ?_
  intro p e s m args below meth c ls X hN hin hr hH hl
  have hx := X.1.1
  have hb := X.1.2.1
  have hS : m_S G s s.heap [] := va_S.rf
  have hl : lv_has ls 1 [(0, .ref a)] := hl
  have hg : m_seg κ a [107] := m_seg.one hk1
  have hq : ∀ q, q < a → κ q = κ q := fun _ _ => rfl
  rw [f_X0_init] at hm
  refine lv_aload_n hx hb dX0_init_0 rfl (lv_at hl 0 rfl) ?_
  refine W.objInit hx hb X.1.2.2.2.1 (m_w X in_3_52) (m_w X in_1_32) (m_w X in_1_33) rfl (by rw [X.1.2.2.1]; exact hl.1) rfl dX0_init_1 (Nat.le_of_ble_eq_true rfl) (Nat.le_of_ble_eq_true rfl) ?_
  refine W.eq (g2 := F0 m 4 ls []) rfl ?_
  refine lv_aload_n hx hb dX0_init_4 rfl (lv_at hl 0 rfl) ?_
  refine lv_bipush (v := (8 : Int32)) hx hb dX0_init_5 (by decide) ?_
  obtain ⟨S1, e_S1, hm⟩ := m_let_of hm
  refine n_newq X hH hS hT (N := 8) (C := "RegionRooms$Machine") in_3_53 hN.2.1 4 rfl (by decide) (by decide) (by decide) (by decide) e_S1 (nx' := (a + 2)) rfl (Nat.le_of_ble_eq_true rfl) (Nat.le_of_ble_eq_true rfl) dX0_init_7 (fun H κ2 hq1 hk1 hT hH hS => ?_)
  have hg : m_seg κ2 a [107, 168] := hg.grow rfl hq1 hk1
  have hq := m_lt_nx hq (by omega) hq1
  refine n_puwr X hin hH hS hT (k := 0) (i := 0) (a := a) (b := (a + 1)) (j := 0) (A := 1) (B := 0) tyX0 (hg 0 _ rfl) (by decide) (by decide) rfl m_wi0 tyX0_ok nmX0 (by decide) in_3_55 rfl rfl rfl rfl rfl (by first | rfl | omega) ⟨rfl, rfl⟩ dX0_init_10 (fun H locs κ3 hq1 hk1 hT hH hS => ?_)
  have hg : m_seg κ3 a [115, 168] := hg.swap hq1 hk1
  have hq := m_lt_ne hq hq1
  obtain ⟨κ4, hq1, hk_s, hg, hT, hH⟩ := m_seal (k := 0) (i := 1) hH hT hg (by decide) (by decide) rfl rfl (by decide)
  have hq := m_lt_ne hq hq1
  refine lv_aload_n hx hb dX0_init_13 rfl (lv_at hl 0 rfl) ?_
  refine lv_iconst (v := (0 : Int32)) hx hb dX0_init_14 (by decide) ?_
  obtain ⟨S5, e_S5, hm⟩ := m_let_of hm
  refine n_puti X hH hS tyX0 (k := 0) (a := a) (j := 1) hk_s (by decide) rfl m_wi0 tyX0_ok nmX0 (by decide) in_3_56 rfl rfl rfl ⟨rfl, rfl⟩ e_S5 dX0_init_15 (fun H locs hH hS => ?_)
  refine lv_aload_n hx hb dX0_init_18 rfl (lv_at hl 0 rfl) ?_
  refine lv_iconst (v := (0 : Int32)) hx hb dX0_init_19 (by decide) ?_
  obtain ⟨S6, e_S6, hm⟩ := m_let_of hm
  refine n_puti X hH hS tyX0 (k := 0) (a := a) (j := 2) hk_s (by decide) rfl m_wi0 tyX0_ok nmX0 (by decide) in_3_57 rfl rfl rfl ⟨rfl, rfl⟩ e_S6 dX0_init_20 (fun H locs hH hS => ?_)
  exact r_kret X hN hr hH hS hm hT hq hg rfl (Nat.le_of_ble_eq_true rfl) (Nat.le_of_ble_eq_true rfl) dX0_init_23
def rm_X1_init : Room := { frames := 1, cells := 2, slots := 400, locals := 40 }
def f_X1_init (a : Nat) (S : m_M) : Option m_M :=
    m_let (m_new S (a + 1)) fun S1 =>
    m_let (m_new S1 (a + 2)) fun S4 =>
    m_let (m_si S4 a 2 (0 : Int32)) fun S8 =>
    some S8
set_option maxHeartbeats 4000000 in
set_option maxRecDepth 100000 in
theorem c_X1_init {l : Launch} {G : m_G} {κ : Nat → Nat} {a : Nat} {S S' : m_M} (hT : m_Str κ) (hk1 : κ a = m_ac 7 (100 * 1)) (hm : f_X1_init a S = some S') : m_K l yX1_init cX1_init 1 rm_X1_init G a (m_lay 2) (a + 1) κ [.ref a] S S' 2 400 := by
  refine m_K.of (by decide) rfl (Nat.le_of_ble_eq_true rfl) ?_
  intro p e s m args below meth c ls X hN hin hr hH hl
  have hx := X.1.1
  have hb := X.1.2.1
  have hS : m_S G s s.heap [] := va_S.rf
  have hl : lv_has ls 1 [(0, .ref a)] := hl
  have hg : m_seg κ a [907] := m_seg.one hk1
  have hq : ∀ q, q < a → κ q = κ q := fun _ _ => rfl
  rw [f_X1_init] at hm
  refine lv_aload_n hx hb dX1_init_0 rfl (lv_at hl 0 rfl) ?_
  refine W.objInit hx hb X.1.2.2.2.1 (m_w X in_3_35) (m_w X in_1_32) (m_w X in_1_33) rfl (by rw [X.1.2.2.1]; exact hl.1) rfl dX1_init_1 (Nat.le_of_ble_eq_true rfl) (Nat.le_of_ble_eq_true rfl) ?_
  refine W.eq (g2 := F0 m 4 ls []) rfl ?_
  refine lv_aload_n hx hb dX1_init_4 rfl (lv_at hl 0 rfl) ?_
  refine lv_sipush (v := (200 : Int32)) hx hb dX1_init_5 (by decide) ?_
  obtain ⟨S1, e_S1, hm⟩ := m_let_of hm
  refine n_newa X hH hS hT (ty := .boolean) (N := 200) rfl in_2_121 3 rfl (by decide) rfl m_RAz (by decide) (by decide) (by decide) e_S1 (nx' := (a + 2)) rfl (Nat.le_of_ble_eq_true rfl) (Nat.le_of_ble_eq_true rfl) dX1_init_8 (fun H κ2 hq1 hk1 hT hH hS => ?_)
  have hg : m_seg κ2 a [907, 1703] := hg.grow rfl hq1 hk1
  have hq := m_lt_nx hq (by omega) hq1
  refine n_puwr X hin hH hS hT (k := 1) (i := 0) (a := a) (b := (a + 1)) (j := 0) (A := 1) (B := 0) tyX1 (hg 0 _ rfl) (by decide) (by decide) rfl m_wi1 tyX1_ok nmX1 (by decide) in_3_36 rfl rfl rfl rfl rfl (by first | rfl | omega) ⟨rfl, rfl⟩ dX1_init_10 (fun H locs κ3 hq1 hk1 hT hH hS => ?_)
  have hg : m_seg κ3 a [915, 1703] := hg.swap hq1 hk1
  have hq := m_lt_ne hq hq1
  refine lv_aload_n hx hb dX1_init_13 rfl (lv_at hl 0 rfl) ?_
  refine lv_sipush (v := (200 : Int32)) hx hb dX1_init_14 (by decide) ?_
  obtain ⟨S4, e_S4, hm⟩ := m_let_of hm
  refine n_newa X hH hS hT (ty := .int) (N := 200) rfl in_1_159 1 rfl (by decide) rfl m_RAi (by decide) (by decide) (by decide) e_S4 (nx' := (a + 3)) rfl (Nat.le_of_ble_eq_true rfl) (Nat.le_of_ble_eq_true rfl) dX1_init_17 (fun H κ5 hq1 hk1 hT hH hS => ?_)
  have hg : m_seg κ5 a [915, 1703, 1701] := hg.grow rfl hq1 hk1
  have hq := m_lt_nx hq (by omega) hq1
  refine n_puwr X hin hH hS hT (k := 1) (i := 1) (a := a) (b := (a + 2)) (j := 1) (A := 2) (B := 0) tyX1 (hg 0 _ rfl) (by decide) (by decide) rfl m_wi1 tyX1_ok nmX1 (by decide) in_3_38 rfl rfl rfl rfl rfl (by first | rfl | omega) ⟨rfl, rfl⟩ dX1_init_19 (fun H locs κ6 hq1 hk1 hT hH hS => ?_)
  have hg : m_seg κ6 a [923, 1703, 1701] := hg.swap hq1 hk1
  have hq := m_lt_ne hq hq1
  obtain ⟨κ7, hq1, hk_s, hg, hT, hH⟩ := m_seal (k := 1) (i := 2) hH hT hg (by decide) (by decide) rfl rfl (by decide)
  have hq := m_lt_ne hq hq1
  refine lv_aload_n hx hb dX1_init_22 rfl (lv_at hl 0 rfl) ?_
  refine lv_iconst (v := (0 : Int32)) hx hb dX1_init_23 (by decide) ?_
  obtain ⟨S8, e_S8, hm⟩ := m_let_of hm
  refine n_puti X hH hS tyX1 (k := 1) (a := a) (j := 2) hk_s (by decide) rfl m_wi1 tyX1_ok nmX1 (by decide) in_3_39 rfl rfl rfl ⟨rfl, rfl⟩ e_S8 dX1_init_24 (fun H locs hH hS => ?_)
  exact r_kret X hN hr hH hS hm hT hq hg rfl (Nat.le_of_ble_eq_true rfl) (Nat.le_of_ble_eq_true rfl) dX1_init_27
def rm_X5_init : Room := { frames := 1, cells := 4, slots := 732, locals := 40 }
def f_X5_init (a : Nat) (S : m_M) : Option m_M :=
    m_let (m_new S (a + 1)) fun S1 =>
    m_let (m_new S1 (a + 2)) fun S4 =>
    m_let (m_new S4 (a + 3)) fun S7 =>
    m_let (m_new S7 (a + 4)) fun S10 =>
    m_let (m_si S10 a 4 (135 : Int32)) fun S14 =>
    some S14
set_option maxHeartbeats 4000000 in
set_option maxRecDepth 100000 in
theorem c_X5_init {l : Launch} {G : m_G} {κ : Nat → Nat} {a : Nat} {S S' : m_M} (hT : m_Str κ) (hk1 : κ a = m_ac 7 (100 * 5)) (hm : f_X5_init a S = some S') : m_K l yX5_init cX5_init 1 rm_X5_init G a (m_lay 6) (a + 1) κ [.ref a] S S' 4 732 := by
  refine m_K.of (by decide) rfl (Nat.le_of_ble_eq_true rfl) ?_
  intro p e s m args below meth c ls X hN hin hr hH hl
  have hx := X.1.1
  have hb := X.1.2.1
  have hS : m_S G s s.heap [] := va_S.rf
  have hl : lv_has ls 1 [(0, .ref a)] := hl
  have hg : m_seg κ a [4107] := m_seg.one hk1
  have hq : ∀ q, q < a → κ q = κ q := fun _ _ => rfl
  rw [f_X5_init] at hm
  refine lv_aload_n hx hb dX5_init_0 rfl (lv_at hl 0 rfl) ?_
  refine W.objInit hx hb X.1.2.2.2.1 (m_w X in_2_135) (m_w X in_1_32) (m_w X in_1_33) rfl (by rw [X.1.2.2.1]; exact hl.1) rfl dX5_init_1 (Nat.le_of_ble_eq_true rfl) (Nat.le_of_ble_eq_true rfl) ?_
  refine W.eq (g2 := F0 m 4 ls []) rfl ?_
  refine lv_aload_n hx hb dX5_init_4 rfl (lv_at hl 0 rfl) ?_
  refine lv_sipush (v := (183 : Int32)) hx hb dX5_init_5 (by decide) ?_
  obtain ⟨S1, e_S1, hm⟩ := m_let_of hm
  refine n_newa X hH hS hT (ty := .int) (N := 183) rfl in_1_159 1 rfl (by decide) rfl m_RAi (by decide) (by decide) (by decide) e_S1 (nx' := (a + 2)) rfl (Nat.le_of_ble_eq_true rfl) (Nat.le_of_ble_eq_true rfl) dX5_init_8 (fun H κ2 hq1 hk1 hT hH hS => ?_)
  have hg : m_seg κ2 a [4107, 1565] := hg.grow rfl hq1 hk1
  have hq := m_lt_nx hq (by omega) hq1
  refine n_puwr X hin hH hS hT (k := 5) (i := 0) (a := a) (b := (a + 1)) (j := 0) (A := 1) (B := 0) tyX5 (hg 0 _ rfl) (by decide) (by decide) rfl m_wi5 tyX5_ok nmX5 (by decide) in_2_136 rfl rfl rfl rfl rfl (by first | rfl | omega) ⟨rfl, rfl⟩ dX5_init_10 (fun H locs κ3 hq1 hk1 hT hH hS => ?_)
  have hg : m_seg κ3 a [4115, 1565] := hg.swap hq1 hk1
  have hq := m_lt_ne hq hq1
  refine lv_aload_n hx hb dX5_init_13 rfl (lv_at hl 0 rfl) ?_
  refine lv_sipush (v := (183 : Int32)) hx hb dX5_init_14 (by decide) ?_
  obtain ⟨S4, e_S4, hm⟩ := m_let_of hm
  refine n_newa X hH hS hT (ty := .int) (N := 183) rfl in_1_159 1 rfl (by decide) rfl m_RAi (by decide) (by decide) (by decide) e_S4 (nx' := (a + 3)) rfl (Nat.le_of_ble_eq_true rfl) (Nat.le_of_ble_eq_true rfl) dX5_init_17 (fun H κ5 hq1 hk1 hT hH hS => ?_)
  have hg : m_seg κ5 a [4115, 1565, 1565] := hg.grow rfl hq1 hk1
  have hq := m_lt_nx hq (by omega) hq1
  refine n_puwr X hin hH hS hT (k := 5) (i := 1) (a := a) (b := (a + 2)) (j := 1) (A := 2) (B := 0) tyX5 (hg 0 _ rfl) (by decide) (by decide) rfl m_wi5 tyX5_ok nmX5 (by decide) in_2_137 rfl rfl rfl rfl rfl (by first | rfl | omega) ⟨rfl, rfl⟩ dX5_init_19 (fun H locs κ6 hq1 hk1 hT hH hS => ?_)
  have hg : m_seg κ6 a [4123, 1565, 1565] := hg.swap hq1 hk1
  have hq := m_lt_ne hq hq1
  refine lv_aload_n hx hb dX5_init_22 rfl (lv_at hl 0 rfl) ?_
  refine lv_sipush (v := (183 : Int32)) hx hb dX5_init_23 (by decide) ?_
  obtain ⟨S7, e_S7, hm⟩ := m_let_of hm
  refine n_newa X hH hS hT (ty := .int) (N := 183) rfl in_1_159 1 rfl (by decide) rfl m_RAi (by decide) (by decide) (by decide) e_S7 (nx' := (a + 4)) rfl (Nat.le_of_ble_eq_true rfl) (Nat.le_of_ble_eq_true rfl) dX5_init_26 (fun H κ8 hq1 hk1 hT hH hS => ?_)
  have hg : m_seg κ8 a [4123, 1565, 1565, 1565] := hg.grow rfl hq1 hk1
  have hq := m_lt_nx hq (by omega) hq1
  refine n_puwr X hin hH hS hT (k := 5) (i := 2) (a := a) (b := (a + 3)) (j := 2) (A := 3) (B := 0) tyX5 (hg 0 _ rfl) (by decide) (by decide) rfl m_wi5 tyX5_ok nmX5 (by decide) in_2_138 rfl rfl rfl rfl rfl (by first | rfl | omega) ⟨rfl, rfl⟩ dX5_init_28 (fun H locs κ9 hq1 hk1 hT hH hS => ?_)
  have hg : m_seg κ9 a [4131, 1565, 1565, 1565] := hg.swap hq1 hk1
  have hq := m_lt_ne hq hq1
  refine lv_aload_n hx hb dX5_init_31 rfl (lv_at hl 0 rfl) ?_
  refine lv_sipush (v := (183 : Int32)) hx hb dX5_init_32 (by decide) ?_
  obtain ⟨S10, e_S10, hm⟩ := m_let_of hm
  refine n_newa X hH hS hT (ty := .int) (N := 183) rfl in_1_159 1 rfl (by decide) rfl m_RAi (by decide) (by decide) (by decide) e_S10 (nx' := (a + 5)) rfl (Nat.le_of_ble_eq_true rfl) (Nat.le_of_ble_eq_true rfl) dX5_init_35 (fun H κ11 hq1 hk1 hT hH hS => ?_)
  have hg : m_seg κ11 a [4131, 1565, 1565, 1565, 1565] := hg.grow rfl hq1 hk1
  have hq := m_lt_nx hq (by omega) hq1
  refine n_puwr X hin hH hS hT (k := 5) (i := 3) (a := a) (b := (a + 4)) (j := 3) (A := 4) (B := 0) tyX5 (hg 0 _ rfl) (by decide) (by decide) rfl m_wi5 tyX5_ok nmX5 (by decide) in_2_139 rfl rfl rfl rfl rfl (by first | rfl | omega) ⟨rfl, rfl⟩ dX5_init_37 (fun H locs κ12 hq1 hk1 hT hH hS => ?_)
  have hg : m_seg κ12 a [4139, 1565, 1565, 1565, 1565] := hg.swap hq1 hk1
  have hq := m_lt_ne hq hq1
  obtain ⟨κ13, hq1, hk_s, hg, hT, hH⟩ := m_seal (k := 5) (i := 4) hH hT hg (by decide) (by decide) rfl rfl (by decide)
  have hq := m_lt_ne hq hq1
  refine lv_aload_n hx hb dX5_init_40 rfl (lv_at hl 0 rfl) ?_
  refine lv_sipush (v := (135 : Int32)) hx hb dX5_init_41 (by decide) ?_
  obtain ⟨S14, e_S14, hm⟩ := m_let_of hm
  refine n_puti X hH hS tyX5 (k := 5) (a := a) (j := 4) hk_s (by decide) rfl m_wi5 tyX5_ok nmX5 (by decide) in_2_140 rfl rfl rfl ⟨rfl, rfl⟩ e_S14 dX5_init_44 (fun H locs hH hS => ?_)
  exact r_kret X hN hr hH hS hm hT hq hg rfl (Nat.le_of_ble_eq_true rfl) (Nat.le_of_ble_eq_true rfl) dX5_init_47
def rm_X6_init : Room := { frames := 1, cells := 13, slots := 688, locals := 40 }
def f_X6_init (a : Nat) (S : m_M) : Option m_M :=
    m_let (m_si S a 0 (0 : Int32)) fun S1 =>
    m_let (m_si S1 a 1 (0 : Int32)) fun S2 =>
    m_let (m_new S2 (a + 1)) fun S3 =>
    m_let (m_new S3 (a + 2)) fun S6 =>
    m_let (m_new S6 (a + 3)) fun S9 =>
    m_let (m_new S9 (a + 4)) fun S12 =>
    m_let (m_new S12 (a + 5)) fun S15 =>
    m_let (m_new S15 (a + 6)) fun S18 =>
    m_let (m_new S18 (a + 7)) fun S21 =>
    m_let (m_new S21 (a + 8)) fun S24 =>
    m_let (m_new S24 (a + 9)) fun S27 =>
    m_let (m_new S27 (a + 10)) fun S30 =>
    m_let (m_new S30 (a + 11)) fun S33 =>
    m_let (m_new S33 (a + 12)) fun S36 =>
    m_let (m_new S36 (a + 13)) fun S39 =>
    some S39
set_option maxHeartbeats 4000000 in
set_option maxRecDepth 100000 in
theorem c_X6_init {l : Launch} {G : m_G} {κ : Nat → Nat} {a : Nat} {S S' : m_M} (hT : m_Str κ) (hk1 : κ a = m_ac 7 (100 * 6)) (hm : f_X6_init a S = some S') : m_K l yX6_init cX6_init 1 rm_X6_init G a (m_lay 7) (a + 1) κ [.ref a] S S' 13 688 := by
  refine m_K.of (by decide) rfl (Nat.le_of_ble_eq_true rfl) ?_
  intro p e s m args below meth c ls X hN hin hr hH hl
  have hx := X.1.1
  have hb := X.1.2.1
  have hS : m_S G s s.heap [] := va_S.rf
  have hl : lv_has ls 1 [(0, .ref a)] := hl
  have hg : m_seg κ a [4907] := m_seg.one hk1
  have hq : ∀ q, q < a → κ q = κ q := fun _ _ => rfl
  rw [f_X6_init] at hm
  refine lv_aload_n hx hb dX6_init_0 rfl (lv_at hl 0 rfl) ?_
  refine W.objInit hx hb X.1.2.2.2.1 (m_w X in_1_177) (m_w X in_1_32) (m_w X in_1_33) rfl (by rw [X.1.2.2.1]; exact hl.1) rfl dX6_init_1 (Nat.le_of_ble_eq_true rfl) (Nat.le_of_ble_eq_true rfl) ?_
  refine W.eq (g2 := F0 m 4 ls []) rfl ?_
  refine lv_aload_n hx hb dX6_init_4 rfl (lv_at hl 0 rfl) ?_
  refine lv_iconst (v := (0 : Int32)) hx hb dX6_init_5 (by decide) ?_
  obtain ⟨S1, e_S1, hm⟩ := m_let_of hm
  refine n_puwi X hH hS tyX6 (k := 6) (i := 0) (a := a) (j := 0) (hg 0 _ rfl) (by decide) (by decide) rfl m_wi6 tyX6_ok nmX6 (by decide) in_1_178 rfl rfl rfl ⟨rfl, rfl⟩ e_S1 dX6_init_6 (fun H locs hH hS => ?_)
  refine lv_aload_n hx hb dX6_init_9 rfl (lv_at hl 0 rfl) ?_
  refine lv_iconst (v := (0 : Int32)) hx hb dX6_init_10 (by decide) ?_
  obtain ⟨S2, e_S2, hm⟩ := m_let_of hm
  refine n_puwi X hH hS tyX6 (k := 6) (i := 0) (a := a) (j := 1) (hg 0 _ rfl) (by decide) (by decide) rfl m_wi6 tyX6_ok nmX6 (by decide) in_1_181 rfl rfl rfl ⟨rfl, rfl⟩ e_S2 dX6_init_11 (fun H locs hH hS => ?_)
  refine lv_aload_n hx hb dX6_init_14 rfl (lv_at hl 0 rfl) ?_
  refine lv_sipush (v := (135 : Int32)) hx hb dX6_init_15 (by decide) ?_
  obtain ⟨S3, e_S3, hm⟩ := m_let_of hm
  refine n_newa X hH hS hT (ty := .int) (N := 135) rfl in_1_159 1 rfl (by decide) rfl m_RAi (by decide) (by decide) (by decide) e_S3 (nx' := (a + 2)) rfl (Nat.le_of_ble_eq_true rfl) (Nat.le_of_ble_eq_true rfl) dX6_init_18 (fun H κ4 hq1 hk1 hT hH hS => ?_)
  have hg : m_seg κ4 a [4907, 1181] := hg.grow rfl hq1 hk1
  have hq := m_lt_nx hq (by omega) hq1
  refine n_puwr X hin hH hS hT (k := 6) (i := 0) (a := a) (b := (a + 1)) (j := 2) (A := 1) (B := 0) tyX6 (hg 0 _ rfl) (by decide) (by decide) rfl m_wi6 tyX6_ok nmX6 (by decide) in_1_183 rfl rfl rfl rfl rfl (by first | rfl | omega) ⟨rfl, rfl⟩ dX6_init_20 (fun H locs κ5 hq1 hk1 hT hH hS => ?_)
  have hg : m_seg κ5 a [4915, 1181] := hg.swap hq1 hk1
  have hq := m_lt_ne hq hq1
  refine lv_aload_n hx hb dX6_init_23 rfl (lv_at hl 0 rfl) ?_
  refine lv_sipush (v := (135 : Int32)) hx hb dX6_init_24 (by decide) ?_
  obtain ⟨S6, e_S6, hm⟩ := m_let_of hm
  refine n_newa X hH hS hT (ty := .int) (N := 135) rfl in_1_159 1 rfl (by decide) rfl m_RAi (by decide) (by decide) (by decide) e_S6 (nx' := (a + 3)) rfl (Nat.le_of_ble_eq_true rfl) (Nat.le_of_ble_eq_true rfl) dX6_init_27 (fun H κ7 hq1 hk1 hT hH hS => ?_)
  have hg : m_seg κ7 a [4915, 1181, 1181] := hg.grow rfl hq1 hk1
  have hq := m_lt_nx hq (by omega) hq1
  refine n_puwr X hin hH hS hT (k := 6) (i := 1) (a := a) (b := (a + 2)) (j := 3) (A := 2) (B := 0) tyX6 (hg 0 _ rfl) (by decide) (by decide) rfl m_wi6 tyX6_ok nmX6 (by decide) in_1_185 rfl rfl rfl rfl rfl (by first | rfl | omega) ⟨rfl, rfl⟩ dX6_init_29 (fun H locs κ8 hq1 hk1 hT hH hS => ?_)
  have hg : m_seg κ8 a [4923, 1181, 1181] := hg.swap hq1 hk1
  have hq := m_lt_ne hq hq1
  refine lv_aload_n hx hb dX6_init_32 rfl (lv_at hl 0 rfl) ?_
  refine lv_bipush (v := (24 : Int32)) hx hb dX6_init_33 (by decide) ?_
  obtain ⟨S9, e_S9, hm⟩ := m_let_of hm
  refine n_newa X hH hS hT (ty := .int) (N := 24) rfl in_1_159 1 rfl (by decide) rfl m_RAi (by decide) (by decide) (by decide) e_S9 (nx' := (a + 4)) rfl (Nat.le_of_ble_eq_true rfl) (Nat.le_of_ble_eq_true rfl) dX6_init_35 (fun H κ10 hq1 hk1 hT hH hS => ?_)
  have hg : m_seg κ10 a [4923, 1181, 1181, 293] := hg.grow rfl hq1 hk1
  have hq := m_lt_nx hq (by omega) hq1
  refine n_puwr X hin hH hS hT (k := 6) (i := 2) (a := a) (b := (a + 3)) (j := 4) (A := 3) (B := 0) tyX6 (hg 0 _ rfl) (by decide) (by decide) rfl m_wi6 tyX6_ok nmX6 (by decide) in_1_186 rfl rfl rfl rfl rfl (by first | rfl | omega) ⟨rfl, rfl⟩ dX6_init_37 (fun H locs κ11 hq1 hk1 hT hH hS => ?_)
  have hg : m_seg κ11 a [4931, 1181, 1181, 293] := hg.swap hq1 hk1
  have hq := m_lt_ne hq hq1
  refine lv_aload_n hx hb dX6_init_40 rfl (lv_at hl 0 rfl) ?_
  refine lv_bipush (v := (24 : Int32)) hx hb dX6_init_41 (by decide) ?_
  obtain ⟨S12, e_S12, hm⟩ := m_let_of hm
  refine n_newa X hH hS hT (ty := .int) (N := 24) rfl in_1_159 1 rfl (by decide) rfl m_RAi (by decide) (by decide) (by decide) e_S12 (nx' := (a + 5)) rfl (Nat.le_of_ble_eq_true rfl) (Nat.le_of_ble_eq_true rfl) dX6_init_43 (fun H κ13 hq1 hk1 hT hH hS => ?_)
  have hg : m_seg κ13 a [4931, 1181, 1181, 293, 293] := hg.grow rfl hq1 hk1
  have hq := m_lt_nx hq (by omega) hq1
  refine n_puwr X hin hH hS hT (k := 6) (i := 3) (a := a) (b := (a + 4)) (j := 5) (A := 4) (B := 0) tyX6 (hg 0 _ rfl) (by decide) (by decide) rfl m_wi6 tyX6_ok nmX6 (by decide) in_1_189 rfl rfl rfl rfl rfl (by first | rfl | omega) ⟨rfl, rfl⟩ dX6_init_45 (fun H locs κ14 hq1 hk1 hT hH hS => ?_)
  have hg : m_seg κ14 a [4939, 1181, 1181, 293, 293] := hg.swap hq1 hk1
  have hq := m_lt_ne hq hq1
  refine lv_aload_n hx hb dX6_init_48 rfl (lv_at hl 0 rfl) ?_
  refine lv_bipush (v := (24 : Int32)) hx hb dX6_init_49 (by decide) ?_
  obtain ⟨S15, e_S15, hm⟩ := m_let_of hm
  refine n_newa X hH hS hT (ty := .int) (N := 24) rfl in_1_159 1 rfl (by decide) rfl m_RAi (by decide) (by decide) (by decide) e_S15 (nx' := (a + 6)) rfl (Nat.le_of_ble_eq_true rfl) (Nat.le_of_ble_eq_true rfl) dX6_init_51 (fun H κ16 hq1 hk1 hT hH hS => ?_)
  have hg : m_seg κ16 a [4939, 1181, 1181, 293, 293, 293] := hg.grow rfl hq1 hk1
  have hq := m_lt_nx hq (by omega) hq1
  refine n_puwr X hin hH hS hT (k := 6) (i := 4) (a := a) (b := (a + 5)) (j := 6) (A := 5) (B := 0) tyX6 (hg 0 _ rfl) (by decide) (by decide) rfl m_wi6 tyX6_ok nmX6 (by decide) in_1_192 rfl rfl rfl rfl rfl (by first | rfl | omega) ⟨rfl, rfl⟩ dX6_init_53 (fun H locs κ17 hq1 hk1 hT hH hS => ?_)
  have hg : m_seg κ17 a [4947, 1181, 1181, 293, 293, 293] := hg.swap hq1 hk1
  have hq := m_lt_ne hq hq1
  refine lv_aload_n hx hb dX6_init_56 rfl (lv_at hl 0 rfl) ?_
  refine lv_bipush (v := (24 : Int32)) hx hb dX6_init_57 (by decide) ?_
  obtain ⟨S18, e_S18, hm⟩ := m_let_of hm
  refine n_newa X hH hS hT (ty := .int) (N := 24) rfl in_1_159 1 rfl (by decide) rfl m_RAi (by decide) (by decide) (by decide) e_S18 (nx' := (a + 7)) rfl (Nat.le_of_ble_eq_true rfl) (Nat.le_of_ble_eq_true rfl) dX6_init_59 (fun H κ19 hq1 hk1 hT hH hS => ?_)
  have hg : m_seg κ19 a [4947, 1181, 1181, 293, 293, 293, 293] := hg.grow rfl hq1 hk1
  have hq := m_lt_nx hq (by omega) hq1
  refine n_puwr X hin hH hS hT (k := 6) (i := 5) (a := a) (b := (a + 6)) (j := 7) (A := 6) (B := 0) tyX6 (hg 0 _ rfl) (by decide) (by decide) rfl m_wi6 tyX6_ok nmX6 (by decide) in_1_193 rfl rfl rfl rfl rfl (by first | rfl | omega) ⟨rfl, rfl⟩ dX6_init_61 (fun H locs κ20 hq1 hk1 hT hH hS => ?_)
  have hg : m_seg κ20 a [4955, 1181, 1181, 293, 293, 293, 293] := hg.swap hq1 hk1
  have hq := m_lt_ne hq hq1
  refine lv_aload_n hx hb dX6_init_64 rfl (lv_at hl 0 rfl) ?_
  refine lv_bipush (v := (24 : Int32)) hx hb dX6_init_65 (by decide) ?_
  obtain ⟨S21, e_S21, hm⟩ := m_let_of hm
  refine n_newa X hH hS hT (ty := .int) (N := 24) rfl in_1_159 1 rfl (by decide) rfl m_RAi (by decide) (by decide) (by decide) e_S21 (nx' := (a + 8)) rfl (Nat.le_of_ble_eq_true rfl) (Nat.le_of_ble_eq_true rfl) dX6_init_67 (fun H κ22 hq1 hk1 hT hH hS => ?_)
  have hg : m_seg κ22 a [4955, 1181, 1181, 293, 293, 293, 293, 293] := hg.grow rfl hq1 hk1
  have hq := m_lt_nx hq (by omega) hq1
  refine n_puwr X hin hH hS hT (k := 6) (i := 6) (a := a) (b := (a + 7)) (j := 8) (A := 7) (B := 0) tyX6 (hg 0 _ rfl) (by decide) (by decide) rfl m_wi6 tyX6_ok nmX6 (by decide) in_1_196 rfl rfl rfl rfl rfl (by first | rfl | omega) ⟨rfl, rfl⟩ dX6_init_69 (fun H locs κ23 hq1 hk1 hT hH hS => ?_)
  have hg : m_seg κ23 a [4963, 1181, 1181, 293, 293, 293, 293, 293] := hg.swap hq1 hk1
  have hq := m_lt_ne hq hq1
  refine lv_aload_n hx hb dX6_init_72 rfl (lv_at hl 0 rfl) ?_
  refine lv_iconst (v := (5 : Int32)) hx hb dX6_init_73 (by decide) ?_
  obtain ⟨S24, e_S24, hm⟩ := m_let_of hm
  refine n_newa X hH hS hT (ty := .int) (N := 5) rfl in_1_159 1 rfl (by decide) rfl m_RAi (by decide) (by decide) (by decide) e_S24 (nx' := (a + 9)) rfl (Nat.le_of_ble_eq_true rfl) (Nat.le_of_ble_eq_true rfl) dX6_init_74 (fun H κ25 hq1 hk1 hT hH hS => ?_)
  have hg : m_seg κ25 a [4963, 1181, 1181, 293, 293, 293, 293, 293, 141] := hg.grow rfl hq1 hk1
  have hq := m_lt_nx hq (by omega) hq1
  refine n_puwr X hin hH hS hT (k := 6) (i := 7) (a := a) (b := (a + 8)) (j := 9) (A := 8) (B := 0) tyX6 (hg 0 _ rfl) (by decide) (by decide) rfl m_wi6 tyX6_ok nmX6 (by decide) in_1_199 rfl rfl rfl rfl rfl (by first | rfl | omega) ⟨rfl, rfl⟩ dX6_init_76 (fun H locs κ26 hq1 hk1 hT hH hS => ?_)
  have hg : m_seg κ26 a [4971, 1181, 1181, 293, 293, 293, 293, 293, 141] := hg.swap hq1 hk1
  have hq := m_lt_ne hq hq1
  refine lv_aload_n hx hb dX6_init_79 rfl (lv_at hl 0 rfl) ?_
  refine lv_iconst (v := (5 : Int32)) hx hb dX6_init_80 (by decide) ?_
  obtain ⟨S27, e_S27, hm⟩ := m_let_of hm
  refine n_newa X hH hS hT (ty := .int) (N := 5) rfl in_1_159 1 rfl (by decide) rfl m_RAi (by decide) (by decide) (by decide) e_S27 (nx' := (a + 10)) rfl (Nat.le_of_ble_eq_true rfl) (Nat.le_of_ble_eq_true rfl) dX6_init_81 (fun H κ28 hq1 hk1 hT hH hS => ?_)
  have hg : m_seg κ28 a [4971, 1181, 1181, 293, 293, 293, 293, 293, 141, 141] := hg.grow rfl hq1 hk1
  have hq := m_lt_nx hq (by omega) hq1
  refine n_puwr X hin hH hS hT (k := 6) (i := 8) (a := a) (b := (a + 9)) (j := 10) (A := 9) (B := 0) tyX6 (hg 0 _ rfl) (by decide) (by decide) rfl m_wi6 tyX6_ok nmX6 (by decide) in_1_203 rfl rfl rfl rfl rfl (by first | rfl | omega) ⟨rfl, rfl⟩ dX6_init_83 (fun H locs κ29 hq1 hk1 hT hH hS => ?_)
  have hg : m_seg κ29 a [4979, 1181, 1181, 293, 293, 293, 293, 293, 141, 141] := hg.swap hq1 hk1
  have hq := m_lt_ne hq hq1
  refine lv_aload_n hx hb dX6_init_86 rfl (lv_at hl 0 rfl) ?_
  refine lv_bipush (v := (120 : Int32)) hx hb dX6_init_87 (by decide) ?_
  obtain ⟨S30, e_S30, hm⟩ := m_let_of hm
  refine n_newa X hH hS hT (ty := .int) (N := 120) rfl in_1_159 1 rfl (by decide) rfl m_RAi (by decide) (by decide) (by decide) e_S30 (nx' := (a + 11)) rfl (Nat.le_of_ble_eq_true rfl) (Nat.le_of_ble_eq_true rfl) dX6_init_89 (fun H κ31 hq1 hk1 hT hH hS => ?_)
  have hg : m_seg κ31 a [4979, 1181, 1181, 293, 293, 293, 293, 293, 141, 141, 1061] := hg.grow rfl hq1 hk1
  have hq := m_lt_nx hq (by omega) hq1
  refine n_puwr X hin hH hS hT (k := 6) (i := 9) (a := a) (b := (a + 10)) (j := 11) (A := 10) (B := 0) tyX6 (hg 0 _ rfl) (by decide) (by decide) rfl m_wi6 tyX6_ok nmX6 (by decide) in_1_205 rfl rfl rfl rfl rfl (by first | rfl | omega) ⟨rfl, rfl⟩ dX6_init_91 (fun H locs κ32 hq1 hk1 hT hH hS => ?_)
  have hg : m_seg κ32 a [4987, 1181, 1181, 293, 293, 293, 293, 293, 141, 141, 1061] := hg.swap hq1 hk1
  have hq := m_lt_ne hq hq1
  refine lv_aload_n hx hb dX6_init_94 rfl (lv_at hl 0 rfl) ?_
  refine lv_bipush (v := (120 : Int32)) hx hb dX6_init_95 (by decide) ?_
  obtain ⟨S33, e_S33, hm⟩ := m_let_of hm
  refine n_newa X hH hS hT (ty := .int) (N := 120) rfl in_1_159 1 rfl (by decide) rfl m_RAi (by decide) (by decide) (by decide) e_S33 (nx' := (a + 12)) rfl (Nat.le_of_ble_eq_true rfl) (Nat.le_of_ble_eq_true rfl) dX6_init_97 (fun H κ34 hq1 hk1 hT hH hS => ?_)
  have hg : m_seg κ34 a [4987, 1181, 1181, 293, 293, 293, 293, 293, 141, 141, 1061, 1061] := hg.grow rfl hq1 hk1
  have hq := m_lt_nx hq (by omega) hq1
  refine n_puwr X hin hH hS hT (k := 6) (i := 10) (a := a) (b := (a + 11)) (j := 12) (A := 11) (B := 0) tyX6 (hg 0 _ rfl) (by decide) (by decide) rfl m_wi6 tyX6_ok nmX6 (by decide) in_1_207 rfl rfl rfl rfl rfl (by first | rfl | omega) ⟨rfl, rfl⟩ dX6_init_99 (fun H locs κ35 hq1 hk1 hT hH hS => ?_)
  have hg : m_seg κ35 a [4995, 1181, 1181, 293, 293, 293, 293, 293, 141, 141, 1061, 1061] := hg.swap hq1 hk1
  have hq := m_lt_ne hq hq1
  refine lv_aload_n hx hb dX6_init_102 rfl (lv_at hl 0 rfl) ?_
  refine lv_bipush (v := (24 : Int32)) hx hb dX6_init_103 (by decide) ?_
  obtain ⟨S36, e_S36, hm⟩ := m_let_of hm
  refine n_newa X hH hS hT (ty := .int) (N := 24) rfl in_1_159 1 rfl (by decide) rfl m_RAi (by decide) (by decide) (by decide) e_S36 (nx' := (a + 13)) rfl (Nat.le_of_ble_eq_true rfl) (Nat.le_of_ble_eq_true rfl) dX6_init_105 (fun H κ37 hq1 hk1 hT hH hS => ?_)
  have hg : m_seg κ37 a [4995, 1181, 1181, 293, 293, 293, 293, 293, 141, 141, 1061, 1061, 293] := hg.grow rfl hq1 hk1
  have hq := m_lt_nx hq (by omega) hq1
  refine n_puwr X hin hH hS hT (k := 6) (i := 11) (a := a) (b := (a + 12)) (j := 13) (A := 12) (B := 0) tyX6 (hg 0 _ rfl) (by decide) (by decide) rfl m_wi6 tyX6_ok nmX6 (by decide) in_1_209 rfl rfl rfl rfl rfl (by first | rfl | omega) ⟨rfl, rfl⟩ dX6_init_107 (fun H locs κ38 hq1 hk1 hT hH hS => ?_)
  have hg : m_seg κ38 a [5003, 1181, 1181, 293, 293, 293, 293, 293, 141, 141, 1061, 1061, 293] := hg.swap hq1 hk1
  have hq := m_lt_ne hq hq1
  refine lv_aload_n hx hb dX6_init_110 rfl (lv_at hl 0 rfl) ?_
  refine lv_bipush (v := (24 : Int32)) hx hb dX6_init_111 (by decide) ?_
  obtain ⟨S39, e_S39, hm⟩ := m_let_of hm
  refine n_newa X hH hS hT (ty := .int) (N := 24) rfl in_1_159 1 rfl (by decide) rfl m_RAi (by decide) (by decide) (by decide) e_S39 (nx' := (a + 14)) rfl (Nat.le_of_ble_eq_true rfl) (Nat.le_of_ble_eq_true rfl) dX6_init_113 (fun H κ40 hq1 hk1 hT hH hS => ?_)
  have hg : m_seg κ40 a [5003, 1181, 1181, 293, 293, 293, 293, 293, 141, 141, 1061, 1061, 293, 293] := hg.grow rfl hq1 hk1
  have hq := m_lt_nx hq (by omega) hq1
  refine n_puwr X hin hH hS hT (k := 6) (i := 12) (a := a) (b := (a + 13)) (j := 14) (A := 13) (B := 0) tyX6 (hg 0 _ rfl) (by decide) (by decide) rfl m_wi6 tyX6_ok nmX6 (by decide) in_1_211 rfl rfl rfl rfl rfl (by first | rfl | omega) ⟨rfl, rfl⟩ dX6_init_115 (fun H locs κ41 hq1 hk1 hT hH hS => ?_)
  have hg : m_seg κ41 a [5011, 1181, 1181, 293, 293, 293, 293, 293, 141, 141, 1061, 1061, 293, 293] := hg.swap hq1 hk1
  have hq := m_lt_ne hq hq1
  obtain ⟨κ42, hq1, hk_s, hg, hT, hH⟩ := m_seal (k := 6) (i := 13) hH hT hg (by decide) (by decide) rfl rfl (by decide)
  have hq := m_lt_ne hq hq1
  exact r_kret X hN hr hH hS hm hT hq hg rfl (Nat.le_of_ble_eq_true rfl) (Nat.le_of_ble_eq_true rfl) dX6_init_118
def rm_X3_init : Room := { frames := 2, cells := 21, slots := 891, locals := 60 }
def f_X3_init (a : Nat) (S : m_M) : Option m_M :=
    m_let (m_si S a 0 (0 : Int32)) fun S1 =>
    m_let (m_si S1 a 1 (0 : Int32)) fun S2 =>
    m_let (m_new S2 (a + 1)) fun S3 =>
    m_let (m_new S3 (a + 2)) fun S6 =>
    m_let (m_new S6 (a + 3)) fun S9 =>
    m_let (m_new S9 (a + 4)) fun S12 =>
    m_let (m_new S12 (a + 5)) fun S15 =>
    m_let (m_new S15 (a + 6)) fun S18 =>
    m_let (m_new S18 (a + 7)) fun S21 =>
    m_let (m_new S21 (a + 8)) fun S24 =>
    m_cal0 (f_X6_init (a + 8) S24) fun S26 =>
    some S26
set_option maxHeartbeats 4000000 in
set_option maxRecDepth 100000 in
theorem c_X3_init {l : Launch} {G : m_G} {κ : Nat → Nat} {a : Nat} {S S' : m_M} (hT : m_Str κ) (hk1 : κ a = m_ac 7 (100 * 3)) (hm : f_X3_init a S = some S') : m_K l yX3_init cX3_init 1 rm_X3_init G a (m_lay 4) (a + 1) κ [.ref a] S S' 21 891 := by
  refine m_K.of (by decide) rfl (Nat.le_of_ble_eq_true rfl) ?_
  intro p e s m args below meth c ls X hN hin hr hH hl
  have hx := X.1.1
  have hb := X.1.2.1
  have hS : m_S G s s.heap [] := va_S.rf
  have hl : lv_has ls 1 [(0, .ref a)] := hl
  have hg : m_seg κ a [2507] := m_seg.one hk1
  have hq : ∀ q, q < a → κ q = κ q := fun _ _ => rfl
  rw [f_X3_init] at hm
  refine lv_aload_n hx hb dX3_init_0 rfl (lv_at hl 0 rfl) ?_
  refine W.objInit hx hb X.1.2.2.2.1 (m_w X in_1_171) (m_w X in_1_32) (m_w X in_1_33) rfl (by rw [X.1.2.2.1]; exact hl.1) rfl dX3_init_1 (Nat.le_of_ble_eq_true rfl) (Nat.le_of_ble_eq_true rfl) ?_
  refine W.eq (g2 := F0 m 4 ls []) rfl ?_
  refine lv_aload_n hx hb dX3_init_4 rfl (lv_at hl 0 rfl) ?_
  refine lv_iconst (v := (0 : Int32)) hx hb dX3_init_5 (by decide) ?_
  obtain ⟨S1, e_S1, hm⟩ := m_let_of hm
  refine n_puwi X hH hS tyX3 (k := 3) (i := 0) (a := a) (j := 0) (hg 0 _ rfl) (by decide) (by decide) rfl m_wi3 tyX3_ok nmX3 (by decide) in_2_5 rfl rfl rfl ⟨rfl, rfl⟩ e_S1 dX3_init_6 (fun H locs hH hS => ?_)
  refine lv_aload_n hx hb dX3_init_9 rfl (lv_at hl 0 rfl) ?_
  refine lv_iconst (v := (0 : Int32)) hx hb dX3_init_10 (by decide) ?_
  obtain ⟨S2, e_S2, hm⟩ := m_let_of hm
  refine n_puwi X hH hS tyX3 (k := 3) (i := 0) (a := a) (j := 1) (hg 0 _ rfl) (by decide) (by decide) rfl m_wi3 tyX3_ok nmX3 (by decide) in_2_12 rfl rfl rfl ⟨rfl, rfl⟩ e_S2 dX3_init_11 (fun H locs hH hS => ?_)
  refine lv_aload_n hx hb dX3_init_14 rfl (lv_at hl 0 rfl) ?_
  refine lv_iconst (v := (5 : Int32)) hx hb dX3_init_15 (by decide) ?_
  obtain ⟨S3, e_S3, hm⟩ := m_let_of hm
  refine n_newa X hH hS hT (ty := .long) (N := 5) rfl in_1_158 2 rfl (by decide) rfl m_RAl (by decide) (by decide) (by decide) e_S3 (nx' := (a + 2)) rfl (Nat.le_of_ble_eq_true rfl) (Nat.le_of_ble_eq_true rfl) dX3_init_16 (fun H κ4 hq1 hk1 hT hH hS => ?_)
  have hg : m_seg κ4 a [2507, 142] := hg.grow rfl hq1 hk1
  have hq := m_lt_nx hq (by omega) hq1
  refine n_puwr X hin hH hS hT (k := 3) (i := 0) (a := a) (b := (a + 1)) (j := 2) (A := 1) (B := 0) tyX3 (hg 0 _ rfl) (by decide) (by decide) rfl m_wi3 tyX3_ok nmX3 (by decide) in_2_15 rfl rfl rfl rfl rfl (by first | rfl | omega) ⟨rfl, rfl⟩ dX3_init_18 (fun H locs κ5 hq1 hk1 hT hH hS => ?_)
  have hg : m_seg κ5 a [2515, 142] := hg.swap hq1 hk1
  have hq := m_lt_ne hq hq1
  refine lv_aload_n hx hb dX3_init_21 rfl (lv_at hl 0 rfl) ?_
  refine lv_iconst (v := (5 : Int32)) hx hb dX3_init_22 (by decide) ?_
  obtain ⟨S6, e_S6, hm⟩ := m_let_of hm
  refine n_newa X hH hS hT (ty := .int) (N := 5) rfl in_1_159 1 rfl (by decide) rfl m_RAi (by decide) (by decide) (by decide) e_S6 (nx' := (a + 3)) rfl (Nat.le_of_ble_eq_true rfl) (Nat.le_of_ble_eq_true rfl) dX3_init_23 (fun H κ7 hq1 hk1 hT hH hS => ?_)
  have hg : m_seg κ7 a [2515, 142, 141] := hg.grow rfl hq1 hk1
  have hq := m_lt_nx hq (by omega) hq1
  refine n_puwr X hin hH hS hT (k := 3) (i := 1) (a := a) (b := (a + 2)) (j := 3) (A := 2) (B := 0) tyX3 (hg 0 _ rfl) (by decide) (by decide) rfl m_wi3 tyX3_ok nmX3 (by decide) in_2_16 rfl rfl rfl rfl rfl (by first | rfl | omega) ⟨rfl, rfl⟩ dX3_init_25 (fun H locs κ8 hq1 hk1 hT hH hS => ?_)
  have hg : m_seg κ8 a [2523, 142, 141] := hg.swap hq1 hk1
  have hq := m_lt_ne hq hq1
  refine lv_aload_n hx hb dX3_init_28 rfl (lv_at hl 0 rfl) ?_
  refine lv_iconst (v := (5 : Int32)) hx hb dX3_init_29 (by decide) ?_
  obtain ⟨S9, e_S9, hm⟩ := m_let_of hm
  refine n_newa X hH hS hT (ty := .int) (N := 5) rfl in_1_159 1 rfl (by decide) rfl m_RAi (by decide) (by decide) (by decide) e_S9 (nx' := (a + 4)) rfl (Nat.le_of_ble_eq_true rfl) (Nat.le_of_ble_eq_true rfl) dX3_init_30 (fun H κ10 hq1 hk1 hT hH hS => ?_)
  have hg : m_seg κ10 a [2523, 142, 141, 141] := hg.grow rfl hq1 hk1
  have hq := m_lt_nx hq (by omega) hq1
  refine n_puwr X hin hH hS hT (k := 3) (i := 2) (a := a) (b := (a + 3)) (j := 4) (A := 3) (B := 0) tyX3 (hg 0 _ rfl) (by decide) (by decide) rfl m_wi3 tyX3_ok nmX3 (by decide) in_2_22 rfl rfl rfl rfl rfl (by first | rfl | omega) ⟨rfl, rfl⟩ dX3_init_32 (fun H locs κ11 hq1 hk1 hT hH hS => ?_)
  have hg : m_seg κ11 a [2531, 142, 141, 141] := hg.swap hq1 hk1
  have hq := m_lt_ne hq hq1
  refine lv_aload_n hx hb dX3_init_35 rfl (lv_at hl 0 rfl) ?_
  refine lv_iconst (v := (5 : Int32)) hx hb dX3_init_36 (by decide) ?_
  obtain ⟨S12, e_S12, hm⟩ := m_let_of hm
  refine n_newa X hH hS hT (ty := .int) (N := 5) rfl in_1_159 1 rfl (by decide) rfl m_RAi (by decide) (by decide) (by decide) e_S12 (nx' := (a + 5)) rfl (Nat.le_of_ble_eq_true rfl) (Nat.le_of_ble_eq_true rfl) dX3_init_37 (fun H κ13 hq1 hk1 hT hH hS => ?_)
  have hg : m_seg κ13 a [2531, 142, 141, 141, 141] := hg.grow rfl hq1 hk1
  have hq := m_lt_nx hq (by omega) hq1
  refine n_puwr X hin hH hS hT (k := 3) (i := 3) (a := a) (b := (a + 4)) (j := 5) (A := 4) (B := 0) tyX3 (hg 0 _ rfl) (by decide) (by decide) rfl m_wi3 tyX3_ok nmX3 (by decide) in_2_26 rfl rfl rfl rfl rfl (by first | rfl | omega) ⟨rfl, rfl⟩ dX3_init_39 (fun H locs κ14 hq1 hk1 hT hH hS => ?_)
  have hg : m_seg κ14 a [2539, 142, 141, 141, 141] := hg.swap hq1 hk1
  have hq := m_lt_ne hq hq1
  refine lv_aload_n hx hb dX3_init_42 rfl (lv_at hl 0 rfl) ?_
  refine lv_bipush (v := (24 : Int32)) hx hb dX3_init_43 (by decide) ?_
  obtain ⟨S15, e_S15, hm⟩ := m_let_of hm
  refine n_newa X hH hS hT (ty := .int) (N := 24) rfl in_1_159 1 rfl (by decide) rfl m_RAi (by decide) (by decide) (by decide) e_S15 (nx' := (a + 6)) rfl (Nat.le_of_ble_eq_true rfl) (Nat.le_of_ble_eq_true rfl) dX3_init_45 (fun H κ16 hq1 hk1 hT hH hS => ?_)
  have hg : m_seg κ16 a [2539, 142, 141, 141, 141, 293] := hg.grow rfl hq1 hk1
  have hq := m_lt_nx hq (by omega) hq1
  refine n_puwr X hin hH hS hT (k := 3) (i := 4) (a := a) (b := (a + 5)) (j := 6) (A := 5) (B := 0) tyX3 (hg 0 _ rfl) (by decide) (by decide) rfl m_wi3 tyX3_ok nmX3 (by decide) in_2_32 rfl rfl rfl rfl rfl (by first | rfl | omega) ⟨rfl, rfl⟩ dX3_init_47 (fun H locs κ17 hq1 hk1 hT hH hS => ?_)
  have hg : m_seg κ17 a [2547, 142, 141, 141, 141, 293] := hg.swap hq1 hk1
  have hq := m_lt_ne hq hq1
  refine lv_aload_n hx hb dX3_init_50 rfl (lv_at hl 0 rfl) ?_
  refine lv_bipush (v := (24 : Int32)) hx hb dX3_init_51 (by decide) ?_
  obtain ⟨S18, e_S18, hm⟩ := m_let_of hm
  refine n_newa X hH hS hT (ty := .int) (N := 24) rfl in_1_159 1 rfl (by decide) rfl m_RAi (by decide) (by decide) (by decide) e_S18 (nx' := (a + 7)) rfl (Nat.le_of_ble_eq_true rfl) (Nat.le_of_ble_eq_true rfl) dX3_init_53 (fun H κ19 hq1 hk1 hT hH hS => ?_)
  have hg : m_seg κ19 a [2547, 142, 141, 141, 141, 293, 293] := hg.grow rfl hq1 hk1
  have hq := m_lt_nx hq (by omega) hq1
  refine n_puwr X hin hH hS hT (k := 3) (i := 5) (a := a) (b := (a + 6)) (j := 7) (A := 6) (B := 0) tyX3 (hg 0 _ rfl) (by decide) (by decide) rfl m_wi3 tyX3_ok nmX3 (by decide) in_2_37 rfl rfl rfl rfl rfl (by first | rfl | omega) ⟨rfl, rfl⟩ dX3_init_55 (fun H locs κ20 hq1 hk1 hT hH hS => ?_)
  have hg : m_seg κ20 a [2555, 142, 141, 141, 141, 293, 293] := hg.swap hq1 hk1
  have hq := m_lt_ne hq hq1
  refine lv_aload_n hx hb dX3_init_58 rfl (lv_at hl 0 rfl) ?_
  refine lv_bipush (v := (120 : Int32)) hx hb dX3_init_59 (by decide) ?_
  obtain ⟨S21, e_S21, hm⟩ := m_let_of hm
  refine n_newa X hH hS hT (ty := .int) (N := 120) rfl in_1_159 1 rfl (by decide) rfl m_RAi (by decide) (by decide) (by decide) e_S21 (nx' := (a + 8)) rfl (Nat.le_of_ble_eq_true rfl) (Nat.le_of_ble_eq_true rfl) dX3_init_61 (fun H κ22 hq1 hk1 hT hH hS => ?_)
  have hg : m_seg κ22 a [2555, 142, 141, 141, 141, 293, 293, 1061] := hg.grow rfl hq1 hk1
  have hq := m_lt_nx hq (by omega) hq1
  refine n_puwr X hin hH hS hT (k := 3) (i := 6) (a := a) (b := (a + 7)) (j := 8) (A := 7) (B := 0) tyX3 (hg 0 _ rfl) (by decide) (by decide) rfl m_wi3 tyX3_ok nmX3 (by decide) in_2_41 rfl rfl rfl rfl rfl (by first | rfl | omega) ⟨rfl, rfl⟩ dX3_init_63 (fun H locs κ23 hq1 hk1 hT hH hS => ?_)
  have hg : m_seg κ23 a [2563, 142, 141, 141, 141, 293, 293, 1061] := hg.swap hq1 hk1
  have hq := m_lt_ne hq hq1
  refine lv_aload_n hx hb dX3_init_66 rfl (lv_at hl 0 rfl) ?_
  obtain ⟨S24, e_S24, hm⟩ := m_let_of hm
  refine n_new X hH hS hT (k := 6) tyX6 (by decide) rfl m_wi6 tyX6_ok in_1_172 in_1_173 in_1_9 m_df6 e_S24 (nx' := (a + 9)) rfl (Nat.le_of_ble_eq_true rfl) (Nat.le_of_ble_eq_true rfl) dX3_init_67 (fun H κ25 hq1 hk1 hT hH hS => ?_)
  have hgk : m_seg κ25 a [2563, 142, 141, 141, 141, 293, 293, 1061] := hg.kept (fun q h => hq1 q (by simpa using h))
  have hg := hgk
  have hq := m_lt_nx hq (by omega) hq1
  refine lv_dup hx hb dX3_init_70 rfl ?_
  obtain ⟨S26, e_S26, hm⟩ := m_cal0_of hm
  refine n_cIN (host := "RegionRooms") X hN hH hS (c_X6_init (a := (a + 8)) hT hk1 e_S26) mw_X6_init in_1_175 rfl (by decide +kernel) rfl ⟨rfl, rfl⟩ ⟨Nat.le_of_ble_eq_true rfl, Nat.le_of_ble_eq_true rfl⟩ ⟨Nat.le_of_ble_eq_true rfl, Nat.le_of_ble_eq_true rfl⟩ hl.1 (Nat.le_of_ble_eq_true rfl) dX3_init_71 (fun H locs κ27 hq1 hg1 hT hH hS => ?_)
  have hg : m_seg κ27 a [2563, 142, 141, 141, 141, 293, 293, 1061, 7, 1181, 1181, 293, 293, 293, 293, 293, 141, 141, 1061, 1061, 293, 293] := hg.growS rfl hq1 hg1
  have hq := m_lt_nx hq (by omega) hq1
  have hH : m_H G (a + 22) κ27 S26 H := hH
  refine n_puwr X hin hH hS hT (k := 3) (i := 7) (a := a) (b := (a + 8)) (j := 9) (A := 8) (B := 0) tyX3 (hg 0 _ rfl) (by decide) (by decide) rfl m_wi3 tyX3_ok nmX3 (by decide) in_2_43 rfl rfl rfl rfl rfl (by first | rfl | omega) ⟨rfl, rfl⟩ dX3_init_74 (fun H locs κ28 hq1 hk1 hT hH hS => ?_)
  have hg : m_seg κ28 a [2571, 142, 141, 141, 141, 293, 293, 1061, 7, 1181, 1181, 293, 293, 293, 293, 293, 141, 141, 1061, 1061, 293, 293] := hg.swap hq1 hk1
  have hq := m_lt_ne hq hq1
  obtain ⟨κ29, hq1, hk_s, hg, hT, hH⟩ := m_seal (k := 3) (i := 8) hH hT hg (by decide) (by decide) rfl rfl (by decide)
  have hq := m_lt_ne hq hq1
  exact r_kret X hN hr hH hS hm hT hq hg rfl (Nat.le_of_ble_eq_true rfl) (Nat.le_of_ble_eq_true rfl) dX3_init_77
def rm_X7_init : Room := { frames := 1, cells := 4, slots := 160, locals := 40 }
def f_X7_init (a : Nat) (S : m_M) : Option m_M :=
    m_let (m_si S a 0 (0 : Int32)) fun S1 =>
    m_let (m_si S1 a 1 (0 : Int32)) fun S2 =>
    m_let (m_si S2 a 2 (0 : Int32)) fun S3 =>
    m_let (m_new S3 (a + 1)) fun S4 =>
    m_let (m_new S4 (a + 2)) fun S7 =>
    m_let (m_new S7 (a + 3)) fun S10 =>
    m_let (m_new S10 (a + 4)) fun S13 =>
    some S13
set_option maxHeartbeats 4000000 in
set_option maxRecDepth 100000 in
theorem c_X7_init {l : Launch} {G : m_G} {κ : Nat → Nat} {a : Nat} {S S' : m_M} (hT : m_Str κ) (hk1 : κ a = m_ac 7 (100 * 7)) (hm : f_X7_init a S = some S') : m_K l yX7_init cX7_init 1 rm_X7_init G a (m_lay 8) (a + 1) κ [.ref a] S S' 4 160 := by
  refine m_K.of (by decide) rfl (Nat.le_of_ble_eq_true rfl) ?_
  intro p e s m args below meth c ls X hN hin hr hH hl
  have hx := X.1.1
  have hb := X.1.2.1
  have hS : m_S G s s.heap [] := va_S.rf
  have hl : lv_has ls 1 [(0, .ref a)] := hl
  have hg : m_seg κ a [5707] := m_seg.one hk1
  have hq : ∀ q, q < a → κ q = κ q := fun _ _ => rfl
  rw [f_X7_init] at hm
  refine lv_aload_n hx hb dX7_init_0 rfl (lv_at hl 0 rfl) ?_
  refine W.objInit hx hb X.1.2.2.2.1 (m_w X in_2_94) (m_w X in_1_32) (m_w X in_1_33) rfl (by rw [X.1.2.2.1]; exact hl.1) rfl dX7_init_1 (Nat.le_of_ble_eq_true rfl) (Nat.le_of_ble_eq_true rfl) ?_
  refine W.eq (g2 := F0 m 4 ls []) rfl ?_
  refine lv_aload_n hx hb dX7_init_4 rfl (lv_at hl 0 rfl) ?_
  refine lv_iconst (v := (0 : Int32)) hx hb dX7_init_5 (by decide) ?_
  obtain ⟨S1, e_S1, hm⟩ := m_let_of hm
  refine n_puwi X hH hS tyX7 (k := 7) (i := 0) (a := a) (j := 0) (hg 0 _ rfl) (by decide) (by decide) rfl m_wi7 tyX7_ok nmX7 (by decide) in_2_95 rfl rfl rfl (m_nz (by decide)) e_S1 dX7_init_6 (fun H locs hH hS => ?_)
  refine lv_aload_n hx hb dX7_init_9 rfl (lv_at hl 0 rfl) ?_
  refine lv_iconst (v := (0 : Int32)) hx hb dX7_init_10 (by decide) ?_
  obtain ⟨S2, e_S2, hm⟩ := m_let_of hm
  refine n_puwi X hH hS tyX7 (k := 7) (i := 0) (a := a) (j := 1) (hg 0 _ rfl) (by decide) (by decide) rfl m_wi7 tyX7_ok nmX7 (by decide) in_2_98 rfl rfl rfl ⟨rfl, rfl⟩ e_S2 dX7_init_11 (fun H locs hH hS => ?_)
  refine lv_aload_n hx hb dX7_init_14 rfl (lv_at hl 0 rfl) ?_
  refine lv_iconst (v := (0 : Int32)) hx hb dX7_init_15 (by decide) ?_
  obtain ⟨S3, e_S3, hm⟩ := m_let_of hm
  refine n_puwi X hH hS tyX7 (k := 7) (i := 0) (a := a) (j := 2) (hg 0 _ rfl) (by decide) (by decide) rfl m_wi7 tyX7_ok nmX7 (by decide) in_2_101 rfl rfl rfl ⟨rfl, rfl⟩ e_S3 dX7_init_16 (fun H locs hH hS => ?_)
  refine lv_aload_n hx hb dX7_init_19 rfl (lv_at hl 0 rfl) ?_
  refine lv_bipush (v := (40 : Int32)) hx hb dX7_init_20 (by decide) ?_
  obtain ⟨S4, e_S4, hm⟩ := m_let_of hm
  refine n_newa X hH hS hT (ty := .int) (N := 40) rfl in_1_159 1 rfl (by decide) rfl m_RAi (by decide) (by decide) (by decide) e_S4 (nx' := (a + 2)) rfl (Nat.le_of_ble_eq_true rfl) (Nat.le_of_ble_eq_true rfl) dX7_init_22 (fun H κ5 hq1 hk1 hT hH hS => ?_)
  have hg : m_seg κ5 a [5707, 421] := hg.grow rfl hq1 hk1
  have hq := m_lt_nx hq (by omega) hq1
  refine n_puwr X hin hH hS hT (k := 7) (i := 0) (a := a) (b := (a + 1)) (j := 3) (A := 1) (B := 0) tyX7 (hg 0 _ rfl) (by decide) (by decide) rfl m_wi7 tyX7_ok nmX7 (by decide) in_2_102 rfl rfl rfl rfl rfl (by first | rfl | omega) ⟨rfl, rfl⟩ dX7_init_24 (fun H locs κ6 hq1 hk1 hT hH hS => ?_)
  have hg : m_seg κ6 a [5715, 421] := hg.swap hq1 hk1
  have hq := m_lt_ne hq hq1
  refine lv_aload_n hx hb dX7_init_27 rfl (lv_at hl 0 rfl) ?_
  refine lv_bipush (v := (40 : Int32)) hx hb dX7_init_28 (by decide) ?_
  obtain ⟨S7, e_S7, hm⟩ := m_let_of hm
  refine n_newa X hH hS hT (ty := .int) (N := 40) rfl in_1_159 1 rfl (by decide) rfl m_RAi (by decide) (by decide) (by decide) e_S7 (nx' := (a + 3)) rfl (Nat.le_of_ble_eq_true rfl) (Nat.le_of_ble_eq_true rfl) dX7_init_30 (fun H κ8 hq1 hk1 hT hH hS => ?_)
  have hg : m_seg κ8 a [5715, 421, 421] := hg.grow rfl hq1 hk1
  have hq := m_lt_nx hq (by omega) hq1
  refine n_puwr X hin hH hS hT (k := 7) (i := 1) (a := a) (b := (a + 2)) (j := 4) (A := 2) (B := 0) tyX7 (hg 0 _ rfl) (by decide) (by decide) rfl m_wi7 tyX7_ok nmX7 (by decide) in_2_103 rfl rfl rfl rfl rfl (by first | rfl | omega) ⟨rfl, rfl⟩ dX7_init_32 (fun H locs κ9 hq1 hk1 hT hH hS => ?_)
  have hg : m_seg κ9 a [5723, 421, 421] := hg.swap hq1 hk1
  have hq := m_lt_ne hq hq1
  refine lv_aload_n hx hb dX7_init_35 rfl (lv_at hl 0 rfl) ?_
  refine lv_bipush (v := (40 : Int32)) hx hb dX7_init_36 (by decide) ?_
  obtain ⟨S10, e_S10, hm⟩ := m_let_of hm
  refine n_newa X hH hS hT (ty := .int) (N := 40) rfl in_1_159 1 rfl (by decide) rfl m_RAi (by decide) (by decide) (by decide) e_S10 (nx' := (a + 4)) rfl (Nat.le_of_ble_eq_true rfl) (Nat.le_of_ble_eq_true rfl) dX7_init_38 (fun H κ11 hq1 hk1 hT hH hS => ?_)
  have hg : m_seg κ11 a [5723, 421, 421, 421] := hg.grow rfl hq1 hk1
  have hq := m_lt_nx hq (by omega) hq1
  refine n_puwr X hin hH hS hT (k := 7) (i := 2) (a := a) (b := (a + 3)) (j := 5) (A := 3) (B := 0) tyX7 (hg 0 _ rfl) (by decide) (by decide) rfl m_wi7 tyX7_ok nmX7 (by decide) in_2_104 rfl rfl rfl rfl rfl (by first | rfl | omega) ⟨rfl, rfl⟩ dX7_init_40 (fun H locs κ12 hq1 hk1 hT hH hS => ?_)
  have hg : m_seg κ12 a [5731, 421, 421, 421] := hg.swap hq1 hk1
  have hq := m_lt_ne hq hq1
  refine lv_aload_n hx hb dX7_init_43 rfl (lv_at hl 0 rfl) ?_
  refine lv_bipush (v := (40 : Int32)) hx hb dX7_init_44 (by decide) ?_
  obtain ⟨S13, e_S13, hm⟩ := m_let_of hm
  refine n_newa X hH hS hT (ty := .boolean) (N := 40) rfl in_2_121 3 rfl (by decide) rfl m_RAz (by decide) (by decide) (by decide) e_S13 (nx' := (a + 5)) rfl (Nat.le_of_ble_eq_true rfl) (Nat.le_of_ble_eq_true rfl) dX7_init_46 (fun H κ14 hq1 hk1 hT hH hS => ?_)
  have hg : m_seg κ14 a [5731, 421, 421, 421, 423] := hg.grow rfl hq1 hk1
  have hq := m_lt_nx hq (by omega) hq1
  refine n_puwr X hin hH hS hT (k := 7) (i := 3) (a := a) (b := (a + 4)) (j := 6) (A := 4) (B := 0) tyX7 (hg 0 _ rfl) (by decide) (by decide) rfl m_wi7 tyX7_ok nmX7 (by decide) in_2_105 rfl rfl rfl rfl rfl (by first | rfl | omega) ⟨rfl, rfl⟩ dX7_init_48 (fun H locs κ15 hq1 hk1 hT hH hS => ?_)
  have hg : m_seg κ15 a [5739, 421, 421, 421, 423] := hg.swap hq1 hk1
  have hq := m_lt_ne hq hq1
  obtain ⟨κ16, hq1, hk_s, hg, hT, hH⟩ := m_seal (k := 7) (i := 4) hH hT hg (by decide) (by decide) rfl rfl (by decide)
  have hq := m_lt_ne hq hq1
  exact r_kret X hN hr hH hS hm hT hq hg rfl (Nat.le_of_ble_eq_true rfl) (Nat.le_of_ble_eq_true rfl) dX7_init_51
def rm_X4_init : Room := { frames := 3, cells := 23, slots := 928, locals := 80 }
def f_X4_init (x : Nat) (S : m_M) : Option m_M :=
    m_let (m_new S (x + 8)) fun S1 =>
    m_cal0 (f_X3_init (x + 8) S1) fun S3 =>
    m_let (m_new S3 (x + 30)) fun S6 =>
    m_let (m_si S6 (x + 7) 3 (0 : Int32)) fun S9 =>
    some S9
set_option maxHeartbeats 4000000 in
set_option maxRecDepth 100000 in
theorem c_X4_init {l : Launch} {G : m_G} {κ : Nat → Nat} {x : Nat} {S S' : m_M} (hT : m_Str κ) (hk1 : κ (x + 7) = m_ac 7 (100 * 4)) (hm : f_X4_init x S = some S') : m_K l yX4_init cX4_init 2 rm_X4_init G (x + 7) (m_lay 5) (x + 8) κ [.ref (x + 7), .ref (x + 2)] S S' 23 928 := by
  refine m_K.of (by decide) rfl (Nat.le_of_ble_eq_true rfl) ?_
  intro p e s m args below meth c ls X hN hin hr hH hl
  have hx := X.1.1
  have hb := X.1.2.1
  have hS : m_S G s s.heap [] := va_S.rf
  have hl : lv_has ls 2 [(0, .ref (x + 7)), (1, .ref (x + 2))] := hl
  have hg : m_seg κ (x + 7) [3307] := m_seg.one hk1
  have hq : ∀ q, q < (x + 7) → κ q = κ q := fun _ _ => rfl
  rw [f_X4_init] at hm
  refine lv_aload_n hx hb dX4_init_0 rfl (lv_at hl 0 rfl) ?_
  refine W.objInit hx hb X.1.2.2.2.1 (m_w X in_1_165) (m_w X in_1_32) (m_w X in_1_33) rfl (by rw [X.1.2.2.1]; exact hl.1) rfl dX4_init_1 (Nat.le_of_ble_eq_true rfl) (Nat.le_of_ble_eq_true rfl) ?_
  refine W.eq (g2 := F0 m 4 ls []) rfl ?_
  refine lv_aload_n hx hb dX4_init_4 rfl (lv_at hl 0 rfl) ?_
  obtain ⟨S1, e_S1, hm⟩ := m_let_of hm
  refine n_new X hH hS hT (k := 3) tyX3 (by decide) rfl m_wi3 tyX3_ok in_1_166 in_1_167 in_1_8 m_df3 e_S1 (nx' := (x + 9)) rfl (Nat.le_of_ble_eq_true rfl) (Nat.le_of_ble_eq_true rfl) dX4_init_5 (fun H κ2 hq1 hk1 hT hH hS => ?_)
  have hgk : m_seg κ2 (x + 7) [3307] := hg.kept (fun q h => hq1 q (by simpa using h))
  have hg := hgk
  have hq := m_lt_nx hq (by omega) hq1
  refine lv_dup hx hb dX4_init_8 rfl ?_
  obtain ⟨S3, e_S3, hm⟩ := m_cal0_of hm
  refine n_cIN (host := "RegionRooms") X hN hH hS (c_X3_init (a := (x + 8)) hT hk1 e_S3) mw_X3_init in_1_169 rfl (by decide +kernel) rfl ⟨rfl, rfl⟩ ⟨Nat.le_of_ble_eq_true rfl, Nat.le_of_ble_eq_true rfl⟩ ⟨Nat.le_of_ble_eq_true rfl, Nat.le_of_ble_eq_true rfl⟩ hl.1 (Nat.le_of_ble_eq_true rfl) dX4_init_9 (fun H locs κ4 hq1 hg1 hT hH hS => ?_)
  have hg : m_seg κ4 (x + 7) [3307, 4, 142, 141, 141, 141, 293, 293, 1061, 7, 1181, 1181, 293, 293, 293, 293, 293, 141, 141, 1061, 1061, 293, 293] := hg.growS rfl hq1 hg1
  have hq := m_lt_nx hq (by omega) hq1
  have hH : m_H G (x + 30) κ4 S3 H := hH
  refine n_puwr X hin hH hS hT (k := 4) (i := 0) (a := (x + 7)) (b := (x + 8)) (j := 0) (A := 1) (B := 0) tyX4 (hg 0 _ rfl) (by decide) (by decide) rfl m_wi4 tyX4_ok nmX4 (by decide) in_2_69 rfl rfl rfl rfl rfl (by first | rfl | omega) ⟨rfl, rfl⟩ dX4_init_12 (fun H locs κ5 hq1 hk1 hT hH hS => ?_)
  have hg : m_seg κ5 (x + 7) [3315, 4, 142, 141, 141, 141, 293, 293, 1061, 7, 1181, 1181, 293, 293, 293, 293, 293, 141, 141, 1061, 1061, 293, 293] := hg.swap hq1 hk1
  have hq := m_lt_ne hq hq1
  refine lv_aload_n hx hb dX4_init_15 rfl (lv_at hl 0 rfl) ?_
  refine lv_bipush (v := (27 : Int32)) hx hb dX4_init_16 (by decide) ?_
  obtain ⟨S6, e_S6, hm⟩ := m_let_of hm
  refine n_newa X hH hS hT (ty := .long) (N := 27) rfl in_1_158 2 rfl (by decide) rfl m_RAl (by decide) (by decide) (by decide) e_S6 (nx' := (x + 31)) rfl (Nat.le_of_ble_eq_true rfl) (Nat.le_of_ble_eq_true rfl) dX4_init_18 (fun H κ7 hq1 hk1 hT hH hS => ?_)
  have hg : m_seg κ7 (x + 7) [3315, 4, 142, 141, 141, 141, 293, 293, 1061, 7, 1181, 1181, 293, 293, 293, 293, 293, 141, 141, 1061, 1061, 293, 293, 318] := hg.grow rfl hq1 hk1
  have hq := m_lt_nx hq (by omega) hq1
  refine n_puwr X hin hH hS hT (k := 4) (i := 1) (a := (x + 7)) (b := (x + 30)) (j := 2) (A := 23) (B := 0) tyX4 (hg 0 _ rfl) (by decide) (by decide) rfl m_wi4 tyX4_ok nmX4 (by decide) in_2_72 rfl rfl rfl rfl rfl (by first | rfl | omega) ⟨rfl, rfl⟩ dX4_init_20 (fun H locs κ8 hq1 hk1 hT hH hS => ?_)
  have hg : m_seg κ8 (x + 7) [3323, 4, 142, 141, 141, 141, 293, 293, 1061, 7, 1181, 1181, 293, 293, 293, 293, 293, 141, 141, 1061, 1061, 293, 293, 318] := hg.swap hq1 hk1
  have hq := m_lt_ne hq hq1
  refine lv_aload_n hx hb dX4_init_23 rfl (lv_at hl 0 rfl) ?_
  refine lv_iconst (v := (0 : Int32)) hx hb dX4_init_24 (by decide) ?_
  obtain ⟨S9, e_S9, hm⟩ := m_let_of hm
  refine n_puwi X hH hS tyX4 (k := 4) (i := 2) (a := (x + 7)) (j := 3) (hg 0 _ rfl) (by decide) (by decide) rfl m_wi4 tyX4_ok nmX4 (by decide) in_2_73 rfl rfl rfl ⟨rfl, rfl⟩ e_S9 dX4_init_25 (fun H locs hH hS => ?_)
  refine lv_aload_n hx hb dX4_init_28 rfl (lv_at hl 0 rfl) ?_
  refine lv_aload_n hx hb dX4_init_29 rfl (lv_at hl 1 rfl) ?_
  refine n_puwr X hin hH hS hT (k := 4) (i := 2) (a := (x + 7)) (b := (x + 2)) (j := 1) (A := 0) (B := 5) tyX4 (hg 0 _ rfl) (by decide) (by decide) rfl m_wi4 tyX4_ok nmX4 (by decide) in_2_71 rfl rfl rfl rfl rfl (by first | rfl | omega) ⟨rfl, rfl⟩ dX4_init_30 (fun H locs κ10 hq1 hk1 hT hH hS => ?_)
  have hg : m_seg κ10 (x + 7) [3331, 4, 142, 141, 141, 141, 293, 293, 1061, 7, 1181, 1181, 293, 293, 293, 293, 293, 141, 141, 1061, 1061, 293, 293, 318] := hg.swap hq1 hk1
  have hq := m_lt_ne hq hq1
  obtain ⟨κ11, hq1, hk_s, hg, hT, hH⟩ := m_seal (k := 4) (i := 3) hH hT hg (by decide) (by decide) rfl rfl (by decide)
  have hq := m_lt_ne hq hq1
  exact r_kret X hN hr hH hS hm hT hq hg rfl (Nat.le_of_ble_eq_true rfl) (Nat.le_of_ble_eq_true rfl) dX4_init_33
def rm_X8_init : Room := { frames := 2, cells := 5, slots := 167, locals := 60 }
def f_X8_init (x : Nat) (S : m_M) : Option m_M :=
    m_let (m_new S (x + 32)) fun S1 =>
    m_cal0 (f_X7_init (x + 32) S1) fun S3 =>
    some S3
set_option maxHeartbeats 4000000 in
set_option maxRecDepth 100000 in
theorem c_X8_init {l : Launch} {G : m_G} {κ : Nat → Nat} {x : Nat} {S S' : m_M} (hT : m_Str κ) (hk1 : κ (x + 31) = m_ac 7 (100 * 8)) (hm : f_X8_init x S = some S') : m_K l yX8_init cX8_init 2 rm_X8_init G (x + 31) (m_lay 9) (x + 32) κ [.ref (x + 31), .ref (x + 2)] S S' 5 167 := by
  refine m_K.of (by decide) rfl (Nat.le_of_ble_eq_true rfl) ?_
  intro p e s m args below meth c ls X hN hin hr hH hl
  have hx := X.1.1
  have hb := X.1.2.1
  have hS : m_S G s s.heap [] := va_S.rf
  have hl : lv_has ls 2 [(0, .ref (x + 31)), (1, .ref (x + 2))] := hl
  have hg : m_seg κ (x + 31) [6507] := m_seg.one hk1
  have hq : ∀ q, q < (x + 31) → κ q = κ q := fun _ _ => rfl
  rw [f_X8_init] at hm
  refine lv_aload_n hx hb dX8_init_0 rfl (lv_at hl 0 rfl) ?_
  refine W.objInit hx hb X.1.2.2.2.1 (m_w X in_2_88) (m_w X in_1_32) (m_w X in_1_33) rfl (by rw [X.1.2.2.1]; exact hl.1) rfl dX8_init_1 (Nat.le_of_ble_eq_true rfl) (Nat.le_of_ble_eq_true rfl) ?_
  refine W.eq (g2 := F0 m 4 ls []) rfl ?_
  refine lv_aload_n hx hb dX8_init_4 rfl (lv_at hl 0 rfl) ?_
  obtain ⟨S1, e_S1, hm⟩ := m_let_of hm
  refine n_new X hH hS hT (k := 7) tyX7 (by decide) rfl m_wi7 tyX7_ok in_2_89 in_2_90 in_1_11 m_df7 e_S1 (nx' := (x + 33)) rfl (Nat.le_of_ble_eq_true rfl) (Nat.le_of_ble_eq_true rfl) dX8_init_5 (fun H κ2 hq1 hk1 hT hH hS => ?_)
  have hgk : m_seg κ2 (x + 31) [6507] := hg.kept (fun q h => hq1 q (by simpa using h))
  have hg := hgk
  have hq := m_lt_nx hq (by omega) hq1
  refine lv_dup hx hb dX8_init_8 rfl ?_
  obtain ⟨S3, e_S3, hm⟩ := m_cal0_of hm
  refine n_cIN (host := "RegionRooms") X hN hH hS (c_X7_init (a := (x + 32)) hT hk1 e_S3) mw_X7_init in_2_92 rfl (by decide +kernel) rfl ⟨rfl, rfl⟩ ⟨Nat.le_of_ble_eq_true rfl, Nat.le_of_ble_eq_true rfl⟩ ⟨Nat.le_of_ble_eq_true rfl, Nat.le_of_ble_eq_true rfl⟩ hl.1 (Nat.le_of_ble_eq_true rfl) dX8_init_9 (fun H locs κ4 hq1 hg1 hT hH hS => ?_)
  have hg : m_seg κ4 (x + 31) [6507, 8, 421, 421, 421, 423] := hg.growS rfl hq1 hg1
  have hq := m_lt_nx hq (by omega) hq1
  have hH : m_H G (x + 37) κ4 S3 H := hH
  refine n_puwr X hin hH hS hT (k := 8) (i := 0) (a := (x + 31)) (b := (x + 32)) (j := 0) (A := 1) (B := 0) tyX8 (hg 0 _ rfl) (by decide) (by decide) rfl m_wi8 tyX8_ok nmX8 (by decide) in_2_122 rfl rfl rfl rfl rfl (by first | rfl | omega) ⟨rfl, rfl⟩ dX8_init_12 (fun H locs κ5 hq1 hk1 hT hH hS => ?_)
  have hg : m_seg κ5 (x + 31) [6515, 8, 421, 421, 421, 423] := hg.swap hq1 hk1
  have hq := m_lt_ne hq hq1
  refine lv_aload_n hx hb dX8_init_15 rfl (lv_at hl 0 rfl) ?_
  refine lv_aload_n hx hb dX8_init_16 rfl (lv_at hl 1 rfl) ?_
  refine n_puwr X hin hH hS hT (k := 8) (i := 1) (a := (x + 31)) (b := (x + 2)) (j := 1) (A := 0) (B := 29) tyX8 (hg 0 _ rfl) (by decide) (by decide) rfl m_wi8 tyX8_ok nmX8 (by decide) in_2_124 rfl rfl rfl rfl rfl (by first | rfl | omega) ⟨rfl, rfl⟩ dX8_init_17 (fun H locs κ6 hq1 hk1 hT hH hS => ?_)
  have hg : m_seg κ6 (x + 31) [6523, 8, 421, 421, 421, 423] := hg.swap hq1 hk1
  have hq := m_lt_ne hq hq1
  obtain ⟨κ7, hq1, hk_s, hg, hT, hH⟩ := m_seal (k := 8) (i := 2) hH hT hg (by decide) (by decide) rfl rfl (by decide)
  have hq := m_lt_ne hq hq1
  exact r_kret X hN hr hH hS hm hT hq hg rfl (Nat.le_of_ble_eq_true rfl) (Nat.le_of_ble_eq_true rfl) dX8_init_20
