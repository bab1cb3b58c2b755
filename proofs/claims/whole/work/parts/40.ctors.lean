def rm_X0_init : Room := { frames := 1, cells := 1, slots := 8, locals := 40 }
def f_X0_init (a : Nat) (S : m_M) : Option m_M :=
    m_let (m_new S (a + 1)) fun S1 =>
    m_let (m_si S1 a 1 (0 : Int32)) fun S5 =>
    m_let (m_si S5 a 2 (0 : Int32)) fun S6 =>
    some S6
set_option maxHeartbeats 4000000 in
set_option maxRecDepth 100000 in
theorem c_X0_init {l : Launch} {G : m_G} {κ : Nat → Nat} {a : Nat} {S S' : m_M} (hT : m_Str κ) (hk1 : κ a = m_ac 7 (100 * 0)) (hm : f_X0_init a S = some S') : m_K l yX0_init cX0_init 1 rm_X0_init G a (m_lay 1) (a + 1) κ [.ref a] S S' 1 8 := by
  refine m_K.of (by decide) rfl (Nat.le_of_ble_eq_true rfl) ?_
  intro p e s m args below meth c ls X hN hin hr hH hl
  have hx := X.1.1
  have hb := X.1.2.1
  have hS : m_S G s s.heap [] := va_S.rf
  have hl : lv_has ls 1 [(0, .ref a)] := hl
  have hg : m_seg κ a [107] := m_seg.one hk1
  have hq : ∀ q, q < a → κ q = κ q := fun _ _ => rfl
  rw [f_X0_init] at hm
  refine lv_aload_n hx hb dX0_init_0 rfl (lv_at hl 0 rfl) ?_
  refine W.objInit hx hb X.1.2.2.2.1 (m_w X in_3_59) (m_w X in_1_32) (m_w X in_1_33) rfl (by rw [X.1.2.2.1]; exact hl.1) rfl dX0_init_1 (Nat.le_of_ble_eq_true rfl) (Nat.le_of_ble_eq_true rfl) ?_
  refine W.eq (g2 := F0 m 4 ls []) rfl ?_
  refine lv_aload_n hx hb dX0_init_4 rfl (lv_at hl 0 rfl) ?_
  refine lv_bipush (v := (8 : Int32)) hx hb dX0_init_5 (by decide) ?_
  obtain ⟨S1, e_S1, hm⟩ := m_let_of hm
  refine n_newq X hH hS hT (N := 8) (C := "RegionRooms$Machine") in_3_60 hN.2.1 4 rfl (by decide) (by decide) (by decide) (by decide) e_S1 (nx' := (a + 2)) rfl (Nat.le_of_ble_eq_true rfl) (Nat.le_of_ble_eq_true rfl) dX0_init_7 (fun H κ2 hq1 hk1 hT hH hS => ?_)
  have hg : m_seg κ2 a [107, 168] := hg.grow rfl hq1 hk1
  have hq := m_lt_nx hq (by omega) hq1
  refine n_puwr X hin hH hS hT (k := 0) (i := 0) (a := a) (b := (a + 1)) (j := 0) (A := 1) (B := 0) tyX0 (hg 0 _ rfl) (by decide) (by decide) rfl m_wi0 tyX0_ok nmX0 (by decide) in_3_62 rfl rfl rfl rfl rfl (by first | rfl | omega) ⟨rfl, rfl⟩ dX0_init_10 (fun H locs κ3 hq1 hk1 hT hH hS => ?_)
  have hg : m_seg κ3 a [115, 168] := hg.swap hq1 hk1
  have hq := m_lt_ne hq hq1
  obtain ⟨κ4, hq1, hk_s, hg, hT, hH⟩ := m_seal (k := 0) (i := 1) hH hT hg (by decide) (by decide) rfl rfl (by decide)
  have hq := m_lt_ne hq hq1
  refine lv_aload_n hx hb dX0_init_13 rfl (lv_at hl 0 rfl) ?_
  refine lv_iconst (v := (0 : Int32)) hx hb dX0_init_14 (by decide) ?_
  obtain ⟨S5, e_S5, hm⟩ := m_let_of hm
  refine n_puti X hH hS tyX0 (k := 0) (a := a) (j := 1) hk_s (by decide) rfl m_wi0 tyX0_ok nmX0 (by decide) in_3_63 rfl rfl rfl ⟨rfl, rfl⟩ e_S5 dX0_init_15 (fun H locs hH hS => ?_)
  refine lv_aload_n hx hb dX0_init_18 rfl (lv_at hl 0 rfl) ?_
  refine lv_iconst (v := (0 : Int32)) hx hb dX0_init_19 (by decide) ?_
  obtain ⟨S6, e_S6, hm⟩ := m_let_of hm
  refine n_puti X hH hS tyX0 (k := 0) (a := a) (j := 2) hk_s (by decide) rfl m_wi0 tyX0_ok nmX0 (by decide) in_3_64 rfl rfl rfl ⟨rfl, rfl⟩ e_S6 dX0_init_20 (fun H locs hH hS => ?_)
  exact r_kret X hN hr hH hS hm hT hq hg rfl (Nat.le_of_ble_eq_true rfl) (Nat.le_of_ble_eq_true rfl) dX0_init_23
def rm_X1_init : Room := { frames := 1, cells := 2, slots := 400, locals := 40 }
def f_X1_init (a : Nat) (S : m_M) : Option m_M :=
    m_let (m_new S (a + 1)) fun S1 =>
    m_let (m_new S1 (a + 2)) fun S4 =>
    m_let (m_si S4 a 2 (0 : Int32)) fun S8 =>
    some S8
set_option maxHeartbeats 4000000 in
set_option maxRecDepth 100000 in
theorem c_X1_init {l : Launch} {G : m_G} {κ : Nat → Nat} {a : Nat} {S S' : m_M} (hT : m_Str κ) (hk1 : κ a = m_ac 7 (100 * 1)) (hm : f_X1_init a S = some S') : m_K l yX1_init cX1_init 1 rm_X1_init G a (m_lay 2) (a + 1) κ [.ref a] S S' 2 400 := by
  refine m_K.of (by decide) rfl (Nat.le_of_ble_eq_true rfl) ?_
  intro p e s m args below meth c ls X hN hin hr hH hl
  have hx := X.1.1
  have hb := X.1.2.1
  have hS : m_S G s s.heap [] := va_S.rf
  have hl : lv_has ls 1 [(0, .ref a)] := hl
  have hg : m_seg κ a [907] := m_seg.one hk1
  have hq : ∀ q, q < a → κ q = κ q := fun _ _ => rfl
  rw [f_X1_init] at hm
  refine lv_aload_n hx hb dX1_init_0 rfl (lv_at hl 0 rfl) ?_
  refine W.objInit hx hb X.1.2.2.2.1 (m_w X in_3_42) (m_w X in_1_32) (m_w X in_1_33) rfl (by rw [X.1.2.2.1]; exact hl.1) rfl dX1_init_1 (Nat.le_of_ble_eq_true rfl) (Nat.le_of_ble_eq_true rfl) ?_
  refine W.eq (g2 := F0 m 4 ls []) rfl ?_
  refine lv_aload_n hx hb dX1_init_4 rfl (lv_at hl 0 rfl) ?_
  refine lv_sipush (v := (200 : Int32)) hx hb dX1_init_5 (by decide) ?_
  obtain ⟨S1, e_S1, hm⟩ := m_let_of hm
  refine n_newa X hH hS hT (ty := .boolean) (N := 200) rfl in_2_125 3 rfl (by decide) rfl m_RAz (by decide) (by decide) (by decide) e_S1 (nx' := (a + 2)) rfl (Nat.le_of_ble_eq_true rfl) (Nat.le_of_ble_eq_true rfl) dX1_init_8 (fun H κ2 hq1 hk1 hT hH hS => ?_)
  have hg : m_seg κ2 a [907, 1703] := hg.grow rfl hq1 hk1
  have hq := m_lt_nx hq (by omega) hq1
  refine n_puwr X hin hH hS hT (k := 1) (i := 0) (a := a) (b := (a + 1)) (j := 0) (A := 1) (B := 0) tyX1 (hg 0 _ rfl) (by decide) (by decide) rfl m_wi1 tyX1_ok nmX1 (by decide) in_3_43 rfl rfl rfl rfl rfl (by first | rfl | omega) ⟨rfl, rfl⟩ dX1_init_10 (fun H locs κ3 hq1 hk1 hT hH hS => ?_)
  have hg : m_seg κ3 a [915, 1703] := hg.swap hq1 hk1
  have hq := m_lt_ne hq hq1
  refine lv_aload_n hx hb dX1_init_13 rfl (lv_at hl 0 rfl) ?_
  refine lv_sipush (v := (200 : Int32)) hx hb dX1_init_14 (by decide) ?_
  obtain ⟨S4, e_S4, hm⟩ := m_let_of hm
  refine n_newa X hH hS hT (ty := .int) (N := 200) rfl in_1_121 1 rfl (by decide) rfl m_RAi (by decide) (by decide) (by decide) e_S4 (nx' := (a + 3)) rfl (Nat.le_of_ble_eq_true rfl) (Nat.le_of_ble_eq_true rfl) dX1_init_17 (fun H κ5 hq1 hk1 hT hH hS => ?_)
  have hg : m_seg κ5 a [915, 1703, 1701] := hg.grow rfl hq1 hk1
  have hq := m_lt_nx hq (by omega) hq1
  refine n_puwr X hin hH hS hT (k := 1) (i := 1) (a := a) (b := (a + 2)) (j := 1) (A := 2) (B := 0) tyX1 (hg 0 _ rfl) (by decide) (by decide) rfl m_wi1 tyX1_ok nmX1 (by decide) in_3_45 rfl rfl rfl rfl rfl (by first | rfl | omega) ⟨rfl, rfl⟩ dX1_init_19 (fun H locs κ6 hq1 hk1 hT hH hS => ?_)
  have hg : m_seg κ6 a [923, 1703, 1701] := hg.swap hq1 hk1
  have hq := m_lt_ne hq hq1
  obtain ⟨κ7, hq1, hk_s, hg, hT, hH⟩ := m_seal (k := 1) (i := 2) hH hT hg (by decide) (by decide) rfl rfl (by decide)
  have hq := m_lt_ne hq hq1
  refine lv_aload_n hx hb dX1_init_22 rfl (lv_at hl 0 rfl) ?_
  refine lv_iconst (v := (0 : Int32)) hx hb dX1_init_23 (by decide) ?_
  obtain ⟨S8, e_S8, hm⟩ := m_let_of hm
  refine n_puti X hH hS tyX1 (k := 1) (a := a) (j := 2) hk_s (by decide) rfl m_wi1 tyX1_ok nmX1 (by decide) in_3_46 rfl rfl rfl ⟨rfl, rfl⟩ e_S8 dX1_init_24 (fun H locs hH hS => ?_)
  exact r_kret X hN hr hH hS hm hT hq hg rfl (Nat.le_of_ble_eq_true rfl) (Nat.le_of_ble_eq_true rfl) dX1_init_27
def rm_X2_init : Room := { frames := 1, cells := 8, slots := 2040, locals := 40 }
def f_X2_init (a : Nat) (S : m_M) : Option m_M :=
    m_let (m_si S a 0 (0 : Int32)) fun S1 =>
    m_let (m_si S1 a 1 (0 : Int32)) fun S2 =>
    m_let (m_si S2 a 2 (0 : Int32)) fun S3 =>
    m_let (m_si S3 a 3 (0 : Int32)) fun S4 =>
    m_let (m_si S4 a 4 (0 : Int32)) fun S5 =>
    m_let (m_si S5 a 5 (0 : Int32)) fun S6 =>
    m_let (m_si S6 a 6 (0 : Int32)) fun S7 =>
    m_let (m_si S7 a 7 (0 : Int32)) fun S8 =>
    m_let (m_si S8 a 8 (0 : Int32)) fun S9 =>
    m_let (m_si S9 a 9 (0 : Int32)) fun S10 =>
    m_let (m_si S10 a 10 (0 : Int32)) fun S11 =>
    m_let (m_si S11 a 11 (0 : Int32)) fun S12 =>
    m_let (m_new S12 (a + 1)) fun S13 =>
    m_let (m_new S13 (a + 2)) fun S16 =>
    m_let (m_new S16 (a + 3)) fun S19 =>
    m_let (m_new S19 (a + 4)) fun S22 =>
    m_let (m_new S22 (a + 5)) fun S25 =>
    m_let (m_new S25 (a + 6)) fun S28 =>
    m_let (m_new S28 (a + 7)) fun S31 =>
    m_let (m_new S31 (a + 8)) fun S34 =>
    m_cal0 (f_J7_fill_53178 (a + 6) 200 S34 (-1 : Int32)) fun S38 =>
    some S38
set_option maxHeartbeats 4000000 in
set_option maxRecDepth 100000 in
theorem c_X2_init {l : Launch} {G : m_G} {κ : Nat → Nat} {a : Nat} {S S' : m_M} (hT : m_Str κ) (hk1 : κ a = m_ac 7 (100 * 2)) (hm : f_X2_init a S = some S') : m_K l yX2_init cX2_init 1 rm_X2_init G a (m_lay 3) (a + 1) κ [.ref a] S S' 8 2040 := by
  refine m_K.of (by decide) rfl (Nat.le_of_ble_eq_true rfl) ?_
  intro p e s m args below meth c ls X hN hin hr hH hl
  have hx := X.1.1
  have hb := X.1.2.1
  have hS : m_S G s s.heap [] := va_S.rf
  have hl : lv_has ls 1 [(0, .ref a)] := hl
  have hg : m_seg κ a [1707] := m_seg.one hk1
  have hq : ∀ q, q < a → κ q = κ q := fun _ _ => rfl
  rw [f_X2_init] at hm
  refine lv_aload_n hx hb dX2_init_0 rfl (lv_at hl 0 rfl) ?_
  refine W.objInit hx hb X.1.2.2.2.1 (m_w X in_2_172) (m_w X in_1_32) (m_w X in_1_33) rfl (by rw [X.1.2.2.1]; exact hl.1) rfl dX2_init_1 (Nat.le_of_ble_eq_true rfl) (Nat.le_of_ble_eq_true rfl) ?_
  refine W.eq (g2 := F0 m 4 ls []) rfl ?_
  refine lv_aload_n hx hb dX2_init_4 rfl (lv_at hl 0 rfl) ?_
  refine lv_iconst (v := (0 : Int32)) hx hb dX2_init_5 (by decide) ?_
  obtain ⟨S1, e_S1, hm⟩ := m_let_of hm
  refine n_puwi X hH hS tyX2 (k := 2) (i := 0) (a := a) (j := 0) (hg 0 _ rfl) (by decide) (by decide) rfl m_wi2 tyX2_ok nmX2 (by decide) in_2_176 rfl rfl rfl ⟨rfl, rfl⟩ e_S1 dX2_init_6 (fun H locs hH hS => ?_)
  refine lv_aload_n hx hb dX2_init_9 rfl (lv_at hl 0 rfl) ?_
  refine lv_iconst (v := (0 : Int32)) hx hb dX2_init_10 (by decide) ?_
  obtain ⟨S2, e_S2, hm⟩ := m_let_of hm
  refine n_puwi X hH hS tyX2 (k := 2) (i := 0) (a := a) (j := 1) (hg 0 _ rfl) (by decide) (by decide) rfl m_wi2 tyX2_ok nmX2 (by decide) in_2_178 rfl rfl rfl ⟨rfl, rfl⟩ e_S2 dX2_init_11 (fun H locs hH hS => ?_)
  refine lv_aload_n hx hb dX2_init_14 rfl (lv_at hl 0 rfl) ?_
  refine lv_iconst (v := (0 : Int32)) hx hb dX2_init_15 (by decide) ?_
  obtain ⟨S3, e_S3, hm⟩ := m_let_of hm
  refine n_puwi X hH hS tyX2 (k := 2) (i := 0) (a := a) (j := 2) (hg 0 _ rfl) (by decide) (by decide) rfl m_wi2 tyX2_ok nmX2 (by decide) in_2_180 rfl rfl rfl ⟨rfl, rfl⟩ e_S3 dX2_init_16 (fun H locs hH hS => ?_)
  refine lv_aload_n hx hb dX2_init_19 rfl (lv_at hl 0 rfl) ?_
  refine lv_iconst (v := (0 : Int32)) hx hb dX2_init_20 (by decide) ?_
  obtain ⟨S4, e_S4, hm⟩ := m_let_of hm
  refine n_puwi X hH hS tyX2 (k := 2) (i := 0) (a := a) (j := 3) (hg 0 _ rfl) (by decide) (by decide) rfl m_wi2 tyX2_ok nmX2 (by decide) in_2_183 rfl rfl rfl ⟨rfl, rfl⟩ e_S4 dX2_init_21 (fun H locs hH hS => ?_)
  refine lv_aload_n hx hb dX2_init_24 rfl (lv_at hl 0 rfl) ?_
  refine lv_iconst (v := (0 : Int32)) hx hb dX2_init_25 (by decide) ?_
  obtain ⟨S5, e_S5, hm⟩ := m_let_of hm
  refine n_puwi X hH hS tyX2 (k := 2) (i := 0) (a := a) (j := 4) (hg 0 _ rfl) (by decide) (by decide) rfl m_wi2 tyX2_ok nmX2 (by decide) in_2_185 rfl rfl rfl ⟨rfl, rfl⟩ e_S5 dX2_init_26 (fun H locs hH hS => ?_)
  refine lv_aload_n hx hb dX2_init_29 rfl (lv_at hl 0 rfl) ?_
  refine lv_iconst (v := (0 : Int32)) hx hb dX2_init_30 (by decide) ?_
  obtain ⟨S6, e_S6, hm⟩ := m_let_of hm
  refine n_puwi X hH hS tyX2 (k := 2) (i := 0) (a := a) (j := 5) (hg 0 _ rfl) (by decide) (by decide) rfl m_wi2 tyX2_ok nmX2 (by decide) in_2_187 rfl rfl rfl ⟨rfl, rfl⟩ e_S6 dX2_init_31 (fun H locs hH hS => ?_)
  refine lv_aload_n hx hb dX2_init_34 rfl (lv_at hl 0 rfl) ?_
  refine lv_iconst (v := (0 : Int32)) hx hb dX2_init_35 (by decide) ?_
  obtain ⟨S7, e_S7, hm⟩ := m_let_of hm
  refine n_puwi X hH hS tyX2 (k := 2) (i := 0) (a := a) (j := 6) (hg 0 _ rfl) (by decide) (by decide) rfl m_wi2 tyX2_ok nmX2 (by decide) in_2_189 rfl rfl rfl ⟨rfl, rfl⟩ e_S7 dX2_init_36 (fun H locs hH hS => ?_)
  refine lv_aload_n hx hb dX2_init_39 rfl (lv_at hl 0 rfl) ?_
  refine lv_iconst (v := (0 : Int32)) hx hb dX2_init_40 (by decide) ?_
  obtain ⟨S8, e_S8, hm⟩ := m_let_of hm
  refine n_puwi X hH hS tyX2 (k := 2) (i := 0) (a := a) (j := 7) (hg 0 _ rfl) (by decide) (by decide) rfl m_wi2 tyX2_ok nmX2 (by decide) in_2_191 rfl rfl rfl ⟨rfl, rfl⟩ e_S8 dX2_init_41 (fun H locs hH hS => ?_)
  refine lv_aload_n hx hb dX2_init_44 rfl (lv_at hl 0 rfl) ?_
  refine lv_iconst (v := (0 : Int32)) hx hb dX2_init_45 (by decide) ?_
  obtain ⟨S9, e_S9, hm⟩ := m_let_of hm
  refine n_puwi X hH hS tyX2 (k := 2) (i := 0) (a := a) (j := 8) (hg 0 _ rfl) (by decide) (by decide) rfl m_wi2 tyX2_ok nmX2 (by decide) in_2_193 rfl rfl rfl ⟨rfl, rfl⟩ e_S9 dX2_init_46 (fun H locs hH hS => ?_)
  refine lv_aload_n hx hb dX2_init_49 rfl (lv_at hl 0 rfl) ?_
  refine lv_iconst (v := (0 : Int32)) hx hb dX2_init_50 (by decide) ?_
  obtain ⟨S10, e_S10, hm⟩ := m_let_of hm
  refine n_puwi X hH hS tyX2 (k := 2) (i := 0) (a := a) (j := 9) (hg 0 _ rfl) (by decide) (by decide) rfl m_wi2 tyX2_ok nmX2 (by decide) in_2_195 rfl rfl rfl ⟨rfl, rfl⟩ e_S10 dX2_init_51 (fun H locs hH hS => ?_)
  refine lv_aload_n hx hb dX2_init_54 rfl (lv_at hl 0 rfl) ?_
  refine lv_iconst (v := (0 : Int32)) hx hb dX2_init_55 (by decide) ?_
  obtain ⟨S11, e_S11, hm⟩ := m_let_of hm
  refine n_puwi X hH hS tyX2 (k := 2) (i := 0) (a := a) (j := 10) (hg 0 _ rfl) (by decide) (by decide) rfl m_wi2 tyX2_ok nmX2 (by decide) in_2_196 rfl rfl rfl ⟨rfl, rfl⟩ e_S11 dX2_init_56 (fun H locs hH hS => ?_)
  refine lv_aload_n hx hb dX2_init_59 rfl (lv_at hl 0 rfl) ?_
  refine lv_iconst (v := (0 : Int32)) hx hb dX2_init_60 (by decide) ?_
  obtain ⟨S12, e_S12, hm⟩ := m_let_of hm
  refine n_puwi X hH hS tyX2 (k := 2) (i := 0) (a := a) (j := 11) (hg 0 _ rfl) (by decide) (by decide) rfl m_wi2 tyX2_ok nmX2 (by decide) in_2_199 rfl rfl rfl (m_nz (by decide)) e_S12 dX2_init_61 (fun H locs hH hS => ?_)
  refine lv_aload_n hx hb dX2_init_64 rfl (lv_at hl 0 rfl) ?_
  refine lv_bipush (v := (13 : Int32)) hx hb dX2_init_65 (by decide) ?_
  obtain ⟨S13, e_S13, hm⟩ := m_let_of hm
  refine n_newa X hH hS hT (ty := .int) (N := 13) rfl in_1_121 1 rfl (by decide) rfl m_RAi (by decide) (by decide) (by decide) e_S13 (nx' := (a + 2)) rfl (Nat.le_of_ble_eq_true rfl) (Nat.le_of_ble_eq_true rfl) dX2_init_67 (fun H κ14 hq1 hk1 hT hH hS => ?_)
  have hg : m_seg κ14 a [1707, 205] := hg.grow rfl hq1 hk1
  have hq := m_lt_nx hq (by omega) hq1
  refine n_puwr X hin hH hS hT (k := 2) (i := 0) (a := a) (b := (a + 1)) (j := 12) (A := 1) (B := 0) tyX2 (hg 0 _ rfl) (by decide) (by decide) rfl m_wi2 tyX2_ok nmX2 (by decide) in_2_201 rfl rfl rfl rfl rfl (by first | rfl | omega) ⟨rfl, rfl⟩ dX2_init_69 (fun H locs κ15 hq1 hk1 hT hH hS => ?_)
  have hg : m_seg κ15 a [1715, 205] := hg.swap hq1 hk1
  have hq := m_lt_ne hq hq1
  refine lv_aload_n hx hb dX2_init_72 rfl (lv_at hl 0 rfl) ?_
  refine lv_bipush (v := (13 : Int32)) hx hb dX2_init_73 (by decide) ?_
  obtain ⟨S16, e_S16, hm⟩ := m_let_of hm
  refine n_newa X hH hS hT (ty := .int) (N := 13) rfl in_1_121 1 rfl (by decide) rfl m_RAi (by decide) (by decide) (by decide) e_S16 (nx' := (a + 3)) rfl (Nat.le_of_ble_eq_true rfl) (Nat.le_of_ble_eq_true rfl) dX2_init_75 (fun H κ17 hq1 hk1 hT hH hS => ?_)
  have hg : m_seg κ17 a [1715, 205, 205] := hg.grow rfl hq1 hk1
  have hq := m_lt_nx hq (by omega) hq1
  refine n_puwr X hin hH hS hT (k := 2) (i := 1) (a := a) (b := (a + 2)) (j := 13) (A := 2) (B := 0) tyX2 (hg 0 _ rfl) (by decide) (by decide) rfl m_wi2 tyX2_ok nmX2 (by decide) in_2_203 rfl rfl rfl rfl rfl (by first | rfl | omega) ⟨rfl, rfl⟩ dX2_init_77 (fun H locs κ18 hq1 hk1 hT hH hS => ?_)
  have hg : m_seg κ18 a [1723, 205, 205] := hg.swap hq1 hk1
  have hq := m_lt_ne hq hq1
  refine lv_aload_n hx hb dX2_init_80 rfl (lv_at hl 0 rfl) ?_
  refine lv_sipush (v := (351 : Int32)) hx hb dX2_init_81 (by decide) ?_
  obtain ⟨S19, e_S19, hm⟩ := m_let_of hm
  refine n_newa X hH hS hT (ty := .int) (N := 351) rfl in_1_121 1 rfl (by decide) rfl m_RAi (by decide) (by decide) (by decide) e_S19 (nx' := (a + 4)) rfl (Nat.le_of_ble_eq_true rfl) (Nat.le_of_ble_eq_true rfl) dX2_init_84 (fun H κ20 hq1 hk1 hT hH hS => ?_)
  have hg : m_seg κ20 a [1723, 205, 205, 2909] := hg.grow rfl hq1 hk1
  have hq := m_lt_nx hq (by omega) hq1
  refine n_puwr X hin hH hS hT (k := 2) (i := 2) (a := a) (b := (a + 3)) (j := 14) (A := 3) (B := 0) tyX2 (hg 0 _ rfl) (by decide) (by decide) rfl m_wi2 tyX2_ok nmX2 (by decide) in_2_204 rfl rfl rfl rfl rfl (by first | rfl | omega) ⟨rfl, rfl⟩ dX2_init_86 (fun H locs κ21 hq1 hk1 hT hH hS => ?_)
  have hg : m_seg κ21 a [1731, 205, 205, 2909] := hg.swap hq1 hk1
  have hq := m_lt_ne hq hq1
  refine lv_aload_n hx hb dX2_init_89 rfl (lv_at hl 0 rfl) ?_
  refine lv_sipush (v := (351 : Int32)) hx hb dX2_init_90 (by decide) ?_
  obtain ⟨S22, e_S22, hm⟩ := m_let_of hm
  refine n_newa X hH hS hT (ty := .int) (N := 351) rfl in_1_121 1 rfl (by decide) rfl m_RAi (by decide) (by decide) (by decide) e_S22 (nx' := (a + 5)) rfl (Nat.le_of_ble_eq_true rfl) (Nat.le_of_ble_eq_true rfl) dX2_init_93 (fun H κ23 hq1 hk1 hT hH hS => ?_)
  have hg : m_seg κ23 a [1731, 205, 205, 2909, 2909] := hg.grow rfl hq1 hk1
  have hq := m_lt_nx hq (by omega) hq1
  refine n_puwr X hin hH hS hT (k := 2) (i := 3) (a := a) (b := (a + 4)) (j := 15) (A := 4) (B := 0) tyX2 (hg 0 _ rfl) (by decide) (by decide) rfl m_wi2 tyX2_ok nmX2 (by decide) in_2_207 rfl rfl rfl rfl rfl (by first | rfl | omega) ⟨rfl, rfl⟩ dX2_init_95 (fun H locs κ24 hq1 hk1 hT hH hS => ?_)
  have hg : m_seg κ24 a [1739, 205, 205, 2909, 2909] := hg.swap hq1 hk1
  have hq := m_lt_ne hq hq1
  refine lv_aload_n hx hb dX2_init_98 rfl (lv_at hl 0 rfl) ?_
  refine lv_sipush (v := (312 : Int32)) hx hb dX2_init_99 (by decide) ?_
  obtain ⟨S25, e_S25, hm⟩ := m_let_of hm
  refine n_newa X hH hS hT (ty := .int) (N := 312) rfl in_1_121 1 rfl (by decide) rfl m_RAi (by decide) (by decide) (by decide) e_S25 (nx' := (a + 6)) rfl (Nat.le_of_ble_eq_true rfl) (Nat.le_of_ble_eq_true rfl) dX2_init_102 (fun H κ26 hq1 hk1 hT hH hS => ?_)
  have hg : m_seg κ26 a [1739, 205, 205, 2909, 2909, 2597] := hg.grow rfl hq1 hk1
  have hq := m_lt_nx hq (by omega) hq1
  refine n_puwr X hin hH hS hT (k := 2) (i := 4) (a := a) (b := (a + 5)) (j := 16) (A := 5) (B := 0) tyX2 (hg 0 _ rfl) (by decide) (by decide) rfl m_wi2 tyX2_ok nmX2 (by decide) in_2_210 rfl rfl rfl rfl rfl (by first | rfl | omega) ⟨rfl, rfl⟩ dX2_init_104 (fun H locs κ27 hq1 hk1 hT hH hS => ?_)
  have hg : m_seg κ27 a [1747, 205, 205, 2909, 2909, 2597] := hg.swap hq1 hk1
  have hq := m_lt_ne hq hq1
  refine lv_aload_n hx hb dX2_init_107 rfl (lv_at hl 0 rfl) ?_
  refine lv_sipush (v := (200 : Int32)) hx hb dX2_init_108 (by decide) ?_
  obtain ⟨S28, e_S28, hm⟩ := m_let_of hm
  refine n_newa X hH hS hT (ty := .int) (N := 200) rfl in_1_121 1 rfl (by decide) rfl m_RAi (by decide) (by decide) (by decide) e_S28 (nx' := (a + 7)) rfl (Nat.le_of_ble_eq_true rfl) (Nat.le_of_ble_eq_true rfl) dX2_init_111 (fun H κ29 hq1 hk1 hT hH hS => ?_)
  have hg : m_seg κ29 a [1747, 205, 205, 2909, 2909, 2597, 1701] := hg.grow rfl hq1 hk1
  have hq := m_lt_nx hq (by omega) hq1
  refine n_puwr X hin hH hS hT (k := 2) (i := 5) (a := a) (b := (a + 6)) (j := 17) (A := 6) (B := 0) tyX2 (hg 0 _ rfl) (by decide) (by decide) rfl m_wi2 tyX2_ok nmX2 (by decide) in_2_212 rfl rfl rfl rfl rfl (by first | rfl | omega) ⟨rfl, rfl⟩ dX2_init_113 (fun H locs κ30 hq1 hk1 hT hH hS => ?_)
  have hg : m_seg κ30 a [1755, 205, 205, 2909, 2909, 2597, 1701] := hg.swap hq1 hk1
  have hq := m_lt_ne hq hq1
  refine lv_aload_n hx hb dX2_init_116 rfl (lv_at hl 0 rfl) ?_
  refine lv_sipush (v := (400 : Int32)) hx hb dX2_init_117 (by decide) ?_
  obtain ⟨S31, e_S31, hm⟩ := m_let_of hm
  refine n_newa X hH hS hT (ty := .int) (N := 400) rfl in_1_121 1 rfl (by decide) rfl m_RAi (by decide) (by decide) (by decide) e_S31 (nx' := (a + 8)) rfl (Nat.le_of_ble_eq_true rfl) (Nat.le_of_ble_eq_true rfl) dX2_init_120 (fun H κ32 hq1 hk1 hT hH hS => ?_)
  have hg : m_seg κ32 a [1755, 205, 205, 2909, 2909, 2597, 1701, 3301] := hg.grow rfl hq1 hk1
  have hq := m_lt_nx hq (by omega) hq1
  refine n_puwr X hin hH hS hT (k := 2) (i := 6) (a := a) (b := (a + 7)) (j := 18) (A := 7) (B := 0) tyX2 (hg 0 _ rfl) (by decide) (by decide) rfl m_wi2 tyX2_ok nmX2 (by decide) in_2_213 rfl rfl rfl rfl rfl (by first | rfl | omega) ⟨rfl, rfl⟩ dX2_init_122 (fun H locs κ33 hq1 hk1 hT hH hS => ?_)
  have hg : m_seg κ33 a [1763, 205, 205, 2909, 2909, 2597, 1701, 3301] := hg.swap hq1 hk1
  have hq := m_lt_ne hq hq1
  refine lv_aload_n hx hb dX2_init_125 rfl (lv_at hl 0 rfl) ?_
  refine lv_sipush (v := (400 : Int32)) hx hb dX2_init_126 (by decide) ?_
  obtain ⟨S34, e_S34, hm⟩ := m_let_of hm
  refine n_newa X hH hS hT (ty := .int) (N := 400) rfl in_1_121 1 rfl (by decide) rfl m_RAi (by decide) (by decide) (by decide) e_S34 (nx' := (a + 9)) rfl (Nat.le_of_ble_eq_true rfl) (Nat.le_of_ble_eq_true rfl) dX2_init_129 (fun H κ35 hq1 hk1 hT hH hS => ?_)
  have hg : m_seg κ35 a [1763, 205, 205, 2909, 2909, 2597, 1701, 3301, 3301] := hg.grow rfl hq1 hk1
  have hq := m_lt_nx hq (by omega) hq1
  refine n_puwr X hin hH hS hT (k := 2) (i := 7) (a := a) (b := (a + 8)) (j := 19) (A := 8) (B := 0) tyX2 (hg 0 _ rfl) (by decide) (by decide) rfl m_wi2 tyX2_ok nmX2 (by decide) in_2_216 rfl rfl rfl rfl rfl (by first | rfl | omega) ⟨rfl, rfl⟩ dX2_init_131 (fun H locs κ36 hq1 hk1 hT hH hS => ?_)
  have hg : m_seg κ36 a [1771, 205, 205, 2909, 2909, 2597, 1701, 3301, 3301] := hg.swap hq1 hk1
  have hq := m_lt_ne hq hq1
  obtain ⟨κ37, hq1, hk_s, hg, hT, hH⟩ := m_seal (k := 2) (i := 8) hH hT hg (by decide) (by decide) rfl rfl (by decide)
  have hq := m_lt_ne hq hq1
  refine lv_aload_n hx hb dX2_init_134 rfl (lv_at hl 0 rfl) ?_
  refine r_getp X hH (k := 2) (a := a) (j := 17) (b := (a + 6)) (A := 6) (B := 0) hk_s (by decide) rfl m_wi2 (by decide) in_2_212 rfl rfl (by first | rfl | omega) dX2_init_135 ?_
  refine lv_iconst (v := (-1 : Int32)) hx hb dX2_init_138 (by decide) ?_
  obtain ⟨S38, e_S38, hm⟩ := m_cal0_of hm
  refine r_cSv X hH hS (c_J7_fill_53178 (o0 := (a + 6)) (n0 := 200) hT (hg 6 _ rfl) e_S38) mw_J7_fill_53178 in_2_173 rfl ⟨rfl, rfl⟩ ⟨Nat.le_of_ble_eq_true rfl, Nat.le_of_ble_eq_true rfl⟩ ⟨Nat.le_of_ble_eq_true rfl, Nat.le_of_ble_eq_true rfl⟩ hl.1 (Nat.le_of_ble_eq_true rfl) dX2_init_139 (fun H locs hH hS => ?_)
  exact r_kret X hN hr hH hS hm hT hq hg rfl (Nat.le_of_ble_eq_true rfl) (Nat.le_of_ble_eq_true rfl) dX2_init_142
def rm_X5_init : Room := { frames := 1, cells := 4, slots := 732, locals := 40 }
def f_X5_init (a : Nat) (S : m_M) : Option m_M :=
    m_let (m_new S (a + 1)) fun S1 =>
    m_let (m_new S1 (a + 2)) fun S4 =>
    m_let (m_new S4 (a + 3)) fun S7 =>
    m_let (m_new S7 (a + 4)) fun S10 =>
    m_let (m_si S10 a 4 (135 : Int32)) fun S14 =>
    some S14
set_option maxHeartbeats 4000000 in
set_option maxRecDepth 100000 in
theorem c_X5_init {l : Launch} {G : m_G} {κ : Nat → Nat} {a : Nat} {S S' : m_M} (hT : m_Str κ) (hk1 : κ a = m_ac 7 (100 * 5)) (hm : f_X5_init a S = some S') : m_K l yX5_init cX5_init 1 rm_X5_init G a (m_lay 6) (a + 1) κ [.ref a] S S' 4 732 := by
  refine m_K.of (by decide) rfl (Nat.le_of_ble_eq_true rfl) ?_
  intro p e s m args below meth c ls X hN hin hr hH hl
  have hx := X.1.1
  have hb := X.1.2.1
  have hS : m_S G s s.heap [] := va_S.rf
  have hl : lv_has ls 1 [(0, .ref a)] := hl
  have hg : m_seg κ a [4107] := m_seg.one hk1
  have hq : ∀ q, q < a → κ q = κ q := fun _ _ => rfl
  rw [f_X5_init] at hm
  refine lv_aload_n hx hb dX5_init_0 rfl (lv_at hl 0 rfl) ?_
  refine W.objInit hx hb X.1.2.2.2.1 (m_w X in_2_142) (m_w X in_1_32) (m_w X in_1_33) rfl (by rw [X.1.2.2.1]; exact hl.1) rfl dX5_init_1 (Nat.le_of_ble_eq_true rfl) (Nat.le_of_ble_eq_true rfl) ?_
  refine W.eq (g2 := F0 m 4 ls []) rfl ?_
  refine lv_aload_n hx hb dX5_init_4 rfl (lv_at hl 0 rfl) ?_
  refine lv_sipush (v := (183 : Int32)) hx hb dX5_init_5 (by decide) ?_
  obtain ⟨S1, e_S1, hm⟩ := m_let_of hm
  refine n_newa X hH hS hT (ty := .int) (N := 183) rfl in_1_121 1 rfl (by decide) rfl m_RAi (by decide) (by decide) (by decide) e_S1 (nx' := (a + 2)) rfl (Nat.le_of_ble_eq_true rfl) (Nat.le_of_ble_eq_true rfl) dX5_init_8 (fun H κ2 hq1 hk1 hT hH hS => ?_)
  have hg : m_seg κ2 a [4107, 1565] := hg.grow rfl hq1 hk1
  have hq := m_lt_nx hq (by omega) hq1
  refine n_puwr X hin hH hS hT (k := 5) (i := 0) (a := a) (b := (a + 1)) (j := 0) (A := 1) (B := 0) tyX5 (hg 0 _ rfl) (by decide) (by decide) rfl m_wi5 tyX5_ok nmX5 (by decide) in_2_143 rfl rfl rfl rfl rfl (by first | rfl | omega) ⟨rfl, rfl⟩ dX5_init_10 (fun H locs κ3 hq1 hk1 hT hH hS => ?_)
  have hg : m_seg κ3 a [4115, 1565] := hg.swap hq1 hk1
  have hq := m_lt_ne hq hq1
  refine lv_aload_n hx hb dX5_init_13 rfl (lv_at hl 0 rfl) ?_
  refine lv_sipush (v := (183 : Int32)) hx hb dX5_init_14 (by decide) ?_
  obtain ⟨S4, e_S4, hm⟩ := m_let_of hm
  refine n_newa X hH hS hT (ty := .int) (N := 183) rfl in_1_121 1 rfl (by decide) rfl m_RAi (by decide) (by decide) (by decide) e_S4 (nx' := (a + 3)) rfl (Nat.le_of_ble_eq_true rfl) (Nat.le_of_ble_eq_true rfl) dX5_init_17 (fun H κ5 hq1 hk1 hT hH hS => ?_)
  have hg : m_seg κ5 a [4115, 1565, 1565] := hg.grow rfl hq1 hk1
  have hq := m_lt_nx hq (by omega) hq1
  refine n_puwr X hin hH hS hT (k := 5) (i := 1) (a := a) (b := (a + 2)) (j := 1) (A := 2) (B := 0) tyX5 (hg 0 _ rfl) (by decide) (by decide) rfl m_wi5 tyX5_ok nmX5 (by decide) in_2_144 rfl rfl rfl rfl rfl (by first | rfl | omega) ⟨rfl, rfl⟩ dX5_init_19 (fun H locs κ6 hq1 hk1 hT hH hS => ?_)
  have hg : m_seg κ6 a [4123, 1565, 1565] := hg.swap hq1 hk1
  have hq := m_lt_ne hq hq1
  refine lv_aload_n hx hb dX5_init_22 rfl (lv_at hl 0 rfl) ?_
  refine lv_sipush (v := (183 : Int32)) hx hb dX5_init_23 (by decide) ?_
  obtain ⟨S7, e_S7, hm⟩ := m_let_of hm
  refine n_newa X hH hS hT (ty := .int) (N := 183) rfl in_1_121 1 rfl (by decide) rfl m_RAi (by decide) (by decide) (by decide) e_S7 (nx' := (a + 4)) rfl (Nat.le_of_ble_eq_true rfl) (Nat.le_of_ble_eq_true rfl) dX5_init_26 (fun H κ8 hq1 hk1 hT hH hS => ?_)
  have hg : m_seg κ8 a [4123, 1565, 1565, 1565] := hg.grow rfl hq1 hk1
  have hq := m_lt_nx hq (by omega) hq1
  refine n_puwr X hin hH hS hT (k := 5) (i := 2) (a := a) (b := (a + 3)) (j := 2) (A := 3) (B := 0) tyX5 (hg 0 _ rfl) (by decide) (by decide) rfl m_wi5 tyX5_ok nmX5 (by decide) in_2_145 rfl rfl rfl rfl rfl (by first | rfl | omega) ⟨rfl, rfl⟩ dX5_init_28 (fun H locs κ9 hq1 hk1 hT hH hS => ?_)
  have hg : m_seg κ9 a [4131, 1565, 1565, 1565] := hg.swap hq1 hk1
  have hq := m_lt_ne hq hq1
  refine lv_aload_n hx hb dX5_init_31 rfl (lv_at hl 0 rfl) ?_
  refine lv_sipush (v := (183 : Int32)) hx hb dX5_init_32 (by decide) ?_
  obtain ⟨S10, e_S10, hm⟩ := m_let_of hm
  refine n_newa X hH hS hT (ty := .int) (N := 183) rfl in_1_121 1 rfl (by decide) rfl m_RAi (by decide) (by decide) (by decide) e_S10 (nx' := (a + 5)) rfl (Nat.le_of_ble_eq_true rfl) (Nat.le_of_ble_eq_true rfl) dX5_init_35 (fun H κ11 hq1 hk1 hT hH hS => ?_)
  have hg : m_seg κ11 a [4131, 1565, 1565, 1565, 1565] := hg.grow rfl hq1 hk1
  have hq := m_lt_nx hq (by omega) hq1
  refine n_puwr X hin hH hS hT (k := 5) (i := 3) (a := a) (b := (a + 4)) (j := 3) (A := 4) (B := 0) tyX5 (hg 0 _ rfl) (by decide) (by decide) rfl m_wi5 tyX5_ok nmX5 (by decide) in_2_146 rfl rfl rfl rfl rfl (by first | rfl | omega) ⟨rfl, rfl⟩ dX5_init_37 (fun H locs κ12 hq1 hk1 hT hH hS => ?_)
  have hg : m_seg κ12 a [4139, 1565, 1565, 1565, 1565] := hg.swap hq1 hk1
  have hq := m_lt_ne hq hq1
  obtain ⟨κ13, hq1, hk_s, hg, hT, hH⟩ := m_seal (k := 5) (i := 4) hH hT hg (by decide) (by decide) rfl rfl (by decide)
  have hq := m_lt_ne hq hq1
  refine lv_aload_n hx hb dX5_init_40 rfl (lv_at hl 0 rfl) ?_
  refine lv_sipush (v := (135 : Int32)) hx hb dX5_init_41 (by decide) ?_
  obtain ⟨S14, e_S14, hm⟩ := m_let_of hm
  refine n_puti X hH hS tyX5 (k := 5) (a := a) (j := 4) hk_s (by decide) rfl m_wi5 tyX5_ok nmX5 (by decide) in_2_147 rfl rfl rfl ⟨rfl, rfl⟩ e_S14 dX5_init_44 (fun H locs hH hS => ?_)
  exact r_kret X hN hr hH hS hm hT hq hg rfl (Nat.le_of_ble_eq_true rfl) (Nat.le_of_ble_eq_true rfl) dX5_init_47
def rm_X6_init : Room := { frames := 1, cells := 13, slots := 688, locals := 40 }
def f_X6_init (a : Nat) (S : m_M) : Option m_M :=
    m_let (m_si S a 0 (0 : Int32)) fun S1 =>
    m_let (m_si S1 a 1 (0 : Int32)) fun S2 =>
    m_let (m_new S2 (a + 1)) fun S3 =>
    m_let (m_new S3 (a + 2)) fun S6 =>
    m_let (m_new S6 (a + 3)) fun S9 =>
    m_let (m_new S9 (a + 4)) fun S12 =>
    m_let (m_new S12 (a + 5)) fun S15 =>
    m_let (m_new S15 (a + 6)) fun S18 =>
    m_let (m_new S18 (a + 7)) fun S21 =>
    m_let (m_new S21 (a + 8)) fun S24 =>
    m_let (m_new S24 (a + 9)) fun S27 =>
    m_let (m_new S27 (a + 10)) fun S30 =>
    m_let (m_new S30 (a + 11)) fun S33 =>
    m_let (m_new S33 (a + 12)) fun S36 =>
    m_let (m_new S36 (a + 13)) fun S39 =>
    some S39
set_option maxHeartbeats 4000000 in
set_option maxRecDepth 100000 in
theorem c_X6_init {l : Launch} {G : m_G} {κ : Nat → Nat} {a : Nat} {S S' : m_M} (hT : m_Str κ) (hk1 : κ a = m_ac 7 (100 * 6)) (hm : f_X6_init a S = some S') : m_K l yX6_init cX6_init 1 rm_X6_init G a (m_lay 7) (a + 1) κ [.ref a] S S' 13 688 := by
  refine m_K.of (by decide) rfl (Nat.le_of_ble_eq_true rfl) ?_
  intro p e s m args below meth c ls X hN hin hr hH hl
  have hx := X.1.1
  have hb := X.1.2.1
  have hS : m_S G s s.heap [] := va_S.rf
  have hl : lv_has ls 1 [(0, .ref a)] := hl
  have hg : m_seg κ a [4907] := m_seg.one hk1
  have hq : ∀ q, q < a → κ q = κ q := fun _ _ => rfl
  rw [f_X6_init] at hm
  refine lv_aload_n hx hb dX6_init_0 rfl (lv_at hl 0 rfl) ?_
  refine W.objInit hx hb X.1.2.2.2.1 (m_w X in_1_51) (m_w X in_1_32) (m_w X in_1_33) rfl (by rw [X.1.2.2.1]; exact hl.1) rfl dX6_init_1 (Nat.le_of_ble_eq_true rfl) (Nat.le_of_ble_eq_true rfl) ?_
  refine W.eq (g2 := F0 m 4 ls []) rfl ?_
  refine lv_aload_n hx hb dX6_init_4 rfl (lv_at hl 0 rfl) ?_
  refine lv_iconst (v := (0 : Int32)) hx hb dX6_init_5 (by decide) ?_
  obtain ⟨S1, e_S1, hm⟩ := m_let_of hm
  refine n_puwi X hH hS tyX6 (k := 6) (i := 0) (a := a) (j := 0) (hg 0 _ rfl) (by decide) (by decide) rfl m_wi6 tyX6_ok nmX6 (by decide) in_1_52 rfl rfl rfl ⟨rfl, rfl⟩ e_S1 dX6_init_6 (fun H locs hH hS => ?_)
  refine lv_aload_n hx hb dX6_init_9 rfl (lv_at hl 0 rfl) ?_
  refine lv_iconst (v := (0 : Int32)) hx hb dX6_init_10 (by decide) ?_
  obtain ⟨S2, e_S2, hm⟩ := m_let_of hm
  refine n_puwi X hH hS tyX6 (k := 6) (i := 0) (a := a) (j := 1) (hg 0 _ rfl) (by decide) (by decide) rfl m_wi6 tyX6_ok nmX6 (by decide) in_1_55 rfl rfl rfl ⟨rfl, rfl⟩ e_S2 dX6_init_11 (fun H locs hH hS => ?_)
  refine lv_aload_n hx hb dX6_init_14 rfl (lv_at hl 0 rfl) ?_
  refine lv_sipush (v := (135 : Int32)) hx hb dX6_init_15 (by decide) ?_
  obtain ⟨S3, e_S3, hm⟩ := m_let_of hm
  refine n_newa X hH hS hT (ty := .int) (N := 135) rfl in_1_121 1 rfl (by decide) rfl m_RAi (by decide) (by decide) (by decide) e_S3 (nx' := (a + 2)) rfl (Nat.le_of_ble_eq_true rfl) (Nat.le_of_ble_eq_true rfl) dX6_init_18 (fun H κ4 hq1 hk1 hT hH hS => ?_)
  have hg : m_seg κ4 a [4907, 1181] := hg.grow rfl hq1 hk1
  have hq := m_lt_nx hq (by omega) hq1
  refine n_puwr X hin hH hS hT (k := 6) (i := 0) (a := a) (b := (a + 1)) (j := 2) (A := 1) (B := 0) tyX6 (hg 0 _ rfl) (by decide) (by decide) rfl m_wi6 tyX6_ok nmX6 (by decide) in_1_57 rfl rfl rfl rfl rfl (by first | rfl | omega) ⟨rfl, rfl⟩ dX6_init_20 (fun H locs κ5 hq1 hk1 hT hH hS => ?_)
  have hg : m_seg κ5 a [4915, 1181] := hg.swap hq1 hk1
  have hq := m_lt_ne hq hq1
  refine lv_aload_n hx hb dX6_init_23 rfl (lv_at hl 0 rfl) ?_
  refine lv_sipush (v := (135 : Int32)) hx hb dX6_init_24 (by decide) ?_
  obtain ⟨S6, e_S6, hm⟩ := m_let_of hm
  refine n_newa X hH hS hT (ty := .int) (N := 135) rfl in_1_121 1 rfl (by decide) rfl m_RAi (by decide) (by decide) (by decide) e_S6 (nx' := (a + 3)) rfl (Nat.le_of_ble_eq_true rfl) (Nat.le_of_ble_eq_true rfl) dX6_init_27 (fun H κ7 hq1 hk1 hT hH hS => ?_)
  have hg : m_seg κ7 a [4915, 1181, 1181] := hg.grow rfl hq1 hk1
  have hq := m_lt_nx hq (by omega) hq1
  refine n_puwr X hin hH hS hT (k := 6) (i := 1) (a := a) (b := (a + 2)) (j := 3) (A := 2) (B := 0) tyX6 (hg 0 _ rfl) (by decide) (by decide) rfl m_wi6 tyX6_ok nmX6 (by decide) in_1_59 rfl rfl rfl rfl rfl (by first | rfl | omega) ⟨rfl, rfl⟩ dX6_init_29 (fun H locs κ8 hq1 hk1 hT hH hS => ?_)
  have hg : m_seg κ8 a [4923, 1181, 1181] := hg.swap hq1 hk1
  have hq := m_lt_ne hq hq1
  refine lv_aload_n hx hb dX6_init_32 rfl (lv_at hl 0 rfl) ?_
  refine lv_bipush (v := (24 : Int32)) hx hb dX6_init_33 (by decide) ?_
  obtain ⟨S9, e_S9, hm⟩ := m_let_of hm
  refine n_newa X hH hS hT (ty := .int) (N := 24) rfl in_1_121 1 rfl (by decide) rfl m_RAi (by decide) (by decide) (by decide) e_S9 (nx' := (a + 4)) rfl (Nat.le_of_ble_eq_true rfl) (Nat.le_of_ble_eq_true rfl) dX6_init_35 (fun H κ10 hq1 hk1 hT hH hS => ?_)
  have hg : m_seg κ10 a [4923, 1181, 1181, 293] := hg.grow rfl hq1 hk1
  have hq := m_lt_nx hq (by omega) hq1
  refine n_puwr X hin hH hS hT (k := 6) (i := 2) (a := a) (b := (a + 3)) (j := 4) (A := 3) (B := 0) tyX6 (hg 0 _ rfl) (by decide) (by decide) rfl m_wi6 tyX6_ok nmX6 (by decide) in_1_60 rfl rfl rfl rfl rfl (by first | rfl | omega) ⟨rfl, rfl⟩ dX6_init_37 (fun H locs κ11 hq1 hk1 hT hH hS => ?_)
  have hg : m_seg κ11 a [4931, 1181, 1181, 293] := hg.swap hq1 hk1
  have hq := m_lt_ne hq hq1
  refine lv_aload_n hx hb dX6_init_40 rfl (lv_at hl 0 rfl) ?_
  refine lv_bipush (v := (24 : Int32)) hx hb dX6_init_41 (by decide) ?_
  obtain ⟨S12, e_S12, hm⟩ := m_let_of hm
  refine n_newa X hH hS hT (ty := .int) (N := 24) rfl in_1_121 1 rfl (by decide) rfl m_RAi (by decide) (by decide) (by decide) e_S12 (nx' := (a + 5)) rfl (Nat.le_of_ble_eq_true rfl) (Nat.le_of_ble_eq_true rfl) dX6_init_43 (fun H κ13 hq1 hk1 hT hH hS => ?_)
  have hg : m_seg κ13 a [4931, 1181, 1181, 293, 293] := hg.grow rfl hq1 hk1
  have hq := m_lt_nx hq (by omega) hq1
  refine n_puwr X hin hH hS hT (k := 6) (i := 3) (a := a) (b := (a + 4)) (j := 5) (A := 4) (B := 0) tyX6 (hg 0 _ rfl) (by decide) (by decide) rfl m_wi6 tyX6_ok nmX6 (by decide) in_1_63 rfl rfl rfl rfl rfl (by first | rfl | omega) ⟨rfl, rfl⟩ dX6_init_45 (fun H locs κ14 hq1 hk1 hT hH hS => ?_)
  have hg : m_seg κ14 a [4939, 1181, 1181, 293, 293] := hg.swap hq1 hk1
  have hq := m_lt_ne hq hq1
  refine lv_aload_n hx hb dX6_init_48 rfl (lv_at hl 0 rfl) ?_
  refine lv_bipush (v := (24 : Int32)) hx hb dX6_init_49 (by decide) ?_
  obtain ⟨S15, e_S15, hm⟩ := m_let_of hm
  refine n_newa X hH hS hT (ty := .int) (N := 24) rfl in_1_121 1 rfl (by decide) rfl m_RAi (by decide) (by decide) (by decide) e_S15 (nx' := (a + 6)) rfl (Nat.le_of_ble_eq_true rfl) (Nat.le_of_ble_eq_true rfl) dX6_init_51 (fun H κ16 hq1 hk1 hT hH hS => ?_)
  have hg : m_seg κ16 a [4939, 1181, 1181, 293, 293, 293] := hg.grow rfl hq1 hk1
  have hq := m_lt_nx hq (by omega) hq1
  refine n_puwr X hin hH hS hT (k := 6) (i := 4) (a := a) (b := (a + 5)) (j := 6) (A := 5) (B := 0) tyX6 (hg 0 _ rfl) (by decide) (by decide) rfl m_wi6 tyX6_ok nmX6 (by decide) in_1_66 rfl rfl rfl rfl rfl (by first | rfl | omega) ⟨rfl, rfl⟩ dX6_init_53 (fun H locs κ17 hq1 hk1 hT hH hS => ?_)
  have hg : m_seg κ17 a [4947, 1181, 1181, 293, 293, 293] := hg.swap hq1 hk1
  have hq := m_lt_ne hq hq1
  refine lv_aload_n hx hb dX6_init_56 rfl (lv_at hl 0 rfl) ?_
  refine lv_bipush (v := (24 : Int32)) hx hb dX6_init_57 (by decide) ?_
  obtain ⟨S18, e_S18, hm⟩ := m_let_of hm
  refine n_newa X hH hS hT (ty := .int) (N := 24) rfl in_1_121 1 rfl (by decide) rfl m_RAi (by decide) (by decide) (by decide) e_S18 (nx' := (a + 7)) rfl (Nat.le_of_ble_eq_true rfl) (Nat.le_of_ble_eq_true rfl) dX6_init_59 (fun H κ19 hq1 hk1 hT hH hS => ?_)
  have hg : m_seg κ19 a [4947, 1181, 1181, 293, 293, 293, 293] := hg.grow rfl hq1 hk1
  have hq := m_lt_nx hq (by omega) hq1
  refine n_puwr X hin hH hS hT (k := 6) (i := 5) (a := a) (b := (a + 6)) (j := 7) (A := 6) (B := 0) tyX6 (hg 0 _ rfl) (by decide) (by decide) rfl m_wi6 tyX6_ok nmX6 (by decide) in_1_67 rfl rfl rfl rfl rfl (by first | rfl | omega) ⟨rfl, rfl⟩ dX6_init_61 (fun H locs κ20 hq1 hk1 hT hH hS => ?_)
  have hg : m_seg κ20 a [4955, 1181, 1181, 293, 293, 293, 293] := hg.swap hq1 hk1
  have hq := m_lt_ne hq hq1
  refine lv_aload_n hx hb dX6_init_64 rfl (lv_at hl 0 rfl) ?_
  refine lv_bipush (v := (24 : Int32)) hx hb dX6_init_65 (by decide) ?_
  obtain ⟨S21, e_S21, hm⟩ := m_let_of hm
  refine n_newa X hH hS hT (ty := .int) (N := 24) rfl in_1_121 1 rfl (by decide) rfl m_RAi (by decide) (by decide) (by decide) e_S21 (nx' := (a + 8)) rfl (Nat.le_of_ble_eq_true rfl) (Nat.le_of_ble_eq_true rfl) dX6_init_67 (fun H κ22 hq1 hk1 hT hH hS => ?_)
  have hg : m_seg κ22 a [4955, 1181, 1181, 293, 293, 293, 293, 293] := hg.grow rfl hq1 hk1
  have hq := m_lt_nx hq (by omega) hq1
  refine n_puwr X hin hH hS hT (k := 6) (i := 6) (a := a) (b := (a + 7)) (j := 8) (A := 7) (B := 0) tyX6 (hg 0 _ rfl) (by decide) (by decide) rfl m_wi6 tyX6_ok nmX6 (by decide) in_1_70 rfl rfl rfl rfl rfl (by first | rfl | omega) ⟨rfl, rfl⟩ dX6_init_69 (fun H locs κ23 hq1 hk1 hT hH hS => ?_)
  have hg : m_seg κ23 a [4963, 1181, 1181, 293, 293, 293, 293, 293] := hg.swap hq1 hk1
  have hq := m_lt_ne hq hq1
  refine lv_aload_n hx hb dX6_init_72 rfl (lv_at hl 0 rfl) ?_
  refine lv_iconst (v := (5 : Int32)) hx hb dX6_init_73 (by decide) ?_
  obtain ⟨S24, e_S24, hm⟩ := m_let_of hm
  refine n_newa X hH hS hT (ty := .int) (N := 5) rfl in_1_121 1 rfl (by decide) rfl m_RAi (by decide) (by decide) (by decide) e_S24 (nx' := (a + 9)) rfl (Nat.le_of_ble_eq_true rfl) (Nat.le_of_ble_eq_true rfl) dX6_init_74 (fun H κ25 hq1 hk1 hT hH hS => ?_)
  have hg : m_seg κ25 a [4963, 1181, 1181, 293, 293, 293, 293, 293, 141] := hg.grow rfl hq1 hk1
  have hq := m_lt_nx hq (by omega) hq1
  refine n_puwr X hin hH hS hT (k := 6) (i := 7) (a := a) (b := (a + 8)) (j := 9) (A := 8) (B := 0) tyX6 (hg 0 _ rfl) (by decide) (by decide) rfl m_wi6 tyX6_ok nmX6 (by decide) in_1_73 rfl rfl rfl rfl rfl (by first | rfl | omega) ⟨rfl, rfl⟩ dX6_init_76 (fun H locs κ26 hq1 hk1 hT hH hS => ?_)
  have hg : m_seg κ26 a [4971, 1181, 1181, 293, 293, 293, 293, 293, 141] := hg.swap hq1 hk1
  have hq := m_lt_ne hq hq1
  refine lv_aload_n hx hb dX6_init_79 rfl (lv_at hl 0 rfl) ?_
  refine lv_iconst (v := (5 : Int32)) hx hb dX6_init_80 (by decide) ?_
  obtain ⟨S27, e_S27, hm⟩ := m_let_of hm
  refine n_newa X hH hS hT (ty := .int) (N := 5) rfl in_1_121 1 rfl (by decide) rfl m_RAi (by decide) (by decide) (by decide) e_S27 (nx' := (a + 10)) rfl (Nat.le_of_ble_eq_true rfl) (Nat.le_of_ble_eq_true rfl) dX6_init_81 (fun H κ28 hq1 hk1 hT hH hS => ?_)
  have hg : m_seg κ28 a [4971, 1181, 1181, 293, 293, 293, 293, 293, 141, 141] := hg.grow rfl hq1 hk1
  have hq := m_lt_nx hq (by omega) hq1
  refine n_puwr X hin hH hS hT (k := 6) (i := 8) (a := a) (b := (a + 9)) (j := 10) (A := 9) (B := 0) tyX6 (hg 0 _ rfl) (by decide) (by decide) rfl m_wi6 tyX6_ok nmX6 (by decide) in_1_77 rfl rfl rfl rfl rfl (by first | rfl | omega) ⟨rfl, rfl⟩ dX6_init_83 (fun H locs κ29 hq1 hk1 hT hH hS => ?_)
  have hg : m_seg κ29 a [4979, 1181, 1181, 293, 293, 293, 293, 293, 141, 141] := hg.swap hq1 hk1
  have hq := m_lt_ne hq hq1
  refine lv_aload_n hx hb dX6_init_86 rfl (lv_at hl 0 rfl) ?_
  refine lv_bipush (v := (120 : Int32)) hx hb dX6_init_87 (by decide) ?_
  obtain ⟨S30, e_S30, hm⟩ := m_let_of hm
  refine n_newa X hH hS hT (ty := .int) (N := 120) rfl in_1_121 1 rfl (by decide) rfl m_RAi (by decide) (by decide) (by decide) e_S30 (nx' := (a + 11)) rfl (Nat.le_of_ble_eq_true rfl) (Nat.le_of_ble_eq_true rfl) dX6_init_89 (fun H κ31 hq1 hk1 hT hH hS => ?_)
  have hg : m_seg κ31 a [4979, 1181, 1181, 293, 293, 293, 293, 293, 141, 141, 1061] := hg.grow rfl hq1 hk1
  have hq := m_lt_nx hq (by omega) hq1
  refine n_puwr X hin hH hS hT (k := 6) (i := 9) (a := a) (b := (a + 10)) (j := 11) (A := 10) (B := 0) tyX6 (hg 0 _ rfl) (by decide) (by decide) rfl m_wi6 tyX6_ok nmX6 (by decide) in_1_79 rfl rfl rfl rfl rfl (by first | rfl | omega) ⟨rfl, rfl⟩ dX6_init_91 (fun H locs κ32 hq1 hk1 hT hH hS => ?_)
  have hg : m_seg κ32 a [4987, 1181, 1181, 293, 293, 293, 293, 293, 141, 141, 1061] := hg.swap hq1 hk1
  have hq := m_lt_ne hq hq1
  refine lv_aload_n hx hb dX6_init_94 rfl (lv_at hl 0 rfl) ?_
  refine lv_bipush (v := (120 : Int32)) hx hb dX6_init_95 (by decide) ?_
  obtain ⟨S33, e_S33, hm⟩ := m_let_of hm
  refine n_newa X hH hS hT (ty := .int) (N := 120) rfl in_1_121 1 rfl (by decide) rfl m_RAi (by decide) (by decide) (by decide) e_S33 (nx' := (a + 12)) rfl (Nat.le_of_ble_eq_true rfl) (Nat.le_of_ble_eq_true rfl) dX6_init_97 (fun H κ34 hq1 hk1 hT hH hS => ?_)
  have hg : m_seg κ34 a [4987, 1181, 1181, 293, 293, 293, 293, 293, 141, 141, 1061, 1061] := hg.grow rfl hq1 hk1
  have hq := m_lt_nx hq (by omega) hq1
  refine n_puwr X hin hH hS hT (k := 6) (i := 10) (a := a) (b := (a + 11)) (j := 12) (A := 11) (B := 0) tyX6 (hg 0 _ rfl) (by decide) (by decide) rfl m_wi6 tyX6_ok nmX6 (by decide) in_1_81 rfl rfl rfl rfl rfl (by first | rfl | omega) ⟨rfl, rfl⟩ dX6_init_99 (fun H locs κ35 hq1 hk1 hT hH hS => ?_)
  have hg : m_seg κ35 a [4995, 1181, 1181, 293, 293, 293, 293, 293, 141, 141, 1061, 1061] := hg.swap hq1 hk1
  have hq := m_lt_ne hq hq1
  refine lv_aload_n hx hb dX6_init_102 rfl (lv_at hl 0 rfl) ?_
  refine lv_bipush (v := (24 : Int32)) hx hb dX6_init_103 (by decide) ?_
  obtain ⟨S36, e_S36, hm⟩ := m_let_of hm
  refine n_newa X hH hS hT (ty := .int) (N := 24) rfl in_1_121 1 rfl (by decide) rfl m_RAi (by decide) (by decide) (by decide) e_S36 (nx' := (a + 13)) rfl (Nat.le_of_ble_eq_true rfl) (Nat.le_of_ble_eq_true rfl) dX6_init_105 (fun H κ37 hq1 hk1 hT hH hS => ?_)
  have hg : m_seg κ37 a [4995, 1181, 1181, 293, 293, 293, 293, 293, 141, 141, 1061, 1061, 293] := hg.grow rfl hq1 hk1
  have hq := m_lt_nx hq (by omega) hq1
  refine n_puwr X hin hH hS hT (k := 6) (i := 11) (a := a) (b := (a + 12)) (j := 13) (A := 12) (B := 0) tyX6 (hg 0 _ rfl) (by decide) (by decide) rfl m_wi6 tyX6_ok nmX6 (by decide) in_1_83 rfl rfl rfl rfl rfl (by first | rfl | omega) ⟨rfl, rfl⟩ dX6_init_107 (fun H locs κ38 hq1 hk1 hT hH hS => ?_)
  have hg : m_seg κ38 a [5003, 1181, 1181, 293, 293, 293, 293, 293, 141, 141, 1061, 1061, 293] := hg.swap hq1 hk1
  have hq := m_lt_ne hq hq1
  refine lv_aload_n hx hb dX6_init_110 rfl (lv_at hl 0 rfl) ?_
  refine lv_bipush (v := (24 : Int32)) hx hb dX6_init_111 (by decide) ?_
  obtain ⟨S39, e_S39, hm⟩ := m_let_of hm
  refine n_newa X hH hS hT (ty := .int) (N := 24) rfl in_1_121 1 rfl (by decide) rfl m_RAi (by decide) (by decide) (by decide) e_S39 (nx' := (a + 14)) rfl (Nat.le_of_ble_eq_true rfl) (Nat.le_of_ble_eq_true rfl) dX6_init_113 (fun H κ40 hq1 hk1 hT hH hS => ?_)
  have hg : m_seg κ40 a [5003, 1181, 1181, 293, 293, 293, 293, 293, 141, 141, 1061, 1061, 293, 293] := hg.grow rfl hq1 hk1
  have hq := m_lt_nx hq (by omega) hq1
  refine n_puwr X hin hH hS hT (k := 6) (i := 12) (a := a) (b := (a + 13)) (j := 14) (A := 13) (B := 0) tyX6 (hg 0 _ rfl) (by decide) (by decide) rfl m_wi6 tyX6_ok nmX6 (by decide) in_1_85 rfl rfl rfl rfl rfl (by first | rfl | omega) ⟨rfl, rfl⟩ dX6_init_115 (fun H locs κ41 hq1 hk1 hT hH hS => ?_)
  have hg : m_seg κ41 a [5011, 1181, 1181, 293, 293, 293, 293, 293, 141, 141, 1061, 1061, 293, 293] := hg.swap hq1 hk1
  have hq := m_lt_ne hq hq1
  obtain ⟨κ42, hq1, hk_s, hg, hT, hH⟩ := m_seal (k := 6) (i := 13) hH hT hg (by decide) (by decide) rfl rfl (by decide)
  have hq := m_lt_ne hq hq1
  exact r_kret X hN hr hH hS hm hT hq hg rfl (Nat.le_of_ble_eq_true rfl) (Nat.le_of_ble_eq_true rfl) dX6_init_118
def rm_X3_init : Room := { frames := 2, cells := 21, slots := 891, locals := 60 }
def f_X3_init (a : Nat) (S : m_M) : Option m_M :=
    m_let (m_si S a 0 (0 : Int32)) fun S1 =>
    m_let (m_si S1 a 1 (0 : Int32)) fun S2 =>
    m_let (m_new S2 (a + 1)) fun S3 =>
    m_let (m_new S3 (a + 2)) fun S6 =>
    m_let (m_new S6 (a + 3)) fun S9 =>
    m_let (m_new S9 (a + 4)) fun S12 =>
    m_let (m_new S12 (a + 5)) fun S15 =>
    m_let (m_new S15 (a + 6)) fun S18 =>
    m_let (m_new S18 (a + 7)) fun S21 =>
    m_let (m_new S21 (a + 8)) fun S24 =>
    m_cal0 (f_X6_init (a + 8) S24) fun S26 =>
    some S26
set_option maxHeartbeats 4000000 in
set_option maxRecDepth 100000 in
theorem c_X3_init {l : Launch} {G : m_G} {κ : Nat → Nat} {a : Nat} {S S' : m_M} (hT : m_Str κ) (hk1 : κ a = m_ac 7 (100 * 3)) (hm : f_X3_init a S = some S') : m_K l yX3_init cX3_init 1 rm_X3_init G a (m_lay 4) (a + 1) κ [.ref a] S S' 21 891 := by
  refine m_K.of (by decide) rfl (Nat.le_of_ble_eq_true rfl) ?_
  intro p e s m args below meth c ls X hN hin hr hH hl
  have hx := X.1.1
  have hb := X.1.2.1
  have hS : m_S G s s.heap [] := va_S.rf
  have hl : lv_has ls 1 [(0, .ref a)] := hl
  have hg : m_seg κ a [2507] := m_seg.one hk1
  have hq : ∀ q, q < a → κ q = κ q := fun _ _ => rfl
  rw [f_X3_init] at hm
  refine lv_aload_n hx hb dX3_init_0 rfl (lv_at hl 0 rfl) ?_
  refine W.objInit hx hb X.1.2.2.2.1 (m_w X in_1_45) (m_w X in_1_32) (m_w X in_1_33) rfl (by rw [X.1.2.2.1]; exact hl.1) rfl dX3_init_1 (Nat.le_of_ble_eq_true rfl) (Nat.le_of_ble_eq_true rfl) ?_
  refine W.eq (g2 := F0 m 4 ls []) rfl ?_
  refine lv_aload_n hx hb dX3_init_4 rfl (lv_at hl 0 rfl) ?_
  refine lv_iconst (v := (0 : Int32)) hx hb dX3_init_5 (by decide) ?_
  obtain ⟨S1, e_S1, hm⟩ := m_let_of hm
  refine n_puwi X hH hS tyX3 (k := 3) (i := 0) (a := a) (j := 0) (hg 0 _ rfl) (by decide) (by decide) rfl m_wi3 tyX3_ok nmX3 (by decide) in_1_122 rfl rfl rfl ⟨rfl, rfl⟩ e_S1 dX3_init_6 (fun H locs hH hS => ?_)
  refine lv_aload_n hx hb dX3_init_9 rfl (lv_at hl 0 rfl) ?_
  refine lv_iconst (v := (0 : Int32)) hx hb dX3_init_10 (by decide) ?_
  obtain ⟨S2, e_S2, hm⟩ := m_let_of hm
  refine n_puwi X hH hS tyX3 (k := 3) (i := 0) (a := a) (j := 1) (hg 0 _ rfl) (by decide) (by decide) rfl m_wi3 tyX3_ok nmX3 (by decide) in_1_129 rfl rfl rfl ⟨rfl, rfl⟩ e_S2 dX3_init_11 (fun H locs hH hS => ?_)
  refine lv_aload_n hx hb dX3_init_14 rfl (lv_at hl 0 rfl) ?_
  refine lv_iconst (v := (5 : Int32)) hx hb dX3_init_15 (by decide) ?_
  obtain ⟨S3, e_S3, hm⟩ := m_let_of hm
  refine n_newa X hH hS hT (ty := .long) (N := 5) rfl in_1_120 2 rfl (by decide) rfl m_RAl (by decide) (by decide) (by decide) e_S3 (nx' := (a + 2)) rfl (Nat.le_of_ble_eq_true rfl) (Nat.le_of_ble_eq_true rfl) dX3_init_16 (fun H κ4 hq1 hk1 hT hH hS => ?_)
  have hg : m_seg κ4 a [2507, 142] := hg.grow rfl hq1 hk1
  have hq := m_lt_nx hq (by omega) hq1
  refine n_puwr X hin hH hS hT (k := 3) (i := 0) (a := a) (b := (a + 1)) (j := 2) (A := 1) (B := 0) tyX3 (hg 0 _ rfl) (by decide) (by decide) rfl m_wi3 tyX3_ok nmX3 (by decide) in_1_132 rfl rfl rfl rfl rfl (by first | rfl | omega) ⟨rfl, rfl⟩ dX3_init_18 (fun H locs κ5 hq1 hk1 hT hH hS => ?_)
  have hg : m_seg κ5 a [2515, 142] := hg.swap hq1 hk1
  have hq := m_lt_ne hq hq1
  refine lv_aload_n hx hb dX3_init_21 rfl (lv_at hl 0 rfl) ?_
  refine lv_iconst (v := (5 : Int32)) hx hb dX3_init_22 (by decide) ?_
  obtain ⟨S6, e_S6, hm⟩ := m_let_of hm
  refine n_newa X hH hS hT (ty := .int) (N := 5) rfl in_1_121 1 rfl (by decide) rfl m_RAi (by decide) (by decide) (by decide) e_S6 (nx' := (a + 3)) rfl (Nat.le_of_ble_eq_true rfl) (Nat.le_of_ble_eq_true rfl) dX3_init_23 (fun H κ7 hq1 hk1 hT hH hS => ?_)
  have hg : m_seg κ7 a [2515, 142, 141] := hg.grow rfl hq1 hk1
  have hq := m_lt_nx hq (by omega) hq1
  refine n_puwr X hin hH hS hT (k := 3) (i := 1) (a := a) (b := (a + 2)) (j := 3) (A := 2) (B := 0) tyX3 (hg 0 _ rfl) (by decide) (by decide) rfl m_wi3 tyX3_ok nmX3 (by decide) in_1_133 rfl rfl rfl rfl rfl (by first | rfl | omega) ⟨rfl, rfl⟩ dX3_init_25 (fun H locs κ8 hq1 hk1 hT hH hS => ?_)
  have hg : m_seg κ8 a [2523, 142, 141] := hg.swap hq1 hk1
  have hq := m_lt_ne hq hq1
  refine lv_aload_n hx hb dX3_init_28 rfl (lv_at hl 0 rfl) ?_
  refine lv_iconst (v := (5 : Int32)) hx hb dX3_init_29 (by decide) ?_
  obtain ⟨S9, e_S9, hm⟩ := m_let_of hm
  refine n_newa X hH hS hT (ty := .int) (N := 5) rfl in_1_121 1 rfl (by decide) rfl m_RAi (by decide) (by decide) (by decide) e_S9 (nx' := (a + 4)) rfl (Nat.le_of_ble_eq_true rfl) (Nat.le_of_ble_eq_true rfl) dX3_init_30 (fun H κ10 hq1 hk1 hT hH hS => ?_)
  have hg : m_seg κ10 a [2523, 142, 141, 141] := hg.grow rfl hq1 hk1
  have hq := m_lt_nx hq (by omega) hq1
  refine n_puwr X hin hH hS hT (k := 3) (i := 2) (a := a) (b := (a + 3)) (j := 4) (A := 3) (B := 0) tyX3 (hg 0 _ rfl) (by decide) (by decide) rfl m_wi3 tyX3_ok nmX3 (by decide) in_1_139 rfl rfl rfl rfl rfl (by first | rfl | omega) ⟨rfl, rfl⟩ dX3_init_32 (fun H locs κ11 hq1 hk1 hT hH hS => ?_)
  have hg : m_seg κ11 a [2531, 142, 141, 141] := hg.swap hq1 hk1
  have hq := m_lt_ne hq hq1
  refine lv_aload_n hx hb dX3_init_35 rfl (lv_at hl 0 rfl) ?_
  refine lv_iconst (v := (5 : Int32)) hx hb dX3_init_36 (by decide) ?_
  obtain ⟨S12, e_S12, hm⟩ := m_let_of hm
  refine n_newa X hH hS hT (ty := .int) (N := 5) rfl in_1_121 1 rfl (by decide) rfl m_RAi (by decide) (by decide) (by decide) e_S12 (nx' := (a + 5)) rfl (Nat.le_of_ble_eq_true rfl) (Nat.le_of_ble_eq_true rfl) dX3_init_37 (fun H κ13 hq1 hk1 hT hH hS => ?_)
  have hg : m_seg κ13 a [2531, 142, 141, 141, 141] := hg.grow rfl hq1 hk1
  have hq := m_lt_nx hq (by omega) hq1
  refine n_puwr X hin hH hS hT (k := 3) (i := 3) (a := a) (b := (a + 4)) (j := 5) (A := 4) (B := 0) tyX3 (hg 0 _ rfl) (by decide) (by decide) rfl m_wi3 tyX3_ok nmX3 (by decide) in_1_143 rfl rfl rfl rfl rfl (by first | rfl | omega) ⟨rfl, rfl⟩ dX3_init_39 (fun H locs κ14 hq1 hk1 hT hH hS => ?_)
  have hg : m_seg κ14 a [2539, 142, 141, 141, 141] := hg.swap hq1 hk1
  have hq := m_lt_ne hq hq1
  refine lv_aload_n hx hb dX3_init_42 rfl (lv_at hl 0 rfl) ?_
  refine lv_bipush (v := (24 : Int32)) hx hb dX3_init_43 (by decide) ?_
  obtain ⟨S15, e_S15, hm⟩ := m_let_of hm
  refine n_newa X hH hS hT (ty := .int) (N := 24) rfl in_1_121 1 rfl (by decide) rfl m_RAi (by decide) (by decide) (by decide) e_S15 (nx' := (a + 6)) rfl (Nat.le_of_ble_eq_true rfl) (Nat.le_of_ble_eq_true rfl) dX3_init_45 (fun H κ16 hq1 hk1 hT hH hS => ?_)
  have hg : m_seg κ16 a [2539, 142, 141, 141, 141, 293] := hg.grow rfl hq1 hk1
  have hq := m_lt_nx hq (by omega) hq1
  refine n_puwr X hin hH hS hT (k := 3) (i := 4) (a := a) (b := (a + 5)) (j := 6) (A := 5) (B := 0) tyX3 (hg 0 _ rfl) (by decide) (by decide) rfl m_wi3 tyX3_ok nmX3 (by decide) in_1_149 rfl rfl rfl rfl rfl (by first | rfl | omega) ⟨rfl, rfl⟩ dX3_init_47 (fun H locs κ17 hq1 hk1 hT hH hS => ?_)
  have hg : m_seg κ17 a [2547, 142, 141, 141, 141, 293] := hg.swap hq1 hk1
  have hq := m_lt_ne hq hq1
  refine lv_aload_n hx hb dX3_init_50 rfl (lv_at hl 0 rfl) ?_
  refine lv_bipush (v := (24 : Int32)) hx hb dX3_init_51 (by decide) ?_
  obtain ⟨S18, e_S18, hm⟩ := m_let_of hm
  refine n_newa X hH hS hT (ty := .int) (N := 24) rfl in_1_121 1 rfl (by decide) rfl m_RAi (by decide) (by decide) (by decide) e_S18 (nx' := (a + 7)) rfl (Nat.le_of_ble_eq_true rfl) (Nat.le_of_ble_eq_true rfl) dX3_init_53 (fun H κ19 hq1 hk1 hT hH hS => ?_)
  have hg : m_seg κ19 a [2547, 142, 141, 141, 141, 293, 293] := hg.grow rfl hq1 hk1
  have hq := m_lt_nx hq (by omega) hq1
  refine n_puwr X hin hH hS hT (k := 3) (i := 5) (a := a) (b := (a + 6)) (j := 7) (A := 6) (B := 0) tyX3 (hg 0 _ rfl) (by decide) (by decide) rfl m_wi3 tyX3_ok nmX3 (by decide) in_1_154 rfl rfl rfl rfl rfl (by first | rfl | omega) ⟨rfl, rfl⟩ dX3_init_55 (fun H locs κ20 hq1 hk1 hT hH hS => ?_)
  have hg : m_seg κ20 a [2555, 142, 141, 141, 141, 293, 293] := hg.swap hq1 hk1
  have hq := m_lt_ne hq hq1
  refine lv_aload_n hx hb dX3_init_58 rfl (lv_at hl 0 rfl) ?_
  refine lv_bipush (v := (120 : Int32)) hx hb dX3_init_59 (by decide) ?_
  obtain ⟨S21, e_S21, hm⟩ := m_let_of hm
  refine n_newa X hH hS hT (ty := .int) (N := 120) rfl in_1_121 1 rfl (by decide) rfl m_RAi (by decide) (by decide) (by decide) e_S21 (nx' := (a + 8)) rfl (Nat.le_of_ble_eq_true rfl) (Nat.le_of_ble_eq_true rfl) dX3_init_61 (fun H κ22 hq1 hk1 hT hH hS => ?_)
  have hg : m_seg κ22 a [2555, 142, 141, 141, 141, 293, 293, 1061] := hg.grow rfl hq1 hk1
  have hq := m_lt_nx hq (by omega) hq1
  refine n_puwr X hin hH hS hT (k := 3) (i := 6) (a := a) (b := (a + 7)) (j := 8) (A := 7) (B := 0) tyX3 (hg 0 _ rfl) (by decide) (by decide) rfl m_wi3 tyX3_ok nmX3 (by decide) in_1_158 rfl rfl rfl rfl rfl (by first | rfl | omega) ⟨rfl, rfl⟩ dX3_init_63 (fun H locs κ23 hq1 hk1 hT hH hS => ?_)
  have hg : m_seg κ23 a [2563, 142, 141, 141, 141, 293, 293, 1061] := hg.swap hq1 hk1
  have hq := m_lt_ne hq hq1
  refine lv_aload_n hx hb dX3_init_66 rfl (lv_at hl 0 rfl) ?_
  obtain ⟨S24, e_S24, hm⟩ := m_let_of hm
  refine n_new X hH hS hT (k := 6) tyX6 (by decide) rfl m_wi6 tyX6_ok in_1_46 in_1_47 in_1_4 m_df6 e_S24 (nx' := (a + 9)) rfl (Nat.le_of_ble_eq_true rfl) (Nat.le_of_ble_eq_true rfl) dX3_init_67 (fun H κ25 hq1 hk1 hT hH hS => ?_)
  have hgk : m_seg κ25 a [2563, 142, 141, 141, 141, 293, 293, 1061] := hg.kept (fun q h => hq1 q (by simpa using h))
  have hg := hgk
  have hq := m_lt_nx hq (by omega) hq1
  refine lv_dup hx hb dX3_init_70 rfl ?_
  obtain ⟨S26, e_S26, hm⟩ := m_cal0_of hm
  refine n_cIN (host := "RegionRooms") X hN hH hS (c_X6_init (a := (a + 8)) hT hk1 e_S26) mw_X6_init in_1_49 rfl (by decide +kernel) rfl ⟨rfl, rfl⟩ ⟨Nat.le_of_ble_eq_true rfl, Nat.le_of_ble_eq_true rfl⟩ ⟨Nat.le_of_ble_eq_true rfl, Nat.le_of_ble_eq_true rfl⟩ hl.1 (Nat.le_of_ble_eq_true rfl) dX3_init_71 (fun H locs κ27 hq1 hg1 hT hH hS => ?_)
  have hg : m_seg κ27 a [2563, 142, 141, 141, 141, 293, 293, 1061, 7, 1181, 1181, 293, 293, 293, 293, 293, 141, 141, 1061, 1061, 293, 293] := hg.growS rfl hq1 hg1
  have hq := m_lt_nx hq (by omega) hq1
  have hH : m_H G (a + 22) κ27 S26 H := hH
  refine n_puwr X hin hH hS hT (k := 3) (i := 7) (a := a) (b := (a + 8)) (j := 9) (A := 8) (B := 0) tyX3 (hg 0 _ rfl) (by decide) (by decide) rfl m_wi3 tyX3_ok nmX3 (by decide) in_1_160 rfl rfl rfl rfl rfl (by first | rfl | omega) ⟨rfl, rfl⟩ dX3_init_74 (fun H locs κ28 hq1 hk1 hT hH hS => ?_)
  have hg : m_seg κ28 a [2571, 142, 141, 141, 141, 293, 293, 1061, 7, 1181, 1181, 293, 293, 293, 293, 293, 141, 141, 1061, 1061, 293, 293] := hg.swap hq1 hk1
  have hq := m_lt_ne hq hq1
  obtain ⟨κ29, hq1, hk_s, hg, hT, hH⟩ := m_seal (k := 3) (i := 8) hH hT hg (by decide) (by decide) rfl rfl (by decide)
  have hq := m_lt_ne hq hq1
  exact r_kret X hN hr hH hS hm hT hq hg rfl (Nat.le_of_ble_eq_true rfl) (Nat.le_of_ble_eq_true rfl) dX3_init_77
def rm_X7_init : Room := { frames := 1, cells := 4, slots := 160, locals := 40 }
def f_X7_init (a : Nat) (S : m_M) : Option m_M :=
    m_let (m_si S a 0 (0 : Int32)) fun S1 =>
    m_let (m_si S1 a 1 (0 : Int32)) fun S2 =>
    m_let (m_si S2 a 2 (0 : Int32)) fun S3 =>
    m_let (m_new S3 (a + 1)) fun S4 =>
    m_let (m_new S4 (a + 2)) fun S7 =>
    m_let (m_new S7 (a + 3)) fun S10 =>
    m_let (m_new S10 (a + 4)) fun S13 =>
    some S13
set_option maxHeartbeats 4000000 in
set_option maxRecDepth 100000 in
theorem c_X7_init {l : Launch} {G : m_G} {κ : Nat → Nat} {a : Nat} {S S' : m_M} (hT : m_Str κ) (hk1 : κ a = m_ac 7 (100 * 7)) (hm : f_X7_init a S = some S') : m_K l yX7_init cX7_init 1 rm_X7_init G a (m_lay 8) (a + 1) κ [.ref a] S S' 4 160 := by
  refine m_K.of (by decide) rfl (Nat.le_of_ble_eq_true rfl) ?_
  intro p e s m args below meth c ls X hN hin hr hH hl
  have hx := X.1.1
  have hb := X.1.2.1
  have hS : m_S G s s.heap [] := va_S.rf
  have hl : lv_has ls 1 [(0, .ref a)] := hl
  have hg : m_seg κ a [5707] := m_seg.one hk1
  have hq : ∀ q, q < a → κ q = κ q := fun _ _ => rfl
  rw [f_X7_init] at hm
  refine lv_aload_n hx hb dX7_init_0 rfl (lv_at hl 0 rfl) ?_
  refine W.objInit hx hb X.1.2.2.2.1 (m_w X in_2_98) (m_w X in_1_32) (m_w X in_1_33) rfl (by rw [X.1.2.2.1]; exact hl.1) rfl dX7_init_1 (Nat.le_of_ble_eq_true rfl) (Nat.le_of_ble_eq_true rfl) ?_
  refine W.eq (g2 := F0 m 4 ls []) rfl ?_
  refine lv_aload_n hx hb dX7_init_4 rfl (lv_at hl 0 rfl) ?_
  refine lv_iconst (v := (0 : Int32)) hx hb dX7_init_5 (by decide) ?_
  obtain ⟨S1, e_S1, hm⟩ := m_let_of hm
  refine n_puwi X hH hS tyX7 (k := 7) (i := 0) (a := a) (j := 0) (hg 0 _ rfl) (by decide) (by decide) rfl m_wi7 tyX7_ok nmX7 (by decide) in_2_99 rfl rfl rfl (m_nz (by decide)) e_S1 dX7_init_6 (fun H locs hH hS => ?_)
  refine lv_aload_n hx hb dX7_init_9 rfl (lv_at hl 0 rfl) ?_
  refine lv_iconst (v := (0 : Int32)) hx hb dX7_init_10 (by decide) ?_
  obtain ⟨S2, e_S2, hm⟩ := m_let_of hm
  refine n_puwi X hH hS tyX7 (k := 7) (i := 0) (a := a) (j := 1) (hg 0 _ rfl) (by decide) (by decide) rfl m_wi7 tyX7_ok nmX7 (by decide) in_2_102 rfl rfl rfl ⟨rfl, rfl⟩ e_S2 dX7_init_11 (fun H locs hH hS => ?_)
  refine lv_aload_n hx hb dX7_init_14 rfl (lv_at hl 0 rfl) ?_
  refine lv_iconst (v := (0 : Int32)) hx hb dX7_init_15 (by decide) ?_
  obtain ⟨S3, e_S3, hm⟩ := m_let_of hm
  refine n_puwi X hH hS tyX7 (k := 7) (i := 0) (a := a) (j := 2) (hg 0 _ rfl) (by decide) (by decide) rfl m_wi7 tyX7_ok nmX7 (by decide) in_2_105 rfl rfl rfl ⟨rfl, rfl⟩ e_S3 dX7_init_16 (fun H locs hH hS => ?_)
  refine lv_aload_n hx hb dX7_init_19 rfl (lv_at hl 0 rfl) ?_
  refine lv_bipush (v := (40 : Int32)) hx hb dX7_init_20 (by decide) ?_
  obtain ⟨S4, e_S4, hm⟩ := m_let_of hm
  refine n_newa X hH hS hT (ty := .int) (N := 40) rfl in_1_121 1 rfl (by decide) rfl m_RAi (by decide) (by decide) (by decide) e_S4 (nx' := (a + 2)) rfl (Nat.le_of_ble_eq_true rfl) (Nat.le_of_ble_eq_true rfl) dX7_init_22 (fun H κ5 hq1 hk1 hT hH hS => ?_)
  have hg : m_seg κ5 a [5707, 421] := hg.grow rfl hq1 hk1
  have hq := m_lt_nx hq (by omega) hq1
  refine n_puwr X hin hH hS hT (k := 7) (i := 0) (a := a) (b := (a + 1)) (j := 3) (A := 1) (B := 0) tyX7 (hg 0 _ rfl) (by decide) (by decide) rfl m_wi7 tyX7_ok nmX7 (by decide) in_2_106 rfl rfl rfl rfl rfl (by first | rfl | omega) ⟨rfl, rfl⟩ dX7_init_24 (fun H locs κ6 hq1 hk1 hT hH hS => ?_)
  have hg : m_seg κ6 a [5715, 421] := hg.swap hq1 hk1
  have hq := m_lt_ne hq hq1
  refine lv_aload_n hx hb dX7_init_27 rfl (lv_at hl 0 rfl) ?_
  refine lv_bipush (v := (40 : Int32)) hx hb dX7_init_28 (by decide) ?_
  obtain ⟨S7, e_S7, hm⟩ := m_let_of hm
  refine n_newa X hH hS hT (ty := .int) (N := 40) rfl in_1_121 1 rfl (by decide) rfl m_RAi (by decide) (by decide) (by decide) e_S7 (nx' := (a + 3)) rfl (Nat.le_of_ble_eq_true rfl) (Nat.le_of_ble_eq_true rfl) dX7_init_30 (fun H κ8 hq1 hk1 hT hH hS => ?_)
  have hg : m_seg κ8 a [5715, 421, 421] := hg.grow rfl hq1 hk1
  have hq := m_lt_nx hq (by omega) hq1
  refine n_puwr X hin hH hS hT (k := 7) (i := 1) (a := a) (b := (a + 2)) (j := 4) (A := 2) (B := 0) tyX7 (hg 0 _ rfl) (by decide) (by decide) rfl m_wi7 tyX7_ok nmX7 (by decide) in_2_107 rfl rfl rfl rfl rfl (by first | rfl | omega) ⟨rfl, rfl⟩ dX7_init_32 (fun H locs κ9 hq1 hk1 hT hH hS => ?_)
  have hg : m_seg κ9 a [5723, 421, 421] := hg.swap hq1 hk1
  have hq := m_lt_ne hq hq1
  refine lv_aload_n hx hb dX7_init_35 rfl (lv_at hl 0 rfl) ?_
  refine lv_bipush (v := (40 : Int32)) hx hb dX7_init_36 (by decide) ?_
  obtain ⟨S10, e_S10, hm⟩ := m_let_of hm
  refine n_newa X hH hS hT (ty := .int) (N := 40) rfl in_1_121 1 rfl (by decide) rfl m_RAi (by decide) (by decide) (by decide) e_S10 (nx' := (a + 4)) rfl (Nat.le_of_ble_eq_true rfl) (Nat.le_of_ble_eq_true rfl) dX7_init_38 (fun H κ11 hq1 hk1 hT hH hS => ?_)
  have hg : m_seg κ11 a [5723, 421, 421, 421] := hg.grow rfl hq1 hk1
  have hq := m_lt_nx hq (by omega) hq1
  refine n_puwr X hin hH hS hT (k := 7) (i := 2) (a := a) (b := (a + 3)) (j := 5) (A := 3) (B := 0) tyX7 (hg 0 _ rfl) (by decide) (by decide) rfl m_wi7 tyX7_ok nmX7 (by decide) in_2_108 rfl rfl rfl rfl rfl (by first | rfl | omega) ⟨rfl, rfl⟩ dX7_init_40 (fun H locs κ12 hq1 hk1 hT hH hS => ?_)
  have hg : m_seg κ12 a [5731, 421, 421, 421] := hg.swap hq1 hk1
  have hq := m_lt_ne hq hq1
  refine lv_aload_n hx hb dX7_init_43 rfl (lv_at hl 0 rfl) ?_
  refine lv_bipush (v := (40 : Int32)) hx hb dX7_init_44 (by decide) ?_
  obtain ⟨S13, e_S13, hm⟩ := m_let_of hm
  refine n_newa X hH hS hT (ty := .boolean) (N := 40) rfl in_2_125 3 rfl (by decide) rfl m_RAz (by decide) (by decide) (by decide) e_S13 (nx' := (a + 5)) rfl (Nat.le_of_ble_eq_true rfl) (Nat.le_of_ble_eq_true rfl) dX7_init_46 (fun H κ14 hq1 hk1 hT hH hS => ?_)
  have hg : m_seg κ14 a [5731, 421, 421, 421, 423] := hg.grow rfl hq1 hk1
  have hq := m_lt_nx hq (by omega) hq1
  refine n_puwr X hin hH hS hT (k := 7) (i := 3) (a := a) (b := (a + 4)) (j := 6) (A := 4) (B := 0) tyX7 (hg 0 _ rfl) (by decide) (by decide) rfl m_wi7 tyX7_ok nmX7 (by decide) in_2_109 rfl rfl rfl rfl rfl (by first | rfl | omega) ⟨rfl, rfl⟩ dX7_init_48 (fun H locs κ15 hq1 hk1 hT hH hS => ?_)
  have hg : m_seg κ15 a [5739, 421, 421, 421, 423] := hg.swap hq1 hk1
  have hq := m_lt_ne hq hq1
  obtain ⟨κ16, hq1, hk_s, hg, hT, hH⟩ := m_seal (k := 7) (i := 4) hH hT hg (by decide) (by decide) rfl rfl (by decide)
  have hq := m_lt_ne hq hq1
  exact r_kret X hN hr hH hS hm hT hq hg rfl (Nat.le_of_ble_eq_true rfl) (Nat.le_of_ble_eq_true rfl) dX7_init_51
def rm_X10_init : Room := { frames := 3, cells := 36, slots := 3128, locals := 80 }
def f_X10_init (a : Nat) (S : m_M) : Option m_M :=
    m_let (m_new S (a + 1)) fun S1 =>
    m_cal0 (f_X3_init (a + 1) S1) fun S3 =>
    m_let (m_new S3 (a + 23)) fun S6 =>
    m_cal0 (f_X2_init (a + 23) S6) fun S8 =>
    m_let (m_new S8 (a + 32)) fun S11 =>
    m_cal0 (f_X7_init (a + 32) S11) fun S13 =>
    some S13
set_option maxHeartbeats 4000000 in
set_option maxRecDepth 100000 in
theorem c_X10_init {l : Launch} {G : m_G} {κ : Nat → Nat} {a : Nat} {S S' : m_M} (hT : m_Str κ) (hk1 : κ a = m_ac 7 (100 * 10)) (hm : f_X10_init a S = some S') : m_K l yX10_init cX10_init 1 rm_X10_init G a (m_lay 11) (a + 1) κ [.ref a] S S' 36 3128 := by
  refine m_K.of (by decide) rfl (Nat.le_of_ble_eq_true rfl) ?_
  intro p e s m args below meth c ls X hN hin hr hH hl
  have hx := X.1.1
  have hb := X.1.2.1
  have hS : m_S G s s.heap [] := va_S.rf
  have hl : lv_has ls 1 [(0, .ref a)] := hl
  have hg : m_seg κ a [8107] := m_seg.one hk1
  have hq : ∀ q, q < a → κ q = κ q := fun _ _ => rfl
  rw [f_X10_init] at hm
  refine lv_aload_n hx hb dX10_init_0 rfl (lv_at hl 0 rfl) ?_
  refine W.objInit hx hb X.1.2.2.2.1 (m_w X in_2_164) (m_w X in_1_32) (m_w X in_1_33) rfl (by rw [X.1.2.2.1]; exact hl.1) rfl dX10_init_1 (Nat.le_of_ble_eq_true rfl) (Nat.le_of_ble_eq_true rfl) ?_
  refine W.eq (g2 := F0 m 4 ls []) rfl ?_
  refine lv_aload_n hx hb dX10_init_4 rfl (lv_at hl 0 rfl) ?_
  obtain ⟨S1, e_S1, hm⟩ := m_let_of hm
  refine n_new X hH hS hT (k := 3) tyX3 (by decide) rfl m_wi3 tyX3_ok in_2_165 in_1_41 in_1_3 m_df3 e_S1 (nx' := (a + 2)) rfl (Nat.le_of_ble_eq_true rfl) (Nat.le_of_ble_eq_true rfl) dX10_init_5 (fun H κ2 hq1 hk1 hT hH hS => ?_)
  have hgk : m_seg κ2 a [8107] := hg.kept (fun q h => hq1 q (by simpa using h))
  have hg := hgk
  have hq := m_lt_nx hq (by omega) hq1
  refine lv_dup hx hb dX10_init_8 rfl ?_
  obtain ⟨S3, e_S3, hm⟩ := m_cal0_of hm
  refine n_cIN (host := "RegionRooms") X hN hH hS (c_X3_init (a := (a + 1)) hT hk1 e_S3) mw_X3_init in_1_43 rfl (by decide +kernel) rfl ⟨rfl, rfl⟩ ⟨Nat.le_of_ble_eq_true rfl, Nat.le_of_ble_eq_true rfl⟩ ⟨Nat.le_of_ble_eq_true rfl, Nat.le_of_ble_eq_true rfl⟩ hl.1 (Nat.le_of_ble_eq_true rfl) dX10_init_9 (fun H locs κ4 hq1 hg1 hT hH hS => ?_)
  have hg : m_seg κ4 a [8107, 4, 142, 141, 141, 141, 293, 293, 1061, 7, 1181, 1181, 293, 293, 293, 293, 293, 141, 141, 1061, 1061, 293, 293] := hg.growS rfl hq1 hg1
  have hq := m_lt_nx hq (by omega) hq1
  have hH : m_H G (a + 23) κ4 S3 H := hH
  refine n_puwr X hin hH hS hT (k := 10) (i := 0) (a := a) (b := (a + 1)) (j := 0) (A := 1) (B := 0) tyX10 (hg 0 _ rfl) (by decide) (by decide) rfl m_wi10 tyX10_ok nmX10 (by decide) in_3_22 rfl rfl rfl rfl rfl (by first | rfl | omega) ⟨rfl, rfl⟩ dX10_init_12 (fun H locs κ5 hq1 hk1 hT hH hS => ?_)
  have hg : m_seg κ5 a [8115, 4, 142, 141, 141, 141, 293, 293, 1061, 7, 1181, 1181, 293, 293, 293, 293, 293, 141, 141, 1061, 1061, 293, 293] := hg.swap hq1 hk1
  have hq := m_lt_ne hq hq1
  refine lv_aload_n hx hb dX10_init_15 rfl (lv_at hl 0 rfl) ?_
  obtain ⟨S6, e_S6, hm⟩ := m_let_of hm
  refine n_new X hH hS hT (k := 2) tyX2 (by decide) rfl m_wi2 tyX2_ok in_2_167 in_2_168 in_1_15 m_df2 e_S6 (nx' := (a + 24)) rfl (Nat.le_of_ble_eq_true rfl) (Nat.le_of_ble_eq_true rfl) dX10_init_16 (fun H κ7 hq1 hk1 hT hH hS => ?_)
  have hgk : m_seg κ7 a [8115, 4, 142, 141, 141, 141, 293, 293, 1061, 7, 1181, 1181, 293, 293, 293, 293, 293, 141, 141, 1061, 1061, 293, 293] := hg.kept (fun q h => hq1 q (by simpa using h))
  have hg := hgk
  have hq := m_lt_nx hq (by omega) hq1
  refine lv_dup hx hb dX10_init_19 rfl ?_
  obtain ⟨S8, e_S8, hm⟩ := m_cal0_of hm
  refine n_cI X hN hH hS (c_X2_init (a := (a + 23)) hT hk1 e_S8) mw_X2_init in_2_170 rfl in_2_169 rfl ⟨rfl, rfl⟩ ⟨Nat.le_of_ble_eq_true rfl, Nat.le_of_ble_eq_true rfl⟩ ⟨Nat.le_of_ble_eq_true rfl, Nat.le_of_ble_eq_true rfl⟩ hl.1 (Nat.le_of_ble_eq_true rfl) dX10_init_20 (fun H locs κ9 hq1 hg1 hT hH hS => ?_)
  have hg : m_seg κ9 a [8115, 4, 142, 141, 141, 141, 293, 293, 1061, 7, 1181, 1181, 293, 293, 293, 293, 293, 141, 141, 1061, 1061, 293, 293, 3, 205, 205, 2909, 2909, 2597, 1701, 3301, 3301] := hg.growS rfl hq1 hg1
  have hq := m_lt_nx hq (by omega) hq1
  have hH : m_H G (a + 32) κ9 S8 H := hH
  refine n_puwr X hin hH hS hT (k := 10) (i := 1) (a := a) (b := (a + 23)) (j := 1) (A := 23) (B := 0) tyX10 (hg 0 _ rfl) (by decide) (by decide) rfl m_wi10 tyX10_ok nmX10 (by decide) in_3_24 rfl rfl rfl rfl rfl (by first | rfl | omega) ⟨rfl, rfl⟩ dX10_init_23 (fun H locs κ10 hq1 hk1 hT hH hS => ?_)
  have hg : m_seg κ10 a [8123, 4, 142, 141, 141, 141, 293, 293, 1061, 7, 1181, 1181, 293, 293, 293, 293, 293, 141, 141, 1061, 1061, 293, 293, 3, 205, 205, 2909, 2909, 2597, 1701, 3301, 3301] := hg.swap hq1 hk1
  have hq := m_lt_ne hq hq1
  refine lv_aload_n hx hb dX10_init_26 rfl (lv_at hl 0 rfl) ?_
  obtain ⟨S11, e_S11, hm⟩ := m_let_of hm
  refine n_new X hH hS hT (k := 7) tyX7 (by decide) rfl m_wi7 tyX7_ok in_3_20 in_2_94 in_1_12 m_df7 e_S11 (nx' := (a + 33)) rfl (Nat.le_of_ble_eq_true rfl) (Nat.le_of_ble_eq_true rfl) dX10_init_27 (fun H κ12 hq1 hk1 hT hH hS => ?_)
  have hgk : m_seg κ12 a [8123, 4, 142, 141, 141, 141, 293, 293, 1061, 7, 1181, 1181, 293, 293, 293, 293, 293, 141, 141, 1061, 1061, 293, 293, 3, 205, 205, 2909, 2909, 2597, 1701, 3301, 3301] := hg.kept (fun q h => hq1 q (by simpa using h))
  have hg := hgk
  have hq := m_lt_nx hq (by omega) hq1
  refine lv_dup hx hb dX10_init_30 rfl ?_
  obtain ⟨S13, e_S13, hm⟩ := m_cal0_of hm
  refine n_cIN (host := "RegionRooms") X hN hH hS (c_X7_init (a := (a + 32)) hT hk1 e_S13) mw_X7_init in_2_96 rfl (by decide +kernel) rfl ⟨rfl, rfl⟩ ⟨Nat.le_of_ble_eq_true rfl, Nat.le_of_ble_eq_true rfl⟩ ⟨Nat.le_of_ble_eq_true rfl, Nat.le_of_ble_eq_true rfl⟩ hl.1 (Nat.le_of_ble_eq_true rfl) dX10_init_31 (fun H locs κ14 hq1 hg1 hT hH hS => ?_)
  have hg : m_seg κ14 a [8123, 4, 142, 141, 141, 141, 293, 293, 1061, 7, 1181, 1181, 293, 293, 293, 293, 293, 141, 141, 1061, 1061, 293, 293, 3, 205, 205, 2909, 2909, 2597, 1701, 3301, 3301, 8, 421, 421, 421, 423] := hg.growS rfl hq1 hg1
  have hq := m_lt_nx hq (by omega) hq1
  have hH : m_H G (a + 37) κ14 S13 H := hH
  refine n_puwr X hin hH hS hT (k := 10) (i := 2) (a := a) (b := (a + 32)) (j := 2) (A := 32) (B := 0) tyX10 (hg 0 _ rfl) (by decide) (by decide) rfl m_wi10 tyX10_ok nmX10 (by decide) in_3_26 rfl rfl rfl rfl rfl (by first | rfl | omega) ⟨rfl, rfl⟩ dX10_init_34 (fun H locs κ15 hq1 hk1 hT hH hS => ?_)
  have hg : m_seg κ15 a [8131, 4, 142, 141, 141, 141, 293, 293, 1061, 7, 1181, 1181, 293, 293, 293, 293, 293, 141, 141, 1061, 1061, 293, 293, 3, 205, 205, 2909, 2909, 2597, 1701, 3301, 3301, 8, 421, 421, 421, 423] := hg.swap hq1 hk1
  have hq := m_lt_ne hq hq1
  obtain ⟨κ16, hq1, hk_s, hg, hT, hH⟩ := m_seal (k := 10) (i := 3) hH hT hg (by decide) (by decide) rfl rfl (by decide)
  have hq := m_lt_ne hq hq1
  exact r_kret X hN hr hH hS hm hT hq hg rfl (Nat.le_of_ble_eq_true rfl) (Nat.le_of_ble_eq_true rfl) dX10_init_37
def rm_X12_init : Room := { frames := 204, cells := 29, slots := 30642, locals := 5296 }
def f_X12_init (a : Nat) (S : m_M) : Option m_M :=
    m_let (m_new S (a + 1)) fun S1 =>
    m_let (m_new S1 (a + 2)) fun S4 =>
    m_let (m_new S4 (a + 3)) fun S7 =>
    m_let (m_new S7 (a + 4)) fun S10 =>
    m_let (m_new S10 (a + 5)) fun S13 =>
    m_let (m_new S13 (a + 6)) fun S16 =>
    m_let (m_new S16 (a + 7)) fun S19 =>
    m_let (m_new S19 (a + 8)) fun S22 =>
    m_let (m_new S22 (a + 9)) fun S25 =>
    m_let (m_new S25 (a + 10)) fun S28 =>
    m_let (m_new S28 (a + 11)) fun S31 =>
    m_let (m_new S31 (a + 12)) fun S34 =>
    m_let (m_new S34 (a + 13)) fun S37 =>
    m_let (m_new S37 (a + 14)) fun S40 =>
    m_let (m_new S40 (a + 15)) fun S43 =>
    m_let (m_new S43 (a + 16)) fun S46 =>
    m_let (m_new S46 (a + 17)) fun S49 =>
    m_let (m_new S49 (a + 18)) fun S52 =>
    m_let (m_new S52 (a + 19)) fun S55 =>
    m_let (m_new S55 (a + 20)) fun S58 =>
    m_let (m_new S58 (a + 21)) fun S61 =>
    m_let (m_new S61 (a + 22)) fun S64 =>
    m_let (m_new S64 (a + 23)) fun S67 =>
    m_let (m_new S67 (a + 24)) fun S70 =>
    m_let (m_new S70 (a + 25)) fun S73 =>
    m_let (m_new S73 (a + 26)) fun S76 =>
    m_let (m_new S76 (a + 27)) fun S79 =>
    m_let (m_new S79 (a + 28)) fun S82 =>
    m_let (m_new S82 (a + 29)) fun S85 =>
    m_cal0 (f_X12_startSo a S85) fun S89 =>
    some S89
set_option maxHeartbeats 4000000 in
set_option maxRecDepth 100000 in
theorem c_X12_init {l : Launch} {G : m_G} {κ : Nat → Nat} {a : Nat} {S S' : m_M} (hT : m_Str κ) (hk1 : κ a = m_ac 7 (100 * 12)) (hm : f_X12_init a S = some S') : m_K l yX12_init cX12_init 1 rm_X12_init G a (m_lay 13) (a + 1) κ [.ref a] S S' 29 30642 := by
  refine m_K.of (by decide) rfl (Nat.le_of_ble_eq_true rfl) ?_
  intro p e s m args below meth c ls X hN hin hr hH hl
  have hx := X.1.1
  have hb := X.1.2.1
  have hS : m_S G s s.heap [] := va_S.rf
  have hl : lv_has ls 1 [(0, .ref a)] := hl
  have hg : m_seg κ a [9707] := m_seg.one hk1
  have hq : ∀ q, q < a → κ q = κ q := fun _ _ => rfl
  rw [f_X12_init] at hm
  refine lv_aload_n hx hb dX12_init_0 rfl (lv_at hl 0 rfl) ?_
  refine W.objInit hx hb X.1.2.2.2.1 (m_w X in_6_183) (m_w X in_1_32) (m_w X in_1_33) rfl (by rw [X.1.2.2.1]; exact hl.1) rfl dX12_init_1 (Nat.le_of_ble_eq_true rfl) (Nat.le_of_ble_eq_true rfl) ?_
  refine W.eq (g2 := F0 m 4 ls []) rfl ?_
  refine lv_aload_n hx hb dX12_init_4 rfl (lv_at hl 0 rfl) ?_
  refine lv_sipush (v := (940 : Int32)) hx hb dX12_init_5 (by decide) ?_
  obtain ⟨S1, e_S1, hm⟩ := m_let_of hm
  refine n_newa X hH hS hT (ty := .int) (N := 940) rfl in_1_121 1 rfl (by decide) rfl m_RAi (by decide) (by decide) (by decide) e_S1 (nx' := (a + 2)) rfl (Nat.le_of_ble_eq_true rfl) (Nat.le_of_ble_eq_true rfl) dX12_init_8 (fun H κ2 hq1 hk1 hT hH hS => ?_)
  have hg : m_seg κ2 a [9707, 7621] := hg.grow rfl hq1 hk1
  have hq := m_lt_nx hq (by omega) hq1
  refine n_puwr X hin hH hS hT (k := 12) (i := 0) (a := a) (b := (a + 1)) (j := 1) (A := 1) (B := 0) tyX12 (hg 0 _ rfl) (by decide) (by decide) rfl m_wi12 tyX12_ok nmX12 (by decide) in_7_16 rfl rfl rfl rfl rfl (by first | rfl | omega) ⟨rfl, rfl⟩ dX12_init_10 (fun H locs κ3 hq1 hk1 hT hH hS => ?_)
  have hg : m_seg κ3 a [9715, 7621] := hg.swap hq1 hk1
  have hq := m_lt_ne hq hq1
  refine lv_aload_n hx hb dX12_init_13 rfl (lv_at hl 0 rfl) ?_
  refine lv_sipush (v := (2647 : Int32)) hx hb dX12_init_14 (by decide) ?_
  obtain ⟨S4, e_S4, hm⟩ := m_let_of hm
  refine n_newa X hH hS hT (ty := .int) (N := 2647) rfl in_1_121 1 rfl (by decide) rfl m_RAi (by decide) (by decide) (by decide) e_S4 (nx' := (a + 3)) rfl (Nat.le_of_ble_eq_true rfl) (Nat.le_of_ble_eq_true rfl) dX12_init_17 (fun H κ5 hq1 hk1 hT hH hS => ?_)
  have hg : m_seg κ5 a [9715, 7621, 21277] := hg.grow rfl hq1 hk1
  have hq := m_lt_nx hq (by omega) hq1
  refine n_puwr X hin hH hS hT (k := 12) (i := 1) (a := a) (b := (a + 2)) (j := 14) (A := 2) (B := 0) tyX12 (hg 0 _ rfl) (by decide) (by decide) rfl m_wi12 tyX12_ok nmX12 (by decide) in_7_29 rfl rfl rfl rfl rfl (by first | rfl | omega) ⟨rfl, rfl⟩ dX12_init_19 (fun H locs κ6 hq1 hk1 hT hH hS => ?_)
  have hg : m_seg κ6 a [9723, 7621, 21277] := hg.swap hq1 hk1
  have hq := m_lt_ne hq hq1
  refine lv_aload_n hx hb dX12_init_22 rfl (lv_at hl 0 rfl) ?_
  refine lv_sipush (v := (210 : Int32)) hx hb dX12_init_23 (by decide) ?_
  obtain ⟨S7, e_S7, hm⟩ := m_let_of hm
  refine n_newa X hH hS hT (ty := .int) (N := 210) rfl in_1_121 1 rfl (by decide) rfl m_RAi (by decide) (by decide) (by decide) e_S7 (nx' := (a + 4)) rfl (Nat.le_of_ble_eq_true rfl) (Nat.le_of_ble_eq_true rfl) dX12_init_26 (fun H κ8 hq1 hk1 hT hH hS => ?_)
  have hg : m_seg κ8 a [9723, 7621, 21277, 1781] := hg.grow rfl hq1 hk1
  have hq := m_lt_nx hq (by omega) hq1
  refine n_puwr X hin hH hS hT (k := 12) (i := 2) (a := a) (b := (a + 3)) (j := 15) (A := 3) (B := 0) tyX12 (hg 0 _ rfl) (by decide) (by decide) rfl m_wi12 tyX12_ok nmX12 (by decide) in_7_30 rfl rfl rfl rfl rfl (by first | rfl | omega) ⟨rfl, rfl⟩ dX12_init_28 (fun H locs κ9 hq1 hk1 hT hH hS => ?_)
  have hg : m_seg κ9 a [9731, 7621, 21277, 1781] := hg.swap hq1 hk1
  have hq := m_lt_ne hq hq1
  refine lv_aload_n hx hb dX12_init_31 rfl (lv_at hl 0 rfl) ?_
  refine lv_sipush (v := (5294 : Int32)) hx hb dX12_init_32 (by decide) ?_
  obtain ⟨S10, e_S10, hm⟩ := m_let_of hm
  refine n_newa X hH hS hT (ty := .int) (N := 5294) rfl in_1_121 1 rfl (by decide) rfl m_RAi (by decide) (by decide) (by decide) e_S10 (nx' := (a + 5)) rfl (Nat.le_of_ble_eq_true rfl) (Nat.le_of_ble_eq_true rfl) dX12_init_35 (fun H κ11 hq1 hk1 hT hH hS => ?_)
  have hg : m_seg κ11 a [9731, 7621, 21277, 1781, 42453] := hg.grow rfl hq1 hk1
  have hq := m_lt_nx hq (by omega) hq1
  refine n_puwr X hin hH hS hT (k := 12) (i := 3) (a := a) (b := (a + 4)) (j := 16) (A := 4) (B := 0) tyX12 (hg 0 _ rfl) (by decide) (by decide) rfl m_wi12 tyX12_ok nmX12 (by decide) in_7_31 rfl rfl rfl rfl rfl (by first | rfl | omega) ⟨rfl, rfl⟩ dX12_init_37 (fun H locs κ12 hq1 hk1 hT hH hS => ?_)
  have hg : m_seg κ12 a [9739, 7621, 21277, 1781, 42453] := hg.swap hq1 hk1
  have hq := m_lt_ne hq hq1
  refine lv_aload_n hx hb dX12_init_40 rfl (lv_at hl 0 rfl) ?_
  refine lv_sipush (v := (17560 : Int32)) hx hb dX12_init_41 (by decide) ?_
  obtain ⟨S13, e_S13, hm⟩ := m_let_of hm
  refine n_newa X hH hS hT (ty := .int) (N := 17560) rfl in_1_121 1 rfl (by decide) rfl m_RAi (by decide) (by decide) (by decide) e_S13 (nx' := (a + 6)) rfl (Nat.le_of_ble_eq_true rfl) (Nat.le_of_ble_eq_true rfl) dX12_init_44 (fun H κ14 hq1 hk1 hT hH hS => ?_)
  have hg : m_seg κ14 a [9739, 7621, 21277, 1781, 42453, 140581] := hg.grow rfl hq1 hk1
  have hq := m_lt_nx hq (by omega) hq1
  refine n_puwr X hin hH hS hT (k := 12) (i := 4) (a := a) (b := (a + 5)) (j := 17) (A := 5) (B := 0) tyX12 (hg 0 _ rfl) (by decide) (by decide) rfl m_wi12 tyX12_ok nmX12 (by decide) in_7_32 rfl rfl rfl rfl rfl (by first | rfl | omega) ⟨rfl, rfl⟩ dX12_init_46 (fun H locs κ15 hq1 hk1 hT hH hS => ?_)
  have hg : m_seg κ15 a [9747, 7621, 21277, 1781, 42453, 140581] := hg.swap hq1 hk1
  have hq := m_lt_ne hq hq1
  refine lv_aload_n hx hb dX12_init_49 rfl (lv_at hl 0 rfl) ?_
  refine lv_sipush (v := (2195 : Int32)) hx hb dX12_init_50 (by decide) ?_
  obtain ⟨S16, e_S16, hm⟩ := m_let_of hm
  refine n_newa X hH hS hT (ty := .int) (N := 2195) rfl in_1_121 1 rfl (by decide) rfl m_RAi (by decide) (by decide) (by decide) e_S16 (nx' := (a + 7)) rfl (Nat.le_of_ble_eq_true rfl) (Nat.le_of_ble_eq_true rfl) dX12_init_53 (fun H κ17 hq1 hk1 hT hH hS => ?_)
  have hg : m_seg κ17 a [9747, 7621, 21277, 1781, 42453, 140581, 17661] := hg.grow rfl hq1 hk1
  have hq := m_lt_nx hq (by omega) hq1
  refine n_puwr X hin hH hS hT (k := 12) (i := 5) (a := a) (b := (a + 6)) (j := 18) (A := 6) (B := 0) tyX12 (hg 0 _ rfl) (by decide) (by decide) rfl m_wi12 tyX12_ok nmX12 (by decide) in_7_33 rfl rfl rfl rfl rfl (by first | rfl | omega) ⟨rfl, rfl⟩ dX12_init_55 (fun H locs κ18 hq1 hk1 hT hH hS => ?_)
  have hg : m_seg κ18 a [9755, 7621, 21277, 1781, 42453, 140581, 17661] := hg.swap hq1 hk1
  have hq := m_lt_ne hq hq1
  refine lv_aload_n hx hb dX12_init_58 rfl (lv_at hl 0 rfl) ?_
  refine lv_iconst (v := (5 : Int32)) hx hb dX12_init_59 (by decide) ?_
  obtain ⟨S19, e_S19, hm⟩ := m_let_of hm
  refine n_newa X hH hS hT (ty := .long) (N := 5) rfl in_1_120 2 rfl (by decide) rfl m_RAl (by decide) (by decide) (by decide) e_S19 (nx' := (a + 8)) rfl (Nat.le_of_ble_eq_true rfl) (Nat.le_of_ble_eq_true rfl) dX12_init_60 (fun H κ20 hq1 hk1 hT hH hS => ?_)
  have hg : m_seg κ20 a [9755, 7621, 21277, 1781, 42453, 140581, 17661, 142] := hg.grow rfl hq1 hk1
  have hq := m_lt_nx hq (by omega) hq1
  refine n_puwr X hin hH hS hT (k := 12) (i := 6) (a := a) (b := (a + 7)) (j := 19) (A := 7) (B := 0) tyX12 (hg 0 _ rfl) (by decide) (by decide) rfl m_wi12 tyX12_ok nmX12 (by decide) in_7_34 rfl rfl rfl rfl rfl (by first | rfl | omega) ⟨rfl, rfl⟩ dX12_init_62 (fun H locs κ21 hq1 hk1 hT hH hS => ?_)
  have hg : m_seg κ21 a [9763, 7621, 21277, 1781, 42453, 140581, 17661, 142] := hg.swap hq1 hk1
  have hq := m_lt_ne hq hq1
  refine lv_aload_n hx hb dX12_init_65 rfl (lv_at hl 0 rfl) ?_
  refine lv_iconst (v := (5 : Int32)) hx hb dX12_init_66 (by decide) ?_
  obtain ⟨S22, e_S22, hm⟩ := m_let_of hm
  refine n_newa X hH hS hT (ty := .long) (N := 5) rfl in_1_120 2 rfl (by decide) rfl m_RAl (by decide) (by decide) (by decide) e_S22 (nx' := (a + 9)) rfl (Nat.le_of_ble_eq_true rfl) (Nat.le_of_ble_eq_true rfl) dX12_init_67 (fun H κ23 hq1 hk1 hT hH hS => ?_)
  have hg : m_seg κ23 a [9763, 7621, 21277, 1781, 42453, 140581, 17661, 142, 142] := hg.grow rfl hq1 hk1
  have hq := m_lt_nx hq (by omega) hq1
  refine n_puwr X hin hH hS hT (k := 12) (i := 7) (a := a) (b := (a + 8)) (j := 20) (A := 8) (B := 0) tyX12 (hg 0 _ rfl) (by decide) (by decide) rfl m_wi12 tyX12_ok nmX12 (by decide) in_7_35 rfl rfl rfl rfl rfl (by first | rfl | omega) ⟨rfl, rfl⟩ dX12_init_69 (fun H locs κ24 hq1 hk1 hT hH hS => ?_)
  have hg : m_seg κ24 a [9771, 7621, 21277, 1781, 42453, 140581, 17661, 142, 142] := hg.swap hq1 hk1
  have hq := m_lt_ne hq hq1
  refine lv_aload_n hx hb dX12_init_72 rfl (lv_at hl 0 rfl) ?_
  refine lv_bipush (v := (10 : Int32)) hx hb dX12_init_73 (by decide) ?_
  obtain ⟨S25, e_S25, hm⟩ := m_let_of hm
  refine n_newa X hH hS hT (ty := .long) (N := 10) rfl in_1_120 2 rfl (by decide) rfl m_RAl (by decide) (by decide) (by decide) e_S25 (nx' := (a + 10)) rfl (Nat.le_of_ble_eq_true rfl) (Nat.le_of_ble_eq_true rfl) dX12_init_75 (fun H κ26 hq1 hk1 hT hH hS => ?_)
  have hg : m_seg κ26 a [9771, 7621, 21277, 1781, 42453, 140581, 17661, 142, 142, 182] := hg.grow rfl hq1 hk1
  have hq := m_lt_nx hq (by omega) hq1
  refine n_puwr X hin hH hS hT (k := 12) (i := 8) (a := a) (b := (a + 9)) (j := 21) (A := 9) (B := 0) tyX12 (hg 0 _ rfl) (by decide) (by decide) rfl m_wi12 tyX12_ok nmX12 (by decide) in_7_36 rfl rfl rfl rfl rfl (by first | rfl | omega) ⟨rfl, rfl⟩ dX12_init_77 (fun H locs κ27 hq1 hk1 hT hH hS => ?_)
  have hg : m_seg κ27 a [9779, 7621, 21277, 1781, 42453, 140581, 17661, 142, 142, 182] := hg.swap hq1 hk1
  have hq := m_lt_ne hq hq1
  refine lv_aload_n hx hb dX12_init_80 rfl (lv_at hl 0 rfl) ?_
  refine lv_sipush (v := (135 : Int32)) hx hb dX12_init_81 (by decide) ?_
  obtain ⟨S28, e_S28, hm⟩ := m_let_of hm
  refine n_newa X hH hS hT (ty := .long) (N := 135) rfl in_1_120 2 rfl (by decide) rfl m_RAl (by decide) (by decide) (by decide) e_S28 (nx' := (a + 11)) rfl (Nat.le_of_ble_eq_true rfl) (Nat.le_of_ble_eq_true rfl) dX12_init_84 (fun H κ29 hq1 hk1 hT hH hS => ?_)
  have hg : m_seg κ29 a [9779, 7621, 21277, 1781, 42453, 140581, 17661, 142, 142, 182, 1182] := hg.grow rfl hq1 hk1
  have hq := m_lt_nx hq (by omega) hq1
  refine n_puwr X hin hH hS hT (k := 12) (i := 9) (a := a) (b := (a + 10)) (j := 22) (A := 10) (B := 0) tyX12 (hg 0 _ rfl) (by decide) (by decide) rfl m_wi12 tyX12_ok nmX12 (by decide) in_7_37 rfl rfl rfl rfl rfl (by first | rfl | omega) ⟨rfl, rfl⟩ dX12_init_86 (fun H locs κ30 hq1 hk1 hT hH hS => ?_)
  have hg : m_seg κ30 a [9787, 7621, 21277, 1781, 42453, 140581, 17661, 142, 142, 182, 1182] := hg.swap hq1 hk1
  have hq := m_lt_ne hq hq1
  refine lv_aload_n hx hb dX12_init_89 rfl (lv_at hl 0 rfl) ?_
  refine lv_iconst (v := (2 : Int32)) hx hb dX12_init_90 (by decide) ?_
  obtain ⟨S31, e_S31, hm⟩ := m_let_of hm
  refine n_newa X hH hS hT (ty := .boolean) (N := 2) rfl in_2_125 3 rfl (by decide) rfl m_RAz (by decide) (by decide) (by decide) e_S31 (nx' := (a + 12)) rfl (Nat.le_of_ble_eq_true rfl) (Nat.le_of_ble_eq_true rfl) dX12_init_91 (fun H κ32 hq1 hk1 hT hH hS => ?_)
  have hg : m_seg κ32 a [9787, 7621, 21277, 1781, 42453, 140581, 17661, 142, 142, 182, 1182, 119] := hg.grow rfl hq1 hk1
  have hq := m_lt_nx hq (by omega) hq1
  refine n_puwr X hin hH hS hT (k := 12) (i := 10) (a := a) (b := (a + 11)) (j := 23) (A := 11) (B := 0) tyX12 (hg 0 _ rfl) (by decide) (by decide) rfl m_wi12 tyX12_ok nmX12 (by decide) in_7_38 rfl rfl rfl rfl rfl (by first | rfl | omega) ⟨rfl, rfl⟩ dX12_init_93 (fun H locs κ33 hq1 hk1 hT hH hS => ?_)
  have hg : m_seg κ33 a [9795, 7621, 21277, 1781, 42453, 140581, 17661, 142, 142, 182, 1182, 119] := hg.swap hq1 hk1
  have hq := m_lt_ne hq hq1
  refine lv_aload_n hx hb dX12_init_96 rfl (lv_at hl 0 rfl) ?_
  refine lv_sipush (v := (183 : Int32)) hx hb dX12_init_97 (by decide) ?_
  obtain ⟨S34, e_S34, hm⟩ := m_let_of hm
  refine n_newa X hH hS hT (ty := .int) (N := 183) rfl in_1_121 1 rfl (by decide) rfl m_RAi (by decide) (by decide) (by decide) e_S34 (nx' := (a + 13)) rfl (Nat.le_of_ble_eq_true rfl) (Nat.le_of_ble_eq_true rfl) dX12_init_100 (fun H κ35 hq1 hk1 hT hH hS => ?_)
  have hg : m_seg κ35 a [9795, 7621, 21277, 1781, 42453, 140581, 17661, 142, 142, 182, 1182, 119, 1565] := hg.grow rfl hq1 hk1
  have hq := m_lt_nx hq (by omega) hq1
  refine n_puwr X hin hH hS hT (k := 12) (i := 11) (a := a) (b := (a + 12)) (j := 25) (A := 12) (B := 0) tyX12 (hg 0 _ rfl) (by decide) (by decide) rfl m_wi12 tyX12_ok nmX12 (by decide) in_7_40 rfl rfl rfl rfl rfl (by first | rfl | omega) ⟨rfl, rfl⟩ dX12_init_102 (fun H locs κ36 hq1 hk1 hT hH hS => ?_)
  have hg : m_seg κ36 a [9803, 7621, 21277, 1781, 42453, 140581, 17661, 142, 142, 182, 1182, 119, 1565] := hg.swap hq1 hk1
  have hq := m_lt_ne hq hq1
  refine lv_aload_n hx hb dX12_init_105 rfl (lv_at hl 0 rfl) ?_
  refine lv_sipush (v := (183 : Int32)) hx hb dX12_init_106 (by decide) ?_
  obtain ⟨S37, e_S37, hm⟩ := m_let_of hm
  refine n_newa X hH hS hT (ty := .int) (N := 183) rfl in_1_121 1 rfl (by decide) rfl m_RAi (by decide) (by decide) (by decide) e_S37 (nx' := (a + 14)) rfl (Nat.le_of_ble_eq_true rfl) (Nat.le_of_ble_eq_true rfl) dX12_init_109 (fun H κ38 hq1 hk1 hT hH hS => ?_)
  have hg : m_seg κ38 a [9803, 7621, 21277, 1781, 42453, 140581, 17661, 142, 142, 182, 1182, 119, 1565, 1565] := hg.grow rfl hq1 hk1
  have hq := m_lt_nx hq (by omega) hq1
  refine n_puwr X hin hH hS hT (k := 12) (i := 12) (a := a) (b := (a + 13)) (j := 26) (A := 13) (B := 0) tyX12 (hg 0 _ rfl) (by decide) (by decide) rfl m_wi12 tyX12_ok nmX12 (by decide) in_7_41 rfl rfl rfl rfl rfl (by first | rfl | omega) ⟨rfl, rfl⟩ dX12_init_111 (fun H locs κ39 hq1 hk1 hT hH hS => ?_)
  have hg : m_seg κ39 a [9811, 7621, 21277, 1781, 42453, 140581, 17661, 142, 142, 182, 1182, 119, 1565, 1565] := hg.swap hq1 hk1
  have hq := m_lt_ne hq hq1
  refine lv_aload_n hx hb dX12_init_114 rfl (lv_at hl 0 rfl) ?_
  refine lv_bipush (v := (24 : Int32)) hx hb dX12_init_115 (by decide) ?_
  obtain ⟨S40, e_S40, hm⟩ := m_let_of hm
  refine n_newa X hH hS hT (ty := .int) (N := 24) rfl in_1_121 1 rfl (by decide) rfl m_RAi (by decide) (by decide) (by decide) e_S40 (nx' := (a + 15)) rfl (Nat.le_of_ble_eq_true rfl) (Nat.le_of_ble_eq_true rfl) dX12_init_117 (fun H κ41 hq1 hk1 hT hH hS => ?_)
  have hg : m_seg κ41 a [9811, 7621, 21277, 1781, 42453, 140581, 17661, 142, 142, 182, 1182, 119, 1565, 1565, 293] := hg.grow rfl hq1 hk1
  have hq := m_lt_nx hq (by omega) hq1
  refine n_puwr X hin hH hS hT (k := 12) (i := 13) (a := a) (b := (a + 14)) (j := 27) (A := 14) (B := 0) tyX12 (hg 0 _ rfl) (by decide) (by decide) rfl m_wi12 tyX12_ok nmX12 (by decide) in_7_42 rfl rfl rfl rfl rfl (by first | rfl | omega) ⟨rfl, rfl⟩ dX12_init_119 (fun H locs κ42 hq1 hk1 hT hH hS => ?_)
  have hg : m_seg κ42 a [9819, 7621, 21277, 1781, 42453, 140581, 17661, 142, 142, 182, 1182, 119, 1565, 1565, 293] := hg.swap hq1 hk1
  have hq := m_lt_ne hq hq1
  refine lv_aload_n hx hb dX12_init_122 rfl (lv_at hl 0 rfl) ?_
  refine lv_sipush (v := (135 : Int32)) hx hb dX12_init_123 (by decide) ?_
  obtain ⟨S43, e_S43, hm⟩ := m_let_of hm
  refine n_newa X hH hS hT (ty := .int) (N := 135) rfl in_1_121 1 rfl (by decide) rfl m_RAi (by decide) (by decide) (by decide) e_S43 (nx' := (a + 16)) rfl (Nat.le_of_ble_eq_true rfl) (Nat.le_of_ble_eq_true rfl) dX12_init_126 (fun H κ44 hq1 hk1 hT hH hS => ?_)
  have hg : m_seg κ44 a [9819, 7621, 21277, 1781, 42453, 140581, 17661, 142, 142, 182, 1182, 119, 1565, 1565, 293, 1181] := hg.grow rfl hq1 hk1
  have hq := m_lt_nx hq (by omega) hq1
  refine n_puwr X hin hH hS hT (k := 12) (i := 14) (a := a) (b := (a + 15)) (j := 28) (A := 15) (B := 0) tyX12 (hg 0 _ rfl) (by decide) (by decide) rfl m_wi12 tyX12_ok nmX12 (by decide) in_7_43 rfl rfl rfl rfl rfl (by first | rfl | omega) ⟨rfl, rfl⟩ dX12_init_128 (fun H locs κ45 hq1 hk1 hT hH hS => ?_)
  have hg : m_seg κ45 a [9827, 7621, 21277, 1781, 42453, 140581, 17661, 142, 142, 182, 1182, 119, 1565, 1565, 293, 1181] := hg.swap hq1 hk1
  have hq := m_lt_ne hq hq1
  refine lv_aload_n hx hb dX12_init_131 rfl (lv_at hl 0 rfl) ?_
  refine lv_sipush (v := (135 : Int32)) hx hb dX12_init_132 (by decide) ?_
  obtain ⟨S46, e_S46, hm⟩ := m_let_of hm
  refine n_newa X hH hS hT (ty := .int) (N := 135) rfl in_1_121 1 rfl (by decide) rfl m_RAi (by decide) (by decide) (by decide) e_S46 (nx' := (a + 17)) rfl (Nat.le_of_ble_eq_true rfl) (Nat.le_of_ble_eq_true rfl) dX12_init_135 (fun H κ47 hq1 hk1 hT hH hS => ?_)
  have hg : m_seg κ47 a [9827, 7621, 21277, 1781, 42453, 140581, 17661, 142, 142, 182, 1182, 119, 1565, 1565, 293, 1181, 1181] := hg.grow rfl hq1 hk1
  have hq := m_lt_nx hq (by omega) hq1
  refine n_puwr X hin hH hS hT (k := 12) (i := 15) (a := a) (b := (a + 16)) (j := 29) (A := 16) (B := 0) tyX12 (hg 0 _ rfl) (by decide) (by decide) rfl m_wi12 tyX12_ok nmX12 (by decide) in_7_44 rfl rfl rfl rfl rfl (by first | rfl | omega) ⟨rfl, rfl⟩ dX12_init_137 (fun H locs κ48 hq1 hk1 hT hH hS => ?_)
  have hg : m_seg κ48 a [9835, 7621, 21277, 1781, 42453, 140581, 17661, 142, 142, 182, 1182, 119, 1565, 1565, 293, 1181, 1181] := hg.swap hq1 hk1
  have hq := m_lt_ne hq hq1
  refine lv_aload_n hx hb dX12_init_140 rfl (lv_at hl 0 rfl) ?_
  refine lv_bipush (v := (48 : Int32)) hx hb dX12_init_141 (by decide) ?_
  obtain ⟨S49, e_S49, hm⟩ := m_let_of hm
  refine n_newa X hH hS hT (ty := .int) (N := 48) rfl in_1_121 1 rfl (by decide) rfl m_RAi (by decide) (by decide) (by decide) e_S49 (nx' := (a + 18)) rfl (Nat.le_of_ble_eq_true rfl) (Nat.le_of_ble_eq_true rfl) dX12_init_143 (fun H κ50 hq1 hk1 hT hH hS => ?_)
  have hg : m_seg κ50 a [9835, 7621, 21277, 1781, 42453, 140581, 17661, 142, 142, 182, 1182, 119, 1565, 1565, 293, 1181, 1181, 485] := hg.grow rfl hq1 hk1
  have hq := m_lt_nx hq (by omega) hq1
  refine n_puwr X hin hH hS hT (k := 12) (i := 16) (a := a) (b := (a + 17)) (j := 30) (A := 17) (B := 0) tyX12 (hg 0 _ rfl) (by decide) (by decide) rfl m_wi12 tyX12_ok nmX12 (by decide) in_7_45 rfl rfl rfl rfl rfl (by first | rfl | omega) ⟨rfl, rfl⟩ dX12_init_145 (fun H locs κ51 hq1 hk1 hT hH hS => ?_)
  have hg : m_seg κ51 a [9843, 7621, 21277, 1781, 42453, 140581, 17661, 142, 142, 182, 1182, 119, 1565, 1565, 293, 1181, 1181, 485] := hg.swap hq1 hk1
  have hq := m_lt_ne hq hq1
  refine lv_aload_n hx hb dX12_init_148 rfl (lv_at hl 0 rfl) ?_
  refine lv_iconst (v := (5 : Int32)) hx hb dX12_init_149 (by decide) ?_
  obtain ⟨S52, e_S52, hm⟩ := m_let_of hm
  refine n_newa X hH hS hT (ty := .int) (N := 5) rfl in_1_121 1 rfl (by decide) rfl m_RAi (by decide) (by decide) (by decide) e_S52 (nx' := (a + 19)) rfl (Nat.le_of_ble_eq_true rfl) (Nat.le_of_ble_eq_true rfl) dX12_init_150 (fun H κ53 hq1 hk1 hT hH hS => ?_)
  have hg : m_seg κ53 a [9843, 7621, 21277, 1781, 42453, 140581, 17661, 142, 142, 182, 1182, 119, 1565, 1565, 293, 1181, 1181, 485, 141] := hg.grow rfl hq1 hk1
  have hq := m_lt_nx hq (by omega) hq1
  refine n_puwr X hin hH hS hT (k := 12) (i := 17) (a := a) (b := (a + 18)) (j := 31) (A := 18) (B := 0) tyX12 (hg 0 _ rfl) (by decide) (by decide) rfl m_wi12 tyX12_ok nmX12 (by decide) in_7_46 rfl rfl rfl rfl rfl (by first | rfl | omega) ⟨rfl, rfl⟩ dX12_init_152 (fun H locs κ54 hq1 hk1 hT hH hS => ?_)
  have hg : m_seg κ54 a [9851, 7621, 21277, 1781, 42453, 140581, 17661, 142, 142, 182, 1182, 119, 1565, 1565, 293, 1181, 1181, 485, 141] := hg.swap hq1 hk1
  have hq := m_lt_ne hq hq1
  refine lv_aload_n hx hb dX12_init_155 rfl (lv_at hl 0 rfl) ?_
  refine lv_iconst (v := (5 : Int32)) hx hb dX12_init_156 (by decide) ?_
  obtain ⟨S55, e_S55, hm⟩ := m_let_of hm
  refine n_newa X hH hS hT (ty := .int) (N := 5) rfl in_1_121 1 rfl (by decide) rfl m_RAi (by decide) (by decide) (by decide) e_S55 (nx' := (a + 20)) rfl (Nat.le_of_ble_eq_true rfl) (Nat.le_of_ble_eq_true rfl) dX12_init_157 (fun H κ56 hq1 hk1 hT hH hS => ?_)
  have hg : m_seg κ56 a [9851, 7621, 21277, 1781, 42453, 140581, 17661, 142, 142, 182, 1182, 119, 1565, 1565, 293, 1181, 1181, 485, 141, 141] := hg.grow rfl hq1 hk1
  have hq := m_lt_nx hq (by omega) hq1
  refine n_puwr X hin hH hS hT (k := 12) (i := 18) (a := a) (b := (a + 19)) (j := 32) (A := 19) (B := 0) tyX12 (hg 0 _ rfl) (by decide) (by decide) rfl m_wi12 tyX12_ok nmX12 (by decide) in_7_47 rfl rfl rfl rfl rfl (by first | rfl | omega) ⟨rfl, rfl⟩ dX12_init_159 (fun H locs κ57 hq1 hk1 hT hH hS => ?_)
  have hg : m_seg κ57 a [9859, 7621, 21277, 1781, 42453, 140581, 17661, 142, 142, 182, 1182, 119, 1565, 1565, 293, 1181, 1181, 485, 141, 141] := hg.swap hq1 hk1
  have hq := m_lt_ne hq hq1
  refine lv_aload_n hx hb dX12_init_162 rfl (lv_at hl 0 rfl) ?_
  refine lv_bipush (v := (120 : Int32)) hx hb dX12_init_163 (by decide) ?_
  obtain ⟨S58, e_S58, hm⟩ := m_let_of hm
  refine n_newa X hH hS hT (ty := .int) (N := 120) rfl in_1_121 1 rfl (by decide) rfl m_RAi (by decide) (by decide) (by decide) e_S58 (nx' := (a + 21)) rfl (Nat.le_of_ble_eq_true rfl) (Nat.le_of_ble_eq_true rfl) dX12_init_165 (fun H κ59 hq1 hk1 hT hH hS => ?_)
  have hg : m_seg κ59 a [9859, 7621, 21277, 1781, 42453, 140581, 17661, 142, 142, 182, 1182, 119, 1565, 1565, 293, 1181, 1181, 485, 141, 141, 1061] := hg.grow rfl hq1 hk1
  have hq := m_lt_nx hq (by omega) hq1
  refine n_puwr X hin hH hS hT (k := 12) (i := 19) (a := a) (b := (a + 20)) (j := 33) (A := 20) (B := 0) tyX12 (hg 0 _ rfl) (by decide) (by decide) rfl m_wi12 tyX12_ok nmX12 (by decide) in_7_48 rfl rfl rfl rfl rfl (by first | rfl | omega) ⟨rfl, rfl⟩ dX12_init_167 (fun H locs κ60 hq1 hk1 hT hH hS => ?_)
  have hg : m_seg κ60 a [9867, 7621, 21277, 1781, 42453, 140581, 17661, 142, 142, 182, 1182, 119, 1565, 1565, 293, 1181, 1181, 485, 141, 141, 1061] := hg.swap hq1 hk1
  have hq := m_lt_ne hq hq1
  refine lv_aload_n hx hb dX12_init_170 rfl (lv_at hl 0 rfl) ?_
  refine lv_bipush (v := (120 : Int32)) hx hb dX12_init_171 (by decide) ?_
  obtain ⟨S61, e_S61, hm⟩ := m_let_of hm
  refine n_newa X hH hS hT (ty := .int) (N := 120) rfl in_1_121 1 rfl (by decide) rfl m_RAi (by decide) (by decide) (by decide) e_S61 (nx' := (a + 22)) rfl (Nat.le_of_ble_eq_true rfl) (Nat.le_of_ble_eq_true rfl) dX12_init_173 (fun H κ62 hq1 hk1 hT hH hS => ?_)
  have hg : m_seg κ62 a [9867, 7621, 21277, 1781, 42453, 140581, 17661, 142, 142, 182, 1182, 119, 1565, 1565, 293, 1181, 1181, 485, 141, 141, 1061, 1061] := hg.grow rfl hq1 hk1
  have hq := m_lt_nx hq (by omega) hq1
  refine n_puwr X hin hH hS hT (k := 12) (i := 20) (a := a) (b := (a + 21)) (j := 34) (A := 21) (B := 0) tyX12 (hg 0 _ rfl) (by decide) (by decide) rfl m_wi12 tyX12_ok nmX12 (by decide) in_7_49 rfl rfl rfl rfl rfl (by first | rfl | omega) ⟨rfl, rfl⟩ dX12_init_175 (fun H locs κ63 hq1 hk1 hT hH hS => ?_)
  have hg : m_seg κ63 a [9875, 7621, 21277, 1781, 42453, 140581, 17661, 142, 142, 182, 1182, 119, 1565, 1565, 293, 1181, 1181, 485, 141, 141, 1061, 1061] := hg.swap hq1 hk1
  have hq := m_lt_ne hq hq1
  refine lv_aload_n hx hb dX12_init_178 rfl (lv_at hl 0 rfl) ?_
  refine lv_bipush (v := (24 : Int32)) hx hb dX12_init_179 (by decide) ?_
  obtain ⟨S64, e_S64, hm⟩ := m_let_of hm
  refine n_newa X hH hS hT (ty := .int) (N := 24) rfl in_1_121 1 rfl (by decide) rfl m_RAi (by decide) (by decide) (by decide) e_S64 (nx' := (a + 23)) rfl (Nat.le_of_ble_eq_true rfl) (Nat.le_of_ble_eq_true rfl) dX12_init_181 (fun H κ65 hq1 hk1 hT hH hS => ?_)
  have hg : m_seg κ65 a [9875, 7621, 21277, 1781, 42453, 140581, 17661, 142, 142, 182, 1182, 119, 1565, 1565, 293, 1181, 1181, 485, 141, 141, 1061, 1061, 293] := hg.grow rfl hq1 hk1
  have hq := m_lt_nx hq (by omega) hq1
  refine n_puwr X hin hH hS hT (k := 12) (i := 21) (a := a) (b := (a + 22)) (j := 35) (A := 22) (B := 0) tyX12 (hg 0 _ rfl) (by decide) (by decide) rfl m_wi12 tyX12_ok nmX12 (by decide) in_7_50 rfl rfl rfl rfl rfl (by first | rfl | omega) ⟨rfl, rfl⟩ dX12_init_183 (fun H locs κ66 hq1 hk1 hT hH hS => ?_)
  have hg : m_seg κ66 a [9883, 7621, 21277, 1781, 42453, 140581, 17661, 142, 142, 182, 1182, 119, 1565, 1565, 293, 1181, 1181, 485, 141, 141, 1061, 1061, 293] := hg.swap hq1 hk1
  have hq := m_lt_ne hq hq1
  refine lv_aload_n hx hb dX12_init_186 rfl (lv_at hl 0 rfl) ?_
  refine lv_iconst (v := (3 : Int32)) hx hb dX12_init_187 (by decide) ?_
  obtain ⟨S67, e_S67, hm⟩ := m_let_of hm
  refine n_newa X hH hS hT (ty := .int) (N := 3) rfl in_1_121 1 rfl (by decide) rfl m_RAi (by decide) (by decide) (by decide) e_S67 (nx' := (a + 24)) rfl (Nat.le_of_ble_eq_true rfl) (Nat.le_of_ble_eq_true rfl) dX12_init_188 (fun H κ68 hq1 hk1 hT hH hS => ?_)
  have hg : m_seg κ68 a [9883, 7621, 21277, 1781, 42453, 140581, 17661, 142, 142, 182, 1182, 119, 1565, 1565, 293, 1181, 1181, 485, 141, 141, 1061, 1061, 293, 125] := hg.grow rfl hq1 hk1
  have hq := m_lt_nx hq (by omega) hq1
  refine n_puwr X hin hH hS hT (k := 12) (i := 22) (a := a) (b := (a + 23)) (j := 37) (A := 23) (B := 0) tyX12 (hg 0 _ rfl) (by decide) (by decide) rfl m_wi12 tyX12_ok nmX12 (by decide) in_7_52 rfl rfl rfl rfl rfl (by first | rfl | omega) ⟨rfl, rfl⟩ dX12_init_190 (fun H locs κ69 hq1 hk1 hT hH hS => ?_)
  have hg : m_seg κ69 a [9891, 7621, 21277, 1781, 42453, 140581, 17661, 142, 142, 182, 1182, 119, 1565, 1565, 293, 1181, 1181, 485, 141, 141, 1061, 1061, 293, 125] := hg.swap hq1 hk1
  have hq := m_lt_ne hq hq1
  refine lv_aload_n hx hb dX12_init_193 rfl (lv_at hl 0 rfl) ?_
  refine lv_iconst (v := (3 : Int32)) hx hb dX12_init_194 (by decide) ?_
  obtain ⟨S70, e_S70, hm⟩ := m_let_of hm
  refine n_newa X hH hS hT (ty := .int) (N := 3) rfl in_1_121 1 rfl (by decide) rfl m_RAi (by decide) (by decide) (by decide) e_S70 (nx' := (a + 25)) rfl (Nat.le_of_ble_eq_true rfl) (Nat.le_of_ble_eq_true rfl) dX12_init_195 (fun H κ71 hq1 hk1 hT hH hS => ?_)
  have hg : m_seg κ71 a [9891, 7621, 21277, 1781, 42453, 140581, 17661, 142, 142, 182, 1182, 119, 1565, 1565, 293, 1181, 1181, 485, 141, 141, 1061, 1061, 293, 125, 125] := hg.grow rfl hq1 hk1
  have hq := m_lt_nx hq (by omega) hq1
  refine n_puwr X hin hH hS hT (k := 12) (i := 23) (a := a) (b := (a + 24)) (j := 38) (A := 24) (B := 0) tyX12 (hg 0 _ rfl) (by decide) (by decide) rfl m_wi12 tyX12_ok nmX12 (by decide) in_7_53 rfl rfl rfl rfl rfl (by first | rfl | omega) ⟨rfl, rfl⟩ dX12_init_197 (fun H locs κ72 hq1 hk1 hT hH hS => ?_)
  have hg : m_seg κ72 a [9899, 7621, 21277, 1781, 42453, 140581, 17661, 142, 142, 182, 1182, 119, 1565, 1565, 293, 1181, 1181, 485, 141, 141, 1061, 1061, 293, 125, 125] := hg.swap hq1 hk1
  have hq := m_lt_ne hq hq1
  refine lv_aload_n hx hb dX12_init_200 rfl (lv_at hl 0 rfl) ?_
  refine lv_sipush (v := (200 : Int32)) hx hb dX12_init_201 (by decide) ?_
  obtain ⟨S73, e_S73, hm⟩ := m_let_of hm
  refine n_newa X hH hS hT (ty := .boolean) (N := 200) rfl in_2_125 3 rfl (by decide) rfl m_RAz (by decide) (by decide) (by decide) e_S73 (nx' := (a + 26)) rfl (Nat.le_of_ble_eq_true rfl) (Nat.le_of_ble_eq_true rfl) dX12_init_204 (fun H κ74 hq1 hk1 hT hH hS => ?_)
  have hg : m_seg κ74 a [9899, 7621, 21277, 1781, 42453, 140581, 17661, 142, 142, 182, 1182, 119, 1565, 1565, 293, 1181, 1181, 485, 141, 141, 1061, 1061, 293, 125, 125, 1703] := hg.grow rfl hq1 hk1
  have hq := m_lt_nx hq (by omega) hq1
  refine n_puwr X hin hH hS hT (k := 12) (i := 24) (a := a) (b := (a + 25)) (j := 39) (A := 25) (B := 0) tyX12 (hg 0 _ rfl) (by decide) (by decide) rfl m_wi12 tyX12_ok nmX12 (by decide) in_7_54 rfl rfl rfl rfl rfl (by first | rfl | omega) ⟨rfl, rfl⟩ dX12_init_206 (fun H locs κ75 hq1 hk1 hT hH hS => ?_)
  have hg : m_seg κ75 a [9907, 7621, 21277, 1781, 42453, 140581, 17661, 142, 142, 182, 1182, 119, 1565, 1565, 293, 1181, 1181, 485, 141, 141, 1061, 1061, 293, 125, 125, 1703] := hg.swap hq1 hk1
  have hq := m_lt_ne hq hq1
  refine lv_aload_n hx hb dX12_init_209 rfl (lv_at hl 0 rfl) ?_
  refine lv_sipush (v := (200 : Int32)) hx hb dX12_init_210 (by decide) ?_
  obtain ⟨S76, e_S76, hm⟩ := m_let_of hm
  refine n_newa X hH hS hT (ty := .int) (N := 200) rfl in_1_121 1 rfl (by decide) rfl m_RAi (by decide) (by decide) (by decide) e_S76 (nx' := (a + 27)) rfl (Nat.le_of_ble_eq_true rfl) (Nat.le_of_ble_eq_true rfl) dX12_init_213 (fun H κ77 hq1 hk1 hT hH hS => ?_)
  have hg : m_seg κ77 a [9907, 7621, 21277, 1781, 42453, 140581, 17661, 142, 142, 182, 1182, 119, 1565, 1565, 293, 1181, 1181, 485, 141, 141, 1061, 1061, 293, 125, 125, 1703, 1701] := hg.grow rfl hq1 hk1
  have hq := m_lt_nx hq (by omega) hq1
  refine n_puwr X hin hH hS hT (k := 12) (i := 25) (a := a) (b := (a + 26)) (j := 40) (A := 26) (B := 0) tyX12 (hg 0 _ rfl) (by decide) (by decide) rfl m_wi12 tyX12_ok nmX12 (by decide) in_7_55 rfl rfl rfl rfl rfl (by first | rfl | omega) ⟨rfl, rfl⟩ dX12_init_215 (fun H locs κ78 hq1 hk1 hT hH hS => ?_)
  have hg : m_seg κ78 a [9915, 7621, 21277, 1781, 42453, 140581, 17661, 142, 142, 182, 1182, 119, 1565, 1565, 293, 1181, 1181, 485, 141, 141, 1061, 1061, 293, 125, 125, 1703, 1701] := hg.swap hq1 hk1
  have hq := m_lt_ne hq hq1
  refine lv_aload_n hx hb dX12_init_218 rfl (lv_at hl 0 rfl) ?_
  refine lv_bipush (v := (8 : Int32)) hx hb dX12_init_219 (by decide) ?_
  obtain ⟨S79, e_S79, hm⟩ := m_let_of hm
  refine n_newa X hH hS hT (ty := .int) (N := 8) rfl in_1_121 1 rfl (by decide) rfl m_RAi (by decide) (by decide) (by decide) e_S79 (nx' := (a + 28)) rfl (Nat.le_of_ble_eq_true rfl) (Nat.le_of_ble_eq_true rfl) dX12_init_221 (fun H κ80 hq1 hk1 hT hH hS => ?_)
  have hg : m_seg κ80 a [9915, 7621, 21277, 1781, 42453, 140581, 17661, 142, 142, 182, 1182, 119, 1565, 1565, 293, 1181, 1181, 485, 141, 141, 1061, 1061, 293, 125, 125, 1703, 1701, 165] := hg.grow rfl hq1 hk1
  have hq := m_lt_nx hq (by omega) hq1
  refine n_puwr X hin hH hS hT (k := 12) (i := 26) (a := a) (b := (a + 27)) (j := 42) (A := 27) (B := 0) tyX12 (hg 0 _ rfl) (by decide) (by decide) rfl m_wi12 tyX12_ok nmX12 (by decide) in_7_57 rfl rfl rfl rfl rfl (by first | rfl | omega) ⟨rfl, rfl⟩ dX12_init_223 (fun H locs κ81 hq1 hk1 hT hH hS => ?_)
  have hg : m_seg κ81 a [9923, 7621, 21277, 1781, 42453, 140581, 17661, 142, 142, 182, 1182, 119, 1565, 1565, 293, 1181, 1181, 485, 141, 141, 1061, 1061, 293, 125, 125, 1703, 1701, 165] := hg.swap hq1 hk1
  have hq := m_lt_ne hq hq1
  refine lv_aload_n hx hb dX12_init_226 rfl (lv_at hl 0 rfl) ?_
  refine lv_iconst (v := (3 : Int32)) hx hb dX12_init_227 (by decide) ?_
  obtain ⟨S82, e_S82, hm⟩ := m_let_of hm
  refine n_newa X hH hS hT (ty := .int) (N := 3) rfl in_1_121 1 rfl (by decide) rfl m_RAi (by decide) (by decide) (by decide) e_S82 (nx' := (a + 29)) rfl (Nat.le_of_ble_eq_true rfl) (Nat.le_of_ble_eq_true rfl) dX12_init_228 (fun H κ83 hq1 hk1 hT hH hS => ?_)
  have hg : m_seg κ83 a [9923, 7621, 21277, 1781, 42453, 140581, 17661, 142, 142, 182, 1182, 119, 1565, 1565, 293, 1181, 1181, 485, 141, 141, 1061, 1061, 293, 125, 125, 1703, 1701, 165, 125] := hg.grow rfl hq1 hk1
  have hq := m_lt_nx hq (by omega) hq1
  refine n_puwr X hin hH hS hT (k := 12) (i := 27) (a := a) (b := (a + 28)) (j := 43) (A := 28) (B := 0) tyX12 (hg 0 _ rfl) (by decide) (by decide) rfl m_wi12 tyX12_ok nmX12 (by decide) in_7_58 rfl rfl rfl rfl rfl (by first | rfl | omega) ⟨rfl, rfl⟩ dX12_init_230 (fun H locs κ84 hq1 hk1 hT hH hS => ?_)
  have hg : m_seg κ84 a [9931, 7621, 21277, 1781, 42453, 140581, 17661, 142, 142, 182, 1182, 119, 1565, 1565, 293, 1181, 1181, 485, 141, 141, 1061, 1061, 293, 125, 125, 1703, 1701, 165, 125] := hg.swap hq1 hk1
  have hq := m_lt_ne hq hq1
  refine lv_aload_n hx hb dX12_init_233 rfl (lv_at hl 0 rfl) ?_
  refine lv_sipush (v := (240 : Int32)) hx hb dX12_init_234 (by decide) ?_
  obtain ⟨S85, e_S85, hm⟩ := m_let_of hm
  refine n_newa X hH hS hT (ty := .int) (N := 240) rfl in_1_121 1 rfl (by decide) rfl m_RAi (by decide) (by decide) (by decide) e_S85 (nx' := (a + 30)) rfl (Nat.le_of_ble_eq_true rfl) (Nat.le_of_ble_eq_true rfl) dX12_init_237 (fun H κ86 hq1 hk1 hT hH hS => ?_)
  have hg : m_seg κ86 a [9931, 7621, 21277, 1781, 42453, 140581, 17661, 142, 142, 182, 1182, 119, 1565, 1565, 293, 1181, 1181, 485, 141, 141, 1061, 1061, 293, 125, 125, 1703, 1701, 165, 125, 2021] := hg.grow rfl hq1 hk1
  have hq := m_lt_nx hq (by omega) hq1
  refine n_puwr X hin hH hS hT (k := 12) (i := 28) (a := a) (b := (a + 29)) (j := 46) (A := 29) (B := 0) tyX12 (hg 0 _ rfl) (by decide) (by decide) rfl m_wi12 tyX12_ok nmX12 (by decide) in_7_61 rfl rfl rfl rfl rfl (by first | rfl | omega) ⟨rfl, rfl⟩ dX12_init_239 (fun H locs κ87 hq1 hk1 hT hH hS => ?_)
  have hg : m_seg κ87 a [9939, 7621, 21277, 1781, 42453, 140581, 17661, 142, 142, 182, 1182, 119, 1565, 1565, 293, 1181, 1181, 485, 141, 141, 1061, 1061, 293, 125, 125, 1703, 1701, 165, 125, 2021] := hg.swap hq1 hk1
  have hq := m_lt_ne hq hq1
  obtain ⟨κ88, hq1, hk_s, hg, hT, hH⟩ := m_seal (k := 12) (i := 29) hH hT hg (by decide) (by decide) rfl rfl (by decide)
  have hq := m_lt_ne hq hq1
  refine lv_aload_n hx hb dX12_init_242 rfl (lv_at hl 0 rfl) ?_
  obtain ⟨S89, e_S89, hm⟩ := m_cal0_of hm
  refine r_cVv X hH hS (k := 12) (c_X12_startSo (a := a) hT hk_s e_S89) mw_X12_startSo in_6_184 hk_s (by decide) rfl rfl rfl ⟨rfl, rfl⟩ ⟨Nat.le_of_ble_eq_true rfl, Nat.le_of_ble_eq_true rfl⟩ ⟨Nat.le_of_ble_eq_true rfl, Nat.le_of_ble_eq_true rfl⟩ hl.1 (Nat.le_of_ble_eq_true rfl) dX12_init_243 (fun H locs hH hS => ?_)
  exact r_kret X hN hr hH hS hm hT hq hg rfl (Nat.le_of_ble_eq_true rfl) (Nat.le_of_ble_eq_true rfl) dX12_init_246
