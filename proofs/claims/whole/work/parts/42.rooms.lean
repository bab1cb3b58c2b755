def rm_X9_init : Room := { frames := 6, cells := 4, slots := 2725, locals := 220 }
def b_X9_init_113 (x : Nat) : Nat → m_M → Int32 → Int64 → Int32 → Option m_M
  | 0, _, _, _, _ => none
  | n + 1, S, l2, l3, l5 =>
    if (113 : Int32) ≤ l5 then some S else
    if (22 : Int32) ≤ l2 then some S else
    if l5 < 0 ∨ 113 ≤ l5.toNatClampNeg then none else
    if m_ch l5.toNatClampNeg = (32 : Int32) then (
      (m_stj S (x + 3) 22 l2 l3).bind fun S1 =>
      m_let (l2 + (1 : Int32)) fun v2 =>
      m_let (l5 + (1 : Int32)) fun v5 =>
      b_X9_init_113 x n S1 v2 (0 : Int64) v5) else (
      m_call (f_X9_withLetter S l3 (m_ch l5.toNatClampNeg)) fun v3 S1 =>
      m_let (l5 + (1 : Int32)) fun v5 =>
      b_X9_init_113 x n S1 l2 v3 v5)
set_option maxHeartbeats 4000000 in
set_option maxRecDepth 100000 in
theorem k_X9_init_113 {p : Program} {l : Launch} {e : Env} {s : State} {m : MethodId} {args : Array Value} {below : List Frame} {meth : Method} {c : Code} {G : m_G} {κ κ0 : Nat → Nat} {S' : m_M} {x q v : Nat} (X : m_Cx p s m args meth c cX9_init 6 RX9 G) (hN : m_N s) (hXs : m_TX G.2.2 q v s) (hZ : vk_R RX9 69 m_kwt q s) (hr : meth.sig.returnType = none) (hT : m_Str κ) (hk_s : κ (x + 2) = 10) (hq : ∀ q, q < (x + 2) → κ q = κ0 q) (hg : m_seg κ (x + 2) (m_lay 10)) (n : Nat) :
    ∀ (S : m_M) (l2 : Int32) (l3 : Int64) (l5 : Int32) (H : Heap) (locs : List Loc) (ls : Array Slot), m_H G (x + 7) κ S H → m_S G s H locs → lv_has ls 6 [(0, .ref (x + 2)), (2, .int l2), (3, .long l3), (5, .int l5)] → b_X9_init_113 x n S l2 l3 l5 = some S' → W p l e rm_X9_init s m args below meth c H locs 4 2725 (m_QK below args s G (x + 2) (m_lay 10) κ0 S' 4 2725) (F0 m 113 ls []) := by
  have hx := X.1.1
  have hb := X.1.2.1
  induction n with
  | zero => intro S l2 l3 l5 H locs ls hH hS hl hm; have hm : (none : Option m_M) = some S' := hm; cases hm
  | succ n ih =>
    intro S l2 l3 l5 H locs ls hH hS hl hm
    rw [b_X9_init_113] at hm
    refine lv_iload hx hb dX9_init_113 (lv_at hl 3 rfl) ?_
    refine va_ldcS hx hb X.1.2.2.2.1 hZ dX9_init_115 ?_
    refine n_cR (As := []) X.1 hXs hS c_length mw_J0_length_8abf5 rfl in_1_42 rfl ⟨rfl, rfl⟩ ⟨Nat.le_of_ble_eq_true rfl, Nat.le_of_ble_eq_true rfl⟩ ⟨Nat.le_of_ble_eq_true rfl, Nat.le_of_ble_eq_true rfl⟩ hl.1 (Nat.le_of_ble_eq_true rfl) dX9_init_117 ?_
    refine lv_icmp_ge (tgt := 174) hx hb dX9_init_120 (by decide) (fun c1 => ?_) (fun c1 => ?_)
    · have hm := m_ite_t hm c1
      exact r_kret X hN hr hH hS hm hT hq hg rfl (Nat.le_refl _) (Nat.le_refl _) dX9_init_174
    have hm := m_ite_f hm c1
    refine lv_iload_n hx hb dX9_init_123 rfl (lv_at hl 1 rfl) ?_
    refine lv_bipush (v := (22 : Int32)) hx hb dX9_init_124 (by decide) ?_
    refine lv_icmp_ge (tgt := 174) hx hb dX9_init_126 (by decide) (fun c2 => ?_) (fun c2 => ?_)
    · have hm := m_ite_t hm c2
      exact r_kret X hN hr hH hS hm hT hq hg rfl (Nat.le_refl _) (Nat.le_refl _) dX9_init_174
    have hm := m_ite_f hm c2
    obtain ⟨hin, hm⟩ := m_ifn_of hm
    refine va_ldcS hx hb X.1.2.2.2.1 hZ dX9_init_129 ?_
    refine lv_iload hx hb dX9_init_131 (lv_at hl 3 rfl) ?_
    refine n_cR (As := [.int l5]) X.1 hXs hS (c_charAt hin) mw_J0_charAt_5068e rfl in_1_52 rfl ⟨rfl, rfl⟩ ⟨Nat.le_of_ble_eq_true rfl, Nat.le_of_ble_eq_true rfl⟩ ⟨Nat.le_of_ble_eq_true rfl, Nat.le_of_ble_eq_true rfl⟩ hl.1 (Nat.le_of_ble_eq_true rfl) dX9_init_133 ?_
    refine lv_bipush (v := (32 : Int32)) hx hb dX9_init_136 (by decide) ?_
    refine lv_icmp_ne (tgt := 156) hx hb dX9_init_138 (by decide) (fun c3 => ?_) (fun c3 => ?_)
    · have hm := m_ite_f hm c3
      refine lv_lload_n hx hb dX9_init_156 rfl (lv_at hl 2 rfl) ?_
      refine va_ldcS hx hb X.1.2.2.2.1 hZ dX9_init_157 ?_
      refine lv_iload hx hb dX9_init_159 (lv_at hl 3 rfl) ?_
      refine n_cR (As := [.int l5]) X.1 hXs hS (c_charAt hin) mw_J0_charAt_5068e rfl in_1_52 rfl ⟨rfl, rfl⟩ ⟨Nat.le_of_ble_eq_true rfl, Nat.le_of_ble_eq_true rfl⟩ ⟨Nat.le_of_ble_eq_true rfl, Nat.le_of_ble_eq_true rfl⟩ hl.1 (Nat.le_of_ble_eq_true rfl) dX9_init_161 ?_
      obtain ⟨v3, S1, e_S1, hm⟩ := m_call_of hm
      refine n_cSl X hH hS (c_X9_withLetter hT e_S1) mw_X9_withLetter in_1_90 rfl ⟨rfl, rfl⟩ ⟨Nat.le_of_ble_eq_true rfl, Nat.le_of_ble_eq_true rfl⟩ ⟨Nat.le_of_ble_eq_true rfl, Nat.le_of_ble_eq_true rfl⟩ hl.1 (Nat.le_of_ble_eq_true rfl) dX9_init_164 (fun H locs hH hS => ?_)
      refine lv_lstore_n (lv' := [(3, .long v3), (0, .ref (x + 2)), (2, .int l2), (5, .int l5)]) hx hb dX9_init_167 rfl hl (by decide) rfl (fun ls hl => ?_)
      obtain ⟨v5, e_v5, hm⟩ := m_let_of hm
      refine lv_iinc (v := v5) (lv' := [(5, .int v5), (3, .long v3), (0, .ref (x + 2)), (2, .int l2)]) hx hb dX9_init_168 hl (k := 3) rfl (by rw [← e_v5]; rfl) (by decide) rfl (fun ls hl => ?_)
      refine lv_goto (tgt := 113) hx hb dX9_init_171 (by decide) ?_
      exact ih S1 l2 v3 v5 _ _ _ hH hS (lv_sub hl [2, 3, 1, 0] rfl) hm
    · have hm := m_ite_t hm c3
      refine lv_aload_n hx hb dX9_init_141 rfl (lv_at hl 0 rfl) ?_
      refine r_getp X hH (k := 9) (a := (x + 2)) (j := 1) (b := (x + 3)) (A := 1) (B := 0) hk_s (by decide) rfl m_wi9 (by decide) in_1_95 rfl rfl (by first | rfl | omega) dX9_init_142 ?_
      refine lv_iload_n hx hb dX9_init_145 rfl (lv_at hl 1 rfl) ?_
      refine lv_lload_n hx hb dX9_init_146 rfl (lv_at hl 2 rfl) ?_
      obtain ⟨S1, h_S1, e_S1, hm⟩ := n_stj hm
      refine n_last X hH hS (n := 22) (hg 1 _ rfl) h_S1 e_S1 dX9_init_147 (fun H locs hH hS => ?_)
      obtain ⟨v2, e_v2, hm⟩ := m_let_of hm
      refine lv_iinc (v := v2) (lv' := [(2, .int v2), (0, .ref (x + 2)), (3, .long l3), (5, .int l5)]) hx hb dX9_init_148 hl (k := 1) rfl (by rw [← e_v2]; rfl) (by decide) rfl (fun ls hl => ?_)
      refine lv_lconst (v := (0 : Int64)) hx hb dX9_init_151 (by decide) ?_
      refine lv_lstore_n (lv' := [(3, .long (0 : Int64)), (2, .int v2), (0, .ref (x + 2)), (5, .int l5)]) hx hb dX9_init_152 rfl hl (by decide) rfl (fun ls hl => ?_)
      refine lv_goto (tgt := 168) hx hb dX9_init_153 (by decide) ?_
      obtain ⟨v5, e_v5, hm⟩ := m_let_of hm
      refine lv_iinc (v := v5) (lv' := [(5, .int v5), (3, .long (0 : Int64)), (2, .int v2), (0, .ref (x + 2))]) hx hb dX9_init_168 hl (k := 3) rfl (by rw [← e_v5]; rfl) (by decide) rfl (fun ls hl => ?_)
      refine lv_goto (tgt := 113) hx hb dX9_init_171 (by decide) ?_
      exact ih S1 v2 (0 : Int64) v5 _ _ _ hH hS (lv_sub hl [3, 2, 1, 0] rfl) hm
def f_X9_init (x : Nat) (S : m_M) : Option m_M :=
    m_let (m_new S (x + 3)) fun S1 =>
    m_let (m_new S1 (x + 4)) fun S4 =>
    m_let (m_new S4 (x + 5)) fun S7 =>
    m_let (m_new S7 (x + 6)) fun S10 =>
    m_let (m_si S10 (x + 2) 5 (0 : Int32)) fun S13 =>
    m_let (m_si S13 (x + 2) 6 (0 : Int32)) fun S14 =>
    m_let (m_si S14 (x + 2) 7 (0 : Int32)) fun S15 =>
    m_let (m_si S15 (x + 2) 8 (-1 : Int32)) fun S16 =>
    m_let (m_si S16 (x + 2) 9 (0 : Int32)) fun S17 =>
    m_let (m_si S17 (x + 2) 10 (0 : Int32)) fun S18 =>
    m_let (m_si S18 (x + 2) 11 (-1 : Int32)) fun S19 =>
    m_let (m_si S19 (x + 2) 12 (-1 : Int32)) fun S20 =>
    m_let (m_si S20 (x + 2) 13 (-1 : Int32)) fun S21 =>
    m_let (m_sj S21 (x + 2) 14 (-1 : Int64)) fun S22 =>
    m_let (m_si S22 (x + 2) 15 (0 : Int32)) fun S23 =>
    m_let (m_si S23 (x + 2) 16 (0 : Int32)) fun S24 =>
    b_X9_init_113 x m_fu S24 (0 : Int32) (0 : Int64) (0 : Int32)
set_option maxHeartbeats 4000000 in
set_option maxRecDepth 100000 in
theorem c_X9_init {l : Launch} {G : m_G} {κ : Nat → Nat} {x q v : Nat} {S S' : m_M} (hT : m_Str κ) (hk1 : κ (x + 2) = m_ac 7 (100 * 9)) (hm : f_X9_init x S = some S') : m_KT l yX9_init cX9_init 6 rm_X9_init G (x + 2) (m_lay 10) (x + 3) κ q v [.ref (x + 2), .ref (x + 1)] S S' 4 2725 := by
  refine m_KT.of (by decide) rfl (Nat.le_of_ble_eq_true rfl) ?_
  intro p e s m args below meth c ls X hN hXs hZ hin hr hH hl
  have hx := X.1.1
  have hb := X.1.2.1
  have hS : m_S G s s.heap [] := va_S.rf
  have hl : lv_has ls 6 [(0, .ref (x + 2)), (1, .ref (x + 1))] := hl
  have hg : m_seg κ (x + 2) [7307] := m_seg.one hk1
  have hq : ∀ q, q < (x + 2) → κ q = κ q := fun _ _ => rfl
  rw [f_X9_init] at hm
  refine lv_aload_n hx hb dX9_init_0 rfl (lv_at hl 0 rfl) ?_
  refine W.objInit hx hb X.1.2.2.2.1 (m_w X in_1_39) (m_w X in_1_32) (m_w X in_1_33) rfl (by rw [X.1.2.2.1]; exact hl.1) rfl dX9_init_1 (Nat.le_of_ble_eq_true rfl) (Nat.le_of_ble_eq_true rfl) ?_
  refine W.eq (g2 := F0 m 4 ls []) rfl ?_
  refine lv_aload_n hx hb dX9_init_4 rfl (lv_at hl 0 rfl) ?_
  refine lv_bipush (v := (22 : Int32)) hx hb dX9_init_5 (by decide) ?_
  obtain ⟨S1, e_S1, hm⟩ := m_let_of hm
  refine n_newa X hH hS hT (ty := .long) (N := 22) rfl in_1_158 2 rfl (by decide) rfl m_RAl (by decide) (by decide) (by decide) e_S1 (nx' := (x + 4)) rfl (Nat.le_of_ble_eq_true rfl) (Nat.le_of_ble_eq_true rfl) dX9_init_7 (fun H κ2 hq1 hk1 hT hH hS => ?_)
  have hg : m_seg κ2 (x + 2) [7307, 278] := hg.grow rfl hq1 hk1
  have hq := m_lt_nx hq (by omega) hq1
  refine n_puwr X hin hH hS hT (k := 9) (i := 0) (a := (x + 2)) (b := (x + 3)) (j := 1) (A := 1) (B := 0) tyX9 (hg 0 _ rfl) (by decide) (by decide) rfl m_wi9 tyX9_ok nmX9 (by decide) in_1_95 rfl rfl rfl rfl rfl (by first | rfl | omega) ⟨rfl, rfl⟩ dX9_init_9 (fun H locs κ3 hq1 hk1 hT hH hS => ?_)
  have hg : m_seg κ3 (x + 2) [7315, 278] := hg.swap hq1 hk1
  have hq := m_lt_ne hq hq1
  refine lv_aload_n hx hb dX9_init_12 rfl (lv_at hl 0 rfl) ?_
  refine lv_sipush (v := (901 : Int32)) hx hb dX9_init_13 (by decide) ?_
  obtain ⟨S4, e_S4, hm⟩ := m_let_of hm
  refine n_newa X hH hS hT (ty := .int) (N := 901) rfl in_1_159 1 rfl (by decide) rfl m_RAi (by decide) (by decide) (by decide) e_S4 (nx' := (x + 5)) rfl (Nat.le_of_ble_eq_true rfl) (Nat.le_of_ble_eq_true rfl) dX9_init_16 (fun H κ5 hq1 hk1 hT hH hS => ?_)
  have hg : m_seg κ5 (x + 2) [7315, 278, 7309] := hg.grow rfl hq1 hk1
  have hq := m_lt_nx hq (by omega) hq1
  refine n_puwr X hin hH hS hT (k := 9) (i := 1) (a := (x + 2)) (b := (x + 4)) (j := 2) (A := 2) (B := 0) tyX9 (hg 0 _ rfl) (by decide) (by decide) rfl m_wi9 tyX9_ok nmX9 (by decide) in_1_96 rfl rfl rfl rfl rfl (by first | rfl | omega) ⟨rfl, rfl⟩ dX9_init_18 (fun H locs κ6 hq1 hk1 hT hH hS => ?_)
  have hg : m_seg κ6 (x + 2) [7323, 278, 7309] := hg.swap hq1 hk1
  have hq := m_lt_ne hq hq1
  refine lv_aload_n hx hb dX9_init_21 rfl (lv_at hl 0 rfl) ?_
  refine lv_sipush (v := (901 : Int32)) hx hb dX9_init_22 (by decide) ?_
  obtain ⟨S7, e_S7, hm⟩ := m_let_of hm
  refine n_newa X hH hS hT (ty := .int) (N := 901) rfl in_1_159 1 rfl (by decide) rfl m_RAi (by decide) (by decide) (by decide) e_S7 (nx' := (x + 6)) rfl (Nat.le_of_ble_eq_true rfl) (Nat.le_of_ble_eq_true rfl) dX9_init_25 (fun H κ8 hq1 hk1 hT hH hS => ?_)
  have hg : m_seg κ8 (x + 2) [7323, 278, 7309, 7309] := hg.grow rfl hq1 hk1
  have hq := m_lt_nx hq (by omega) hq1
  refine n_puwr X hin hH hS hT (k := 9) (i := 2) (a := (x + 2)) (b := (x + 5)) (j := 3) (A := 3) (B := 0) tyX9 (hg 0 _ rfl) (by decide) (by decide) rfl m_wi9 tyX9_ok nmX9 (by decide) in_1_97 rfl rfl rfl rfl rfl (by first | rfl | omega) ⟨rfl, rfl⟩ dX9_init_27 (fun H locs κ9 hq1 hk1 hT hH hS => ?_)
  have hg : m_seg κ9 (x + 2) [7331, 278, 7309, 7309] := hg.swap hq1 hk1
  have hq := m_lt_ne hq hq1
  refine lv_aload_n hx hb dX9_init_30 rfl (lv_at hl 0 rfl) ?_
  refine lv_sipush (v := (901 : Int32)) hx hb dX9_init_31 (by decide) ?_
  obtain ⟨S10, e_S10, hm⟩ := m_let_of hm
  refine n_newa X hH hS hT (ty := .long) (N := 901) rfl in_1_158 2 rfl (by decide) rfl m_RAl (by decide) (by decide) (by decide) e_S10 (nx' := (x + 7)) rfl (Nat.le_of_ble_eq_true rfl) (Nat.le_of_ble_eq_true rfl) dX9_init_34 (fun H κ11 hq1 hk1 hT hH hS => ?_)
  have hg : m_seg κ11 (x + 2) [7331, 278, 7309, 7309, 7310] := hg.grow rfl hq1 hk1
  have hq := m_lt_nx hq (by omega) hq1
  refine n_puwr X hin hH hS hT (k := 9) (i := 3) (a := (x + 2)) (b := (x + 6)) (j := 4) (A := 4) (B := 0) tyX9 (hg 0 _ rfl) (by decide) (by decide) rfl m_wi9 tyX9_ok nmX9 (by decide) in_1_98 rfl rfl rfl rfl rfl (by first | rfl | omega) ⟨rfl, rfl⟩ dX9_init_36 (fun H locs κ12 hq1 hk1 hT hH hS => ?_)
  have hg : m_seg κ12 (x + 2) [7339, 278, 7309, 7309, 7310] := hg.swap hq1 hk1
  have hq := m_lt_ne hq hq1
  refine lv_aload_n hx hb dX9_init_39 rfl (lv_at hl 0 rfl) ?_
  refine lv_iconst (v := (0 : Int32)) hx hb dX9_init_40 (by decide) ?_
  obtain ⟨S13, e_S13, hm⟩ := m_let_of hm
  refine n_puwi X hH hS tyX9 (k := 9) (i := 4) (a := (x + 2)) (j := 5) (hg 0 _ rfl) (by decide) (by decide) rfl m_wi9 tyX9_ok nmX9 (by decide) in_1_99 rfl rfl rfl ⟨rfl, rfl⟩ e_S13 dX9_init_41 (fun H locs hH hS => ?_)
  refine lv_aload_n hx hb dX9_init_44 rfl (lv_at hl 0 rfl) ?_
  refine lv_iconst (v := (0 : Int32)) hx hb dX9_init_45 (by decide) ?_
  obtain ⟨S14, e_S14, hm⟩ := m_let_of hm
  refine n_puwi X hH hS tyX9 (k := 9) (i := 4) (a := (x + 2)) (j := 6) (hg 0 _ rfl) (by decide) (by decide) rfl m_wi9 tyX9_ok nmX9 (by decide) in_1_100 rfl rfl rfl ⟨rfl, rfl⟩ e_S14 dX9_init_46 (fun H locs hH hS => ?_)
  refine lv_aload_n hx hb dX9_init_49 rfl (lv_at hl 0 rfl) ?_
  refine lv_iconst (v := (0 : Int32)) hx hb dX9_init_50 (by decide) ?_
  obtain ⟨S15, e_S15, hm⟩ := m_let_of hm
  refine n_puwi X hH hS tyX9 (k := 9) (i := 4) (a := (x + 2)) (j := 7) (hg 0 _ rfl) (by decide) (by decide) rfl m_wi9 tyX9_ok nmX9 (by decide) in_1_101 rfl rfl rfl ⟨rfl, rfl⟩ e_S15 dX9_init_51 (fun H locs hH hS => ?_)
  refine lv_aload_n hx hb dX9_init_54 rfl (lv_at hl 0 rfl) ?_
  refine lv_iconst (v := (-1 : Int32)) hx hb dX9_init_55 (by decide) ?_
  obtain ⟨S16, e_S16, hm⟩ := m_let_of hm
  refine n_puwi X hH hS tyX9 (k := 9) (i := 4) (a := (x + 2)) (j := 8) (hg 0 _ rfl) (by decide) (by decide) rfl m_wi9 tyX9_ok nmX9 (by decide) in_1_102 rfl rfl rfl ⟨rfl, rfl⟩ e_S16 dX9_init_56 (fun H locs hH hS => ?_)
  refine lv_aload_n hx hb dX9_init_59 rfl (lv_at hl 0 rfl) ?_
  refine lv_iconst (v := (0 : Int32)) hx hb dX9_init_60 (by decide) ?_
  obtain ⟨S17, e_S17, hm⟩ := m_let_of hm
  refine n_puwi X hH hS tyX9 (k := 9) (i := 4) (a := (x + 2)) (j := 9) (hg 0 _ rfl) (by decide) (by decide) rfl m_wi9 tyX9_ok nmX9 (by decide) in_1_103 rfl rfl rfl ⟨rfl, rfl⟩ e_S17 dX9_init_61 (fun H locs hH hS => ?_)
  refine lv_aload_n hx hb dX9_init_64 rfl (lv_at hl 0 rfl) ?_
  refine lv_iconst (v := (0 : Int32)) hx hb dX9_init_65 (by decide) ?_
  obtain ⟨S18, e_S18, hm⟩ := m_let_of hm
  refine n_puwi X hH hS tyX9 (k := 9) (i := 4) (a := (x + 2)) (j := 10) (hg 0 _ rfl) (by decide) (by decide) rfl m_wi9 tyX9_ok nmX9 (by decide) in_1_106 rfl rfl rfl ⟨rfl, rfl⟩ e_S18 dX9_init_66 (fun H locs hH hS => ?_)
  refine lv_aload_n hx hb dX9_init_69 rfl (lv_at hl 0 rfl) ?_
  refine lv_iconst (v := (-1 : Int32)) hx hb dX9_init_70 (by decide) ?_
  obtain ⟨S19, e_S19, hm⟩ := m_let_of hm
  refine n_puwi X hH hS tyX9 (k := 9) (i := 4) (a := (x + 2)) (j := 11) (hg 0 _ rfl) (by decide) (by decide) rfl m_wi9 tyX9_ok nmX9 (by decide) in_1_107 rfl rfl rfl ⟨rfl, rfl⟩ e_S19 dX9_init_71 (fun H locs hH hS => ?_)
  refine lv_aload_n hx hb dX9_init_74 rfl (lv_at hl 0 rfl) ?_
  refine lv_iconst (v := (-1 : Int32)) hx hb dX9_init_75 (by decide) ?_
  obtain ⟨S20, e_S20, hm⟩ := m_let_of hm
  refine n_puwi X hH hS tyX9 (k := 9) (i := 4) (a := (x + 2)) (j := 12) (hg 0 _ rfl) (by decide) (by decide) rfl m_wi9 tyX9_ok nmX9 (by decide) in_1_110 rfl rfl rfl ⟨rfl, rfl⟩ e_S20 dX9_init_76 (fun H locs hH hS => ?_)
  refine lv_aload_n hx hb dX9_init_79 rfl (lv_at hl 0 rfl) ?_
  refine lv_iconst (v := (-1 : Int32)) hx hb dX9_init_80 (by decide) ?_
  obtain ⟨S21, e_S21, hm⟩ := m_let_of hm
  refine n_puwi X hH hS tyX9 (k := 9) (i := 4) (a := (x + 2)) (j := 13) (hg 0 _ rfl) (by decide) (by decide) rfl m_wi9 tyX9_ok nmX9 (by decide) in_1_113 rfl rfl rfl ⟨rfl, rfl⟩ e_S21 dX9_init_81 (fun H locs hH hS => ?_)
  refine lv_aload_n hx hb dX9_init_84 rfl (lv_at hl 0 rfl) ?_
  refine lv_ldc2 hx hb X.1.2.2.2.1 (m_w X in_1_40) dX9_init_85 ?_
  obtain ⟨S22, e_S22, hm⟩ := m_let_of hm
  refine n_puwj X hH hS tyX9 (k := 9) (i := 4) (a := (x + 2)) (j := 14) (hg 0 _ rfl) (by decide) (by decide) rfl m_wi9 tyX9_ok nmX9 (by decide) in_1_115 rfl rfl rfl ⟨rfl, rfl⟩ e_S22 dX9_init_88 (fun H locs hH hS => ?_)
  refine lv_aload_n hx hb dX9_init_91 rfl (lv_at hl 0 rfl) ?_
  refine lv_iconst (v := (0 : Int32)) hx hb dX9_init_92 (by decide) ?_
  obtain ⟨S23, e_S23, hm⟩ := m_let_of hm
  refine n_puwi X hH hS tyX9 (k := 9) (i := 4) (a := (x + 2)) (j := 15) (hg 0 _ rfl) (by decide) (by decide) rfl m_wi9 tyX9_ok nmX9 (by decide) in_1_118 rfl rfl rfl ⟨rfl, rfl⟩ e_S23 dX9_init_93 (fun H locs hH hS => ?_)
  refine lv_aload_n hx hb dX9_init_96 rfl (lv_at hl 0 rfl) ?_
  refine lv_iconst (v := (0 : Int32)) hx hb dX9_init_97 (by decide) ?_
  obtain ⟨S24, e_S24, hm⟩ := m_let_of hm
  refine n_puwi X hH hS tyX9 (k := 9) (i := 4) (a := (x + 2)) (j := 16) (hg 0 _ rfl) (by decide) (by decide) rfl m_wi9 tyX9_ok nmX9 (by decide) in_1_120 rfl rfl rfl ⟨rfl, rfl⟩ e_S24 dX9_init_98 (fun H locs hH hS => ?_)
  refine lv_aload_n hx hb dX9_init_101 rfl (lv_at hl 0 rfl) ?_
  refine lv_aload_n hx hb dX9_init_102 rfl (lv_at hl 1 rfl) ?_
  refine n_puwr X hin hH hS hT (k := 9) (i := 4) (a := (x + 2)) (b := (x + 1)) (j := 0) (A := 0) (B := 1) tyX9 (hg 0 _ rfl) (by decide) (by decide) rfl m_wi9 tyX9_ok nmX9 (by decide) in_1_94 rfl rfl rfl rfl rfl (by first | rfl | omega) ⟨rfl, rfl⟩ dX9_init_103 (fun H locs κ25 hq1 hk1 hT hH hS => ?_)
  have hg : m_seg κ25 (x + 2) [7347, 278, 7309, 7309, 7310] := hg.swap hq1 hk1
  have hq := m_lt_ne hq hq1
  obtain ⟨κ26, hq1, hk_s, hg, hT, hH⟩ := m_seal (k := 9) (i := 5) hH hT hg (by decide) (by decide) rfl rfl (by decide)
  have hq := m_lt_ne hq hq1
  refine lv_iconst (v := (0 : Int32)) hx hb dX9_init_106 (by decide) ?_
  refine lv_istore_n (lv' := [(2, .int (0 : Int32)), (0, .ref (x + 2)), (1, .ref (x + 1))]) hx hb dX9_init_107 rfl hl (by decide) rfl (fun ls hl => ?_)
  refine lv_lconst (v := (0 : Int64)) hx hb dX9_init_108 (by decide) ?_
  refine lv_lstore_n (lv' := [(3, .long (0 : Int64)), (2, .int (0 : Int32)), (0, .ref (x + 2)), (1, .ref (x + 1))]) hx hb dX9_init_109 rfl hl (by decide) rfl (fun ls hl => ?_)
  refine lv_iconst (v := (0 : Int32)) hx hb dX9_init_110 (by decide) ?_
  refine lv_istore (lv' := [(5, .int (0 : Int32)), (3, .long (0 : Int64)), (2, .int (0 : Int32)), (0, .ref (x + 2)), (1, .ref (x + 1))]) hx hb dX9_init_111 hl (by decide) rfl (fun ls hl => ?_)
  exact k_X9_init_113 X hN hXs hZ hr hT hk_s hq hg m_fu _ _ _ _ _ _ _ hH hS (lv_sub hl [3, 2, 1, 0] rfl) hm
def rm_X11_init : Room := { frames := 7, cells := 94, slots := 11135, locals := 245 }
def f_X11_init (a : Nat) (S : m_M) : Option m_M :=
    m_let (m_new S (a + 1)) fun S1 =>
    m_let (m_si S1 a 1 (0 : Int32)) fun S4 =>
    m_let (m_new S4 (a + 2)) fun S5 =>
    m_cal0 (f_X9_init a S5) fun S7 =>
    m_let (m_new S7 (a + 7)) fun S10 =>
    m_cal0 (f_X4_init a S10) fun S12 =>
    m_let (m_new S12 (a + 31)) fun S15 =>
    m_cal0 (f_X8_init a S15) fun S17 =>
    m_let (m_new S17 (a + 37)) fun S20 =>
    m_cal0 (f_X5_init (a + 37) S20) fun S22 =>
    m_let (m_si S22 a 6 (0 : Int32)) fun S25 =>
    m_let (m_new S25 (a + 42)) fun S26 =>
    m_cal0 (f_X10_init (a + 42) S26) fun S28 =>
    m_let (m_new S28 (a + 79)) fun S31 =>
    m_cal0 (f_X2_init (a + 79) S31) fun S33 =>
    m_let (m_new S33 (a + 88)) fun S36 =>
    m_cal0 (f_X1_init (a + 88) S36) fun S38 =>
    m_let (m_new S38 (a + 91)) fun S41 =>
    m_cal0 (f_X0_init (a + 91) S41) fun S43 =>
    m_let (m_new S43 (a + 93)) fun S46 =>
    m_let (m_new S46 (a + 94)) fun S49 =>
    m_let (m_si S49 a 13 (0 : Int32)) fun S53 =>
    some S53
set_option maxHeartbeats 4000000 in
set_option maxRecDepth 100000 in
theorem c_X11_init {l : Launch} {G : m_G} {κ : Nat → Nat} {a q v : Nat} {S S' : m_M} (hT : m_Str κ) (hk1 : κ a = m_ac 7 (100 * 11)) (hm : f_X11_init a S = some S') : m_KT l yX11_init cX11_init 1 rm_X11_init G a (m_lay 12) (a + 1) κ q v [.ref a] S S' 94 11135 := by
  refine m_KT.of (by decide) rfl (Nat.le_of_ble_eq_true rfl) ?_
  intro p e s m args below meth c ls X hN hXs hZ hin hr hH hl
  have hx := X.1.1
  have hb := X.1.2.1
  have hS : m_S G s s.heap [] := va_S.rf
  have hl : lv_has ls 1 [(0, .ref a)] := hl
  have hg : m_seg κ a [8907] := m_seg.one hk1
  have hq : ∀ q, q < a → κ q = κ q := fun _ _ => rfl
  rw [f_X11_init] at hm
  refine lv_aload_n hx hb dX11_init_0 rfl (lv_at hl 0 rfl) ?_
  refine W.objInit hx hb X.1.2.2.2.1 (m_w X in_1_31) (m_w X in_1_32) (m_w X in_1_33) rfl (by rw [X.1.2.2.1]; exact hl.1) rfl dX11_init_1 (Nat.le_of_ble_eq_true rfl) (Nat.le_of_ble_eq_true rfl) ?_
  refine W.eq (g2 := F0 m 4 ls []) rfl ?_
  refine lv_aload_n hx hb dX11_init_4 rfl (lv_at hl 0 rfl) ?_
  refine lv_sipush (v := (940 : Int32)) hx hb dX11_init_5 (by decide) ?_
  obtain ⟨S1, e_S1, hm⟩ := m_let_of hm
  refine n_newa X hH hS hT (ty := .byte) (N := 940) rfl in_1_157 0 rfl (by decide) rfl m_RAb (by decide) (by decide) (by decide) e_S1 (nx' := (a + 2)) rfl (Nat.le_of_ble_eq_true rfl) (Nat.le_of_ble_eq_true rfl) dX11_init_8 (fun H κ2 hq1 hk1 hT hH hS => ?_)
  have hg : m_seg κ2 a [8907, 7620] := hg.grow rfl hq1 hk1
  have hq := m_lt_nx hq (by omega) hq1
  refine n_puwr X hin hH hS hT (k := 11) (i := 0) (a := a) (b := (a + 1)) (j := 0) (A := 1) (B := 0) tyX11 (hg 0 _ rfl) (by decide) (by decide) rfl m_wi11 tyX11_ok nmX11 (by decide) in_3_66 rfl rfl rfl rfl rfl (by first | rfl | omega) ⟨rfl, rfl⟩ dX11_init_10 (fun H locs κ3 hq1 hk1 hT hH hS => ?_)
  have hg : m_seg κ3 a [8915, 7620] := hg.swap hq1 hk1
  have hq := m_lt_ne hq hq1
  refine lv_aload_n hx hb dX11_init_13 rfl (lv_at hl 0 rfl) ?_
  refine lv_iconst (v := (0 : Int32)) hx hb dX11_init_14 (by decide) ?_
  obtain ⟨S4, e_S4, hm⟩ := m_let_of hm
  refine n_puwi X hH hS tyX11 (k := 11) (i := 1) (a := a) (j := 1) (hg 0 _ rfl) (by decide) (by decide) rfl m_wi11 tyX11_ok nmX11 (by decide) in_3_67 rfl rfl rfl ⟨rfl, rfl⟩ e_S4 dX11_init_15 (fun H locs hH hS => ?_)
  refine lv_aload_n hx hb dX11_init_18 rfl (lv_at hl 0 rfl) ?_
  obtain ⟨S5, e_S5, hm⟩ := m_let_of hm
  refine n_new X hH hS hT (k := 9) tyX9 (by decide) rfl m_wi9 tyX9_ok in_1_34 in_1_35 in_1_2 m_df9 e_S5 (nx' := (a + 3)) rfl (Nat.le_of_ble_eq_true rfl) (Nat.le_of_ble_eq_true rfl) dX11_init_19 (fun H κ6 hq1 hk1 hT hH hS => ?_)
  have hgk : m_seg κ6 a [8915, 7620] := hg.kept (fun q h => hq1 q (by simpa using h))
  have hg := hgk
  have hq := m_lt_nx hq (by omega) hq1
  refine lv_dup hx hb dX11_init_22 rfl ?_
  refine lv_aload_n hx hb dX11_init_23 rfl (lv_at hl 0 rfl) ?_
  refine r_getw X hH (k := 11) (i := 1) (a := a) (j := 0) (b := (a + 1)) (A := 1) (B := 0) (hg 0 _ rfl) (by decide) (by decide) rfl m_wi11 (by decide) in_3_66 rfl rfl (by decide) (by first | rfl | omega) dX11_init_24 ?_
  obtain ⟨S7, e_S7, hm⟩ := m_cal0_of hm
  refine n_cIT X hN hXs hZ hH hS (c_X9_init (x := a) hT hk1 e_S7) mw_X9_init in_1_37 rfl in_1_36 rfl ⟨rfl, rfl⟩ ⟨Nat.le_of_ble_eq_true rfl, Nat.le_of_ble_eq_true rfl⟩ ⟨Nat.le_of_ble_eq_true rfl, Nat.le_of_ble_eq_true rfl⟩ hl.1 (Nat.le_of_ble_eq_true rfl) dX11_init_27 (fun H locs κ8 hq1 hg1 hT hH hS => ?_)
  have hg : m_seg κ8 a [8915, 7620, 10, 278, 7309, 7309, 7310] := hg.growS rfl hq1 hg1
  have hq := m_lt_nx hq (by omega) hq1
  have hH : m_H G (a + 7) κ8 S7 H := hH
  refine n_puwr X hin hH hS hT (k := 11) (i := 1) (a := a) (b := (a + 2)) (j := 2) (A := 2) (B := 0) tyX11 (hg 0 _ rfl) (by decide) (by decide) rfl m_wi11 tyX11_ok nmX11 (by decide) in_3_68 rfl rfl rfl rfl rfl (by first | rfl | omega) ⟨rfl, rfl⟩ dX11_init_30 (fun H locs κ9 hq1 hk1 hT hH hS => ?_)
  have hg : m_seg κ9 a [8923, 7620, 10, 278, 7309, 7309, 7310] := hg.swap hq1 hk1
  have hq := m_lt_ne hq hq1
  refine lv_aload_n hx hb dX11_init_33 rfl (lv_at hl 0 rfl) ?_
  obtain ⟨S10, e_S10, hm⟩ := m_let_of hm
  refine n_new X hH hS hT (k := 4) tyX4 (by decide) rfl m_wi4 tyX4_ok in_1_160 in_1_161 in_1_7 m_df4 e_S10 (nx' := (a + 8)) rfl (Nat.le_of_ble_eq_true rfl) (Nat.le_of_ble_eq_true rfl) dX11_init_34 (fun H κ11 hq1 hk1 hT hH hS => ?_)
  have hgk : m_seg κ11 a [8923, 7620, 10, 278, 7309, 7309, 7310] := hg.kept (fun q h => hq1 q (by simpa using h))
  have hg := hgk
  have hq := m_lt_nx hq (by omega) hq1
  refine lv_dup hx hb dX11_init_37 rfl ?_
  refine lv_aload_n hx hb dX11_init_38 rfl (lv_at hl 0 rfl) ?_
  refine r_getw X hH (k := 11) (i := 2) (a := a) (j := 2) (b := (a + 2)) (A := 2) (B := 0) (hg 0 _ rfl) (by decide) (by decide) rfl m_wi11 (by decide) in_3_68 rfl rfl (by decide) (by first | rfl | omega) dX11_init_39 ?_
  obtain ⟨S12, e_S12, hm⟩ := m_cal0_of hm
  refine n_cI X hN hH hS (c_X4_init (x := a) hT hk1 e_S12) mw_X4_init in_1_163 rfl in_1_162 rfl ⟨rfl, rfl⟩ ⟨Nat.le_of_ble_eq_true rfl, Nat.le_of_ble_eq_true rfl⟩ ⟨Nat.le_of_ble_eq_true rfl, Nat.le_of_ble_eq_true rfl⟩ hl.1 (Nat.le_of_ble_eq_true rfl) dX11_init_42 (fun H locs κ13 hq1 hg1 hT hH hS => ?_)
  have hg : m_seg κ13 a [8923, 7620, 10, 278, 7309, 7309, 7310, 5, 4, 142, 141, 141, 141, 293, 293, 1061, 7, 1181, 1181, 293, 293, 293, 293, 293, 141, 141, 1061, 1061, 293, 293, 318] := hg.growS rfl hq1 hg1
  have hq := m_lt_nx hq (by omega) hq1
  have hH : m_H G (a + 31) κ13 S12 H := hH
  refine n_puwr X hin hH hS hT (k := 11) (i := 2) (a := a) (b := (a + 7)) (j := 3) (A := 7) (B := 0) tyX11 (hg 0 _ rfl) (by decide) (by decide) rfl m_wi11 tyX11_ok nmX11 (by decide) in_3_69 rfl rfl rfl rfl rfl (by first | rfl | omega) ⟨rfl, rfl⟩ dX11_init_45 (fun H locs κ14 hq1 hk1 hT hH hS => ?_)
  have hg : m_seg κ14 a [8931, 7620, 10, 278, 7309, 7309, 7310, 5, 4, 142, 141, 141, 141, 293, 293, 1061, 7, 1181, 1181, 293, 293, 293, 293, 293, 141, 141, 1061, 1061, 293, 293, 318] := hg.swap hq1 hk1
  have hq := m_lt_ne hq hq1
  refine lv_aload_n hx hb dX11_init_48 rfl (lv_at hl 0 rfl) ?_
  obtain ⟨S15, e_S15, hm⟩ := m_let_of hm
  refine n_new X hH hS hT (k := 8) tyX8 (by decide) rfl m_wi8 tyX8_ok in_2_83 in_2_84 in_1_10 m_df8 e_S15 (nx' := (a + 32)) rfl (Nat.le_of_ble_eq_true rfl) (Nat.le_of_ble_eq_true rfl) dX11_init_49 (fun H κ16 hq1 hk1 hT hH hS => ?_)
  have hgk : m_seg κ16 a [8931, 7620, 10, 278, 7309, 7309, 7310, 5, 4, 142, 141, 141, 141, 293, 293, 1061, 7, 1181, 1181, 293, 293, 293, 293, 293, 141, 141, 1061, 1061, 293, 293, 318] := hg.kept (fun q h => hq1 q (by simpa using h))
  have hg := hgk
  have hq := m_lt_nx hq (by omega) hq1
  refine lv_dup hx hb dX11_init_52 rfl ?_
  refine lv_aload_n hx hb dX11_init_53 rfl (lv_at hl 0 rfl) ?_
  refine r_getw X hH (k := 11) (i := 3) (a := a) (j := 2) (b := (a + 2)) (A := 2) (B := 0) (hg 0 _ rfl) (by decide) (by decide) rfl m_wi11 (by decide) in_3_68 rfl rfl (by decide) (by first | rfl | omega) dX11_init_54 ?_
  obtain ⟨S17, e_S17, hm⟩ := m_cal0_of hm
  refine n_cI X hN hH hS (c_X8_init (x := a) hT hk1 e_S17) mw_X8_init in_2_86 rfl in_2_85 rfl ⟨rfl, rfl⟩ ⟨Nat.le_of_ble_eq_true rfl, Nat.le_of_ble_eq_true rfl⟩ ⟨Nat.le_of_ble_eq_true rfl, Nat.le_of_ble_eq_true rfl⟩ hl.1 (Nat.le_of_ble_eq_true rfl) dX11_init_57 (fun H locs κ18 hq1 hg1 hT hH hS => ?_)
  have hg : m_seg κ18 a [8931, 7620, 10, 278, 7309, 7309, 7310, 5, 4, 142, 141, 141, 141, 293, 293, 1061, 7, 1181, 1181, 293, 293, 293, 293, 293, 141, 141, 1061, 1061, 293, 293, 318, 9, 8, 421, 421, 421, 423] := hg.growS rfl hq1 hg1
  have hq := m_lt_nx hq (by omega) hq1
  have hH : m_H G (a + 37) κ18 S17 H := hH
  refine n_puwr X hin hH hS hT (k := 11) (i := 3) (a := a) (b := (a + 31)) (j := 4) (A := 31) (B := 0) tyX11 (hg 0 _ rfl) (by decide) (by decide) rfl m_wi11 tyX11_ok nmX11 (by decide) in_3_70 rfl rfl rfl rfl rfl (by first | rfl | omega) ⟨rfl, rfl⟩ dX11_init_60 (fun H locs κ19 hq1 hk1 hT hH hS => ?_)
  have hg : m_seg κ19 a [8939, 7620, 10, 278, 7309, 7309, 7310, 5, 4, 142, 141, 141, 141, 293, 293, 1061, 7, 1181, 1181, 293, 293, 293, 293, 293, 141, 141, 1061, 1061, 293, 293, 318, 9, 8, 421, 421, 421, 423] := hg.swap hq1 hk1
  have hq := m_lt_ne hq hq1
  refine lv_aload_n hx hb dX11_init_63 rfl (lv_at hl 0 rfl) ?_
  obtain ⟨S20, e_S20, hm⟩ := m_let_of hm
  refine n_new X hH hS hT (k := 5) tyX5 (by decide) rfl m_wi5 tyX5_ok in_2_130 in_2_131 in_1_12 m_df5 e_S20 (nx' := (a + 38)) rfl (Nat.le_of_ble_eq_true rfl) (Nat.le_of_ble_eq_true rfl) dX11_init_64 (fun H κ21 hq1 hk1 hT hH hS => ?_)
  have hgk : m_seg κ21 a [8939, 7620, 10, 278, 7309, 7309, 7310, 5, 4, 142, 141, 141, 141, 293, 293, 1061, 7, 1181, 1181, 293, 293, 293, 293, 293, 141, 141, 1061, 1061, 293, 293, 318, 9, 8, 421, 421, 421, 423] := hg.kept (fun q h => hq1 q (by simpa using h))
  have hg := hgk
  have hq := m_lt_nx hq (by omega) hq1
  refine lv_dup hx hb dX11_init_67 rfl ?_
  obtain ⟨S22, e_S22, hm⟩ := m_cal0_of hm
  refine n_cIN (host := "RegionRooms") X hN hH hS (c_X5_init (a := (a + 37)) hT hk1 e_S22) mw_X5_init in_2_133 rfl (by decide +kernel) rfl ⟨rfl, rfl⟩ ⟨Nat.le_of_ble_eq_true rfl, Nat.le_of_ble_eq_true rfl⟩ ⟨Nat.le_of_ble_eq_true rfl, Nat.le_of_ble_eq_true rfl⟩ hl.1 (Nat.le_of_ble_eq_true rfl) dX11_init_68 (fun H locs κ23 hq1 hg1 hT hH hS => ?_)
  have hg : m_seg κ23 a [8939, 7620, 10, 278, 7309, 7309, 7310, 5, 4, 142, 141, 141, 141, 293, 293, 1061, 7, 1181, 1181, 293, 293, 293, 293, 293, 141, 141, 1061, 1061, 293, 293, 318, 9, 8, 421, 421, 421, 423, 6, 1565, 1565, 1565, 1565] := hg.growS rfl hq1 hg1
  have hq := m_lt_nx hq (by omega) hq1
  have hH : m_H G (a + 42) κ23 S22 H := hH
  refine n_puwr X hin hH hS hT (k := 11) (i := 4) (a := a) (b := (a + 37)) (j := 5) (A := 37) (B := 0) tyX11 (hg 0 _ rfl) (by decide) (by decide) rfl m_wi11 tyX11_ok nmX11 (by decide) in_3_71 rfl rfl rfl rfl rfl (by first | rfl | omega) ⟨rfl, rfl⟩ dX11_init_71 (fun H locs κ24 hq1 hk1 hT hH hS => ?_)
  have hg : m_seg κ24 a [8947, 7620, 10, 278, 7309, 7309, 7310, 5, 4, 142, 141, 141, 141, 293, 293, 1061, 7, 1181, 1181, 293, 293, 293, 293, 293, 141, 141, 1061, 1061, 293, 293, 318, 9, 8, 421, 421, 421, 423, 6, 1565, 1565, 1565, 1565] := hg.swap hq1 hk1
  have hq := m_lt_ne hq hq1
  refine lv_aload_n hx hb dX11_init_74 rfl (lv_at hl 0 rfl) ?_
  refine lv_iconst (v := (0 : Int32)) hx hb dX11_init_75 (by decide) ?_
  obtain ⟨S25, e_S25, hm⟩ := m_let_of hm
  refine n_puwi X hH hS tyX11 (k := 11) (i := 5) (a := a) (j := 6) (hg 0 _ rfl) (by decide) (by decide) rfl m_wi11 tyX11_ok nmX11 (by decide) in_3_72 rfl rfl rfl ⟨rfl, rfl⟩ e_S25 dX11_init_76 (fun H locs hH hS => ?_)
  refine lv_aload_n hx hb dX11_init_79 rfl (lv_at hl 0 rfl) ?_
  obtain ⟨S26, e_S26, hm⟩ := m_let_of hm
  refine n_new X hH hS hT (k := 10) tyX10 (by decide) rfl m_wi10 tyX10_ok in_2_152 in_2_153 in_1_13 m_df10 e_S26 (nx' := (a + 43)) rfl (Nat.le_of_ble_eq_true rfl) (Nat.le_of_ble_eq_true rfl) dX11_init_80 (fun H κ27 hq1 hk1 hT hH hS => ?_)
  have hgk : m_seg κ27 a [8947, 7620, 10, 278, 7309, 7309, 7310, 5, 4, 142, 141, 141, 141, 293, 293, 1061, 7, 1181, 1181, 293, 293, 293, 293, 293, 141, 141, 1061, 1061, 293, 293, 318, 9, 8, 421, 421, 421, 423, 6, 1565, 1565, 1565, 1565] := hg.kept (fun q h => hq1 q (by simpa using h))
  have hg := hgk
  have hq := m_lt_nx hq (by omega) hq1
  refine lv_dup hx hb dX11_init_83 rfl ?_
  obtain ⟨S28, e_S28, hm⟩ := m_cal0_of hm
  refine n_cIN (host := "RegionRooms") X hN hH hS (c_X10_init (a := (a + 42)) hT hk1 e_S28) mw_X10_init in_2_155 rfl (by decide +kernel) rfl ⟨rfl, rfl⟩ ⟨Nat.le_of_ble_eq_true rfl, Nat.le_of_ble_eq_true rfl⟩ ⟨Nat.le_of_ble_eq_true rfl, Nat.le_of_ble_eq_true rfl⟩ hl.1 (Nat.le_of_ble_eq_true rfl) dX11_init_84 (fun H locs κ29 hq1 hg1 hT hH hS => ?_)
  have hg : m_seg κ29 a [8947, 7620, 10, 278, 7309, 7309, 7310, 5, 4, 142, 141, 141, 141, 293, 293, 1061, 7, 1181, 1181, 293, 293, 293, 293, 293, 141, 141, 1061, 1061, 293, 293, 318, 9, 8, 421, 421, 421, 423, 6, 1565, 1565, 1565, 1565, 11, 4, 142, 141, 141, 141, 293, 293, 1061, 7, 1181, 1181, 293, 293, 293, 293, 293, 141, 141, 1061, 1061, 293, 293, 3, 205, 205, 2909, 2909, 2597, 1701, 3301, 3301, 8, 421, 421, 421, 423] := hg.growS rfl hq1 hg1
  have hq := m_lt_nx hq (by omega) hq1
  have hH : m_H G (a + 79) κ29 S28 H := hH
  refine n_puwr X hin hH hS hT (k := 11) (i := 5) (a := a) (b := (a + 42)) (j := 7) (A := 42) (B := 0) tyX11 (hg 0 _ rfl) (by decide) (by decide) rfl m_wi11 tyX11_ok nmX11 (by decide) in_3_73 rfl rfl rfl rfl rfl (by first | rfl | omega) ⟨rfl, rfl⟩ dX11_init_87 (fun H locs κ30 hq1 hk1 hT hH hS => ?_)
  have hg : m_seg κ30 a [8955, 7620, 10, 278, 7309, 7309, 7310, 5, 4, 142, 141, 141, 141, 293, 293, 1061, 7, 1181, 1181, 293, 293, 293, 293, 293, 141, 141, 1061, 1061, 293, 293, 318, 9, 8, 421, 421, 421, 423, 6, 1565, 1565, 1565, 1565, 11, 4, 142, 141, 141, 141, 293, 293, 1061, 7, 1181, 1181, 293, 293, 293, 293, 293, 141, 141, 1061, 1061, 293, 293, 3, 205, 205, 2909, 2909, 2597, 1701, 3301, 3301, 8, 421, 421, 421, 423] := hg.swap hq1 hk1
  have hq := m_lt_ne hq hq1
  refine lv_aload_n hx hb dX11_init_90 rfl (lv_at hl 0 rfl) ?_
  obtain ⟨S31, e_S31, hm⟩ := m_let_of hm
  refine n_new X hH hS hT (k := 2) tyX2 (by decide) rfl m_wi2 tyX2_ok in_3_28 in_2_161 in_1_14 m_df2 e_S31 (nx' := (a + 80)) rfl (Nat.le_of_ble_eq_true rfl) (Nat.le_of_ble_eq_true rfl) dX11_init_91 (fun H κ32 hq1 hk1 hT hH hS => ?_)
  have hgk : m_seg κ32 a [8955, 7620, 10, 278, 7309, 7309, 7310, 5, 4, 142, 141, 141, 141, 293, 293, 1061, 7, 1181, 1181, 293, 293, 293, 293, 293, 141, 141, 1061, 1061, 293, 293, 318, 9, 8, 421, 421, 421, 423, 6, 1565, 1565, 1565, 1565, 11, 4, 142, 141, 141, 141, 293, 293, 1061, 7, 1181, 1181, 293, 293, 293, 293, 293, 141, 141, 1061, 1061, 293, 293, 3, 205, 205, 2909, 2909, 2597, 1701, 3301, 3301, 8, 421, 421, 421, 423] := hg.kept (fun q h => hq1 q (by simpa using h))
  have hg := hgk
  have hq := m_lt_nx hq (by omega) hq1
  refine lv_dup hx hb dX11_init_94 rfl ?_
  obtain ⟨S33, e_S33, hm⟩ := m_cal0_of hm
  refine n_cI X hN hH hS (c_X2_init (a := (a + 79)) hT hk1 e_S33) mw_X2_init in_2_163 rfl in_3_29 rfl ⟨rfl, rfl⟩ ⟨Nat.le_of_ble_eq_true rfl, Nat.le_of_ble_eq_true rfl⟩ ⟨Nat.le_of_ble_eq_true rfl, Nat.le_of_ble_eq_true rfl⟩ hl.1 (Nat.le_of_ble_eq_true rfl) dX11_init_95 (fun H locs κ34 hq1 hg1 hT hH hS => ?_)
  have hg : m_seg κ34 a [8955, 7620, 10, 278, 7309, 7309, 7310, 5, 4, 142, 141, 141, 141, 293, 293, 1061, 7, 1181, 1181, 293, 293, 293, 293, 293, 141, 141, 1061, 1061, 293, 293, 318, 9, 8, 421, 421, 421, 423, 6, 1565, 1565, 1565, 1565, 11, 4, 142, 141, 141, 141, 293, 293, 1061, 7, 1181, 1181, 293, 293, 293, 293, 293, 141, 141, 1061, 1061, 293, 293, 3, 205, 205, 2909, 2909, 2597, 1701, 3301, 3301, 8, 421, 421, 421, 423, 3, 205, 205, 2909, 2909, 2597, 1701, 3301, 3301] := hg.growS rfl hq1 hg1
  have hq := m_lt_nx hq (by omega) hq1
  have hH : m_H G (a + 88) κ34 S33 H := hH
  refine n_puwr X hin hH hS hT (k := 11) (i := 6) (a := a) (b := (a + 79)) (j := 8) (A := 79) (B := 0) tyX11 (hg 0 _ rfl) (by decide) (by decide) rfl m_wi11 tyX11_ok nmX11 (by decide) in_3_74 rfl rfl rfl rfl rfl (by first | rfl | omega) ⟨rfl, rfl⟩ dX11_init_98 (fun H locs κ35 hq1 hk1 hT hH hS => ?_)
  have hg : m_seg κ35 a [8963, 7620, 10, 278, 7309, 7309, 7310, 5, 4, 142, 141, 141, 141, 293, 293, 1061, 7, 1181, 1181, 293, 293, 293, 293, 293, 141, 141, 1061, 1061, 293, 293, 318, 9, 8, 421, 421, 421, 423, 6, 1565, 1565, 1565, 1565, 11, 4, 142, 141, 141, 141, 293, 293, 1061, 7, 1181, 1181, 293, 293, 293, 293, 293, 141, 141, 1061, 1061, 293, 293, 3, 205, 205, 2909, 2909, 2597, 1701, 3301, 3301, 8, 421, 421, 421, 423, 3, 205, 205, 2909, 2909, 2597, 1701, 3301, 3301] := hg.swap hq1 hk1
  have hq := m_lt_ne hq hq1
  refine lv_aload_n hx hb dX11_init_101 rfl (lv_at hl 0 rfl) ?_
  obtain ⟨S36, e_S36, hm⟩ := m_let_of hm
  refine n_new X hH hS hT (k := 1) tyX1 (by decide) rfl m_wi1 tyX1_ok in_3_30 in_3_31 in_1_16 m_df1 e_S36 (nx' := (a + 89)) rfl (Nat.le_of_ble_eq_true rfl) (Nat.le_of_ble_eq_true rfl) dX11_init_102 (fun H κ37 hq1 hk1 hT hH hS => ?_)
  have hgk : m_seg κ37 a [8963, 7620, 10, 278, 7309, 7309, 7310, 5, 4, 142, 141, 141, 141, 293, 293, 1061, 7, 1181, 1181, 293, 293, 293, 293, 293, 141, 141, 1061, 1061, 293, 293, 318, 9, 8, 421, 421, 421, 423, 6, 1565, 1565, 1565, 1565, 11, 4, 142, 141, 141, 141, 293, 293, 1061, 7, 1181, 1181, 293, 293, 293, 293, 293, 141, 141, 1061, 1061, 293, 293, 3, 205, 205, 2909, 2909, 2597, 1701, 3301, 3301, 8, 421, 421, 421, 423, 3, 205, 205, 2909, 2909, 2597, 1701, 3301, 3301] := hg.kept (fun q h => hq1 q (by simpa using h))
  have hg := hgk
  have hq := m_lt_nx hq (by omega) hq1
  refine lv_dup hx hb dX11_init_105 rfl ?_
  obtain ⟨S38, e_S38, hm⟩ := m_cal0_of hm
  refine n_cIN (host := "RegionRooms") X hN hH hS (c_X1_init (a := (a + 88)) hT hk1 e_S38) mw_X1_init in_3_33 rfl (by decide +kernel) rfl ⟨rfl, rfl⟩ ⟨Nat.le_of_ble_eq_true rfl, Nat.le_of_ble_eq_true rfl⟩ ⟨Nat.le_of_ble_eq_true rfl, Nat.le_of_ble_eq_true rfl⟩ hl.1 (Nat.le_of_ble_eq_true rfl) dX11_init_106 (fun H locs κ39 hq1 hg1 hT hH hS => ?_)
  have hg : m_seg κ39 a [8963, 7620, 10, 278, 7309, 7309, 7310, 5, 4, 142, 141, 141, 141, 293, 293, 1061, 7, 1181, 1181, 293, 293, 293, 293, 293, 141, 141, 1061, 1061, 293, 293, 318, 9, 8, 421, 421, 421, 423, 6, 1565, 1565, 1565, 1565, 11, 4, 142, 141, 141, 141, 293, 293, 1061, 7, 1181, 1181, 293, 293, 293, 293, 293, 141, 141, 1061, 1061, 293, 293, 3, 205, 205, 2909, 2909, 2597, 1701, 3301, 3301, 8, 421, 421, 421, 423, 3, 205, 205, 2909, 2909, 2597, 1701, 3301, 3301, 2, 1703, 1701] := hg.growS rfl hq1 hg1
  have hq := m_lt_nx hq (by omega) hq1
  have hH : m_H G (a + 91) κ39 S38 H := hH
  refine n_puwr X hin hH hS hT (k := 11) (i := 7) (a := a) (b := (a + 88)) (j := 9) (A := 88) (B := 0) tyX11 (hg 0 _ rfl) (by decide) (by decide) rfl m_wi11 tyX11_ok nmX11 (by decide) in_3_75 rfl rfl rfl rfl rfl (by first | rfl | omega) ⟨rfl, rfl⟩ dX11_init_109 (fun H locs κ40 hq1 hk1 hT hH hS => ?_)
  have hg : m_seg κ40 a [8971, 7620, 10, 278, 7309, 7309, 7310, 5, 4, 142, 141, 141, 141, 293, 293, 1061, 7, 1181, 1181, 293, 293, 293, 293, 293, 141, 141, 1061, 1061, 293, 293, 318, 9, 8, 421, 421, 421, 423, 6, 1565, 1565, 1565, 1565, 11, 4, 142, 141, 141, 141, 293, 293, 1061, 7, 1181, 1181, 293, 293, 293, 293, 293, 141, 141, 1061, 1061, 293, 293, 3, 205, 205, 2909, 2909, 2597, 1701, 3301, 3301, 8, 421, 421, 421, 423, 3, 205, 205, 2909, 2909, 2597, 1701, 3301, 3301, 2, 1703, 1701] := hg.swap hq1 hk1
  have hq := m_lt_ne hq hq1
  refine lv_aload_n hx hb dX11_init_112 rfl (lv_at hl 0 rfl) ?_
  obtain ⟨S41, e_S41, hm⟩ := m_let_of hm
  refine n_new X hH hS hT (k := 0) tyX0 (by decide) rfl m_wi0 tyX0_ok in_3_47 in_3_48 in_1_17 m_df0 e_S41 (nx' := (a + 92)) rfl (Nat.le_of_ble_eq_true rfl) (Nat.le_of_ble_eq_true rfl) dX11_init_113 (fun H κ42 hq1 hk1 hT hH hS => ?_)
  have hgk : m_seg κ42 a [8971, 7620, 10, 278, 7309, 7309, 7310, 5, 4, 142, 141, 141, 141, 293, 293, 1061, 7, 1181, 1181, 293, 293, 293, 293, 293, 141, 141, 1061, 1061, 293, 293, 318, 9, 8, 421, 421, 421, 423, 6, 1565, 1565, 1565, 1565, 11, 4, 142, 141, 141, 141, 293, 293, 1061, 7, 1181, 1181, 293, 293, 293, 293, 293, 141, 141, 1061, 1061, 293, 293, 3, 205, 205, 2909, 2909, 2597, 1701, 3301, 3301, 8, 421, 421, 421, 423, 3, 205, 205, 2909, 2909, 2597, 1701, 3301, 3301, 2, 1703, 1701] := hg.kept (fun q h => hq1 q (by simpa using h))
  have hg := hgk
  have hq := m_lt_nx hq (by omega) hq1
  refine lv_dup hx hb dX11_init_116 rfl ?_
  obtain ⟨S43, e_S43, hm⟩ := m_cal0_of hm
  refine n_cIN (host := "RegionRooms") X hN hH hS (c_X0_init (a := (a + 91)) hT hk1 e_S43) mw_X0_init in_3_50 rfl (by decide +kernel) rfl ⟨rfl, rfl⟩ ⟨Nat.le_of_ble_eq_true rfl, Nat.le_of_ble_eq_true rfl⟩ ⟨Nat.le_of_ble_eq_true rfl, Nat.le_of_ble_eq_true rfl⟩ hl.1 (Nat.le_of_ble_eq_true rfl) dX11_init_117 (fun H locs κ44 hq1 hg1 hT hH hS => ?_)
  have hg : m_seg κ44 a [8971, 7620, 10, 278, 7309, 7309, 7310, 5, 4, 142, 141, 141, 141, 293, 293, 1061, 7, 1181, 1181, 293, 293, 293, 293, 293, 141, 141, 1061, 1061, 293, 293, 318, 9, 8, 421, 421, 421, 423, 6, 1565, 1565, 1565, 1565, 11, 4, 142, 141, 141, 141, 293, 293, 1061, 7, 1181, 1181, 293, 293, 293, 293, 293, 141, 141, 1061, 1061, 293, 293, 3, 205, 205, 2909, 2909, 2597, 1701, 3301, 3301, 8, 421, 421, 421, 423, 3, 205, 205, 2909, 2909, 2597, 1701, 3301, 3301, 2, 1703, 1701, 1, 168] := hg.growS rfl hq1 hg1
  have hq := m_lt_nx hq (by omega) hq1
  have hH : m_H G (a + 93) κ44 S43 H := hH
  refine n_puwr X hin hH hS hT (k := 11) (i := 8) (a := a) (b := (a + 91)) (j := 10) (A := 91) (B := 0) tyX11 (hg 0 _ rfl) (by decide) (by decide) rfl m_wi11 tyX11_ok nmX11 (by decide) in_3_76 rfl rfl rfl rfl rfl (by first | rfl | omega) ⟨rfl, rfl⟩ dX11_init_120 (fun H locs κ45 hq1 hk1 hT hH hS => ?_)
  have hg : m_seg κ45 a [8979, 7620, 10, 278, 7309, 7309, 7310, 5, 4, 142, 141, 141, 141, 293, 293, 1061, 7, 1181, 1181, 293, 293, 293, 293, 293, 141, 141, 1061, 1061, 293, 293, 318, 9, 8, 421, 421, 421, 423, 6, 1565, 1565, 1565, 1565, 11, 4, 142, 141, 141, 141, 293, 293, 1061, 7, 1181, 1181, 293, 293, 293, 293, 293, 141, 141, 1061, 1061, 293, 293, 3, 205, 205, 2909, 2909, 2597, 1701, 3301, 3301, 8, 421, 421, 421, 423, 3, 205, 205, 2909, 2909, 2597, 1701, 3301, 3301, 2, 1703, 1701, 1, 168] := hg.swap hq1 hk1
  have hq := m_lt_ne hq hq1
  refine lv_aload_n hx hb dX11_init_123 rfl (lv_at hl 0 rfl) ?_
  refine lv_iconst (v := (2 : Int32)) hx hb dX11_init_124 (by decide) ?_
  obtain ⟨S46, e_S46, hm⟩ := m_let_of hm
  refine n_newq X hH hS hT (N := 2) (C := "RegionRooms$Whole") in_2_152 hN.2.2 5 rfl (by decide) (by decide) (by decide) (by decide) e_S46 (nx' := (a + 94)) rfl (Nat.le_of_ble_eq_true rfl) (Nat.le_of_ble_eq_true rfl) dX11_init_125 (fun H κ47 hq1 hk1 hT hH hS => ?_)
  have hg : m_seg κ47 a [8979, 7620, 10, 278, 7309, 7309, 7310, 5, 4, 142, 141, 141, 141, 293, 293, 1061, 7, 1181, 1181, 293, 293, 293, 293, 293, 141, 141, 1061, 1061, 293, 293, 318, 9, 8, 421, 421, 421, 423, 6, 1565, 1565, 1565, 1565, 11, 4, 142, 141, 141, 141, 293, 293, 1061, 7, 1181, 1181, 293, 293, 293, 293, 293, 141, 141, 1061, 1061, 293, 293, 3, 205, 205, 2909, 2909, 2597, 1701, 3301, 3301, 8, 421, 421, 421, 423, 3, 205, 205, 2909, 2909, 2597, 1701, 3301, 3301, 2, 1703, 1701, 1, 168, 121] := hg.grow rfl hq1 hk1
  have hq := m_lt_nx hq (by omega) hq1
  refine n_puwr X hin hH hS hT (k := 11) (i := 9) (a := a) (b := (a + 93)) (j := 11) (A := 93) (B := 0) tyX11 (hg 0 _ rfl) (by decide) (by decide) rfl m_wi11 tyX11_ok nmX11 (by decide) in_3_77 rfl rfl rfl rfl rfl (by first | rfl | omega) ⟨rfl, rfl⟩ dX11_init_128 (fun H locs κ48 hq1 hk1 hT hH hS => ?_)
  have hg : m_seg κ48 a [8987, 7620, 10, 278, 7309, 7309, 7310, 5, 4, 142, 141, 141, 141, 293, 293, 1061, 7, 1181, 1181, 293, 293, 293, 293, 293, 141, 141, 1061, 1061, 293, 293, 318, 9, 8, 421, 421, 421, 423, 6, 1565, 1565, 1565, 1565, 11, 4, 142, 141, 141, 141, 293, 293, 1061, 7, 1181, 1181, 293, 293, 293, 293, 293, 141, 141, 1061, 1061, 293, 293, 3, 205, 205, 2909, 2909, 2597, 1701, 3301, 3301, 8, 421, 421, 421, 423, 3, 205, 205, 2909, 2909, 2597, 1701, 3301, 3301, 2, 1703, 1701, 1, 168, 121] := hg.swap hq1 hk1
  have hq := m_lt_ne hq hq1
  refine lv_aload_n hx hb dX11_init_131 rfl (lv_at hl 0 rfl) ?_
  refine lv_bipush (v := (8 : Int32)) hx hb dX11_init_132 (by decide) ?_
  obtain ⟨S49, e_S49, hm⟩ := m_let_of hm
  refine n_newa X hH hS hT (ty := .int) (N := 8) rfl in_1_159 1 rfl (by decide) rfl m_RAi (by decide) (by decide) (by decide) e_S49 (nx' := (a + 95)) rfl (Nat.le_of_ble_eq_true rfl) (Nat.le_of_ble_eq_true rfl) dX11_init_134 (fun H κ50 hq1 hk1 hT hH hS => ?_)
  have hg : m_seg κ50 a [8987, 7620, 10, 278, 7309, 7309, 7310, 5, 4, 142, 141, 141, 141, 293, 293, 1061, 7, 1181, 1181, 293, 293, 293, 293, 293, 141, 141, 1061, 1061, 293, 293, 318, 9, 8, 421, 421, 421, 423, 6, 1565, 1565, 1565, 1565, 11, 4, 142, 141, 141, 141, 293, 293, 1061, 7, 1181, 1181, 293, 293, 293, 293, 293, 141, 141, 1061, 1061, 293, 293, 3, 205, 205, 2909, 2909, 2597, 1701, 3301, 3301, 8, 421, 421, 421, 423, 3, 205, 205, 2909, 2909, 2597, 1701, 3301, 3301, 2, 1703, 1701, 1, 168, 121, 165] := hg.grow rfl hq1 hk1
  have hq := m_lt_nx hq (by omega) hq1
  refine n_puwr X hin hH hS hT (k := 11) (i := 10) (a := a) (b := (a + 94)) (j := 12) (A := 94) (B := 0) tyX11 (hg 0 _ rfl) (by decide) (by decide) rfl m_wi11 tyX11_ok nmX11 (by decide) in_3_78 rfl rfl rfl rfl rfl (by first | rfl | omega) ⟨rfl, rfl⟩ dX11_init_136 (fun H locs κ51 hq1 hk1 hT hH hS => ?_)
  have hg : m_seg κ51 a [8995, 7620, 10, 278, 7309, 7309, 7310, 5, 4, 142, 141, 141, 141, 293, 293, 1061, 7, 1181, 1181, 293, 293, 293, 293, 293, 141, 141, 1061, 1061, 293, 293, 318, 9, 8, 421, 421, 421, 423, 6, 1565, 1565, 1565, 1565, 11, 4, 142, 141, 141, 141, 293, 293, 1061, 7, 1181, 1181, 293, 293, 293, 293, 293, 141, 141, 1061, 1061, 293, 293, 3, 205, 205, 2909, 2909, 2597, 1701, 3301, 3301, 8, 421, 421, 421, 423, 3, 205, 205, 2909, 2909, 2597, 1701, 3301, 3301, 2, 1703, 1701, 1, 168, 121, 165] := hg.swap hq1 hk1
  have hq := m_lt_ne hq hq1
  obtain ⟨κ52, hq1, hk_s, hg, hT, hH⟩ := m_seal (k := 11) (i := 11) hH hT hg (by decide) (by decide) rfl rfl (by decide)
  have hq := m_lt_ne hq hq1
  refine lv_aload_n hx hb dX11_init_139 rfl (lv_at hl 0 rfl) ?_
  refine lv_iconst (v := (0 : Int32)) hx hb dX11_init_140 (by decide) ?_
  obtain ⟨S53, e_S53, hm⟩ := m_let_of hm
  refine n_puti X hH hS tyX11 (k := 11) (a := a) (j := 13) hk_s (by decide) rfl m_wi11 tyX11_ok nmX11 (by decide) in_3_79 rfl rfl rfl (m_nz (by decide)) e_S53 dX11_init_141 (fun H locs hH hS => ?_)
  exact r_kret X hN hr hH hS hm hT hq hg rfl (Nat.le_of_ble_eq_true rfl) (Nat.le_of_ble_eq_true rfl) dX11_init_144
