def rm_X8_readsParts (r : Room) : Room := { frames := r.frames + 1, cells := 0, slots := 0, locals := r.locals + 24 }
def b_X8_readsParts_67 (F : Nat → Nat → m_M → Int32 → Option (Int32 × m_M)) (x o1 : Nat)  (S : m_M)  : Option (Int32 × m_M) :=
    if (1 : Int32) = 0 ∨ (1 : Int32) = 1 then some ((1 : Int32), S) else none
set_option maxHeartbeats 4000000 in
set_option maxRecDepth 100000 in
theorem k_X8_readsParts_67 {p : Program} {l : Launch} {e : Env} {s : State} {m : MethodId} {args : Array Value} {below : List Frame} {meth : Method} {c : Code} {G : m_G} {nx : Nat} {κ : Nat → Nat} {res : (Int32 × m_M)} {F : Nat → Nat → m_M → Int32 → Option (Int32 × m_M)} {x o1 : Nat} (X : m_Cx p s m args meth c cX8_readsParts 4 RX8 G) (hr : meth.sig.returnType = (some .boolean)) (hT : m_Str κ) (rF : Room) (hrF : rF.cells = 0 ∧ rF.slots = 0) (hF : ∀ (x o1 : Nat) (S : m_M) (i2 : Int32) (res : (Int32 × m_M)), κ x = 12 → κ o1 = 4 → F x o1 S i2 = some res → m_Ci l yX8_readsOne cX8_readsOne 5 (some .boolean) rF G nx κ [.ref (x + 31), .ref o1, .int i2] S res) (hk_x : κ x = 12) (hk_o1 : κ o1 = 4)  : ∀ (S : m_M)  (H : Heap) (locs : List Loc) (ls : Array Slot), m_H G nx κ S H → m_S G s H locs → lv_has ls 4 [] → b_X8_readsParts_67 F x o1 S  = some res → W p l e (rm_X8_readsParts rF) s m args below meth c H locs 0 0 (m_Qi below args s G nx κ res) (F0 m 67 ls []) := by
  have hx := X.1.1
  have hb := X.1.2.1
  intro S H locs ls hH hS hl hm
  rw [b_X8_readsParts_67] at hm
  refine lv_iconst (v := (1 : Int32)) hx hb dX8_readsParts_67 (by decide) ?_
  exact r_zret X hr hH hS hm dX8_readsParts_68
def b_X8_readsParts_13 (F : Nat → Nat → m_M → Int32 → Option (Int32 × m_M)) (x o1 : Nat)  : Nat → m_M → Int32 → Int32 → Option (Int32 × m_M)
  | 0, _, _, _ => none
  | n + 1, S, l2, l3 =>
    if (20 : Int32) ≤ l3 then (
    b_X8_readsParts_67 F x o1 S) else (
    if (m_ri S (x + 37) 11) = (12 : Int32) then (
    m_cal0 (f_X9s_advance x S) fun S3 =>
    m_call (F x o1 S3 l2) fun v5 S4 =>
    if v5 = 0 then (
    if (0 : Int32) = 0 ∨ (0 : Int32) = 1 then some ((0 : Int32), S4) else none) else (
    m_call (f_X7_put (x + 32) S4 (12 : Int32) (-1 : Int32) (-1 : Int32)) fun v8 S7 =>
    m_let (l3 + (1 : Int32)) fun v9 =>
    b_X8_readsParts_13 F x o1 n S7 l2 v9)) else (
    b_X8_readsParts_67 F x o1 S))
set_option maxHeartbeats 4000000 in
set_option maxRecDepth 100000 in
theorem k_X8_readsParts_13 {p : Program} {l : Launch} {e : Env} {s : State} {m : MethodId} {args : Array Value} {below : List Frame} {meth : Method} {c : Code} {G : m_G} {nx : Nat} {κ : Nat → Nat} {res : (Int32 × m_M)} {F : Nat → Nat → m_M → Int32 → Option (Int32 × m_M)} {x o1 : Nat} (X : m_Cx p s m args meth c cX8_readsParts 4 RX8 G) (hr : meth.sig.returnType = (some .boolean)) (hT : m_Str κ) (rF : Room) (hrF : rF.cells = 0 ∧ rF.slots = 0) (hF : ∀ (x o1 : Nat) (S : m_M) (i2 : Int32) (res : (Int32 × m_M)), κ x = 12 → κ o1 = 4 → F x o1 S i2 = some res → m_Ci l yX8_readsOne cX8_readsOne 5 (some .boolean) rF G nx κ [.ref (x + 31), .ref o1, .int i2] S res) (hk_x : κ x = 12) (hk_o1 : κ o1 = 4)  (n : Nat) : ∀ (S : m_M) (l2 : Int32) (l3 : Int32) (H : Heap) (locs : List Loc) (ls : Array Slot), m_H G nx κ S H → m_S G s H locs → lv_has ls 4 [(0, .ref (x + 31)), (1, .ref o1), (2, .int l2), (3, .int l3)] → b_X8_readsParts_13 F x o1 n S l2 l3 = some res → W p l e (rm_X8_readsParts rF) s m args below meth c H locs 0 0 (m_Qi below args s G nx κ res) (F0 m 13 ls []) := by
  have hx := X.1.1
  have hb := X.1.2.1
  induction n with
  | zero => intro S l2 l3 H locs ls hH hS hl hm; have hm : (none : Option (Int32 × m_M)) = some res := hm; cases hm
  | succ n ih =>
    intro S l2 l3 H locs ls hH hS hl hm
    rw [b_X8_readsParts_13] at hm
    refine lv_iload_n hx hb dX8_readsParts_13 rfl (lv_at hl 3 rfl) ?_
    refine lv_bipush (v := (20 : Int32)) hx hb dX8_readsParts_14 (by decide) ?_
    refine lv_icmp_ge (tgt := 67) hx hb dX8_readsParts_16 (by decide) (fun c1 => ?_) (fun c1 => ?_)
    · have hm := m_ite_t hm c1
      exact k_X8_readsParts_67 (F := F) (x := x) (o1 := o1) X hr hT rF hrF hF hk_x hk_o1   S _ _ _ hH hS (lv_sub hl [] rfl) hm
    · have hm := m_ite_f hm c1
      refine lv_aload_n hx hb dX8_readsParts_19 rfl (lv_at hl 0 rfl) ?_
      refine r_getp X hH (k := 8) (a := (x + 31)) (j := 1) (b := (x + 37)) (A := 6) (B := 0) (m_lay_at hT hk_x (by decide) (i := 31) rfl) (by decide) rfl m_wi8 (by decide) in_2_130 rfl rfl rfl dX8_readsParts_20 ?_
      refine r_geti X hH (k := 9) (a := (x + 37)) (j := 11) (m_lay_at hT hk_x (by decide) (i := 37) rfl) (by decide) rfl m_wi9 (by decide) in_2_24 rfl rfl dX8_readsParts_23 ?_
      refine lv_bipush (v := (12 : Int32)) hx hb dX8_readsParts_26 (by decide) ?_
      refine lv_icmp_ne (tgt := 67) hx hb dX8_readsParts_28 (by decide) (fun c2 => ?_) (fun c2 => ?_)
      · have hm := m_ite_f hm c2
        exact k_X8_readsParts_67 (F := F) (x := x) (o1 := o1) X hr hT rF hrF hF hk_x hk_o1   S _ _ _ hH hS (lv_sub hl [] rfl) hm
      · have hm := m_ite_t hm c2
        refine lv_aload_n hx hb dX8_readsParts_31 rfl (lv_at hl 0 rfl) ?_
        refine r_getp X hH (k := 8) (a := (x + 31)) (j := 1) (b := (x + 37)) (A := 6) (B := 0) (m_lay_at hT hk_x (by decide) (i := 31) rfl) (by decide) rfl m_wi8 (by decide) in_2_130 rfl rfl rfl dX8_readsParts_32 ?_
        obtain ⟨S3, e_S3, hm⟩ := m_cal0_of hm
        refine r_cVv X hH hS (k := 9) (c_X9s_advance (x := x) hT hk_x e_S3) mw_X9_advance in_6_0 (m_lay_at hT hk_x (by decide) (i := 37) rfl) (by decide) rfl rfl rfl ⟨rfl, rfl⟩ ⟨by simp only [rm_X8_readsParts, rm_X9s_advance]; omega, by simp only [rm_X8_readsParts, rm_X9s_advance]; omega⟩ ⟨Nat.zero_le _, Nat.zero_le _⟩ hl.1 (Nat.le_of_ble_eq_true rfl) dX8_readsParts_35 (fun H locs hH hS => ?_)
        refine lv_aload_n hx hb dX8_readsParts_38 rfl (lv_at hl 0 rfl) ?_
        refine lv_aload_n hx hb dX8_readsParts_39 rfl (lv_at hl 1 rfl) ?_
        refine lv_iload_n hx hb dX8_readsParts_40 rfl (lv_at hl 2 rfl) ?_
        obtain ⟨v5, S4, e_S4, hm⟩ := m_call_of hm
        refine n_cVi X hH hS (k := 8) (hF x o1 S3 l2 _ hk_x hk_o1 e_S4) mw_X8_readsOne in_5_235 (m_lay_at hT hk_x (by decide) (i := 31) rfl) (by decide) rfl rfl rfl hrF ⟨by simp only [rm_X8_readsParts]; omega, by simp only [rm_X8_readsParts]; omega⟩ ⟨Nat.zero_le _, Nat.zero_le _⟩ hl.1 (Nat.le_of_ble_eq_true rfl) dX8_readsParts_41 (fun H locs hH hS => ?_)
        refine lv_if_ne (tgt := 49) hx hb dX8_readsParts_44 (by decide) (fun c6 => ?_) (fun c6 => ?_)
        · have hm := m_ite_f hm c6
          refine lv_aload_n hx hb dX8_readsParts_49 rfl (lv_at hl 0 rfl) ?_
          refine r_getp X hH (k := 8) (a := (x + 31)) (j := 0) (b := (x + 32)) (A := 1) (B := 0) (m_lay_at hT hk_x (by decide) (i := 31) rfl) (by decide) rfl m_wi8 (by decide) in_2_128 rfl rfl rfl dX8_readsParts_50 ?_
          refine lv_bipush (v := (12 : Int32)) hx hb dX8_readsParts_53 (by decide) ?_
          refine lv_iconst (v := (-1 : Int32)) hx hb dX8_readsParts_55 (by decide) ?_
          refine lv_iconst (v := (-1 : Int32)) hx hb dX8_readsParts_56 (by decide) ?_
          obtain ⟨v8, S7, e_S7, hm⟩ := m_call_of hm
          refine n_cVi X hH hS (k := 7) (c_X7_put (a := (x + 32)) hT (m_lay_at hT hk_x (by decide) (i := 32) rfl) e_S7) mw_X7_put in_6_2 (m_lay_at hT hk_x (by decide) (i := 32) rfl) (by decide) rfl rfl rfl ⟨rfl, rfl⟩ ⟨by simp only [rm_X8_readsParts, rm_X7_put]; omega, by simp only [rm_X8_readsParts, rm_X7_put]; omega⟩ ⟨Nat.zero_le _, Nat.zero_le _⟩ hl.1 (Nat.le_of_ble_eq_true rfl) dX8_readsParts_57 (fun H locs hH hS => ?_)
          refine lv_pop hx hb dX8_readsParts_60 rfl ?_
          obtain ⟨v9, e_v9, hm⟩ := m_let_of hm
          refine lv_iinc (v := v9) (lv' := [(3, .int v9), (0, .ref (x + 31)), (1, .ref o1), (2, .int l2)]) hx hb dX8_readsParts_61 hl (k := 3) rfl (by rw [← e_v9]; rfl) (by decide) rfl (fun ls hl => ?_)
          refine lv_goto (tgt := 13) hx hb dX8_readsParts_64 (by decide) ?_
          exact ih S7 l2 v9 _ _ _ hH hS (lv_sub hl [1, 2, 3, 0] rfl) hm
        · have hm := m_ite_t hm c6
          refine lv_iconst (v := (0 : Int32)) hx hb dX8_readsParts_47 (by decide) ?_
          exact r_zret X hr hH hS hm dX8_readsParts_48
def f_X8_readsParts (F : Nat → Nat → m_M → Int32 → Option (Int32 × m_M)) (x o1 : Nat) (S : m_M) (i2 : Int32) : Option (Int32 × m_M) :=
    m_call (F x o1 S i2) fun v2 S1 =>
    if v2 = 0 then (
    if (0 : Int32) = 0 ∨ (0 : Int32) = 1 then some ((0 : Int32), S1) else none) else (
    b_X8_readsParts_13 F x o1 m_fu S1 i2 (0 : Int32))
set_option maxHeartbeats 4000000 in
set_option maxRecDepth 100000 in
theorem c_X8_readsParts {l : Launch} {G : m_G} {nx : Nat} {κ : Nat → Nat} {F : Nat → Nat → m_M → Int32 → Option (Int32 × m_M)} {rF : Room} (hrF : rF.cells = 0 ∧ rF.slots = 0) (hF : ∀ (x o1 : Nat) (S : m_M) (i2 : Int32) (res : (Int32 × m_M)), κ x = 12 → κ o1 = 4 → F x o1 S i2 = some res → m_Ci l yX8_readsOne cX8_readsOne 5 (some .boolean) rF G nx κ [.ref (x + 31), .ref o1, .int i2] S res) {x o1 : Nat} {S : m_M} {i2 : Int32} {res : (Int32 × m_M)} (hT : m_Str κ) (hk_x : κ x = 12) (hk_o1 : κ o1 = 4) (hm : f_X8_readsParts F x o1 S i2 = some res) : m_Ci l yX8_readsParts cX8_readsParts 4 (some .boolean) (rm_X8_readsParts rF) G nx κ [.ref (x + 31), .ref o1, .int i2] S res := by
  refine m_Ci.of (by decide) (Nat.le_of_ble_eq_true rfl) ?_
  intro p e s m args below meth c ls X hr hH hl
  have hx := X.1.1
  have hb := X.1.2.1
  have hS : m_S G s s.heap [] := va_S.rf
  have hl : lv_has ls 4 [(0, .ref (x + 31)), (1, .ref o1), (2, .int i2)] := hl
  rw [f_X8_readsParts] at hm
  refine lv_aload_n hx hb dX8_readsParts_0 rfl (lv_at hl 0 rfl) ?_
  refine lv_aload_n hx hb dX8_readsParts_1 rfl (lv_at hl 1 rfl) ?_
  refine lv_iload_n hx hb dX8_readsParts_2 rfl (lv_at hl 2 rfl) ?_
  obtain ⟨v2, S1, e_S1, hm⟩ := m_call_of hm
  refine n_cVi X hH hS (k := 8) (hF x o1 S i2 _ hk_x hk_o1 e_S1) mw_X8_readsOne in_5_235 (m_lay_at hT hk_x (by decide) (i := 31) rfl) (by decide) rfl rfl rfl hrF ⟨by simp only [rm_X8_readsParts]; omega, by simp only [rm_X8_readsParts]; omega⟩ ⟨Nat.zero_le _, Nat.zero_le _⟩ hl.1 (Nat.le_of_ble_eq_true rfl) dX8_readsParts_3 (fun H locs hH hS => ?_)
  refine lv_if_ne (tgt := 11) hx hb dX8_readsParts_6 (by decide) (fun c3 => ?_) (fun c3 => ?_)
  · have hm := m_ite_f hm c3
    refine lv_iconst (v := (0 : Int32)) hx hb dX8_readsParts_11 (by decide) ?_
    refine lv_istore_n (lv' := [(3, .int (0 : Int32)), (0, .ref (x + 31)), (1, .ref o1), (2, .int i2)]) hx hb dX8_readsParts_12 rfl hl (by decide) rfl (fun ls hl => ?_)
    exact k_X8_readsParts_13 (F := F) (x := x) (o1 := o1) X hr hT rF hrF hF hk_x hk_o1  m_fu S1 i2 (0 : Int32) _ _ _ hH hS (lv_sub hl [1, 2, 3, 0] rfl) hm
  · have hm := m_ite_t hm c3
    refine lv_iconst (v := (0 : Int32)) hx hb dX8_readsParts_9 (by decide) ?_
    exact r_zret X hr hH hS hm dX8_readsParts_10
def rm_X8_readsCond (r : Room) : Room := { frames := r.frames + 2, cells := 0, slots := 0, locals := r.locals + 47 }
def b_X8_readsCond_67 (F : Nat → Nat → m_M → Int32 → Option (Int32 × m_M)) (x o1 : Nat)  (S : m_M)  : Option (Int32 × m_M) :=
    if (1 : Int32) = 0 ∨ (1 : Int32) = 1 then some ((1 : Int32), S) else none
set_option maxHeartbeats 4000000 in
set_option maxRecDepth 100000 in
theorem k_X8_readsCond_67 {p : Program} {l : Launch} {e : Env} {s : State} {m : MethodId} {args : Array Value} {below : List Frame} {meth : Method} {c : Code} {G : m_G} {nx : Nat} {κ : Nat → Nat} {res : (Int32 × m_M)} {F : Nat → Nat → m_M → Int32 → Option (Int32 × m_M)} {x o1 : Nat} (X : m_Cx p s m args meth c cX8_readsCond 4 RX8 G) (hr : meth.sig.returnType = (some .boolean)) (hT : m_Str κ) (rF : Room) (hrF : rF.cells = 0 ∧ rF.slots = 0) (hF : ∀ (x o1 : Nat) (S : m_M) (i2 : Int32) (res : (Int32 × m_M)), κ x = 12 → κ o1 = 4 → F x o1 S i2 = some res → m_Ci l yX8_readsOne cX8_readsOne 5 (some .boolean) rF G nx κ [.ref (x + 31), .ref o1, .int i2] S res) (hk_x : κ x = 12) (hk_o1 : κ o1 = 4)  : ∀ (S : m_M)  (H : Heap) (locs : List Loc) (ls : Array Slot), m_H G nx κ S H → m_S G s H locs → lv_has ls 4 [] → b_X8_readsCond_67 F x o1 S  = some res → W p l e (rm_X8_readsCond rF) s m args below meth c H locs 0 0 (m_Qi below args s G nx κ res) (F0 m 67 ls []) := by
  have hx := X.1.1
  have hb := X.1.2.1
  intro S H locs ls hH hS hl hm
  rw [b_X8_readsCond_67] at hm
  refine lv_iconst (v := (1 : Int32)) hx hb dX8_readsCond_67 (by decide) ?_
  exact r_zret X hr hH hS hm dX8_readsCond_68
def b_X8_readsCond_13 (F : Nat → Nat → m_M → Int32 → Option (Int32 × m_M)) (x o1 : Nat)  : Nat → m_M → Int32 → Int32 → Option (Int32 × m_M)
  | 0, _, _, _ => none
  | n + 1, S, l2, l3 =>
    if (20 : Int32) ≤ l3 then (
    b_X8_readsCond_67 F x o1 S) else (
    if (m_ri S (x + 37) 11) = (11 : Int32) then (
    m_cal0 (f_X9s_advance x S) fun S3 =>
    m_call (f_X8_readsParts F x o1 S3 l2) fun v5 S4 =>
    if v5 = 0 then (
    if (0 : Int32) = 0 ∨ (0 : Int32) = 1 then some ((0 : Int32), S4) else none) else (
    m_call (f_X7_put (x + 32) S4 (11 : Int32) (-1 : Int32) (-1 : Int32)) fun v8 S7 =>
    m_let (l3 + (1 : Int32)) fun v9 =>
    b_X8_readsCond_13 F x o1 n S7 l2 v9)) else (
    b_X8_readsCond_67 F x o1 S))
set_option maxHeartbeats 4000000 in
set_option maxRecDepth 100000 in
theorem k_X8_readsCond_13 {p : Program} {l : Launch} {e : Env} {s : State} {m : MethodId} {args : Array Value} {below : List Frame} {meth : Method} {c : Code} {G : m_G} {nx : Nat} {κ : Nat → Nat} {res : (Int32 × m_M)} {F : Nat → Nat → m_M → Int32 → Option (Int32 × m_M)} {x o1 : Nat} (X : m_Cx p s m args meth c cX8_readsCond 4 RX8 G) (hr : meth.sig.returnType = (some .boolean)) (hT : m_Str κ) (rF : Room) (hrF : rF.cells = 0 ∧ rF.slots = 0) (hF : ∀ (x o1 : Nat) (S : m_M) (i2 : Int32) (res : (Int32 × m_M)), κ x = 12 → κ o1 = 4 → F x o1 S i2 = some res → m_Ci l yX8_readsOne cX8_readsOne 5 (some .boolean) rF G nx κ [.ref (x + 31), .ref o1, .int i2] S res) (hk_x : κ x = 12) (hk_o1 : κ o1 = 4)  (n : Nat) : ∀ (S : m_M) (l2 : Int32) (l3 : Int32) (H : Heap) (locs : List Loc) (ls : Array Slot), m_H G nx κ S H → m_S G s H locs → lv_has ls 4 [(0, .ref (x + 31)), (1, .ref o1), (2, .int l2), (3, .int l3)] → b_X8_readsCond_13 F x o1 n S l2 l3 = some res → W p l e (rm_X8_readsCond rF) s m args below meth c H locs 0 0 (m_Qi below args s G nx κ res) (F0 m 13 ls []) := by
  have hx := X.1.1
  have hb := X.1.2.1
  induction n with
  | zero => intro S l2 l3 H locs ls hH hS hl hm; have hm : (none : Option (Int32 × m_M)) = some res := hm; cases hm
  | succ n ih =>
    intro S l2 l3 H locs ls hH hS hl hm
    rw [b_X8_readsCond_13] at hm
    refine lv_iload_n hx hb dX8_readsCond_13 rfl (lv_at hl 3 rfl) ?_
    refine lv_bipush (v := (20 : Int32)) hx hb dX8_readsCond_14 (by decide) ?_
    refine lv_icmp_ge (tgt := 67) hx hb dX8_readsCond_16 (by decide) (fun c1 => ?_) (fun c1 => ?_)
    · have hm := m_ite_t hm c1
      exact k_X8_readsCond_67 (F := F) (x := x) (o1 := o1) X hr hT rF hrF hF hk_x hk_o1   S _ _ _ hH hS (lv_sub hl [] rfl) hm
    · have hm := m_ite_f hm c1
      refine lv_aload_n hx hb dX8_readsCond_19 rfl (lv_at hl 0 rfl) ?_
      refine r_getp X hH (k := 8) (a := (x + 31)) (j := 1) (b := (x + 37)) (A := 6) (B := 0) (m_lay_at hT hk_x (by decide) (i := 31) rfl) (by decide) rfl m_wi8 (by decide) in_2_130 rfl rfl rfl dX8_readsCond_20 ?_
      refine r_geti X hH (k := 9) (a := (x + 37)) (j := 11) (m_lay_at hT hk_x (by decide) (i := 37) rfl) (by decide) rfl m_wi9 (by decide) in_2_24 rfl rfl dX8_readsCond_23 ?_
      refine lv_bipush (v := (11 : Int32)) hx hb dX8_readsCond_26 (by decide) ?_
      refine lv_icmp_ne (tgt := 67) hx hb dX8_readsCond_28 (by decide) (fun c2 => ?_) (fun c2 => ?_)
      · have hm := m_ite_f hm c2
        exact k_X8_readsCond_67 (F := F) (x := x) (o1 := o1) X hr hT rF hrF hF hk_x hk_o1   S _ _ _ hH hS (lv_sub hl [] rfl) hm
      · have hm := m_ite_t hm c2
        refine lv_aload_n hx hb dX8_readsCond_31 rfl (lv_at hl 0 rfl) ?_
        refine r_getp X hH (k := 8) (a := (x + 31)) (j := 1) (b := (x + 37)) (A := 6) (B := 0) (m_lay_at hT hk_x (by decide) (i := 31) rfl) (by decide) rfl m_wi8 (by decide) in_2_130 rfl rfl rfl dX8_readsCond_32 ?_
        obtain ⟨S3, e_S3, hm⟩ := m_cal0_of hm
        refine r_cVv X hH hS (k := 9) (c_X9s_advance (x := x) hT hk_x e_S3) mw_X9_advance in_6_0 (m_lay_at hT hk_x (by decide) (i := 37) rfl) (by decide) rfl rfl rfl ⟨rfl, rfl⟩ ⟨by simp only [rm_X8_readsCond, rm_X9s_advance]; omega, by simp only [rm_X8_readsCond, rm_X9s_advance]; omega⟩ ⟨Nat.zero_le _, Nat.zero_le _⟩ hl.1 (Nat.le_of_ble_eq_true rfl) dX8_readsCond_35 (fun H locs hH hS => ?_)
        refine lv_aload_n hx hb dX8_readsCond_38 rfl (lv_at hl 0 rfl) ?_
        refine lv_aload_n hx hb dX8_readsCond_39 rfl (lv_at hl 1 rfl) ?_
        refine lv_iload_n hx hb dX8_readsCond_40 rfl (lv_at hl 2 rfl) ?_
        obtain ⟨v5, S4, e_S4, hm⟩ := m_call_of hm
        refine n_cVi X hH hS (k := 8) (c_X8_readsParts (F := F) (rF := rF) hrF hF (x := x) (o1 := o1) hT hk_x hk_o1 e_S4) mw_X8_readsParts in_5_231 (m_lay_at hT hk_x (by decide) (i := 31) rfl) (by decide) rfl rfl rfl ⟨rfl, rfl⟩ ⟨by simp only [rm_X8_readsCond, rm_X8_readsParts]; omega, by simp only [rm_X8_readsCond, rm_X8_readsParts]; omega⟩ ⟨Nat.zero_le _, Nat.zero_le _⟩ hl.1 (Nat.le_of_ble_eq_true rfl) dX8_readsCond_41 (fun H locs hH hS => ?_)
        refine lv_if_ne (tgt := 49) hx hb dX8_readsCond_44 (by decide) (fun c6 => ?_) (fun c6 => ?_)
        · have hm := m_ite_f hm c6
          refine lv_aload_n hx hb dX8_readsCond_49 rfl (lv_at hl 0 rfl) ?_
          refine r_getp X hH (k := 8) (a := (x + 31)) (j := 0) (b := (x + 32)) (A := 1) (B := 0) (m_lay_at hT hk_x (by decide) (i := 31) rfl) (by decide) rfl m_wi8 (by decide) in_2_128 rfl rfl rfl dX8_readsCond_50 ?_
          refine lv_bipush (v := (11 : Int32)) hx hb dX8_readsCond_53 (by decide) ?_
          refine lv_iconst (v := (-1 : Int32)) hx hb dX8_readsCond_55 (by decide) ?_
          refine lv_iconst (v := (-1 : Int32)) hx hb dX8_readsCond_56 (by decide) ?_
          obtain ⟨v8, S7, e_S7, hm⟩ := m_call_of hm
          refine n_cVi X hH hS (k := 7) (c_X7_put (a := (x + 32)) hT (m_lay_at hT hk_x (by decide) (i := 32) rfl) e_S7) mw_X7_put in_6_2 (m_lay_at hT hk_x (by decide) (i := 32) rfl) (by decide) rfl rfl rfl ⟨rfl, rfl⟩ ⟨by simp only [rm_X8_readsCond, rm_X7_put]; omega, by simp only [rm_X8_readsCond, rm_X7_put]; omega⟩ ⟨Nat.zero_le _, Nat.zero_le _⟩ hl.1 (Nat.le_of_ble_eq_true rfl) dX8_readsCond_57 (fun H locs hH hS => ?_)
          refine lv_pop hx hb dX8_readsCond_60 rfl ?_
          obtain ⟨v9, e_v9, hm⟩ := m_let_of hm
          refine lv_iinc (v := v9) (lv' := [(3, .int v9), (0, .ref (x + 31)), (1, .ref o1), (2, .int l2)]) hx hb dX8_readsCond_61 hl (k := 3) rfl (by rw [← e_v9]; rfl) (by decide) rfl (fun ls hl => ?_)
          refine lv_goto (tgt := 13) hx hb dX8_readsCond_64 (by decide) ?_
          exact ih S7 l2 v9 _ _ _ hH hS (lv_sub hl [1, 2, 3, 0] rfl) hm
        · have hm := m_ite_t hm c6
          refine lv_iconst (v := (0 : Int32)) hx hb dX8_readsCond_47 (by decide) ?_
          exact r_zret X hr hH hS hm dX8_readsCond_48
def f_X8_readsCond (F : Nat → Nat → m_M → Int32 → Option (Int32 × m_M)) (x o1 : Nat) (S : m_M) (i2 : Int32) : Option (Int32 × m_M) :=
    m_call (f_X8_readsParts F x o1 S i2) fun v2 S1 =>
    if v2 = 0 then (
    if (0 : Int32) = 0 ∨ (0 : Int32) = 1 then some ((0 : Int32), S1) else none) else (
    b_X8_readsCond_13 F x o1 m_fu S1 i2 (0 : Int32))
set_option maxHeartbeats 4000000 in
set_option maxRecDepth 100000 in
theorem c_X8_readsCond {l : Launch} {G : m_G} {nx : Nat} {κ : Nat → Nat} {F : Nat → Nat → m_M → Int32 → Option (Int32 × m_M)} {rF : Room} (hrF : rF.cells = 0 ∧ rF.slots = 0) (hF : ∀ (x o1 : Nat) (S : m_M) (i2 : Int32) (res : (Int32 × m_M)), κ x = 12 → κ o1 = 4 → F x o1 S i2 = some res → m_Ci l yX8_readsOne cX8_readsOne 5 (some .boolean) rF G nx κ [.ref (x + 31), .ref o1, .int i2] S res) {x o1 : Nat} {S : m_M} {i2 : Int32} {res : (Int32 × m_M)} (hT : m_Str κ) (hk_x : κ x = 12) (hk_o1 : κ o1 = 4) (hm : f_X8_readsCond F x o1 S i2 = some res) : m_Ci l yX8_readsCond cX8_readsCond 4 (some .boolean) (rm_X8_readsCond rF) G nx κ [.ref (x + 31), .ref o1, .int i2] S res := by
  refine m_Ci.of (by decide) (Nat.le_of_ble_eq_true rfl) ?_
  intro p e s m args below meth c ls X hr hH hl
  have hx := X.1.1
  have hb := X.1.2.1
  have hS : m_S G s s.heap [] := va_S.rf
  have hl : lv_has ls 4 [(0, .ref (x + 31)), (1, .ref o1), (2, .int i2)] := hl
  rw [f_X8_readsCond] at hm
  refine lv_aload_n hx hb dX8_readsCond_0 rfl (lv_at hl 0 rfl) ?_
  refine lv_aload_n hx hb dX8_readsCond_1 rfl (lv_at hl 1 rfl) ?_
  refine lv_iload_n hx hb dX8_readsCond_2 rfl (lv_at hl 2 rfl) ?_
  obtain ⟨v2, S1, e_S1, hm⟩ := m_call_of hm
  refine n_cVi X hH hS (k := 8) (c_X8_readsParts (F := F) (rF := rF) hrF hF (x := x) (o1 := o1) hT hk_x hk_o1 e_S1) mw_X8_readsParts in_5_231 (m_lay_at hT hk_x (by decide) (i := 31) rfl) (by decide) rfl rfl rfl ⟨rfl, rfl⟩ ⟨by simp only [rm_X8_readsCond, rm_X8_readsParts]; omega, by simp only [rm_X8_readsCond, rm_X8_readsParts]; omega⟩ ⟨Nat.zero_le _, Nat.zero_le _⟩ hl.1 (Nat.le_of_ble_eq_true rfl) dX8_readsCond_3 (fun H locs hH hS => ?_)
  refine lv_if_ne (tgt := 11) hx hb dX8_readsCond_6 (by decide) (fun c3 => ?_) (fun c3 => ?_)
  · have hm := m_ite_f hm c3
    refine lv_iconst (v := (0 : Int32)) hx hb dX8_readsCond_11 (by decide) ?_
    refine lv_istore_n (lv' := [(3, .int (0 : Int32)), (0, .ref (x + 31)), (1, .ref o1), (2, .int i2)]) hx hb dX8_readsCond_12 rfl hl (by decide) rfl (fun ls hl => ?_)
    exact k_X8_readsCond_13 (F := F) (x := x) (o1 := o1) X hr hT rF hrF hF hk_x hk_o1  m_fu S1 i2 (0 : Int32) _ _ _ hH hS (lv_sub hl [1, 2, 3, 0] rfl) hm
  · have hm := m_ite_t hm c3
    refine lv_iconst (v := (0 : Int32)) hx hb dX8_readsCond_9 (by decide) ?_
    exact r_zret X hr hH hS hm dX8_readsCond_10
def rm_X8_readsFunOf : Room := { frames := 1, cells := 0, slots := 0, locals := 23 }
def f_X8_readsFunOf (x o1 : Nat) (S : m_M) (i2 : Int32) : Option (Int32 × m_M) :=
    if (m_ri S (x + 37) 9) = (2 : Int32) then (
    m_call (f_X3_funOf o1 S (m_rj S (x + 37) 14)) fun v3 S2 =>
    if v3 = (-1 : Int32) then (
    m_call (f_X9s_failsBy x S2 (3 : Int32)) fun v9 S8 =>
    if v9 = 0 ∨ v9 = 1 then some (v9, S8) else none) else (
    m_cal0 (f_X9s_advance x S2) fun S5 =>
    m_call (f_X7_put (x + 32) S5 i2 (-1 : Int32) v3) fun v7 S6 =>
    if v7 = 0 ∨ v7 = 1 then some (v7, S6) else none)) else (
    m_call (f_X9s_failsBy x S (1 : Int32)) fun v11 S10 =>
    if v11 = 0 ∨ v11 = 1 then some (v11, S10) else none)
set_option maxHeartbeats 4000000 in
set_option maxRecDepth 100000 in
theorem c_X8_readsFunOf {l : Launch} {G : m_G} {nx : Nat} {κ : Nat → Nat} {x o1 : Nat} {S : m_M} {i2 : Int32} {res : (Int32 × m_M)} (hT : m_Str κ) (hk_x : κ x = 12) (hk_o1 : κ o1 = 4) (hm : f_X8_readsFunOf x o1 S i2 = some res) : m_Ci l yX8_readsFunOf cX8_readsFunOf 4 (some .boolean) rm_X8_readsFunOf G nx κ [.ref (x + 31), .ref o1, .int i2] S res := by
  refine m_Ci.of (by decide) (Nat.le_of_ble_eq_true rfl) ?_
  intro p e s m args below meth c ls X hr hH hl
  have hx := X.1.1
  have hb := X.1.2.1
  have hS : m_S G s s.heap [] := va_S.rf
  have hl : lv_has ls 4 [(0, .ref (x + 31)), (1, .ref o1), (2, .int i2)] := hl
  rw [f_X8_readsFunOf] at hm
  refine lv_aload_n hx hb dX8_readsFunOf_0 rfl (lv_at hl 0 rfl) ?_
  refine r_getp X hH (k := 8) (a := (x + 31)) (j := 1) (b := (x + 37)) (A := 6) (B := 0) (m_lay_at hT hk_x (by decide) (i := 31) rfl) (by decide) rfl m_wi8 (by decide) in_2_130 rfl rfl rfl dX8_readsFunOf_1 ?_
  refine r_geti X hH (k := 9) (a := (x + 37)) (j := 9) (m_lay_at hT hk_x (by decide) (i := 37) rfl) (by decide) rfl m_wi9 (by decide) in_2_20 rfl rfl dX8_readsFunOf_4 ?_
  refine lv_iconst (v := (2 : Int32)) hx hb dX8_readsFunOf_7 (by decide) ?_
  refine lv_icmp_eq (tgt := 20) hx hb dX8_readsFunOf_8 (by decide) (fun c1 => ?_) (fun c1 => ?_)
  · have hm := m_ite_t hm c1
    refine lv_aload_n hx hb dX8_readsFunOf_20 rfl (lv_at hl 1 rfl) ?_
    refine lv_aload_n hx hb dX8_readsFunOf_21 rfl (lv_at hl 0 rfl) ?_
    refine r_getp X hH (k := 8) (a := (x + 31)) (j := 1) (b := (x + 37)) (A := 6) (B := 0) (m_lay_at hT hk_x (by decide) (i := 31) rfl) (by decide) rfl m_wi8 (by decide) in_2_130 rfl rfl rfl dX8_readsFunOf_22 ?_
    refine r_getj X hH (k := 9) (a := (x + 37)) (j := 14) (m_lay_at hT hk_x (by decide) (i := 37) rfl) (by decide) rfl m_wi9 (by decide) in_2_32 rfl rfl dX8_readsFunOf_25 ?_
    obtain ⟨v3, S2, e_S2, hm⟩ := m_call_of hm
    refine n_cVi X hH hS (k := 3) (c_X3_funOf (a := o1) hT hk_o1 e_S2) mw_X3_funOf in_6_10 hk_o1 (by decide) rfl rfl rfl ⟨rfl, rfl⟩ ⟨Nat.le_of_ble_eq_true rfl, Nat.le_of_ble_eq_true rfl⟩ ⟨Nat.zero_le _, Nat.zero_le _⟩ hl.1 (Nat.le_of_ble_eq_true rfl) dX8_readsFunOf_28 (fun H locs hH hS => ?_)
    refine lv_istore_n (lv' := [(3, .int v3), (0, .ref (x + 31)), (1, .ref o1), (2, .int i2)]) hx hb dX8_readsFunOf_31 rfl hl (by decide) rfl (fun ls hl => ?_)
    refine lv_iload_n hx hb dX8_readsFunOf_32 rfl (lv_at hl 0 rfl) ?_
    refine lv_iconst (v := (-1 : Int32)) hx hb dX8_readsFunOf_33 (by decide) ?_
    refine lv_icmp_ne (tgt := 46) hx hb dX8_readsFunOf_34 (by decide) (fun c4 => ?_) (fun c4 => ?_)
    · have hm := m_ite_f hm c4
      refine lv_aload_n hx hb dX8_readsFunOf_46 rfl (lv_at hl 1 rfl) ?_
      refine r_getp X hH (k := 8) (a := (x + 31)) (j := 1) (b := (x + 37)) (A := 6) (B := 0) (m_lay_at hT hk_x (by decide) (i := 31) rfl) (by decide) rfl m_wi8 (by decide) in_2_130 rfl rfl rfl dX8_readsFunOf_47 ?_
      obtain ⟨S5, e_S5, hm⟩ := m_cal0_of hm
      refine r_cVv X hH hS (k := 9) (c_X9s_advance (x := x) hT hk_x e_S5) mw_X9_advance in_6_0 (m_lay_at hT hk_x (by decide) (i := 37) rfl) (by decide) rfl rfl rfl ⟨rfl, rfl⟩ ⟨Nat.le_of_ble_eq_true rfl, Nat.le_of_ble_eq_true rfl⟩ ⟨Nat.zero_le _, Nat.zero_le _⟩ hl.1 (Nat.le_of_ble_eq_true rfl) dX8_readsFunOf_50 (fun H locs hH hS => ?_)
      refine lv_aload_n hx hb dX8_readsFunOf_53 rfl (lv_at hl 1 rfl) ?_
      refine r_getp X hH (k := 8) (a := (x + 31)) (j := 0) (b := (x + 32)) (A := 1) (B := 0) (m_lay_at hT hk_x (by decide) (i := 31) rfl) (by decide) rfl m_wi8 (by decide) in_2_128 rfl rfl rfl dX8_readsFunOf_54 ?_
      refine lv_iload_n hx hb dX8_readsFunOf_57 rfl (lv_at hl 3 rfl) ?_
      refine lv_iconst (v := (-1 : Int32)) hx hb dX8_readsFunOf_58 (by decide) ?_
      refine lv_iload_n hx hb dX8_readsFunOf_59 rfl (lv_at hl 0 rfl) ?_
      obtain ⟨v7, S6, e_S6, hm⟩ := m_call_of hm
      refine n_cVi X hH hS (k := 7) (c_X7_put (a := (x + 32)) hT (m_lay_at hT hk_x (by decide) (i := 32) rfl) e_S6) mw_X7_put in_6_2 (m_lay_at hT hk_x (by decide) (i := 32) rfl) (by decide) rfl rfl rfl ⟨rfl, rfl⟩ ⟨Nat.le_of_ble_eq_true rfl, Nat.le_of_ble_eq_true rfl⟩ ⟨Nat.zero_le _, Nat.zero_le _⟩ hl.1 (Nat.le_of_ble_eq_true rfl) dX8_readsFunOf_60 (fun H locs hH hS => ?_)
      exact r_zret X hr hH hS hm dX8_readsFunOf_63
    · have hm := m_ite_t hm c4
      refine lv_aload_n hx hb dX8_readsFunOf_37 rfl (lv_at hl 1 rfl) ?_
      refine r_getp X hH (k := 8) (a := (x + 31)) (j := 1) (b := (x + 37)) (A := 6) (B := 0) (m_lay_at hT hk_x (by decide) (i := 31) rfl) (by decide) rfl m_wi8 (by decide) in_2_130 rfl rfl rfl dX8_readsFunOf_38 ?_
      refine lv_iconst (v := (3 : Int32)) hx hb dX8_readsFunOf_41 (by decide) ?_
      obtain ⟨v9, S8, e_S8, hm⟩ := m_call_of hm
      refine n_cVi X hH hS (k := 9) (c_X9s_failsBy (x := x) hT hk_x e_S8) mw_X9_failsBy in_5_239 (m_lay_at hT hk_x (by decide) (i := 37) rfl) (by decide) rfl rfl rfl ⟨rfl, rfl⟩ ⟨Nat.le_of_ble_eq_true rfl, Nat.le_of_ble_eq_true rfl⟩ ⟨Nat.zero_le _, Nat.zero_le _⟩ hl.1 (Nat.le_of_ble_eq_true rfl) dX8_readsFunOf_42 (fun H locs hH hS => ?_)
      exact r_zret X hr hH hS hm dX8_readsFunOf_45
  · have hm := m_ite_f hm c1
    refine lv_aload_n hx hb dX8_readsFunOf_11 rfl (lv_at hl 0 rfl) ?_
    refine r_getp X hH (k := 8) (a := (x + 31)) (j := 1) (b := (x + 37)) (A := 6) (B := 0) (m_lay_at hT hk_x (by decide) (i := 31) rfl) (by decide) rfl m_wi8 (by decide) in_2_130 rfl rfl rfl dX8_readsFunOf_12 ?_
    refine lv_iconst (v := (1 : Int32)) hx hb dX8_readsFunOf_15 (by decide) ?_
    obtain ⟨v11, S10, e_S10, hm⟩ := m_call_of hm
    refine n_cVi X hH hS (k := 9) (c_X9s_failsBy (x := x) hT hk_x e_S10) mw_X9_failsBy in_5_239 (m_lay_at hT hk_x (by decide) (i := 37) rfl) (by decide) rfl rfl rfl ⟨rfl, rfl⟩ ⟨Nat.le_of_ble_eq_true rfl, Nat.le_of_ble_eq_true rfl⟩ ⟨Nat.zero_le _, Nat.zero_le _⟩ hl.1 (Nat.le_of_ble_eq_true rfl) dX8_readsFunOf_16 (fun H locs hH hS => ?_)
    exact r_zret X hr hH hS hm dX8_readsFunOf_19
def rm_X8_readsMeasure : Room := { frames := 1, cells := 0, slots := 0, locals := 23 }
def b_X8_readsMeasure_35 (x : Nat)  (S : m_M) (l1 : Int32) (l2 : Int32) : Option (Int32 × m_M) :=
    m_cal0 (f_X9s_advance x S) fun S1 =>
    if (m_ri S1 (x + 37) 9) = (4 : Int32) then (
    m_let (m_ri S1 (x + 37) 12) fun v3 =>
    m_cal0 (f_X9s_advance x S1) fun S4 =>
    m_call (f_X7_put (x + 32) S4 l1 l2 v3) fun v6 S5 =>
    if v6 = 0 ∨ v6 = 1 then some (v6, S5) else none) else (
    m_call (f_X9s_failsBy x S1 (1 : Int32)) fun v8 S7 =>
    if v8 = 0 ∨ v8 = 1 then some (v8, S7) else none)
set_option maxHeartbeats 4000000 in
set_option maxRecDepth 100000 in
theorem k_X8_readsMeasure_35 {p : Program} {l : Launch} {e : Env} {s : State} {m : MethodId} {args : Array Value} {below : List Frame} {meth : Method} {c : Code} {G : m_G} {nx : Nat} {κ : Nat → Nat} {res : (Int32 × m_M)} {x : Nat} (X : m_Cx p s m args meth c cX8_readsMeasure 4 RX8 G) (hr : meth.sig.returnType = (some .boolean)) (hT : m_Str κ) (hk_x : κ x = 12)  : ∀ (S : m_M) (l1 : Int32) (l2 : Int32) (H : Heap) (locs : List Loc) (ls : Array Slot), m_H G nx κ S H → m_S G s H locs → lv_has ls 4 [(0, .ref (x + 31)), (1, .int l1), (2, .int l2)] → b_X8_readsMeasure_35 x S l1 l2 = some res → W p l e rm_X8_readsMeasure s m args below meth c H locs 0 0 (m_Qi below args s G nx κ res) (F0 m 35 ls []) := by
  have hx := X.1.1
  have hb := X.1.2.1
  intro S l1 l2 H locs ls hH hS hl hm
  rw [b_X8_readsMeasure_35] at hm
  refine lv_aload_n hx hb dX8_readsMeasure_35 rfl (lv_at hl 0 rfl) ?_
  refine r_getp X hH (k := 8) (a := (x + 31)) (j := 1) (b := (x + 37)) (A := 6) (B := 0) (m_lay_at hT hk_x (by decide) (i := 31) rfl) (by decide) rfl m_wi8 (by decide) in_2_130 rfl rfl rfl dX8_readsMeasure_36 ?_
  obtain ⟨S1, e_S1, hm⟩ := m_cal0_of hm
  refine r_cVv X hH hS (k := 9) (c_X9s_advance (x := x) hT hk_x e_S1) mw_X9_advance in_6_0 (m_lay_at hT hk_x (by decide) (i := 37) rfl) (by decide) rfl rfl rfl ⟨rfl, rfl⟩ ⟨Nat.le_of_ble_eq_true rfl, Nat.le_of_ble_eq_true rfl⟩ ⟨Nat.zero_le _, Nat.zero_le _⟩ hl.1 (Nat.le_of_ble_eq_true rfl) dX8_readsMeasure_39 (fun H locs hH hS => ?_)
  refine lv_aload_n hx hb dX8_readsMeasure_42 rfl (lv_at hl 0 rfl) ?_
  refine r_getp X hH (k := 8) (a := (x + 31)) (j := 1) (b := (x + 37)) (A := 6) (B := 0) (m_lay_at hT hk_x (by decide) (i := 31) rfl) (by decide) rfl m_wi8 (by decide) in_2_130 rfl rfl rfl dX8_readsMeasure_43 ?_
  refine r_geti X hH (k := 9) (a := (x + 37)) (j := 9) (m_lay_at hT hk_x (by decide) (i := 37) rfl) (by decide) rfl m_wi9 (by decide) in_2_20 rfl rfl dX8_readsMeasure_46 ?_
  refine lv_iconst (v := (4 : Int32)) hx hb dX8_readsMeasure_49 (by decide) ?_
  refine lv_icmp_eq (tgt := 62) hx hb dX8_readsMeasure_50 (by decide) (fun c2 => ?_) (fun c2 => ?_)
  · have hm := m_ite_t hm c2
    refine lv_aload_n hx hb dX8_readsMeasure_62 rfl (lv_at hl 0 rfl) ?_
    refine r_getp X hH (k := 8) (a := (x + 31)) (j := 1) (b := (x + 37)) (A := 6) (B := 0) (m_lay_at hT hk_x (by decide) (i := 31) rfl) (by decide) rfl m_wi8 (by decide) in_2_130 rfl rfl rfl dX8_readsMeasure_63 ?_
    refine r_geti X hH (k := 9) (a := (x + 37)) (j := 12) (m_lay_at hT hk_x (by decide) (i := 37) rfl) (by decide) rfl m_wi9 (by decide) in_2_27 rfl rfl dX8_readsMeasure_66 ?_
    obtain ⟨v3, e_v3, hm⟩ := m_let_of hm
    refine n_topi e_v3 ?_
    refine lv_istore_n (lv' := [(3, .int v3), (0, .ref (x + 31)), (1, .int l1), (2, .int l2)]) hx hb dX8_readsMeasure_69 rfl hl (by decide) rfl (fun ls hl => ?_)
    refine lv_aload_n hx hb dX8_readsMeasure_70 rfl (lv_at hl 1 rfl) ?_
    refine r_getp X hH (k := 8) (a := (x + 31)) (j := 1) (b := (x + 37)) (A := 6) (B := 0) (m_lay_at hT hk_x (by decide) (i := 31) rfl) (by decide) rfl m_wi8 (by decide) in_2_130 rfl rfl rfl dX8_readsMeasure_71 ?_
    obtain ⟨S4, e_S4, hm⟩ := m_cal0_of hm
    refine r_cVv X hH hS (k := 9) (c_X9s_advance (x := x) hT hk_x e_S4) mw_X9_advance in_6_0 (m_lay_at hT hk_x (by decide) (i := 37) rfl) (by decide) rfl rfl rfl ⟨rfl, rfl⟩ ⟨Nat.le_of_ble_eq_true rfl, Nat.le_of_ble_eq_true rfl⟩ ⟨Nat.zero_le _, Nat.zero_le _⟩ hl.1 (Nat.le_of_ble_eq_true rfl) dX8_readsMeasure_74 (fun H locs hH hS => ?_)
    refine lv_aload_n hx hb dX8_readsMeasure_77 rfl (lv_at hl 1 rfl) ?_
    refine r_getp X hH (k := 8) (a := (x + 31)) (j := 0) (b := (x + 32)) (A := 1) (B := 0) (m_lay_at hT hk_x (by decide) (i := 31) rfl) (by decide) rfl m_wi8 (by decide) in_2_128 rfl rfl rfl dX8_readsMeasure_78 ?_
    refine lv_iload_n hx hb dX8_readsMeasure_81 rfl (lv_at hl 2 rfl) ?_
    refine lv_iload_n hx hb dX8_readsMeasure_82 rfl (lv_at hl 3 rfl) ?_
    refine lv_iload_n hx hb dX8_readsMeasure_83 rfl (lv_at hl 0 rfl) ?_
    obtain ⟨v6, S5, e_S5, hm⟩ := m_call_of hm
    refine n_cVi X hH hS (k := 7) (c_X7_put (a := (x + 32)) hT (m_lay_at hT hk_x (by decide) (i := 32) rfl) e_S5) mw_X7_put in_6_2 (m_lay_at hT hk_x (by decide) (i := 32) rfl) (by decide) rfl rfl rfl ⟨rfl, rfl⟩ ⟨Nat.le_of_ble_eq_true rfl, Nat.le_of_ble_eq_true rfl⟩ ⟨Nat.zero_le _, Nat.zero_le _⟩ hl.1 (Nat.le_of_ble_eq_true rfl) dX8_readsMeasure_84 (fun H locs hH hS => ?_)
    exact r_zret X hr hH hS hm dX8_readsMeasure_87
  · have hm := m_ite_f hm c2
    refine lv_aload_n hx hb dX8_readsMeasure_53 rfl (lv_at hl 0 rfl) ?_
    refine r_getp X hH (k := 8) (a := (x + 31)) (j := 1) (b := (x + 37)) (A := 6) (B := 0) (m_lay_at hT hk_x (by decide) (i := 31) rfl) (by decide) rfl m_wi8 (by decide) in_2_130 rfl rfl rfl dX8_readsMeasure_54 ?_
    refine lv_iconst (v := (1 : Int32)) hx hb dX8_readsMeasure_57 (by decide) ?_
    obtain ⟨v8, S7, e_S7, hm⟩ := m_call_of hm
    refine n_cVi X hH hS (k := 9) (c_X9s_failsBy (x := x) hT hk_x e_S7) mw_X9_failsBy in_5_239 (m_lay_at hT hk_x (by decide) (i := 37) rfl) (by decide) rfl rfl rfl ⟨rfl, rfl⟩ ⟨Nat.le_of_ble_eq_true rfl, Nat.le_of_ble_eq_true rfl⟩ ⟨Nat.zero_le _, Nat.zero_le _⟩ hl.1 (Nat.le_of_ble_eq_true rfl) dX8_readsMeasure_58 (fun H locs hH hS => ?_)
    exact r_zret X hr hH hS hm dX8_readsMeasure_61
def f_X8_readsMeasure (x : Nat) (S : m_M) (i1 : Int32) : Option (Int32 × m_M) :=
    m_let (m_ri S (x + 37) 13) fun v1 =>
    if v1 = (60 : Int32) then (
    b_X8_readsMeasure_35 x S i1 v1) else (
    if v1 = (61 : Int32) then (
    b_X8_readsMeasure_35 x S i1 v1) else (
    if v1 = (62 : Int32) then (
    b_X8_readsMeasure_35 x S i1 v1) else (
    m_call (f_X9s_failsBy x S (1 : Int32)) fun v6 S5 =>
    if v6 = 0 ∨ v6 = 1 then some (v6, S5) else none)))
set_option maxHeartbeats 4000000 in
set_option maxRecDepth 100000 in
theorem c_X8_readsMeasure {l : Launch} {G : m_G} {nx : Nat} {κ : Nat → Nat} {x : Nat} {S : m_M} {i1 : Int32} {res : (Int32 × m_M)} (hT : m_Str κ) (hk_x : κ x = 12) (hm : f_X8_readsMeasure x S i1 = some res) : m_Ci l yX8_readsMeasure cX8_readsMeasure 4 (some .boolean) rm_X8_readsMeasure G nx κ [.ref (x + 31), .int i1] S res := by
  refine m_Ci.of (by decide) (Nat.le_of_ble_eq_true rfl) ?_
  intro p e s m args below meth c ls X hr hH hl
  have hx := X.1.1
  have hb := X.1.2.1
  have hS : m_S G s s.heap [] := va_S.rf
  have hl : lv_has ls 4 [(0, .ref (x + 31)), (1, .int i1)] := hl
  rw [f_X8_readsMeasure] at hm
  refine lv_aload_n hx hb dX8_readsMeasure_0 rfl (lv_at hl 0 rfl) ?_
  refine r_getp X hH (k := 8) (a := (x + 31)) (j := 1) (b := (x + 37)) (A := 6) (B := 0) (m_lay_at hT hk_x (by decide) (i := 31) rfl) (by decide) rfl m_wi8 (by decide) in_2_130 rfl rfl rfl dX8_readsMeasure_1 ?_
  refine r_geti X hH (k := 9) (a := (x + 37)) (j := 13) (m_lay_at hT hk_x (by decide) (i := 37) rfl) (by decide) rfl m_wi9 (by decide) in_2_29 rfl rfl dX8_readsMeasure_4 ?_
  obtain ⟨v1, e_v1, hm⟩ := m_let_of hm
  refine n_topi e_v1 ?_
  refine lv_istore_n (lv' := [(2, .int v1), (0, .ref (x + 31)), (1, .int i1)]) hx hb dX8_readsMeasure_7 rfl hl (by decide) rfl (fun ls hl => ?_)
  refine lv_iload_n hx hb dX8_readsMeasure_8 rfl (lv_at hl 0 rfl) ?_
  refine lv_bipush (v := (60 : Int32)) hx hb dX8_readsMeasure_9 (by decide) ?_
  refine lv_icmp_eq (tgt := 35) hx hb dX8_readsMeasure_11 (by decide) (fun c2 => ?_) (fun c2 => ?_)
  · have hm := m_ite_t hm c2
    exact k_X8_readsMeasure_35 (x := x) X hr hT hk_x   S i1 v1 _ _ _ hH hS (lv_sub hl [1, 2, 0] rfl) hm
  · have hm := m_ite_f hm c2
    refine lv_iload_n hx hb dX8_readsMeasure_14 rfl (lv_at hl 0 rfl) ?_
    refine lv_bipush (v := (61 : Int32)) hx hb dX8_readsMeasure_15 (by decide) ?_
    refine lv_icmp_eq (tgt := 35) hx hb dX8_readsMeasure_17 (by decide) (fun c3 => ?_) (fun c3 => ?_)
    · have hm := m_ite_t hm c3
      exact k_X8_readsMeasure_35 (x := x) X hr hT hk_x   S i1 v1 _ _ _ hH hS (lv_sub hl [1, 2, 0] rfl) hm
    · have hm := m_ite_f hm c3
      refine lv_iload_n hx hb dX8_readsMeasure_20 rfl (lv_at hl 0 rfl) ?_
      refine lv_bipush (v := (62 : Int32)) hx hb dX8_readsMeasure_21 (by decide) ?_
      refine lv_icmp_eq (tgt := 35) hx hb dX8_readsMeasure_23 (by decide) (fun c4 => ?_) (fun c4 => ?_)
      · have hm := m_ite_t hm c4
        exact k_X8_readsMeasure_35 (x := x) X hr hT hk_x   S i1 v1 _ _ _ hH hS (lv_sub hl [1, 2, 0] rfl) hm
      · have hm := m_ite_f hm c4
        refine lv_aload_n hx hb dX8_readsMeasure_26 rfl (lv_at hl 1 rfl) ?_
        refine r_getp X hH (k := 8) (a := (x + 31)) (j := 1) (b := (x + 37)) (A := 6) (B := 0) (m_lay_at hT hk_x (by decide) (i := 31) rfl) (by decide) rfl m_wi8 (by decide) in_2_130 rfl rfl rfl dX8_readsMeasure_27 ?_
        refine lv_iconst (v := (1 : Int32)) hx hb dX8_readsMeasure_30 (by decide) ?_
        obtain ⟨v6, S5, e_S5, hm⟩ := m_call_of hm
        refine n_cVi X hH hS (k := 9) (c_X9s_failsBy (x := x) hT hk_x e_S5) mw_X9_failsBy in_5_239 (m_lay_at hT hk_x (by decide) (i := 37) rfl) (by decide) rfl rfl rfl ⟨rfl, rfl⟩ ⟨Nat.le_of_ble_eq_true rfl, Nat.le_of_ble_eq_true rfl⟩ ⟨Nat.zero_le _, Nat.zero_le _⟩ hl.1 (Nat.le_of_ble_eq_true rfl) dX8_readsMeasure_31 (fun H locs hH hS => ?_)
        exact r_zret X hr hH hS hm dX8_readsMeasure_34
def rm_X8_readsOne_ (r : Room) : Room := { frames := r.frames + 3, cells := 0, slots := 0, locals := r.locals + 70 }
def b_X8_readsOne_45 (F : Nat → Nat → m_M → Int32 → Option (Int32 × m_M)) (x o1 : Nat)  (S : m_M)  : Option (Int32 × m_M) :=
    m_call (f_X9s_failsBy x S (1 : Int32)) fun v2 S1 =>
    if v2 = 0 ∨ v2 = 1 then some (v2, S1) else none
set_option maxHeartbeats 4000000 in
set_option maxRecDepth 100000 in
theorem k_X8_readsOne_45 {p : Program} {l : Launch} {e : Env} {s : State} {m : MethodId} {args : Array Value} {below : List Frame} {meth : Method} {c : Code} {G : m_G} {nx : Nat} {κ : Nat → Nat} {res : (Int32 × m_M)} {F : Nat → Nat → m_M → Int32 → Option (Int32 × m_M)} {x o1 : Nat} (X : m_Cx p s m args meth c cX8_readsOne 5 RX8 G) (hr : meth.sig.returnType = (some .boolean)) (hT : m_Str κ) (rF : Room) (hrF : rF.cells = 0 ∧ rF.slots = 0) (hF : ∀ (x o1 : Nat) (S : m_M) (i2 : Int32) (res : (Int32 × m_M)), κ x = 12 → κ o1 = 4 → F x o1 S i2 = some res → m_Ci l yX8_readsOne cX8_readsOne 5 (some .boolean) rF G nx κ [.ref (x + 31), .ref o1, .int i2] S res) (hk_x : κ x = 12) (hk_o1 : κ o1 = 4)  : ∀ (S : m_M)  (H : Heap) (locs : List Loc) (ls : Array Slot), m_H G nx κ S H → m_S G s H locs → lv_has ls 5 [(0, .ref (x + 31))] → b_X8_readsOne_45 F x o1 S  = some res → W p l e (rm_X8_readsOne_ rF) s m args below meth c H locs 0 0 (m_Qi below args s G nx κ res) (F0 m 45 ls []) := by
  have hx := X.1.1
  have hb := X.1.2.1
  intro S H locs ls hH hS hl hm
  rw [b_X8_readsOne_45] at hm
  refine lv_aload_n hx hb dX8_readsOne_45 rfl (lv_at hl 0 rfl) ?_
  refine r_getp X hH (k := 8) (a := (x + 31)) (j := 1) (b := (x + 37)) (A := 6) (B := 0) (m_lay_at hT hk_x (by decide) (i := 31) rfl) (by decide) rfl m_wi8 (by decide) in_2_130 rfl rfl rfl dX8_readsOne_46 ?_
  refine lv_iconst (v := (1 : Int32)) hx hb dX8_readsOne_49 (by decide) ?_
  obtain ⟨v2, S1, e_S1, hm⟩ := m_call_of hm
  refine n_cVi X hH hS (k := 9) (c_X9s_failsBy (x := x) hT hk_x e_S1) mw_X9_failsBy in_5_239 (m_lay_at hT hk_x (by decide) (i := 37) rfl) (by decide) rfl rfl rfl ⟨rfl, rfl⟩ ⟨by simp only [rm_X8_readsOne_, rm_X9s_failsBy]; omega, by simp only [rm_X8_readsOne_, rm_X9s_failsBy]; omega⟩ ⟨Nat.zero_le _, Nat.zero_le _⟩ hl.1 (Nat.le_of_ble_eq_true rfl) dX8_readsOne_50 (fun H locs hH hS => ?_)
  exact r_zret X hr hH hS hm dX8_readsOne_53
def b_X8_readsOne_72 (F : Nat → Nat → m_M → Int32 → Option (Int32 × m_M)) (x o1 : Nat)  (S : m_M)  : Option (Int32 × m_M) :=
    m_call (f_X9s_failsBy x S (4 : Int32)) fun v2 S1 =>
    if v2 = 0 ∨ v2 = 1 then some (v2, S1) else none
set_option maxHeartbeats 4000000 in
set_option maxRecDepth 100000 in
theorem k_X8_readsOne_72 {p : Program} {l : Launch} {e : Env} {s : State} {m : MethodId} {args : Array Value} {below : List Frame} {meth : Method} {c : Code} {G : m_G} {nx : Nat} {κ : Nat → Nat} {res : (Int32 × m_M)} {F : Nat → Nat → m_M → Int32 → Option (Int32 × m_M)} {x o1 : Nat} (X : m_Cx p s m args meth c cX8_readsOne 5 RX8 G) (hr : meth.sig.returnType = (some .boolean)) (hT : m_Str κ) (rF : Room) (hrF : rF.cells = 0 ∧ rF.slots = 0) (hF : ∀ (x o1 : Nat) (S : m_M) (i2 : Int32) (res : (Int32 × m_M)), κ x = 12 → κ o1 = 4 → F x o1 S i2 = some res → m_Ci l yX8_readsOne cX8_readsOne 5 (some .boolean) rF G nx κ [.ref (x + 31), .ref o1, .int i2] S res) (hk_x : κ x = 12) (hk_o1 : κ o1 = 4)  : ∀ (S : m_M)  (H : Heap) (locs : List Loc) (ls : Array Slot), m_H G nx κ S H → m_S G s H locs → lv_has ls 5 [(0, .ref (x + 31))] → b_X8_readsOne_72 F x o1 S  = some res → W p l e (rm_X8_readsOne_ rF) s m args below meth c H locs 0 0 (m_Qi below args s G nx κ res) (F0 m 72 ls []) := by
  have hx := X.1.1
  have hb := X.1.2.1
  intro S H locs ls hH hS hl hm
  rw [b_X8_readsOne_72] at hm
  refine lv_aload_n hx hb dX8_readsOne_72 rfl (lv_at hl 0 rfl) ?_
  refine r_getp X hH (k := 8) (a := (x + 31)) (j := 1) (b := (x + 37)) (A := 6) (B := 0) (m_lay_at hT hk_x (by decide) (i := 31) rfl) (by decide) rfl m_wi8 (by decide) in_2_130 rfl rfl rfl dX8_readsOne_73 ?_
  refine lv_iconst (v := (4 : Int32)) hx hb dX8_readsOne_76 (by decide) ?_
  obtain ⟨v2, S1, e_S1, hm⟩ := m_call_of hm
  refine n_cVi X hH hS (k := 9) (c_X9s_failsBy (x := x) hT hk_x e_S1) mw_X9_failsBy in_5_239 (m_lay_at hT hk_x (by decide) (i := 37) rfl) (by decide) rfl rfl rfl ⟨rfl, rfl⟩ ⟨by simp only [rm_X8_readsOne_, rm_X9s_failsBy]; omega, by simp only [rm_X8_readsOne_, rm_X9s_failsBy]; omega⟩ ⟨Nat.zero_le _, Nat.zero_le _⟩ hl.1 (Nat.le_of_ble_eq_true rfl) dX8_readsOne_77 (fun H locs hH hS => ?_)
  exact r_zret X hr hH hS hm dX8_readsOne_80
def b_X8_readsOne_133 (F : Nat → Nat → m_M → Int32 → Option (Int32 × m_M)) (x o1 : Nat)  (S : m_M) (t0 : Int32) : Option (Int32 × m_M) :=
    if t0 = 0 ∨ t0 = 1 then some (t0, S) else none
set_option maxHeartbeats 4000000 in
set_option maxRecDepth 100000 in
theorem k_X8_readsOne_133 {p : Program} {l : Launch} {e : Env} {s : State} {m : MethodId} {args : Array Value} {below : List Frame} {meth : Method} {c : Code} {G : m_G} {nx : Nat} {κ : Nat → Nat} {res : (Int32 × m_M)} {F : Nat → Nat → m_M → Int32 → Option (Int32 × m_M)} {x o1 : Nat} (X : m_Cx p s m args meth c cX8_readsOne 5 RX8 G) (hr : meth.sig.returnType = (some .boolean)) (hT : m_Str κ) (rF : Room) (hrF : rF.cells = 0 ∧ rF.slots = 0) (hF : ∀ (x o1 : Nat) (S : m_M) (i2 : Int32) (res : (Int32 × m_M)), κ x = 12 → κ o1 = 4 → F x o1 S i2 = some res → m_Ci l yX8_readsOne cX8_readsOne 5 (some .boolean) rF G nx κ [.ref (x + 31), .ref o1, .int i2] S res) (hk_x : κ x = 12) (hk_o1 : κ o1 = 4)  : ∀ (S : m_M) (t0 : Int32) (H : Heap) (locs : List Loc) (ls : Array Slot), m_H G nx κ S H → m_S G s H locs → lv_has ls 5 [] → b_X8_readsOne_133 F x o1 S t0 = some res → W p l e (rm_X8_readsOne_ rF) s m args below meth c H locs 0 0 (m_Qi below args s G nx κ res) (F0 m 133 ls [.int t0]) := by
  have hx := X.1.1
  have hb := X.1.2.1
  intro S t0 H locs ls hH hS hl hm
  rw [b_X8_readsOne_133] at hm
  exact r_zret X hr hH hS hm dX8_readsOne_133
def b_X8_readsOne_132 (F : Nat → Nat → m_M → Int32 → Option (Int32 × m_M)) (x o1 : Nat)  (S : m_M)  : Option (Int32 × m_M) :=
    b_X8_readsOne_133 F x o1 S (0 : Int32)
set_option maxHeartbeats 4000000 in
set_option maxRecDepth 100000 in
theorem k_X8_readsOne_132 {p : Program} {l : Launch} {e : Env} {s : State} {m : MethodId} {args : Array Value} {below : List Frame} {meth : Method} {c : Code} {G : m_G} {nx : Nat} {κ : Nat → Nat} {res : (Int32 × m_M)} {F : Nat → Nat → m_M → Int32 → Option (Int32 × m_M)} {x o1 : Nat} (X : m_Cx p s m args meth c cX8_readsOne 5 RX8 G) (hr : meth.sig.returnType = (some .boolean)) (hT : m_Str κ) (rF : Room) (hrF : rF.cells = 0 ∧ rF.slots = 0) (hF : ∀ (x o1 : Nat) (S : m_M) (i2 : Int32) (res : (Int32 × m_M)), κ x = 12 → κ o1 = 4 → F x o1 S i2 = some res → m_Ci l yX8_readsOne cX8_readsOne 5 (some .boolean) rF G nx κ [.ref (x + 31), .ref o1, .int i2] S res) (hk_x : κ x = 12) (hk_o1 : κ o1 = 4)  : ∀ (S : m_M)  (H : Heap) (locs : List Loc) (ls : Array Slot), m_H G nx κ S H → m_S G s H locs → lv_has ls 5 [] → b_X8_readsOne_132 F x o1 S  = some res → W p l e (rm_X8_readsOne_ rF) s m args below meth c H locs 0 0 (m_Qi below args s G nx κ res) (F0 m 132 ls []) := by
  have hx := X.1.1
  have hb := X.1.2.1
  intro S H locs ls hH hS hl hm
  rw [b_X8_readsOne_132] at hm
  refine lv_iconst (v := (0 : Int32)) hx hb dX8_readsOne_132 (by decide) ?_
  exact k_X8_readsOne_133 (F := F) (x := x) (o1 := o1) X hr hT rF hrF hF hk_x hk_o1   S (0 : Int32) _ _ _ hH hS hl hm
def b_X8_readsOne_218 (F : Nat → Nat → m_M → Int32 → Option (Int32 × m_M)) (x o1 : Nat)  (S : m_M) (t0 : Int32) : Option (Int32 × m_M) :=
    if t0 = 0 ∨ t0 = 1 then some (t0, S) else none
set_option maxHeartbeats 4000000 in
set_option maxRecDepth 100000 in
theorem k_X8_readsOne_218 {p : Program} {l : Launch} {e : Env} {s : State} {m : MethodId} {args : Array Value} {below : List Frame} {meth : Method} {c : Code} {G : m_G} {nx : Nat} {κ : Nat → Nat} {res : (Int32 × m_M)} {F : Nat → Nat → m_M → Int32 → Option (Int32 × m_M)} {x o1 : Nat} (X : m_Cx p s m args meth c cX8_readsOne 5 RX8 G) (hr : meth.sig.returnType = (some .boolean)) (hT : m_Str κ) (rF : Room) (hrF : rF.cells = 0 ∧ rF.slots = 0) (hF : ∀ (x o1 : Nat) (S : m_M) (i2 : Int32) (res : (Int32 × m_M)), κ x = 12 → κ o1 = 4 → F x o1 S i2 = some res → m_Ci l yX8_readsOne cX8_readsOne 5 (some .boolean) rF G nx κ [.ref (x + 31), .ref o1, .int i2] S res) (hk_x : κ x = 12) (hk_o1 : κ o1 = 4)  : ∀ (S : m_M) (t0 : Int32) (H : Heap) (locs : List Loc) (ls : Array Slot), m_H G nx κ S H → m_S G s H locs → lv_has ls 5 [] → b_X8_readsOne_218 F x o1 S t0 = some res → W p l e (rm_X8_readsOne_ rF) s m args below meth c H locs 0 0 (m_Qi below args s G nx κ res) (F0 m 218 ls [.int t0]) := by
  have hx := X.1.1
  have hb := X.1.2.1
  intro S t0 H locs ls hH hS hl hm
  rw [b_X8_readsOne_218] at hm
  exact r_zret X hr hH hS hm dX8_readsOne_218
def b_X8_readsOne_217 (F : Nat → Nat → m_M → Int32 → Option (Int32 × m_M)) (x o1 : Nat)  (S : m_M)  : Option (Int32 × m_M) :=
    b_X8_readsOne_218 F x o1 S (0 : Int32)
set_option maxHeartbeats 4000000 in
set_option maxRecDepth 100000 in
theorem k_X8_readsOne_217 {p : Program} {l : Launch} {e : Env} {s : State} {m : MethodId} {args : Array Value} {below : List Frame} {meth : Method} {c : Code} {G : m_G} {nx : Nat} {κ : Nat → Nat} {res : (Int32 × m_M)} {F : Nat → Nat → m_M → Int32 → Option (Int32 × m_M)} {x o1 : Nat} (X : m_Cx p s m args meth c cX8_readsOne 5 RX8 G) (hr : meth.sig.returnType = (some .boolean)) (hT : m_Str κ) (rF : Room) (hrF : rF.cells = 0 ∧ rF.slots = 0) (hF : ∀ (x o1 : Nat) (S : m_M) (i2 : Int32) (res : (Int32 × m_M)), κ x = 12 → κ o1 = 4 → F x o1 S i2 = some res → m_Ci l yX8_readsOne cX8_readsOne 5 (some .boolean) rF G nx κ [.ref (x + 31), .ref o1, .int i2] S res) (hk_x : κ x = 12) (hk_o1 : κ o1 = 4)  : ∀ (S : m_M)  (H : Heap) (locs : List Loc) (ls : Array Slot), m_H G nx κ S H → m_S G s H locs → lv_has ls 5 [] → b_X8_readsOne_217 F x o1 S  = some res → W p l e (rm_X8_readsOne_ rF) s m args below meth c H locs 0 0 (m_Qi below args s G nx κ res) (F0 m 217 ls []) := by
  have hx := X.1.1
  have hb := X.1.2.1
  intro S H locs ls hH hS hl hm
  rw [b_X8_readsOne_217] at hm
  refine lv_iconst (v := (0 : Int32)) hx hb dX8_readsOne_217 (by decide) ?_
  exact k_X8_readsOne_218 (F := F) (x := x) (o1 := o1) X hr hT rF hrF hF hk_x hk_o1   S (0 : Int32) _ _ _ hH hS hl hm
def b_X8_readsOne_219 (F : Nat → Nat → m_M → Int32 → Option (Int32 × m_M)) (x o1 : Nat)  (S : m_M) (l4 : Int32) : Option (Int32 × m_M) :=
    m_call (f_X8_readsFunOf x o1 S l4) fun v2 S1 =>
    if v2 = 0 ∨ v2 = 1 then some (v2, S1) else none
set_option maxHeartbeats 4000000 in
set_option maxRecDepth 100000 in
theorem k_X8_readsOne_219 {p : Program} {l : Launch} {e : Env} {s : State} {m : MethodId} {args : Array Value} {below : List Frame} {meth : Method} {c : Code} {G : m_G} {nx : Nat} {κ : Nat → Nat} {res : (Int32 × m_M)} {F : Nat → Nat → m_M → Int32 → Option (Int32 × m_M)} {x o1 : Nat} (X : m_Cx p s m args meth c cX8_readsOne 5 RX8 G) (hr : meth.sig.returnType = (some .boolean)) (hT : m_Str κ) (rF : Room) (hrF : rF.cells = 0 ∧ rF.slots = 0) (hF : ∀ (x o1 : Nat) (S : m_M) (i2 : Int32) (res : (Int32 × m_M)), κ x = 12 → κ o1 = 4 → F x o1 S i2 = some res → m_Ci l yX8_readsOne cX8_readsOne 5 (some .boolean) rF G nx κ [.ref (x + 31), .ref o1, .int i2] S res) (hk_x : κ x = 12) (hk_o1 : κ o1 = 4)  : ∀ (S : m_M) (l4 : Int32) (H : Heap) (locs : List Loc) (ls : Array Slot), m_H G nx κ S H → m_S G s H locs → lv_has ls 5 [(0, .ref (x + 31)), (1, .ref o1), (4, .int l4)] → b_X8_readsOne_219 F x o1 S l4 = some res → W p l e (rm_X8_readsOne_ rF) s m args below meth c H locs 0 0 (m_Qi below args s G nx κ res) (F0 m 219 ls []) := by
  have hx := X.1.1
  have hb := X.1.2.1
  intro S l4 H locs ls hH hS hl hm
  rw [b_X8_readsOne_219] at hm
  refine lv_aload_n hx hb dX8_readsOne_219 rfl (lv_at hl 0 rfl) ?_
  refine lv_aload_n hx hb dX8_readsOne_220 rfl (lv_at hl 1 rfl) ?_
  refine lv_iload hx hb dX8_readsOne_221 (lv_at hl 2 rfl) ?_
  obtain ⟨v2, S1, e_S1, hm⟩ := m_call_of hm
  refine n_cVi X hH hS (k := 8) (c_X8_readsFunOf (x := x) (o1 := o1) hT hk_x hk_o1 e_S1) mw_X8_readsFunOf in_6_6 (m_lay_at hT hk_x (by decide) (i := 31) rfl) (by decide) rfl rfl rfl ⟨rfl, rfl⟩ ⟨by simp only [rm_X8_readsOne_, rm_X8_readsFunOf]; omega, by simp only [rm_X8_readsOne_, rm_X8_readsFunOf]; omega⟩ ⟨Nat.zero_le _, Nat.zero_le _⟩ hl.1 (Nat.le_of_ble_eq_true rfl) dX8_readsOne_223 (fun H locs hH hS => ?_)
  exact r_zret X hr hH hS hm dX8_readsOne_226
def b_X8_readsOne_227 (F : Nat → Nat → m_M → Int32 → Option (Int32 × m_M)) (x o1 : Nat)  (S : m_M) (l4 : Int32) : Option (Int32 × m_M) :=
    m_call (f_X8_readsMeasure x S l4) fun v2 S1 =>
    if v2 = 0 ∨ v2 = 1 then some (v2, S1) else none
set_option maxHeartbeats 4000000 in
set_option maxRecDepth 100000 in
theorem k_X8_readsOne_227 {p : Program} {l : Launch} {e : Env} {s : State} {m : MethodId} {args : Array Value} {below : List Frame} {meth : Method} {c : Code} {G : m_G} {nx : Nat} {κ : Nat → Nat} {res : (Int32 × m_M)} {F : Nat → Nat → m_M → Int32 → Option (Int32 × m_M)} {x o1 : Nat} (X : m_Cx p s m args meth c cX8_readsOne 5 RX8 G) (hr : meth.sig.returnType = (some .boolean)) (hT : m_Str κ) (rF : Room) (hrF : rF.cells = 0 ∧ rF.slots = 0) (hF : ∀ (x o1 : Nat) (S : m_M) (i2 : Int32) (res : (Int32 × m_M)), κ x = 12 → κ o1 = 4 → F x o1 S i2 = some res → m_Ci l yX8_readsOne cX8_readsOne 5 (some .boolean) rF G nx κ [.ref (x + 31), .ref o1, .int i2] S res) (hk_x : κ x = 12) (hk_o1 : κ o1 = 4)  : ∀ (S : m_M) (l4 : Int32) (H : Heap) (locs : List Loc) (ls : Array Slot), m_H G nx κ S H → m_S G s H locs → lv_has ls 5 [(0, .ref (x + 31)), (4, .int l4)] → b_X8_readsOne_227 F x o1 S l4 = some res → W p l e (rm_X8_readsOne_ rF) s m args below meth c H locs 0 0 (m_Qi below args s G nx κ res) (F0 m 227 ls []) := by
  have hx := X.1.1
  have hb := X.1.2.1
  intro S l4 H locs ls hH hS hl hm
  rw [b_X8_readsOne_227] at hm
  refine lv_aload_n hx hb dX8_readsOne_227 rfl (lv_at hl 0 rfl) ?_
  refine lv_iload hx hb dX8_readsOne_228 (lv_at hl 1 rfl) ?_
  obtain ⟨v2, S1, e_S1, hm⟩ := m_call_of hm
  refine n_cVi X hH hS (k := 8) (c_X8_readsMeasure (x := x) hT hk_x e_S1) mw_X8_readsMeasure in_6_11 (m_lay_at hT hk_x (by decide) (i := 31) rfl) (by decide) rfl rfl rfl ⟨rfl, rfl⟩ ⟨by simp only [rm_X8_readsOne_, rm_X8_readsMeasure]; omega, by simp only [rm_X8_readsOne_, rm_X8_readsMeasure]; omega⟩ ⟨Nat.zero_le _, Nat.zero_le _⟩ hl.1 (Nat.le_of_ble_eq_true rfl) dX8_readsOne_230 (fun H locs hH hS => ?_)
  exact r_zret X hr hH hS hm dX8_readsOne_233
def b_X8_readsOne_234 (F : Nat → Nat → m_M → Int32 → Option (Int32 × m_M)) (x o1 : Nat)  (S : m_M) (l4 : Int32) : Option (Int32 × m_M) :=
    m_call (f_X7_put (x + 32) S l4 (-1 : Int32) (-1 : Int32)) fun v2 S1 =>
    if v2 = 0 ∨ v2 = 1 then some (v2, S1) else none
set_option maxHeartbeats 4000000 in
set_option maxRecDepth 100000 in
theorem k_X8_readsOne_234 {p : Program} {l : Launch} {e : Env} {s : State} {m : MethodId} {args : Array Value} {below : List Frame} {meth : Method} {c : Code} {G : m_G} {nx : Nat} {κ : Nat → Nat} {res : (Int32 × m_M)} {F : Nat → Nat → m_M → Int32 → Option (Int32 × m_M)} {x o1 : Nat} (X : m_Cx p s m args meth c cX8_readsOne 5 RX8 G) (hr : meth.sig.returnType = (some .boolean)) (hT : m_Str κ) (rF : Room) (hrF : rF.cells = 0 ∧ rF.slots = 0) (hF : ∀ (x o1 : Nat) (S : m_M) (i2 : Int32) (res : (Int32 × m_M)), κ x = 12 → κ o1 = 4 → F x o1 S i2 = some res → m_Ci l yX8_readsOne cX8_readsOne 5 (some .boolean) rF G nx κ [.ref (x + 31), .ref o1, .int i2] S res) (hk_x : κ x = 12) (hk_o1 : κ o1 = 4)  : ∀ (S : m_M) (l4 : Int32) (H : Heap) (locs : List Loc) (ls : Array Slot), m_H G nx κ S H → m_S G s H locs → lv_has ls 5 [(0, .ref (x + 31)), (4, .int l4)] → b_X8_readsOne_234 F x o1 S l4 = some res → W p l e (rm_X8_readsOne_ rF) s m args below meth c H locs 0 0 (m_Qi below args s G nx κ res) (F0 m 234 ls []) := by
  have hx := X.1.1
  have hb := X.1.2.1
  intro S l4 H locs ls hH hS hl hm
  rw [b_X8_readsOne_234] at hm
  refine lv_aload_n hx hb dX8_readsOne_234 rfl (lv_at hl 0 rfl) ?_
  refine r_getp X hH (k := 8) (a := (x + 31)) (j := 0) (b := (x + 32)) (A := 1) (B := 0) (m_lay_at hT hk_x (by decide) (i := 31) rfl) (by decide) rfl m_wi8 (by decide) in_2_128 rfl rfl rfl dX8_readsOne_235 ?_
  refine lv_iload hx hb dX8_readsOne_238 (lv_at hl 1 rfl) ?_
  refine lv_iconst (v := (-1 : Int32)) hx hb dX8_readsOne_240 (by decide) ?_
  refine lv_iconst (v := (-1 : Int32)) hx hb dX8_readsOne_241 (by decide) ?_
  obtain ⟨v2, S1, e_S1, hm⟩ := m_call_of hm
  refine n_cVi X hH hS (k := 7) (c_X7_put (a := (x + 32)) hT (m_lay_at hT hk_x (by decide) (i := 32) rfl) e_S1) mw_X7_put in_6_2 (m_lay_at hT hk_x (by decide) (i := 32) rfl) (by decide) rfl rfl rfl ⟨rfl, rfl⟩ ⟨by simp only [rm_X8_readsOne_, rm_X7_put]; omega, by simp only [rm_X8_readsOne_, rm_X7_put]; omega⟩ ⟨Nat.zero_le _, Nat.zero_le _⟩ hl.1 (Nat.le_of_ble_eq_true rfl) dX8_readsOne_242 (fun H locs hH hS => ?_)
  exact r_zret X hr hH hS hm dX8_readsOne_245
def b_X8_readsOne_54 (F : Nat → Nat → m_M → Int32 → Option (Int32 × m_M)) (x o1 : Nat)  (S : m_M) (l2 : Int32) (l3 : Int32) (l4 : Int32) : Option (Int32 × m_M) :=
    if (20 : Int32) ≤ (m_ri S (x + 32) 1) then (
    b_X8_readsOne_72 F x o1 S) else (
    if l2 < (8 : Int32) then (
    m_let (m_si S (x + 32) 1 ((m_ri S (x + 32) 1) + (1 : Int32))) fun S3 =>
    m_cal0 (f_X9s_advance x S3) fun S4 =>
    if l3 = 0 then (
    if l4 = (13 : Int32) then (
    m_call (F x o1 S4 (l2 + (1 : Int32))) fun v8 S7 =>
    if v8 = 0 then (
    b_X8_readsOne_217 F x o1 S7) else (
    m_call (f_X7_put (x + 32) S7 (13 : Int32) (-1 : Int32) (-1 : Int32)) fun v11 S10 =>
    if v11 = 0 then (
    b_X8_readsOne_217 F x o1 S10) else (
    b_X8_readsOne_218 F x o1 S10 (1 : Int32)))) else (
    if l4 = (14 : Int32) then (
    b_X8_readsOne_234 F x o1 S4 l4) else (
    if l4 = (15 : Int32) then (
    b_X8_readsOne_234 F x o1 S4 l4) else (
    if l4 = (16 : Int32) then (
    b_X8_readsOne_234 F x o1 S4 l4) else (
    if l4 = (17 : Int32) then (
    b_X8_readsOne_219 F x o1 S4 l4) else (
    if l4 = (18 : Int32) then (
    b_X8_readsOne_219 F x o1 S4 l4) else (
    if l4 = (19 : Int32) then (
    b_X8_readsOne_227 F x o1 S4 l4) else (
    if l4 = (20 : Int32) then (
    b_X8_readsOne_227 F x o1 S4 l4) else (
    if l4 = (21 : Int32) then (
    b_X8_readsOne_227 F x o1 S4 l4) else (
    b_X8_readsOne_234 F x o1 S4 l4)))))))))) else (
    m_call (f_X8_readsCond F x o1 S4 (l2 + (1 : Int32))) fun v22 S21 =>
    if v22 = 0 then (
    b_X8_readsOne_132 F x o1 S21) else (
    m_call (f_X9s_takesSign x S21 (41 : Int32)) fun v25 S24 =>
    if v25 = 0 then (
    b_X8_readsOne_132 F x o1 S24) else (
    b_X8_readsOne_133 F x o1 S24 (1 : Int32))))) else (
    b_X8_readsOne_72 F x o1 S))
set_option maxHeartbeats 4000000 in
set_option maxRecDepth 100000 in
theorem k_X8_readsOne_54 {p : Program} {l : Launch} {e : Env} {s : State} {m : MethodId} {args : Array Value} {below : List Frame} {meth : Method} {c : Code} {G : m_G} {nx : Nat} {κ : Nat → Nat} {res : (Int32 × m_M)} {F : Nat → Nat → m_M → Int32 → Option (Int32 × m_M)} {x o1 : Nat} (X : m_Cx p s m args meth c cX8_readsOne 5 RX8 G) (hr : meth.sig.returnType = (some .boolean)) (hT : m_Str κ) (rF : Room) (hrF : rF.cells = 0 ∧ rF.slots = 0) (hF : ∀ (x o1 : Nat) (S : m_M) (i2 : Int32) (res : (Int32 × m_M)), κ x = 12 → κ o1 = 4 → F x o1 S i2 = some res → m_Ci l yX8_readsOne cX8_readsOne 5 (some .boolean) rF G nx κ [.ref (x + 31), .ref o1, .int i2] S res) (hk_x : κ x = 12) (hk_o1 : κ o1 = 4)  : ∀ (S : m_M) (l2 : Int32) (l3 : Int32) (l4 : Int32) (H : Heap) (locs : List Loc) (ls : Array Slot), m_H G nx κ S H → m_S G s H locs → lv_has ls 5 [(0, .ref (x + 31)), (1, .ref o1), (2, .int l2), (3, .int l3), (4, .int l4)] → b_X8_readsOne_54 F x o1 S l2 l3 l4 = some res → W p l e (rm_X8_readsOne_ rF) s m args below meth c H locs 0 0 (m_Qi below args s G nx κ res) (F0 m 54 ls []) := by
  have hx := X.1.1
  have hb := X.1.2.1
  intro S l2 l3 l4 H locs ls hH hS hl hm
  rw [b_X8_readsOne_54] at hm
  refine lv_aload_n hx hb dX8_readsOne_54 rfl (lv_at hl 0 rfl) ?_
  refine r_getp X hH (k := 8) (a := (x + 31)) (j := 0) (b := (x + 32)) (A := 1) (B := 0) (m_lay_at hT hk_x (by decide) (i := 31) rfl) (by decide) rfl m_wi8 (by decide) in_2_128 rfl rfl rfl dX8_readsOne_55 ?_
  refine r_geti X hH (k := 7) (a := (x + 32)) (j := 1) (m_lay_at hT hk_x (by decide) (i := 32) rfl) (by decide) rfl m_wi7 (by decide) in_2_103 rfl rfl dX8_readsOne_58 ?_
  refine lv_bipush (v := (20 : Int32)) hx hb dX8_readsOne_61 (by decide) ?_
  refine lv_icmp_ge (tgt := 72) hx hb dX8_readsOne_63 (by decide) (fun c1 => ?_) (fun c1 => ?_)
  · have hm := m_ite_t hm c1
    exact k_X8_readsOne_72 (F := F) (x := x) (o1 := o1) X hr hT rF hrF hF hk_x hk_o1   S _ _ _ hH hS (lv_sub hl [0] rfl) hm
  · have hm := m_ite_f hm c1
    refine lv_iload_n hx hb dX8_readsOne_66 rfl (lv_at hl 2 rfl) ?_
    refine lv_bipush (v := (8 : Int32)) hx hb dX8_readsOne_67 (by decide) ?_
    refine lv_icmp_lt (tgt := 81) hx hb dX8_readsOne_69 (by decide) (fun c2 => ?_) (fun c2 => ?_)
    · have hm := m_ite_t hm c2
      refine lv_aload_n hx hb dX8_readsOne_81 rfl (lv_at hl 0 rfl) ?_
      refine r_getp X hH (k := 8) (a := (x + 31)) (j := 0) (b := (x + 32)) (A := 1) (B := 0) (m_lay_at hT hk_x (by decide) (i := 31) rfl) (by decide) rfl m_wi8 (by decide) in_2_128 rfl rfl rfl dX8_readsOne_82 ?_
      refine lv_dup hx hb dX8_readsOne_85 rfl ?_
      refine r_geti X hH (k := 7) (a := (x + 32)) (j := 1) (m_lay_at hT hk_x (by decide) (i := 32) rfl) (by decide) rfl m_wi7 (by decide) in_2_103 rfl rfl dX8_readsOne_86 ?_
      refine lv_iconst (v := (1 : Int32)) hx hb dX8_readsOne_89 (by decide) ?_
      refine lv_iadd hx hb dX8_readsOne_90 ?_
      obtain ⟨S3, e_S3, hm⟩ := m_let_of hm
      refine n_puti X hH hS tyX7 (k := 7) (a := (x + 32)) (j := 1) (m_lay_at hT hk_x (by decide) (i := 32) rfl) (by decide) rfl m_wi7 tyX7_ok nmX7 (by decide) in_2_103 rfl rfl rfl ⟨rfl, rfl⟩ e_S3 dX8_readsOne_91 (fun H locs hH hS => ?_)
      refine lv_aload_n hx hb dX8_readsOne_94 rfl (lv_at hl 0 rfl) ?_
      refine r_getp X hH (k := 8) (a := (x + 31)) (j := 1) (b := (x + 37)) (A := 6) (B := 0) (m_lay_at hT hk_x (by decide) (i := 31) rfl) (by decide) rfl m_wi8 (by decide) in_2_130 rfl rfl rfl dX8_readsOne_95 ?_
      obtain ⟨S4, e_S4, hm⟩ := m_cal0_of hm
      refine r_cVv X hH hS (k := 9) (c_X9s_advance (x := x) hT hk_x e_S4) mw_X9_advance in_6_0 (m_lay_at hT hk_x (by decide) (i := 37) rfl) (by decide) rfl rfl rfl ⟨rfl, rfl⟩ ⟨by simp only [rm_X8_readsOne_, rm_X9s_advance]; omega, by simp only [rm_X8_readsOne_, rm_X9s_advance]; omega⟩ ⟨Nat.zero_le _, Nat.zero_le _⟩ hl.1 (Nat.le_of_ble_eq_true rfl) dX8_readsOne_98 (fun H locs hH hS => ?_)
      refine lv_iload_n hx hb dX8_readsOne_101 rfl (lv_at hl 3 rfl) ?_
      refine lv_if_eq (tgt := 134) hx hb dX8_readsOne_102 (by decide) (fun c5 => ?_) (fun c5 => ?_)
      · have hm := m_ite_t hm c5
        refine lv_iload hx hb dX8_readsOne_134 (lv_at hl 4 rfl) ?_
        by_cases c6 : l4 = (13 : Int32)
        · have hm := m_ite_t hm c6
          refine lv_tableIn (off := 52) (tgt := 188) hx hb dX8_readsOne_136 (by rw [c6]; decide) (by rw [c6]; decide) (by rw [c6]; rfl) (by decide) ?_
          refine lv_aload_n hx hb dX8_readsOne_188 rfl (lv_at hl 0 rfl) ?_
          refine lv_aload_n hx hb dX8_readsOne_189 rfl (lv_at hl 1 rfl) ?_
          refine lv_iload_n hx hb dX8_readsOne_190 rfl (lv_at hl 2 rfl) ?_
          refine lv_iconst (v := (1 : Int32)) hx hb dX8_readsOne_191 (by decide) ?_
          refine lv_iadd hx hb dX8_readsOne_192 ?_
          obtain ⟨v8, S7, e_S7, hm⟩ := m_call_of hm
          refine n_cVi X hH hS (k := 8) (hF x o1 S4 (l2 + (1 : Int32)) _ hk_x hk_o1 e_S7) mw_X8_readsOne in_5_235 (m_lay_at hT hk_x (by decide) (i := 31) rfl) (by decide) rfl rfl rfl hrF ⟨by simp only [rm_X8_readsOne_]; omega, by simp only [rm_X8_readsOne_]; omega⟩ ⟨Nat.zero_le _, Nat.zero_le _⟩ hl.1 (Nat.le_of_ble_eq_true rfl) dX8_readsOne_193 (fun H locs hH hS => ?_)
          refine lv_if_eq (tgt := 217) hx hb dX8_readsOne_196 (by decide) (fun c9 => ?_) (fun c9 => ?_)
          · have hm := m_ite_t hm c9
            exact k_X8_readsOne_217 (F := F) (x := x) (o1 := o1) X hr hT rF hrF hF hk_x hk_o1   S7 _ _ _ hH hS (lv_sub hl [] rfl) hm
          · have hm := m_ite_f hm c9
            refine lv_aload_n hx hb dX8_readsOne_199 rfl (lv_at hl 0 rfl) ?_
            refine r_getp X hH (k := 8) (a := (x + 31)) (j := 0) (b := (x + 32)) (A := 1) (B := 0) (m_lay_at hT hk_x (by decide) (i := 31) rfl) (by decide) rfl m_wi8 (by decide) in_2_128 rfl rfl rfl dX8_readsOne_200 ?_
            refine lv_bipush (v := (13 : Int32)) hx hb dX8_readsOne_203 (by decide) ?_
            refine lv_iconst (v := (-1 : Int32)) hx hb dX8_readsOne_205 (by decide) ?_
            refine lv_iconst (v := (-1 : Int32)) hx hb dX8_readsOne_206 (by decide) ?_
            obtain ⟨v11, S10, e_S10, hm⟩ := m_call_of hm
            refine n_cVi X hH hS (k := 7) (c_X7_put (a := (x + 32)) hT (m_lay_at hT hk_x (by decide) (i := 32) rfl) e_S10) mw_X7_put in_6_2 (m_lay_at hT hk_x (by decide) (i := 32) rfl) (by decide) rfl rfl rfl ⟨rfl, rfl⟩ ⟨by simp only [rm_X8_readsOne_, rm_X7_put]; omega, by simp only [rm_X8_readsOne_, rm_X7_put]; omega⟩ ⟨Nat.zero_le _, Nat.zero_le _⟩ hl.1 (Nat.le_of_ble_eq_true rfl) dX8_readsOne_207 (fun H locs hH hS => ?_)
            refine lv_if_eq (tgt := 217) hx hb dX8_readsOne_210 (by decide) (fun c12 => ?_) (fun c12 => ?_)
            · have hm := m_ite_t hm c12
              exact k_X8_readsOne_217 (F := F) (x := x) (o1 := o1) X hr hT rF hrF hF hk_x hk_o1   S10 _ _ _ hH hS (lv_sub hl [] rfl) hm
            · have hm := m_ite_f hm c12
              refine lv_iconst (v := (1 : Int32)) hx hb dX8_readsOne_213 (by decide) ?_
              refine lv_goto (tgt := 218) hx hb dX8_readsOne_214 (by decide) ?_
              exact k_X8_readsOne_218 (F := F) (x := x) (o1 := o1) X hr hT rF hrF hF hk_x hk_o1   S10 (1 : Int32) _ _ _ hH hS (lv_sub hl [] rfl) hm
        · have hm := m_ite_f hm c6
          by_cases c13 : l4 = (14 : Int32)
          · have hm := m_ite_t hm c13
            refine lv_tableIn (off := 98) (tgt := 234) hx hb dX8_readsOne_136 (by rw [c13]; decide) (by rw [c13]; decide) (by rw [c13]; rfl) (by decide) ?_
            exact k_X8_readsOne_234 (F := F) (x := x) (o1 := o1) X hr hT rF hrF hF hk_x hk_o1   S4 l4 _ _ _ hH hS (lv_sub hl [0, 4] rfl) hm
          · have hm := m_ite_f hm c13
            by_cases c14 : l4 = (15 : Int32)
            · have hm := m_ite_t hm c14
              refine lv_tableIn (off := 98) (tgt := 234) hx hb dX8_readsOne_136 (by rw [c14]; decide) (by rw [c14]; decide) (by rw [c14]; rfl) (by decide) ?_
              exact k_X8_readsOne_234 (F := F) (x := x) (o1 := o1) X hr hT rF hrF hF hk_x hk_o1   S4 l4 _ _ _ hH hS (lv_sub hl [0, 4] rfl) hm
            · have hm := m_ite_f hm c14
              by_cases c15 : l4 = (16 : Int32)
              · have hm := m_ite_t hm c15
                refine lv_tableIn (off := 98) (tgt := 234) hx hb dX8_readsOne_136 (by rw [c15]; decide) (by rw [c15]; decide) (by rw [c15]; rfl) (by decide) ?_
                exact k_X8_readsOne_234 (F := F) (x := x) (o1 := o1) X hr hT rF hrF hF hk_x hk_o1   S4 l4 _ _ _ hH hS (lv_sub hl [0, 4] rfl) hm
              · have hm := m_ite_f hm c15
                by_cases c16 : l4 = (17 : Int32)
                · have hm := m_ite_t hm c16
                  refine lv_tableIn (off := 83) (tgt := 219) hx hb dX8_readsOne_136 (by rw [c16]; decide) (by rw [c16]; decide) (by rw [c16]; rfl) (by decide) ?_
                  exact k_X8_readsOne_219 (F := F) (x := x) (o1 := o1) X hr hT rF hrF hF hk_x hk_o1   S4 l4 _ _ _ hH hS (lv_sub hl [0, 1, 4] rfl) hm
                · have hm := m_ite_f hm c16
                  by_cases c17 : l4 = (18 : Int32)
                  · have hm := m_ite_t hm c17
                    refine lv_tableIn (off := 83) (tgt := 219) hx hb dX8_readsOne_136 (by rw [c17]; decide) (by rw [c17]; decide) (by rw [c17]; rfl) (by decide) ?_
                    exact k_X8_readsOne_219 (F := F) (x := x) (o1 := o1) X hr hT rF hrF hF hk_x hk_o1   S4 l4 _ _ _ hH hS (lv_sub hl [0, 1, 4] rfl) hm
                  · have hm := m_ite_f hm c17
                    by_cases c18 : l4 = (19 : Int32)
                    · have hm := m_ite_t hm c18
                      refine lv_tableIn (off := 91) (tgt := 227) hx hb dX8_readsOne_136 (by rw [c18]; decide) (by rw [c18]; decide) (by rw [c18]; rfl) (by decide) ?_
                      exact k_X8_readsOne_227 (F := F) (x := x) (o1 := o1) X hr hT rF hrF hF hk_x hk_o1   S4 l4 _ _ _ hH hS (lv_sub hl [0, 4] rfl) hm
                    · have hm := m_ite_f hm c18
                      by_cases c19 : l4 = (20 : Int32)
                      · have hm := m_ite_t hm c19
                        refine lv_tableIn (off := 91) (tgt := 227) hx hb dX8_readsOne_136 (by rw [c19]; decide) (by rw [c19]; decide) (by rw [c19]; rfl) (by decide) ?_
                        exact k_X8_readsOne_227 (F := F) (x := x) (o1 := o1) X hr hT rF hrF hF hk_x hk_o1   S4 l4 _ _ _ hH hS (lv_sub hl [0, 4] rfl) hm
                      · have hm := m_ite_f hm c19
                        by_cases c20 : l4 = (21 : Int32)
                        · have hm := m_ite_t hm c20
                          refine lv_tableIn (off := 91) (tgt := 227) hx hb dX8_readsOne_136 (by rw [c20]; decide) (by rw [c20]; decide) (by rw [c20]; rfl) (by decide) ?_
                          exact k_X8_readsOne_227 (F := F) (x := x) (o1 := o1) X hr hT rF hrF hF hk_x hk_o1   S4 l4 _ _ _ hH hS (lv_sub hl [0, 4] rfl) hm
                        · have hm := m_ite_f hm c20
                          refine lv_tableOut (tgt := 234) hx hb dX8_readsOne_136 (by have h_c6 := lv_neT (a := 13) c6 rfl; have h_c13 := lv_neT (a := 14) c13 rfl; have h_c14 := lv_neT (a := 15) c14 rfl; have h_c15 := lv_neT (a := 16) c15 rfl; have h_c16 := lv_neT (a := 17) c16 rfl; have h_c17 := lv_neT (a := 18) c17 rfl; have h_c18 := lv_neT (a := 19) c18 rfl; have h_c19 := lv_neT (a := 20) c19 rfl; have h_c20 := lv_neT (a := 21) c20 rfl; omega) (by decide) ?_
                          exact k_X8_readsOne_234 (F := F) (x := x) (o1 := o1) X hr hT rF hrF hF hk_x hk_o1   S4 l4 _ _ _ hH hS (lv_sub hl [0, 4] rfl) hm
      · have hm := m_ite_f hm c5
        refine lv_aload_n hx hb dX8_readsOne_105 rfl (lv_at hl 0 rfl) ?_
        refine lv_aload_n hx hb dX8_readsOne_106 rfl (lv_at hl 1 rfl) ?_
        refine lv_iload_n hx hb dX8_readsOne_107 rfl (lv_at hl 2 rfl) ?_
        refine lv_iconst (v := (1 : Int32)) hx hb dX8_readsOne_108 (by decide) ?_
        refine lv_iadd hx hb dX8_readsOne_109 ?_
        obtain ⟨v22, S21, e_S21, hm⟩ := m_call_of hm
        refine n_cVi X hH hS (k := 8) (c_X8_readsCond (F := F) (rF := rF) hrF hF (x := x) (o1 := o1) hT hk_x hk_o1 e_S21) mw_X8_readsCond in_5_227 (m_lay_at hT hk_x (by decide) (i := 31) rfl) (by decide) rfl rfl rfl ⟨rfl, rfl⟩ ⟨by simp only [rm_X8_readsOne_, rm_X8_readsCond]; omega, by simp only [rm_X8_readsOne_, rm_X8_readsCond]; omega⟩ ⟨Nat.zero_le _, Nat.zero_le _⟩ hl.1 (Nat.le_of_ble_eq_true rfl) dX8_readsOne_110 (fun H locs hH hS => ?_)
        refine lv_if_eq (tgt := 132) hx hb dX8_readsOne_113 (by decide) (fun c23 => ?_) (fun c23 => ?_)
        · have hm := m_ite_t hm c23
          exact k_X8_readsOne_132 (F := F) (x := x) (o1 := o1) X hr hT rF hrF hF hk_x hk_o1   S21 _ _ _ hH hS (lv_sub hl [] rfl) hm
        · have hm := m_ite_f hm c23
          refine lv_aload_n hx hb dX8_readsOne_116 rfl (lv_at hl 0 rfl) ?_
          refine r_getp X hH (k := 8) (a := (x + 31)) (j := 1) (b := (x + 37)) (A := 6) (B := 0) (m_lay_at hT hk_x (by decide) (i := 31) rfl) (by decide) rfl m_wi8 (by decide) in_2_130 rfl rfl rfl dX8_readsOne_117 ?_
          refine lv_bipush (v := (41 : Int32)) hx hb dX8_readsOne_120 (by decide) ?_
          obtain ⟨v25, S24, e_S24, hm⟩ := m_call_of hm
          refine n_cVi X hH hS (k := 9) (c_X9s_takesSign (x := x) hT hk_x e_S24) mw_X9_takesSign in_6_1 (m_lay_at hT hk_x (by decide) (i := 37) rfl) (by decide) rfl rfl rfl ⟨rfl, rfl⟩ ⟨by simp only [rm_X8_readsOne_, rm_X9s_takesSign]; omega, by simp only [rm_X8_readsOne_, rm_X9s_takesSign]; omega⟩ ⟨Nat.zero_le _, Nat.zero_le _⟩ hl.1 (Nat.le_of_ble_eq_true rfl) dX8_readsOne_122 (fun H locs hH hS => ?_)
          refine lv_if_eq (tgt := 132) hx hb dX8_readsOne_125 (by decide) (fun c26 => ?_) (fun c26 => ?_)
          · have hm := m_ite_t hm c26
            exact k_X8_readsOne_132 (F := F) (x := x) (o1 := o1) X hr hT rF hrF hF hk_x hk_o1   S24 _ _ _ hH hS (lv_sub hl [] rfl) hm
          · have hm := m_ite_f hm c26
            refine lv_iconst (v := (1 : Int32)) hx hb dX8_readsOne_128 (by decide) ?_
            refine lv_goto (tgt := 133) hx hb dX8_readsOne_129 (by decide) ?_
            exact k_X8_readsOne_133 (F := F) (x := x) (o1 := o1) X hr hT rF hrF hF hk_x hk_o1   S24 (1 : Int32) _ _ _ hH hS (lv_sub hl [] rfl) hm
    · have hm := m_ite_f hm c2
      exact k_X8_readsOne_72 (F := F) (x := x) (o1 := o1) X hr hT rF hrF hF hk_x hk_o1   S _ _ _ hH hS (lv_sub hl [0] rfl) hm
def b_X8_readsOne_17 (F : Nat → Nat → m_M → Int32 → Option (Int32 × m_M)) (x o1 : Nat)  (S : m_M) (l2 : Int32) (t0 : Int32) : Option (Int32 × m_M) :=
    m_let (m_ri S (x + 37) 11) fun v1 =>
    if t0 = 0 then (
    if v1 < (13 : Int32) then (
    b_X8_readsOne_45 F x o1 S) else (
    if v1 ≤ (21 : Int32) then (
    b_X8_readsOne_54 F x o1 S l2 t0 v1) else (
    b_X8_readsOne_45 F x o1 S))) else (
    b_X8_readsOne_54 F x o1 S l2 t0 v1)
set_option maxHeartbeats 4000000 in
set_option maxRecDepth 100000 in
theorem k_X8_readsOne_17 {p : Program} {l : Launch} {e : Env} {s : State} {m : MethodId} {args : Array Value} {below : List Frame} {meth : Method} {c : Code} {G : m_G} {nx : Nat} {κ : Nat → Nat} {res : (Int32 × m_M)} {F : Nat → Nat → m_M → Int32 → Option (Int32 × m_M)} {x o1 : Nat} (X : m_Cx p s m args meth c cX8_readsOne 5 RX8 G) (hr : meth.sig.returnType = (some .boolean)) (hT : m_Str κ) (rF : Room) (hrF : rF.cells = 0 ∧ rF.slots = 0) (hF : ∀ (x o1 : Nat) (S : m_M) (i2 : Int32) (res : (Int32 × m_M)), κ x = 12 → κ o1 = 4 → F x o1 S i2 = some res → m_Ci l yX8_readsOne cX8_readsOne 5 (some .boolean) rF G nx κ [.ref (x + 31), .ref o1, .int i2] S res) (hk_x : κ x = 12) (hk_o1 : κ o1 = 4)  : ∀ (S : m_M) (l2 : Int32) (t0 : Int32) (H : Heap) (locs : List Loc) (ls : Array Slot), m_H G nx κ S H → m_S G s H locs → lv_has ls 5 [(0, .ref (x + 31)), (1, .ref o1), (2, .int l2)] → b_X8_readsOne_17 F x o1 S l2 t0 = some res → W p l e (rm_X8_readsOne_ rF) s m args below meth c H locs 0 0 (m_Qi below args s G nx κ res) (F0 m 17 ls [.int t0]) := by
  have hx := X.1.1
  have hb := X.1.2.1
  intro S l2 t0 H locs ls hH hS hl hm
  rw [b_X8_readsOne_17] at hm
  refine lv_istore_n (lv' := [(3, .int t0), (0, .ref (x + 31)), (1, .ref o1), (2, .int l2)]) hx hb dX8_readsOne_17 rfl hl (by decide) rfl (fun ls hl => ?_)
  refine lv_aload_n hx hb dX8_readsOne_18 rfl (lv_at hl 1 rfl) ?_
  refine r_getp X hH (k := 8) (a := (x + 31)) (j := 1) (b := (x + 37)) (A := 6) (B := 0) (m_lay_at hT hk_x (by decide) (i := 31) rfl) (by decide) rfl m_wi8 (by decide) in_2_130 rfl rfl rfl dX8_readsOne_19 ?_
  refine r_geti X hH (k := 9) (a := (x + 37)) (j := 11) (m_lay_at hT hk_x (by decide) (i := 37) rfl) (by decide) rfl m_wi9 (by decide) in_2_24 rfl rfl dX8_readsOne_22 ?_
  obtain ⟨v1, e_v1, hm⟩ := m_let_of hm
  refine n_topi e_v1 ?_
  refine lv_istore (lv' := [(4, .int v1), (3, .int t0), (0, .ref (x + 31)), (1, .ref o1), (2, .int l2)]) hx hb dX8_readsOne_25 hl (by decide) rfl (fun ls hl => ?_)
  refine lv_iload_n hx hb dX8_readsOne_27 rfl (lv_at hl 1 rfl) ?_
  refine lv_if_ne (tgt := 54) hx hb dX8_readsOne_28 (by decide) (fun c2 => ?_) (fun c2 => ?_)
  · have hm := m_ite_f hm c2
    exact k_X8_readsOne_54 (F := F) (x := x) (o1 := o1) X hr hT rF hrF hF hk_x hk_o1   S l2 t0 v1 _ _ _ hH hS (lv_sub hl [2, 3, 4, 1, 0] rfl) hm
  · have hm := m_ite_t hm c2
    refine lv_iload hx hb dX8_readsOne_31 (lv_at hl 0 rfl) ?_
    refine lv_bipush (v := (13 : Int32)) hx hb dX8_readsOne_33 (by decide) ?_
    refine lv_icmp_lt (tgt := 45) hx hb dX8_readsOne_35 (by decide) (fun c3 => ?_) (fun c3 => ?_)
    · have hm := m_ite_t hm c3
      exact k_X8_readsOne_45 (F := F) (x := x) (o1 := o1) X hr hT rF hrF hF hk_x hk_o1   S _ _ _ hH hS (lv_sub hl [2] rfl) hm
    · have hm := m_ite_f hm c3
      refine lv_iload hx hb dX8_readsOne_38 (lv_at hl 0 rfl) ?_
      refine lv_bipush (v := (21 : Int32)) hx hb dX8_readsOne_40 (by decide) ?_
      refine lv_icmp_le (tgt := 54) hx hb dX8_readsOne_42 (by decide) (fun c4 => ?_) (fun c4 => ?_)
      · have hm := m_ite_t hm c4
        exact k_X8_readsOne_54 (F := F) (x := x) (o1 := o1) X hr hT rF hrF hF hk_x hk_o1   S l2 t0 v1 _ _ _ hH hS (lv_sub hl [2, 3, 4, 1, 0] rfl) hm
      · have hm := m_ite_f hm c4
        exact k_X8_readsOne_45 (F := F) (x := x) (o1 := o1) X hr hT rF hrF hF hk_x hk_o1   S _ _ _ hH hS (lv_sub hl [2] rfl) hm
def g_X8_readsOne (F : Nat → Nat → m_M → Int32 → Option (Int32 × m_M)) (x o1 : Nat) (S : m_M) (i2 : Int32) : Option (Int32 × m_M) :=
    if (m_ri S (x + 37) 13) = (40 : Int32) then (
    b_X8_readsOne_17 F x o1 S i2 (1 : Int32)) else (
    b_X8_readsOne_17 F x o1 S i2 (0 : Int32))
set_option maxHeartbeats 4000000 in
set_option maxRecDepth 100000 in
theorem cg_X8_readsOne {l : Launch} {G : m_G} {nx : Nat} {κ : Nat → Nat} {F : Nat → Nat → m_M → Int32 → Option (Int32 × m_M)} {rF : Room} (hrF : rF.cells = 0 ∧ rF.slots = 0) (hF : ∀ (x o1 : Nat) (S : m_M) (i2 : Int32) (res : (Int32 × m_M)), κ x = 12 → κ o1 = 4 → F x o1 S i2 = some res → m_Ci l yX8_readsOne cX8_readsOne 5 (some .boolean) rF G nx κ [.ref (x + 31), .ref o1, .int i2] S res) {x o1 : Nat} {S : m_M} {i2 : Int32} {res : (Int32 × m_M)} (hT : m_Str κ) (hk_x : κ x = 12) (hk_o1 : κ o1 = 4) (hm : g_X8_readsOne F x o1 S i2 = some res) : m_Ci l yX8_readsOne cX8_readsOne 5 (some .boolean) (rm_X8_readsOne_ rF) G nx κ [.ref (x + 31), .ref o1, .int i2] S res := by
  refine m_Ci.of (by decide) (Nat.le_of_ble_eq_true rfl) ?_
  intro p e s m args below meth c ls X hr hH hl
  have hx := X.1.1
  have hb := X.1.2.1
  have hS : m_S G s s.heap [] := va_S.rf
  have hl : lv_has ls 5 [(0, .ref (x + 31)), (1, .ref o1), (2, .int i2)] := hl
  rw [g_X8_readsOne] at hm
  refine lv_aload_n hx hb dX8_readsOne_0 rfl (lv_at hl 0 rfl) ?_
  refine r_getp X hH (k := 8) (a := (x + 31)) (j := 1) (b := (x + 37)) (A := 6) (B := 0) (m_lay_at hT hk_x (by decide) (i := 31) rfl) (by decide) rfl m_wi8 (by decide) in_2_130 rfl rfl rfl dX8_readsOne_1 ?_
  refine r_geti X hH (k := 9) (a := (x + 37)) (j := 13) (m_lay_at hT hk_x (by decide) (i := 37) rfl) (by decide) rfl m_wi9 (by decide) in_2_29 rfl rfl dX8_readsOne_4 ?_
  refine lv_bipush (v := (40 : Int32)) hx hb dX8_readsOne_7 (by decide) ?_
  refine lv_icmp_ne (tgt := 16) hx hb dX8_readsOne_9 (by decide) (fun c1 => ?_) (fun c1 => ?_)
  · have hm := m_ite_f hm c1
    refine lv_iconst (v := (0 : Int32)) hx hb dX8_readsOne_16 (by decide) ?_
    exact k_X8_readsOne_17 (F := F) (x := x) (o1 := o1) X hr hT rF hrF hF hk_x hk_o1   S i2 (0 : Int32) _ _ _ hH hS hl hm
  · have hm := m_ite_t hm c1
    refine lv_iconst (v := (1 : Int32)) hx hb dX8_readsOne_12 (by decide) ?_
    refine lv_goto (tgt := 17) hx hb dX8_readsOne_13 (by decide) ?_
    exact k_X8_readsOne_17 (F := F) (x := x) (o1 := o1) X hr hT rF hrF hF hk_x hk_o1   S i2 (1 : Int32) _ _ _ hH hS hl hm
def f_X8_readsOne : Nat → Nat → Nat → m_M → Int32 → Option (Int32 × m_M)
  | 0, _, _, _, _ => none
  | d + 1, x, o1, S, i2 => g_X8_readsOne (f_X8_readsOne d) x o1 S i2
def rm_X8_readsOne : Nat → Room
  | 0 => { frames := 0, cells := 0, slots := 0, locals := 0 }
  | d + 1 => rm_X8_readsOne_ (rm_X8_readsOne d)
theorem rd_X8_readsOne (d : Nat) : (rm_X8_readsOne d).cells = 0 ∧ (rm_X8_readsOne d).slots = 0 := by cases d <;> exact ⟨rfl, rfl⟩
theorem c_X8_readsOne {l : Launch} {G : m_G} {nx : Nat} {κ : Nat → Nat} (d : Nat) (hT : m_Str κ) : ∀ (x o1 : Nat) (S : m_M) (i2 : Int32) (res : (Int32 × m_M)), κ x = 12 → κ o1 = 4 → f_X8_readsOne d x o1 S i2 = some res → m_Ci l yX8_readsOne cX8_readsOne 5 (some .boolean) (rm_X8_readsOne d) G nx κ [.ref (x + 31), .ref o1, .int i2] S res := by
  induction d with
  | zero => intro x o1 S i2 res hk_x hk_o1 hm; have hm : (none : Option (Int32 × m_M)) = some res := hm; cases hm
  | succ d ih => intro x o1 S i2 res hk_x hk_o1 hm; exact cg_X8_readsOne (F := f_X8_readsOne d) (rF := rm_X8_readsOne d) (rd_X8_readsOne d) ih hT hk_x hk_o1 hm
def rm_X8_readsAll : Room := { frames := 39, cells := 0, slots := 0, locals := 910 }
def b_X8_readsAll_75 (x o3 : Nat)  (S : m_M) (t0 : Int32) : Option (Int32 × m_M) :=
    if t0 = 0 ∨ t0 = 1 then some (t0, S) else none
set_option maxHeartbeats 4000000 in
set_option maxRecDepth 100000 in
theorem k_X8_readsAll_75 {p : Program} {l : Launch} {e : Env} {s : State} {m : MethodId} {args : Array Value} {below : List Frame} {meth : Method} {c : Code} {G : m_G} {nx : Nat} {κ : Nat → Nat} {res : (Int32 × m_M)} {x o3 : Nat} (X : m_Cx p s m args meth c cX8_readsAll 4 RX8 G) (hr : meth.sig.returnType = (some .boolean)) (hT : m_Str κ) (hk_x : κ x = 12) (hk_o3 : κ o3 = 4)  : ∀ (S : m_M) (t0 : Int32) (H : Heap) (locs : List Loc) (ls : Array Slot), m_H G nx κ S H → m_S G s H locs → lv_has ls 4 [] → b_X8_readsAll_75 x o3 S t0 = some res → W p l e rm_X8_readsAll s m args below meth c H locs 0 0 (m_Qi below args s G nx κ res) (F0 m 75 ls [.int t0]) := by
  have hx := X.1.1
  have hb := X.1.2.1
  intro S t0 H locs ls hH hS hl hm
  rw [b_X8_readsAll_75] at hm
  exact r_zret X hr hH hS hm dX8_readsAll_75
def b_X8_readsAll_70 (x o3 : Nat)  (S : m_M)  : Option (Int32 × m_M) :=
    b_X8_readsAll_75 x o3 S (1 : Int32)
set_option maxHeartbeats 4000000 in
set_option maxRecDepth 100000 in
theorem k_X8_readsAll_70 {p : Program} {l : Launch} {e : Env} {s : State} {m : MethodId} {args : Array Value} {below : List Frame} {meth : Method} {c : Code} {G : m_G} {nx : Nat} {κ : Nat → Nat} {res : (Int32 × m_M)} {x o3 : Nat} (X : m_Cx p s m args meth c cX8_readsAll 4 RX8 G) (hr : meth.sig.returnType = (some .boolean)) (hT : m_Str κ) (hk_x : κ x = 12) (hk_o3 : κ o3 = 4)  : ∀ (S : m_M)  (H : Heap) (locs : List Loc) (ls : Array Slot), m_H G nx κ S H → m_S G s H locs → lv_has ls 4 [] → b_X8_readsAll_70 x o3 S  = some res → W p l e rm_X8_readsAll s m args below meth c H locs 0 0 (m_Qi below args s G nx κ res) (F0 m 70 ls []) := by
  have hx := X.1.1
  have hb := X.1.2.1
  intro S H locs ls hH hS hl hm
  rw [b_X8_readsAll_70] at hm
  refine lv_iconst (v := (1 : Int32)) hx hb dX8_readsAll_70 (by decide) ?_
  refine lv_goto (tgt := 75) hx hb dX8_readsAll_71 (by decide) ?_
  exact k_X8_readsAll_75 (x := x) (o3 := o3) X hr hT hk_x hk_o3   S (1 : Int32) _ _ _ hH hS hl hm
def b_X8_readsAll_46 (x o3 : Nat)  (S : m_M) (t1 : Int32) : Option (Int32 × m_M) :=
    if t1 = 0 ∨ t1 = 1 then
    (m_let (m_si S (x + 32) 0 t1) fun S1 =>
    if (m_ri S1 (x + 32) 0) = 0 then (
    m_call (f_X9s_failsBy x S1 (1 : Int32)) fun v5 S4 =>
    if v5 = 0 then (
    b_X8_readsAll_75 x o3 S4 (0 : Int32)) else (
    b_X8_readsAll_70 x o3 S4)) else (
    b_X8_readsAll_70 x o3 S1)) else none
set_option maxHeartbeats 4000000 in
set_option maxRecDepth 100000 in
theorem k_X8_readsAll_46 {p : Program} {l : Launch} {e : Env} {s : State} {m : MethodId} {args : Array Value} {below : List Frame} {meth : Method} {c : Code} {G : m_G} {nx : Nat} {κ : Nat → Nat} {res : (Int32 × m_M)} {x o3 : Nat} (X : m_Cx p s m args meth c cX8_readsAll 4 RX8 G) (hr : meth.sig.returnType = (some .boolean)) (hT : m_Str κ) (hk_x : κ x = 12) (hk_o3 : κ o3 = 4)  : ∀ (S : m_M) (t1 : Int32) (H : Heap) (locs : List Loc) (ls : Array Slot), m_H G nx κ S H → m_S G s H locs → lv_has ls 4 [(0, .ref (x + 31))] → b_X8_readsAll_46 x o3 S t1 = some res → W p l e rm_X8_readsAll s m args below meth c H locs 0 0 (m_Qi below args s G nx κ res) (F0 m 46 ls [.int t1, .ref (x + 32)]) := by
  have hx := X.1.1
  have hb := X.1.2.1
  intro S t1 H locs ls hH hS hl hm
  rw [b_X8_readsAll_46] at hm
  obtain ⟨z2, hm⟩ := m_if_of hm
  obtain ⟨S1, e_S1, hm⟩ := m_let_of hm
  refine n_puti X hH hS tyX7 (k := 7) (a := (x + 32)) (j := 0) (m_lay_at hT hk_x (by decide) (i := 32) rfl) (by decide) rfl m_wi7 tyX7_ok nmX7 (by decide) in_2_100 rfl rfl rfl (m_nz z2) e_S1 dX8_readsAll_46 (fun H locs hH hS => ?_)
  refine lv_aload_n hx hb dX8_readsAll_49 rfl (lv_at hl 0 rfl) ?_
  refine r_getp X hH (k := 8) (a := (x + 31)) (j := 0) (b := (x + 32)) (A := 1) (B := 0) (m_lay_at hT hk_x (by decide) (i := 31) rfl) (by decide) rfl m_wi8 (by decide) in_2_128 rfl rfl rfl dX8_readsAll_50 ?_
  refine r_geti X hH (k := 7) (a := (x + 32)) (j := 0) (m_lay_at hT hk_x (by decide) (i := 32) rfl) (by decide) rfl m_wi7 (by decide) in_2_100 rfl rfl dX8_readsAll_53 ?_
  refine lv_if_ne (tgt := 70) hx hb dX8_readsAll_56 (by decide) (fun c3 => ?_) (fun c3 => ?_)
  · have hm := m_ite_f hm c3
    exact k_X8_readsAll_70 (x := x) (o3 := o3) X hr hT hk_x hk_o3   S1 _ _ _ hH hS (lv_sub hl [] rfl) hm
  · have hm := m_ite_t hm c3
    refine lv_aload_n hx hb dX8_readsAll_59 rfl (lv_at hl 0 rfl) ?_
    refine r_getp X hH (k := 8) (a := (x + 31)) (j := 1) (b := (x + 37)) (A := 6) (B := 0) (m_lay_at hT hk_x (by decide) (i := 31) rfl) (by decide) rfl m_wi8 (by decide) in_2_130 rfl rfl rfl dX8_readsAll_60 ?_
    refine lv_iconst (v := (1 : Int32)) hx hb dX8_readsAll_63 (by decide) ?_
    obtain ⟨v5, S4, e_S4, hm⟩ := m_call_of hm
    refine n_cVi X hH hS (k := 9) (c_X9s_failsBy (x := x) hT hk_x e_S4) mw_X9_failsBy in_5_239 (m_lay_at hT hk_x (by decide) (i := 37) rfl) (by decide) rfl rfl rfl ⟨rfl, rfl⟩ ⟨Nat.le_of_ble_eq_true rfl, Nat.le_of_ble_eq_true rfl⟩ ⟨Nat.zero_le _, Nat.zero_le _⟩ hl.1 (Nat.le_of_ble_eq_true rfl) dX8_readsAll_64 (fun H locs hH hS => ?_)
    refine lv_if_eq (tgt := 74) hx hb dX8_readsAll_67 (by decide) (fun c6 => ?_) (fun c6 => ?_)
    · have hm := m_ite_t hm c6
      refine lv_iconst (v := (0 : Int32)) hx hb dX8_readsAll_74 (by decide) ?_
      exact k_X8_readsAll_75 (x := x) (o3 := o3) X hr hT hk_x hk_o3   S4 (0 : Int32) _ _ _ hH hS (lv_sub hl [] rfl) hm
    · have hm := m_ite_f hm c6
      exact k_X8_readsAll_70 (x := x) (o3 := o3) X hr hT hk_x hk_o3   S4 _ _ _ hH hS (lv_sub hl [] rfl) hm
def f_X8_readsAll (x o3 : Nat) (S : m_M) (i2 : Int32) : Option (Int32 × m_M) :=
    m_cal0 (f_X7_clear (x + 32) S) fun S1 =>
    m_cal0 (f_X9s_open x S1 i2) fun S2 =>
    m_call (f_X8_readsCond (f_X8_readsOne 12) x o3 S2 (0 : Int32)) fun v4 S3 =>
    if v4 = 0 then (
    if (0 : Int32) = 0 ∨ (0 : Int32) = 1 then some ((0 : Int32), S3) else none) else (
    if (m_ri S3 (x + 37) 9) = 0 then (
    b_X8_readsAll_46 x o3 S3 (1 : Int32)) else (
    b_X8_readsAll_46 x o3 S3 (0 : Int32)))
set_option maxHeartbeats 4000000 in
set_option maxRecDepth 100000 in
theorem c_X8_readsAll {l : Launch} {G : m_G} {nx : Nat} {κ : Nat → Nat} {x o3 : Nat} {S : m_M} {i2 : Int32} {res : (Int32 × m_M)} (hT : m_Str κ) (hk_x : κ x = 12) (hk_o3 : κ o3 = 4) (hm : f_X8_readsAll x o3 S i2 = some res) : m_Ci l yX8_readsAll cX8_readsAll 4 (some .boolean) rm_X8_readsAll G nx κ [.ref (x + 31), .ref (x + 1), .int i2, .ref o3] S res := by
  refine m_Ci.of (by decide) (Nat.le_of_ble_eq_true rfl) ?_
  intro p e s m args below meth c ls X hr hH hl
  have hx := X.1.1
  have hb := X.1.2.1
  have hS : m_S G s s.heap [] := va_S.rf
  have hl : lv_has ls 4 [(0, .ref (x + 31)), (1, .ref (x + 1)), (2, .int i2), (3, .ref o3)] := hl
  rw [f_X8_readsAll] at hm
  refine lv_aload_n hx hb dX8_readsAll_0 rfl (lv_at hl 0 rfl) ?_
  refine r_getp X hH (k := 8) (a := (x + 31)) (j := 0) (b := (x + 32)) (A := 1) (B := 0) (m_lay_at hT hk_x (by decide) (i := 31) rfl) (by decide) rfl m_wi8 (by decide) in_2_128 rfl rfl rfl dX8_readsAll_1 ?_
  obtain ⟨S1, e_S1, hm⟩ := m_cal0_of hm
  refine r_cVv X hH hS (k := 7) (c_X7_clear (a := (x + 32)) hT (m_lay_at hT hk_x (by decide) (i := 32) rfl) e_S1) mw_X7_clear in_5_225 (m_lay_at hT hk_x (by decide) (i := 32) rfl) (by decide) rfl rfl rfl ⟨rfl, rfl⟩ ⟨Nat.le_of_ble_eq_true rfl, Nat.le_of_ble_eq_true rfl⟩ ⟨Nat.zero_le _, Nat.zero_le _⟩ hl.1 (Nat.le_of_ble_eq_true rfl) dX8_readsAll_4 (fun H locs hH hS => ?_)
  refine lv_aload_n hx hb dX8_readsAll_7 rfl (lv_at hl 0 rfl) ?_
  refine r_getp X hH (k := 8) (a := (x + 31)) (j := 1) (b := (x + 37)) (A := 6) (B := 0) (m_lay_at hT hk_x (by decide) (i := 31) rfl) (by decide) rfl m_wi8 (by decide) in_2_130 rfl rfl rfl dX8_readsAll_8 ?_
  refine lv_aload_n hx hb dX8_readsAll_11 rfl (lv_at hl 1 rfl) ?_
  refine lv_iload_n hx hb dX8_readsAll_12 rfl (lv_at hl 2 rfl) ?_
  obtain ⟨S2, e_S2, hm⟩ := m_cal0_of hm
  refine r_cVv X hH hS (k := 9) (c_X9s_open (x := x) hT hk_x e_S2) mw_X9_open in_5_226 (m_lay_at hT hk_x (by decide) (i := 37) rfl) (by decide) rfl rfl rfl ⟨rfl, rfl⟩ ⟨Nat.le_of_ble_eq_true rfl, Nat.le_of_ble_eq_true rfl⟩ ⟨Nat.zero_le _, Nat.zero_le _⟩ hl.1 (Nat.le_of_ble_eq_true rfl) dX8_readsAll_13 (fun H locs hH hS => ?_)
  refine lv_aload_n hx hb dX8_readsAll_16 rfl (lv_at hl 0 rfl) ?_
  refine lv_aload_n hx hb dX8_readsAll_17 rfl (lv_at hl 3 rfl) ?_
  refine lv_iconst (v := (0 : Int32)) hx hb dX8_readsAll_18 (by decide) ?_
  obtain ⟨v4, S3, e_S3, hm⟩ := m_call_of hm
  refine n_cVi X hH hS (k := 8) (c_X8_readsCond (F := f_X8_readsOne 12) (rF := rm_X8_readsOne 12) (rd_X8_readsOne 12) (c_X8_readsOne 12 hT) (x := x) (o1 := o3) hT hk_x hk_o3 e_S3) mw_X8_readsCond in_5_227 (m_lay_at hT hk_x (by decide) (i := 31) rfl) (by decide) rfl rfl rfl ⟨rfl, rfl⟩ ⟨Nat.le_of_ble_eq_true rfl, Nat.le_of_ble_eq_true rfl⟩ ⟨Nat.zero_le _, Nat.zero_le _⟩ hl.1 (Nat.le_of_ble_eq_true rfl) dX8_readsAll_19 (fun H locs hH hS => ?_)
  refine lv_if_ne (tgt := 27) hx hb dX8_readsAll_22 (by decide) (fun c5 => ?_) (fun c5 => ?_)
  · have hm := m_ite_f hm c5
    refine lv_aload_n hx hb dX8_readsAll_27 rfl (lv_at hl 0 rfl) ?_
    refine r_getp X hH (k := 8) (a := (x + 31)) (j := 0) (b := (x + 32)) (A := 1) (B := 0) (m_lay_at hT hk_x (by decide) (i := 31) rfl) (by decide) rfl m_wi8 (by decide) in_2_128 rfl rfl rfl dX8_readsAll_28 ?_
    refine lv_aload_n hx hb dX8_readsAll_31 rfl (lv_at hl 0 rfl) ?_
    refine r_getp X hH (k := 8) (a := (x + 31)) (j := 1) (b := (x + 37)) (A := 6) (B := 0) (m_lay_at hT hk_x (by decide) (i := 31) rfl) (by decide) rfl m_wi8 (by decide) in_2_130 rfl rfl rfl dX8_readsAll_32 ?_
    refine r_geti X hH (k := 9) (a := (x + 37)) (j := 9) (m_lay_at hT hk_x (by decide) (i := 37) rfl) (by decide) rfl m_wi9 (by decide) in_2_20 rfl rfl dX8_readsAll_35 ?_
    refine lv_if_ne (tgt := 45) hx hb dX8_readsAll_38 (by decide) (fun c6 => ?_) (fun c6 => ?_)
    · have hm := m_ite_f hm c6
      refine lv_iconst (v := (0 : Int32)) hx hb dX8_readsAll_45 (by decide) ?_
      exact k_X8_readsAll_46 (x := x) (o3 := o3) X hr hT hk_x hk_o3   S3 (0 : Int32) _ _ _ hH hS (lv_sub hl [0] rfl) hm
    · have hm := m_ite_t hm c6
      refine lv_iconst (v := (1 : Int32)) hx hb dX8_readsAll_41 (by decide) ?_
      refine lv_goto (tgt := 46) hx hb dX8_readsAll_42 (by decide) ?_
      exact k_X8_readsAll_46 (x := x) (o3 := o3) X hr hT hk_x hk_o3   S3 (1 : Int32) _ _ _ hH hS (lv_sub hl [0] rfl) hm
  · have hm := m_ite_t hm c5
    refine lv_iconst (v := (0 : Int32)) hx hb dX8_readsAll_25 (by decide) ?_
    exact r_zret X hr hH hS hm dX8_readsAll_26
def rm_X10_copyFrom : Room := { frames := 3, cells := 0, slots := 0, locals := 102 }
def f_X10_copyFrom (a o1 : Nat) (S : m_M)  : Option m_M :=
    m_cal0 (f_X3_copyFrom (a + 1) (o1 + 1) S) fun S1 =>
    m_cal0 (f_X2_copyFrom (a + 23) (o1 + 23) S1) fun S2 =>
    m_cal0 (f_X7_copyFrom (a + 32) (o1 + 32) S2) fun S3 =>
    some S3
set_option maxHeartbeats 4000000 in
set_option maxRecDepth 100000 in
theorem c_X10_copyFrom {l : Launch} {G : m_G} {nx : Nat} {κ : Nat → Nat} {a o1 : Nat} {S : m_M}  {res : m_M} (hT : m_Str κ) (hk_a : κ a = 11) (hk_o1 : κ o1 = 11) (hm : f_X10_copyFrom a o1 S = some res) : m_Cv l yX10_copyFrom cX10_copyFrom 2 rm_X10_copyFrom G nx κ [.ref a, .ref o1] S res := by
  refine m_Cv.of (by decide) (Nat.le_of_ble_eq_true rfl) ?_
  intro p e s m args below meth c ls X hr hH hl
  have hx := X.1.1
  have hb := X.1.2.1
  have hS : m_S G s s.heap [] := va_S.rf
  have hl : lv_has ls 2 [(0, .ref a), (1, .ref o1)] := hl
  rw [f_X10_copyFrom] at hm
  refine lv_aload_n hx hb dX10_copyFrom_0 rfl (lv_at hl 0 rfl) ?_
  refine r_getp X hH (k := 10) (a := a) (j := 0) (b := (a + 1)) (A := 1) (B := 0) hk_a (by decide) rfl m_wi10 (by decide) in_3_22 rfl rfl rfl dX10_copyFrom_1 ?_
  refine lv_aload_n hx hb dX10_copyFrom_4 rfl (lv_at hl 1 rfl) ?_
  refine r_getp X hH (k := 10) (a := o1) (j := 0) (b := (o1 + 1)) (A := 1) (B := 0) hk_o1 (by decide) rfl m_wi10 (by decide) in_3_22 rfl rfl rfl dX10_copyFrom_5 ?_
  obtain ⟨S1, e_S1, hm⟩ := m_cal0_of hm
  refine r_cVv X hH hS (k := 3) (c_X3_copyFrom (a := (a + 1)) (o1 := (o1 + 1)) hT (m_lay_at hT hk_a (by decide) (i := 1) rfl) (m_lay_at hT hk_o1 (by decide) (i := 1) rfl) e_S1) mw_X3_copyFrom in_6_47 (m_lay_at hT hk_a (by decide) (i := 1) rfl) (by decide) rfl rfl rfl ⟨rfl, rfl⟩ ⟨Nat.le_of_ble_eq_true rfl, Nat.le_of_ble_eq_true rfl⟩ ⟨Nat.zero_le _, Nat.zero_le _⟩ hl.1 (Nat.le_of_ble_eq_true rfl) dX10_copyFrom_8 (fun H locs hH hS => ?_)
  refine lv_aload_n hx hb dX10_copyFrom_11 rfl (lv_at hl 0 rfl) ?_
  refine r_getp X hH (k := 10) (a := a) (j := 1) (b := (a + 23)) (A := 23) (B := 0) hk_a (by decide) rfl m_wi10 (by decide) in_3_24 rfl rfl rfl dX10_copyFrom_12 ?_
  refine lv_aload_n hx hb dX10_copyFrom_15 rfl (lv_at hl 1 rfl) ?_
  refine r_getp X hH (k := 10) (a := o1) (j := 1) (b := (o1 + 23)) (A := 23) (B := 0) hk_o1 (by decide) rfl m_wi10 (by decide) in_3_24 rfl rfl rfl dX10_copyFrom_16 ?_
  obtain ⟨S2, e_S2, hm⟩ := m_cal0_of hm
  refine r_cVv X hH hS (k := 2) (c_X2_copyFrom (a := (a + 23)) (o1 := (o1 + 23)) hT (m_lay_at hT hk_a (by decide) (i := 23) rfl) (m_lay_at hT hk_o1 (by decide) (i := 23) rfl) e_S2) mw_X2_copyFrom in_6_48 (m_lay_at hT hk_a (by decide) (i := 23) rfl) (by decide) rfl rfl rfl ⟨rfl, rfl⟩ ⟨Nat.le_of_ble_eq_true rfl, Nat.le_of_ble_eq_true rfl⟩ ⟨Nat.zero_le _, Nat.zero_le _⟩ hl.1 (Nat.le_of_ble_eq_true rfl) dX10_copyFrom_19 (fun H locs hH hS => ?_)
  refine lv_aload_n hx hb dX10_copyFrom_22 rfl (lv_at hl 0 rfl) ?_
  refine r_getp X hH (k := 10) (a := a) (j := 2) (b := (a + 32)) (A := 32) (B := 0) hk_a (by decide) rfl m_wi10 (by decide) in_3_26 rfl rfl rfl dX10_copyFrom_23 ?_
  refine lv_aload_n hx hb dX10_copyFrom_26 rfl (lv_at hl 1 rfl) ?_
  refine r_getp X hH (k := 10) (a := o1) (j := 2) (b := (o1 + 32)) (A := 32) (B := 0) hk_o1 (by decide) rfl m_wi10 (by decide) in_3_26 rfl rfl rfl dX10_copyFrom_27 ?_
  obtain ⟨S3, e_S3, hm⟩ := m_cal0_of hm
  refine r_cVv X hH hS (k := 7) (c_X7_copyFrom (a := (a + 32)) (o1 := (o1 + 32)) hT (m_lay_at hT hk_a (by decide) (i := 32) rfl) (m_lay_at hT hk_o1 (by decide) (i := 32) rfl) e_S3) mw_X7_copyFrom in_6_49 (m_lay_at hT hk_a (by decide) (i := 32) rfl) (by decide) rfl rfl rfl ⟨rfl, rfl⟩ ⟨Nat.le_of_ble_eq_true rfl, Nat.le_of_ble_eq_true rfl⟩ ⟨Nat.zero_le _, Nat.zero_le _⟩ hl.1 (Nat.le_of_ble_eq_true rfl) dX10_copyFrom_30 (fun H locs hH hS => ?_)
  exact r_vret X hr hH hS hm dX10_copyFrom_33
def rm_X11_putBytes : Room := { frames := 0, cells := 0, slots := 0, locals := 0 }
def b_X11_putBytes_3 (a : Nat)  : Nat → m_M → Int32 → Int32 → Option m_M
  | 0, _, _, _ => none
  | n + 1, S, l1, l2 =>
    if l2 < 0 then (
    some S) else (
    (m_sti S (a + 1) 940 (m_ri S a 1) (vp_nar .byte (l1.toUInt32 >>> (l2.toUInt32 &&& Int32.toUInt32 31)).toInt32.toInt8.toInt32)).bind fun S2 =>
    m_let (m_si S2 a 1 ((m_ri S2 a 1) + (1 : Int32))) fun S3 =>
    m_let (l2 + (-8 : Int32)) fun v4 =>
    b_X11_putBytes_3 a n S3 l1 v4)
set_option maxHeartbeats 4000000 in
set_option maxRecDepth 100000 in
theorem k_X11_putBytes_3 {p : Program} {l : Launch} {e : Env} {s : State} {m : MethodId} {args : Array Value} {below : List Frame} {meth : Method} {c : Code} {G : m_G} {nx : Nat} {κ : Nat → Nat} {res : m_M} {a : Nat} (X : m_Cx p s m args meth c cX11_putBytes 3 RX11 G) (hr : meth.sig.returnType = none) (hT : m_Str κ) (hk_a : κ a = 12)  (n : Nat) : ∀ (S : m_M) (l1 : Int32) (l2 : Int32) (H : Heap) (locs : List Loc) (ls : Array Slot), m_H G nx κ S H → m_S G s H locs → lv_has ls 3 [(0, .ref a), (1, .int l1), (2, .int l2)] → b_X11_putBytes_3 a n S l1 l2 = some res → W p l e rm_X11_putBytes s m args below meth c H locs 0 0 (m_Qv below args s G nx κ res) (F0 m 3 ls []) := by
  have hx := X.1.1
  have hb := X.1.2.1
  induction n with
  | zero => intro S l1 l2 H locs ls hH hS hl hm; have hm : (none : Option m_M) = some res := hm; cases hm
  | succ n ih =>
    intro S l1 l2 H locs ls hH hS hl hm
    rw [b_X11_putBytes_3] at hm
    refine lv_iload_n hx hb dX11_putBytes_3 rfl (lv_at hl 2 rfl) ?_
    refine lv_if_lt (tgt := 36) hx hb dX11_putBytes_4 (by decide) (fun c1 => ?_) (fun c1 => ?_)
    · have hm := m_ite_t hm c1
      exact r_vret X hr hH hS hm dX11_putBytes_36
    · have hm := m_ite_f hm c1
      refine lv_aload_n hx hb dX11_putBytes_7 rfl (lv_at hl 0 rfl) ?_
      refine r_getp X hH (k := 11) (a := a) (j := 0) (b := (a + 1)) (A := 1) (B := 0) hk_a (by decide) rfl m_wi11 (by decide) in_3_73 rfl rfl rfl dX11_putBytes_8 ?_
      refine lv_aload_n hx hb dX11_putBytes_11 rfl (lv_at hl 0 rfl) ?_
      refine r_geti X hH (k := 11) (a := a) (j := 1) hk_a (by decide) rfl m_wi11 (by decide) in_3_74 rfl rfl dX11_putBytes_12 ?_
      refine lv_iload_n hx hb dX11_putBytes_15 rfl (lv_at hl 1 rfl) ?_
      refine lv_iload_n hx hb dX11_putBytes_16 rfl (lv_at hl 2 rfl) ?_
      refine lv_iushr hx hb dX11_putBytes_17 rfl ?_
      refine lv_i2b hx hb dX11_putBytes_18 rfl ?_
      obtain ⟨S2, h_S2, e_S2, hm⟩ := n_sti hm
      refine n_bast X hH hS (n := 940) (m_lay_at hT hk_a (by decide) (i := 1) rfl) h_S2 e_S2 dX11_putBytes_19 (fun H locs hH hS => ?_)
      refine lv_aload_n hx hb dX11_putBytes_20 rfl (lv_at hl 0 rfl) ?_
      refine lv_dup hx hb dX11_putBytes_21 rfl ?_
      refine r_geti X hH (k := 11) (a := a) (j := 1) hk_a (by decide) rfl m_wi11 (by decide) in_3_74 rfl rfl dX11_putBytes_22 ?_
      refine lv_iconst (v := (1 : Int32)) hx hb dX11_putBytes_25 (by decide) ?_
      refine lv_iadd hx hb dX11_putBytes_26 ?_
      obtain ⟨S3, e_S3, hm⟩ := m_let_of hm
      refine n_puti X hH hS tyX11 (k := 11) (a := a) (j := 1) hk_a (by decide) rfl m_wi11 tyX11_ok nmX11 (by decide) in_3_74 rfl rfl rfl ⟨rfl, rfl⟩ e_S3 dX11_putBytes_27 (fun H locs hH hS => ?_)
      obtain ⟨v4, e_v4, hm⟩ := m_let_of hm
      refine lv_iinc (v := v4) (lv' := [(2, .int v4), (0, .ref a), (1, .int l1)]) hx hb dX11_putBytes_30 hl (k := 2) rfl (by rw [← e_v4]; rfl) (by decide) rfl (fun ls hl => ?_)
      refine lv_goto (tgt := 3) hx hb dX11_putBytes_33 (by decide) ?_
      exact ih S3 l1 v4 _ _ _ hH hS (lv_sub hl [1, 2, 0] rfl) hm
def f_X11_putBytes (a : Nat) (S : m_M) (i1 : Int32) : Option m_M :=
    b_X11_putBytes_3 a m_fu S i1 (24 : Int32)
set_option maxHeartbeats 4000000 in
set_option maxRecDepth 100000 in
theorem c_X11_putBytes {l : Launch} {G : m_G} {nx : Nat} {κ : Nat → Nat} {a : Nat} {S : m_M} {i1 : Int32} {res : m_M} (hT : m_Str κ) (hk_a : κ a = 12) (hm : f_X11_putBytes a S i1 = some res) : m_Cv l yX11_putBytes cX11_putBytes 3 rm_X11_putBytes G nx κ [.ref a, .int i1] S res := by
  refine m_Cv.of (by decide) (Nat.le_of_ble_eq_true rfl) ?_
  intro p e s m args below meth c ls X hr hH hl
  have hx := X.1.1
  have hb := X.1.2.1
  have hS : m_S G s s.heap [] := va_S.rf
  have hl : lv_has ls 3 [(0, .ref a), (1, .int i1)] := hl
  rw [f_X11_putBytes] at hm
  refine lv_bipush (v := (24 : Int32)) hx hb dX11_putBytes_0 (by decide) ?_
  refine lv_istore_n (lv' := [(2, .int (24 : Int32)), (0, .ref a), (1, .int i1)]) hx hb dX11_putBytes_2 rfl hl (by decide) rfl (fun ls hl => ?_)
  exact k_X11_putBytes_3 (a := a) X hr hT hk_a  m_fu S i1 (24 : Int32) _ _ _ hH hS (lv_sub hl [1, 2, 0] rfl) hm
def rm_X11_feed : Room := { frames := 1, cells := 0, slots := 0, locals := 22 }
def f_X11_feed (a : Nat) (S : m_M) (i1 : Int32) (i2 : Int32) (i3 : Int32) (i4 : Int32) (i5 : Int32) : Option (Int32 × m_M) :=
    if ((m_ri S a 1) + (20 : Int32)) ≤ (940 : Int32) then (
    m_cal0 (f_X11_putBytes a S i1) fun S2 =>
    m_cal0 (f_X11_putBytes a S2 i2) fun S3 =>
    m_cal0 (f_X11_putBytes a S3 i3) fun S4 =>
    m_cal0 (f_X11_putBytes a S4 i4) fun S5 =>
    m_cal0 (f_X11_putBytes a S5 i5) fun S6 =>
    some ((m_ri S6 a 1), S6)) else (
    some ((-1 : Int32), S))
set_option maxHeartbeats 4000000 in
set_option maxRecDepth 100000 in
theorem c_X11_feed {l : Launch} {G : m_G} {nx : Nat} {κ : Nat → Nat} {a : Nat} {S : m_M} {i1 : Int32} {i2 : Int32} {i3 : Int32} {i4 : Int32} {i5 : Int32} {res : (Int32 × m_M)} (hT : m_Str κ) (hk_a : κ a = 12) (hm : f_X11_feed a S i1 i2 i3 i4 i5 = some res) : m_Ci l yX11_feed cX11_feed 6 (some .int) rm_X11_feed G nx κ [.ref a, .int i1, .int i2, .int i3, .int i4, .int i5] S res := by
  refine m_Ci.of (by decide) (Nat.le_of_ble_eq_true rfl) ?_
  intro p e s m args below meth c ls X hr hH hl
  have hx := X.1.1
  have hb := X.1.2.1
  have hS : m_S G s s.heap [] := va_S.rf
  have hl : lv_has ls 6 [(0, .ref a), (1, .int i1), (2, .int i2), (3, .int i3), (4, .int i4), (5, .int i5)] := hl
  rw [f_X11_feed] at hm
  refine lv_aload_n hx hb dX11_feed_0 rfl (lv_at hl 0 rfl) ?_
  refine r_geti X hH (k := 11) (a := a) (j := 1) hk_a (by decide) rfl m_wi11 (by decide) in_3_74 rfl rfl dX11_feed_1 ?_
  refine lv_bipush (v := (20 : Int32)) hx hb dX11_feed_4 (by decide) ?_
  refine lv_iadd hx hb dX11_feed_6 ?_
  refine lv_sipush (v := (940 : Int32)) hx hb dX11_feed_7 (by decide) ?_
  refine lv_icmp_le (tgt := 15) hx hb dX11_feed_10 (by decide) (fun c1 => ?_) (fun c1 => ?_)
  · have hm := m_ite_t hm c1
    refine lv_aload_n hx hb dX11_feed_15 rfl (lv_at hl 0 rfl) ?_
    refine lv_iload_n hx hb dX11_feed_16 rfl (lv_at hl 1 rfl) ?_
    obtain ⟨S2, e_S2, hm⟩ := m_cal0_of hm
    refine r_cVv X hH hS (k := 11) (c_X11_putBytes (a := a) hT hk_a e_S2) mw_X11_putBytes in_3_117 hk_a (by decide) rfl rfl rfl ⟨rfl, rfl⟩ ⟨Nat.le_of_ble_eq_true rfl, Nat.le_of_ble_eq_true rfl⟩ ⟨Nat.zero_le _, Nat.zero_le _⟩ hl.1 (Nat.le_of_ble_eq_true rfl) dX11_feed_17 (fun H locs hH hS => ?_)
    refine lv_aload_n hx hb dX11_feed_20 rfl (lv_at hl 0 rfl) ?_
    refine lv_iload_n hx hb dX11_feed_21 rfl (lv_at hl 2 rfl) ?_
    obtain ⟨S3, e_S3, hm⟩ := m_cal0_of hm
    refine r_cVv X hH hS (k := 11) (c_X11_putBytes (a := a) hT hk_a e_S3) mw_X11_putBytes in_3_117 hk_a (by decide) rfl rfl rfl ⟨rfl, rfl⟩ ⟨Nat.le_of_ble_eq_true rfl, Nat.le_of_ble_eq_true rfl⟩ ⟨Nat.zero_le _, Nat.zero_le _⟩ hl.1 (Nat.le_of_ble_eq_true rfl) dX11_feed_22 (fun H locs hH hS => ?_)
    refine lv_aload_n hx hb dX11_feed_25 rfl (lv_at hl 0 rfl) ?_
    refine lv_iload_n hx hb dX11_feed_26 rfl (lv_at hl 3 rfl) ?_
    obtain ⟨S4, e_S4, hm⟩ := m_cal0_of hm
    refine r_cVv X hH hS (k := 11) (c_X11_putBytes (a := a) hT hk_a e_S4) mw_X11_putBytes in_3_117 hk_a (by decide) rfl rfl rfl ⟨rfl, rfl⟩ ⟨Nat.le_of_ble_eq_true rfl, Nat.le_of_ble_eq_true rfl⟩ ⟨Nat.zero_le _, Nat.zero_le _⟩ hl.1 (Nat.le_of_ble_eq_true rfl) dX11_feed_27 (fun H locs hH hS => ?_)
    refine lv_aload_n hx hb dX11_feed_30 rfl (lv_at hl 0 rfl) ?_
    refine lv_iload hx hb dX11_feed_31 (lv_at hl 4 rfl) ?_
    obtain ⟨S5, e_S5, hm⟩ := m_cal0_of hm
    refine r_cVv X hH hS (k := 11) (c_X11_putBytes (a := a) hT hk_a e_S5) mw_X11_putBytes in_3_117 hk_a (by decide) rfl rfl rfl ⟨rfl, rfl⟩ ⟨Nat.le_of_ble_eq_true rfl, Nat.le_of_ble_eq_true rfl⟩ ⟨Nat.zero_le _, Nat.zero_le _⟩ hl.1 (Nat.le_of_ble_eq_true rfl) dX11_feed_33 (fun H locs hH hS => ?_)
    refine lv_aload_n hx hb dX11_feed_36 rfl (lv_at hl 0 rfl) ?_
    refine lv_iload hx hb dX11_feed_37 (lv_at hl 5 rfl) ?_
    obtain ⟨S6, e_S6, hm⟩ := m_cal0_of hm
    refine r_cVv X hH hS (k := 11) (c_X11_putBytes (a := a) hT hk_a e_S6) mw_X11_putBytes in_3_117 hk_a (by decide) rfl rfl rfl ⟨rfl, rfl⟩ ⟨Nat.le_of_ble_eq_true rfl, Nat.le_of_ble_eq_true rfl⟩ ⟨Nat.zero_le _, Nat.zero_le _⟩ hl.1 (Nat.le_of_ble_eq_true rfl) dX11_feed_39 (fun H locs hH hS => ?_)
    refine lv_aload_n hx hb dX11_feed_42 rfl (lv_at hl 0 rfl) ?_
    refine r_geti X hH (k := 11) (a := a) (j := 1) hk_a (by decide) rfl m_wi11 (by decide) in_3_74 rfl rfl dX11_feed_43 ?_
    exact r_iret X hr hH hS hm dX11_feed_46
  · have hm := m_ite_f hm c1
    refine lv_iconst (v := (-1 : Int32)) hx hb dX11_feed_13 (by decide) ?_
    exact r_iret X hr hH hS hm dX11_feed_14
def rm_X11_end : Room := { frames := 0, cells := 0, slots := 0, locals := 0 }
def b_X11_end_12 (a : Nat)  (S : m_M)  : Option (Int32 × m_M) :=
    if (0 : Int32) = 0 ∨ (0 : Int32) = 1 then some ((0 : Int32), S) else none
set_option maxHeartbeats 4000000 in
set_option maxRecDepth 100000 in
theorem k_X11_end_12 {p : Program} {l : Launch} {e : Env} {s : State} {m : MethodId} {args : Array Value} {below : List Frame} {meth : Method} {c : Code} {G : m_G} {nx : Nat} {κ : Nat → Nat} {res : (Int32 × m_M)} {a : Nat} (X : m_Cx p s m args meth c cX11_end 2 RX11 G) (hr : meth.sig.returnType = (some .boolean)) (hT : m_Str κ) (hk_a : κ a = 12)  : ∀ (S : m_M)  (H : Heap) (locs : List Loc) (ls : Array Slot), m_H G nx κ S H → m_S G s H locs → lv_has ls 2 [] → b_X11_end_12 a S  = some res → W p l e rm_X11_end s m args below meth c H locs 0 0 (m_Qi below args s G nx κ res) (F0 m 12 ls []) := by
  have hx := X.1.1
  have hb := X.1.2.1
  intro S H locs ls hH hS hl hm
  rw [b_X11_end_12] at hm
  refine lv_iconst (v := (0 : Int32)) hx hb dX11_end_12 (by decide) ?_
  exact r_zret X hr hH hS hm dX11_end_13
def f_X11_end (a : Nat) (S : m_M) (i1 : Int32) : Option (Int32 × m_M) :=
    if i1 < 0 then (
    b_X11_end_12 a S) else (
    if i1 ≤ (m_ri S a 1) then (
    m_let (m_si S a 1 i1) fun S3 =>
    if (1 : Int32) = 0 ∨ (1 : Int32) = 1 then some ((1 : Int32), S3) else none) else (
    b_X11_end_12 a S))
set_option maxHeartbeats 4000000 in
set_option maxRecDepth 100000 in
theorem c_X11_end {l : Launch} {G : m_G} {nx : Nat} {κ : Nat → Nat} {a : Nat} {S : m_M} {i1 : Int32} {res : (Int32 × m_M)} (hT : m_Str κ) (hk_a : κ a = 12) (hm : f_X11_end a S i1 = some res) : m_Ci l yX11_end cX11_end 2 (some .boolean) rm_X11_end G nx κ [.ref a, .int i1] S res := by
  refine m_Ci.of (by decide) (Nat.le_of_ble_eq_true rfl) ?_
  intro p e s m args below meth c ls X hr hH hl
  have hx := X.1.1
  have hb := X.1.2.1
  have hS : m_S G s s.heap [] := va_S.rf
  have hl : lv_has ls 2 [(0, .ref a), (1, .int i1)] := hl
  rw [f_X11_end] at hm
  refine lv_iload_n hx hb dX11_end_0 rfl (lv_at hl 1 rfl) ?_
  refine lv_if_lt (tgt := 12) hx hb dX11_end_1 (by decide) (fun c1 => ?_) (fun c1 => ?_)
  · have hm := m_ite_t hm c1
    exact k_X11_end_12 (a := a) X hr hT hk_a   S _ _ _ hH hS (lv_sub hl [] rfl) hm
  · have hm := m_ite_f hm c1
    refine lv_iload_n hx hb dX11_end_4 rfl (lv_at hl 1 rfl) ?_
    refine lv_aload_n hx hb dX11_end_5 rfl (lv_at hl 0 rfl) ?_
    refine r_geti X hH (k := 11) (a := a) (j := 1) hk_a (by decide) rfl m_wi11 (by decide) in_3_74 rfl rfl dX11_end_6 ?_
    refine lv_icmp_le (tgt := 14) hx hb dX11_end_9 (by decide) (fun c2 => ?_) (fun c2 => ?_)
    · have hm := m_ite_t hm c2
      refine lv_aload_n hx hb dX11_end_14 rfl (lv_at hl 0 rfl) ?_
      refine lv_iload_n hx hb dX11_end_15 rfl (lv_at hl 1 rfl) ?_
      obtain ⟨S3, e_S3, hm⟩ := m_let_of hm
      refine n_puti X hH hS tyX11 (k := 11) (a := a) (j := 1) hk_a (by decide) rfl m_wi11 tyX11_ok nmX11 (by decide) in_3_74 rfl rfl rfl ⟨rfl, rfl⟩ e_S3 dX11_end_16 (fun H locs hH hS => ?_)
      refine lv_iconst (v := (1 : Int32)) hx hb dX11_end_19 (by decide) ?_
      exact r_zret X hr hH hS hm dX11_end_20
    · have hm := m_ite_f hm c2
      exact k_X11_end_12 (a := a) X hr hT hk_a   S _ _ _ hH hS (lv_sub hl [] rfl) hm
def rm_X11_takeTape : Room := { frames := 0, cells := 0, slots := 0, locals := 0 }
def f_X11_takeTape (a : Nat) (S : m_M)  : Option (Int32 × m_M) :=
    m_let (m_ri S a 1) fun v1 =>
    m_let (m_si S a 1 (0 : Int32)) fun S2 =>
    some (v1, S2)
set_option maxHeartbeats 4000000 in
set_option maxRecDepth 100000 in
theorem c_X11_takeTape {l : Launch} {G : m_G} {nx : Nat} {κ : Nat → Nat} {a : Nat} {S : m_M}  {res : (Int32 × m_M)} (hT : m_Str κ) (hk_a : κ a = 12) (hm : f_X11_takeTape a S = some res) : m_Ci l yX11_takeTape cX11_takeTape 2 (some .int) rm_X11_takeTape G nx κ [.ref a] S res := by
  refine m_Ci.of (by decide) (Nat.le_of_ble_eq_true rfl) ?_
  intro p e s m args below meth c ls X hr hH hl
  have hx := X.1.1
  have hb := X.1.2.1
  have hS : m_S G s s.heap [] := va_S.rf
  have hl : lv_has ls 2 [(0, .ref a)] := hl
  rw [f_X11_takeTape] at hm
  refine lv_aload_n hx hb dX11_takeTape_0 rfl (lv_at hl 0 rfl) ?_
  refine r_geti X hH (k := 11) (a := a) (j := 1) hk_a (by decide) rfl m_wi11 (by decide) in_3_74 rfl rfl dX11_takeTape_1 ?_
  obtain ⟨v1, e_v1, hm⟩ := m_let_of hm
  refine n_topi e_v1 ?_
  refine lv_istore_n (lv' := [(1, .int v1), (0, .ref a)]) hx hb dX11_takeTape_4 rfl hl (by decide) rfl (fun ls hl => ?_)
  refine lv_aload_n hx hb dX11_takeTape_5 rfl (lv_at hl 1 rfl) ?_
  refine lv_iconst (v := (0 : Int32)) hx hb dX11_takeTape_6 (by decide) ?_
  obtain ⟨S2, e_S2, hm⟩ := m_let_of hm
  refine n_puti X hH hS tyX11 (k := 11) (a := a) (j := 1) hk_a (by decide) rfl m_wi11 tyX11_ok nmX11 (by decide) in_3_74 rfl rfl rfl ⟨rfl, rfl⟩ e_S2 dX11_takeTape_7 (fun H locs hH hS => ?_)
  refine lv_iload_n hx hb dX11_takeTape_10 rfl (lv_at hl 0 rfl) ?_
  exact r_iret X hr hH hS hm dX11_takeTape_11
def rm_X11_program : Room := { frames := 34, cells := 0, slots := 0, locals := 941 }
def f_X11_program (a : Nat) (S : m_M)  : Option (Int32 × m_M) :=
    m_call (f_X11_takeTape a S) fun v2 S1 =>
    m_call (f_X4_readsAll a S1 v2) fun v4 S3 =>
    m_let (m_si S3 a 5 (m_ri S3 (a + 25) 15)) fun S5 =>
    if v4 = 0 then (
    some (((-1 : Int32) - (m_ri S5 (a + 25) 16)), S5)) else (
    m_cal0 (f_X5_findAll (a + 42) (a + 3) S5) fun S7 =>
    m_cal0 (f_X6_derive (a + 11) (a + 3) S7) fun S8 =>
    m_cal0 (f_X3_copyFrom (a + 48) (a + 3) S8) fun S9 =>
    m_cal0 (f_X2_clear (a + 70) S9) fun S10 =>
    m_cal0 (f_X7_clear (a + 79) S10) fun S11 =>
    m_cal0 (f_X0_clear (a + 96) S11) fun S12 =>
    some (((m_ri S12 (a + 3) 0) + (m_ri S12 (a + 3) 1)), S12))
set_option maxHeartbeats 4000000 in
set_option maxRecDepth 100000 in
theorem c_X11_program {l : Launch} {G : m_G} {nx : Nat} {κ : Nat → Nat} {a : Nat} {S : m_M}  {res : (Int32 × m_M)} (hT : m_Str κ) (hk_a : κ a = 12) (hm : f_X11_program a S = some res) : m_Ci l yX11_program cX11_program 3 (some .int) rm_X11_program G nx κ [.ref a] S res := by
  refine m_Ci.of (by decide) (Nat.le_of_ble_eq_true rfl) ?_
  intro p e s m args below meth c ls X hr hH hl
  have hx := X.1.1
  have hb := X.1.2.1
  have hS : m_S G s s.heap [] := va_S.rf
  have hl : lv_has ls 3 [(0, .ref a)] := hl
  rw [f_X11_program] at hm
  refine lv_aload_n hx hb dX11_program_0 rfl (lv_at hl 0 rfl) ?_
  refine r_getp X hH (k := 11) (a := a) (j := 2) (b := (a + 2)) (A := 2) (B := 0) hk_a (by decide) rfl m_wi11 (by decide) in_3_75 rfl rfl rfl dX11_program_1 ?_
  refine lv_aload_n hx hb dX11_program_4 rfl (lv_at hl 0 rfl) ?_
  refine r_getp X hH (k := 11) (a := a) (j := 0) (b := (a + 1)) (A := 1) (B := 0) hk_a (by decide) rfl m_wi11 (by decide) in_3_73 rfl rfl rfl dX11_program_5 ?_
  refine lv_aload_n hx hb dX11_program_8 rfl (lv_at hl 0 rfl) ?_
  obtain ⟨v2, S1, e_S1, hm⟩ := m_call_of hm
  refine n_cVi X hH hS (k := 11) (c_X11_takeTape (a := a) hT hk_a e_S1) mw_X11_takeTape in_3_129 hk_a (by decide) rfl rfl rfl ⟨rfl, rfl⟩ ⟨Nat.le_of_ble_eq_true rfl, Nat.le_of_ble_eq_true rfl⟩ ⟨Nat.zero_le _, Nat.zero_le _⟩ hl.1 (Nat.le_of_ble_eq_true rfl) dX11_program_9 (fun H locs hH hS => ?_)
  obtain ⟨v4, S3, e_S3, hm⟩ := m_call_of hm
  refine n_cVi X hH hS (k := 4) (c_X4_readsAll (x := a) hT hk_a e_S3) mw_X4_readsAll in_3_133 (m_lay_at hT hk_a (by decide) (i := 2) rfl) (by decide) rfl rfl rfl ⟨rfl, rfl⟩ ⟨Nat.le_of_ble_eq_true rfl, Nat.le_of_ble_eq_true rfl⟩ ⟨Nat.zero_le _, Nat.zero_le _⟩ hl.1 (Nat.le_of_ble_eq_true rfl) dX11_program_12 (fun H locs hH hS => ?_)
  refine lv_istore_n (lv' := [(1, .int v4), (0, .ref a)]) hx hb dX11_program_15 rfl hl (by decide) rfl (fun ls hl => ?_)
  refine lv_aload_n hx hb dX11_program_16 rfl (lv_at hl 1 rfl) ?_
  refine lv_aload_n hx hb dX11_program_17 rfl (lv_at hl 1 rfl) ?_
  refine r_getp X hH (k := 11) (a := a) (j := 2) (b := (a + 2)) (A := 2) (B := 0) hk_a (by decide) rfl m_wi11 (by decide) in_3_75 rfl rfl rfl dX11_program_18 ?_
  refine r_getp X hH (k := 4) (a := (a + 2)) (j := 1) (b := (a + 25)) (A := 23) (B := 0) (m_lay_at hT hk_a (by decide) (i := 2) rfl) (by decide) rfl m_wi4 (by decide) in_2_75 rfl rfl rfl dX11_program_21 ?_
  refine r_geti X hH (k := 9) (a := (a + 25)) (j := 15) (m_lay_at hT hk_a (by decide) (i := 25) rfl) (by decide) rfl m_wi9 (by decide) in_2_34 rfl rfl dX11_program_24 ?_
  obtain ⟨S5, e_S5, hm⟩ := m_let_of hm
  refine n_puti X hH hS tyX11 (k := 11) (a := a) (j := 5) hk_a (by decide) rfl m_wi11 tyX11_ok nmX11 (by decide) in_3_78 rfl rfl rfl ⟨rfl, rfl⟩ e_S5 dX11_program_27 (fun H locs hH hS => ?_)
  refine lv_iload_n hx hb dX11_program_30 rfl (lv_at hl 0 rfl) ?_
  refine lv_if_ne (tgt := 47) hx hb dX11_program_31 (by decide) (fun c6 => ?_) (fun c6 => ?_)
  · have hm := m_ite_f hm c6
    refine lv_aload_n hx hb dX11_program_47 rfl (lv_at hl 1 rfl) ?_
    refine r_getp X hH (k := 11) (a := a) (j := 2) (b := (a + 2)) (A := 2) (B := 0) hk_a (by decide) rfl m_wi11 (by decide) in_3_75 rfl rfl rfl dX11_program_48 ?_
    refine r_getp X hH (k := 4) (a := (a + 2)) (j := 0) (b := (a + 3)) (A := 1) (B := 0) (m_lay_at hT hk_a (by decide) (i := 2) rfl) (by decide) rfl m_wi4 (by decide) in_2_73 rfl rfl rfl dX11_program_51 ?_
    refine lv_astore_n (lv' := [(2, .ref (a + 3)), (1, .int v4), (0, .ref a)]) hx hb dX11_program_54 rfl hl (by decide) rfl (fun ls hl => ?_)
    refine lv_aload_n hx hb dX11_program_55 rfl (lv_at hl 2 rfl) ?_
    refine r_getp X hH (k := 11) (a := a) (j := 4) (b := (a + 42)) (A := 42) (B := 0) hk_a (by decide) rfl m_wi11 (by decide) in_3_77 rfl rfl rfl dX11_program_56 ?_
    refine lv_aload_n hx hb dX11_program_59 rfl (lv_at hl 0 rfl) ?_
    obtain ⟨S7, e_S7, hm⟩ := m_cal0_of hm
    refine r_cVv X hH hS (k := 5) (c_X5_findAll (a := (a + 42)) (o1 := (a + 3)) hT (m_lay_at hT hk_a (by decide) (i := 42) rfl) (m_lay_at hT hk_a (by decide) (i := 3) rfl) e_S7) mw_X5_findAll in_4_4 (m_lay_at hT hk_a (by decide) (i := 42) rfl) (by decide) rfl rfl rfl ⟨rfl, rfl⟩ ⟨Nat.le_of_ble_eq_true rfl, Nat.le_of_ble_eq_true rfl⟩ ⟨Nat.zero_le _, Nat.zero_le _⟩ hl.1 (Nat.le_of_ble_eq_true rfl) dX11_program_60 (fun H locs hH hS => ?_)
    refine lv_aload_n hx hb dX11_program_63 rfl (lv_at hl 0 rfl) ?_
    refine r_getp X hH (k := 3) (a := (a + 3)) (j := 9) (b := (a + 11)) (A := 8) (B := 0) (m_lay_at hT hk_a (by decide) (i := 3) rfl) (by decide) rfl m_wi3 (by decide) in_1_162 rfl rfl rfl dX11_program_64 ?_
    refine lv_aload_n hx hb dX11_program_67 rfl (lv_at hl 0 rfl) ?_
    obtain ⟨S8, e_S8, hm⟩ := m_cal0_of hm
    refine r_cVv X hH hS (k := 6) (c_X6_derive (a := (a + 11)) (o1 := (a + 3)) hT (m_lay_at hT hk_a (by decide) (i := 11) rfl) (m_lay_at hT hk_a (by decide) (i := 3) rfl) e_S8) mw_X6_derive in_4_81 (m_lay_at hT hk_a (by decide) (i := 11) rfl) (by decide) rfl rfl rfl ⟨rfl, rfl⟩ ⟨Nat.le_of_ble_eq_true rfl, Nat.le_of_ble_eq_true rfl⟩ ⟨Nat.zero_le _, Nat.zero_le _⟩ hl.1 (Nat.le_of_ble_eq_true rfl) dX11_program_68 (fun H locs hH hS => ?_)
    refine lv_aload_n hx hb dX11_program_71 rfl (lv_at hl 2 rfl) ?_
    refine r_getp X hH (k := 11) (a := a) (j := 6) (b := (a + 47)) (A := 47) (B := 0) hk_a (by decide) rfl m_wi11 (by decide) in_3_79 rfl rfl rfl dX11_program_72 ?_
    refine r_getp X hH (k := 10) (a := (a + 47)) (j := 0) (b := (a + 48)) (A := 1) (B := 0) (m_lay_at hT hk_a (by decide) (i := 47) rfl) (by decide) rfl m_wi10 (by decide) in_3_23 rfl rfl rfl dX11_program_75 ?_
    refine lv_aload_n hx hb dX11_program_78 rfl (lv_at hl 0 rfl) ?_
    obtain ⟨S9, e_S9, hm⟩ := m_cal0_of hm
    refine r_cVv X hH hS (k := 3) (c_X3_copyFrom (a := (a + 48)) (o1 := (a + 3)) hT (m_lay_at hT hk_a (by decide) (i := 48) rfl) (m_lay_at hT hk_a (by decide) (i := 3) rfl) e_S9) mw_X3_copyFrom in_4_144 (m_lay_at hT hk_a (by decide) (i := 48) rfl) (by decide) rfl rfl rfl ⟨rfl, rfl⟩ ⟨Nat.le_of_ble_eq_true rfl, Nat.le_of_ble_eq_true rfl⟩ ⟨Nat.zero_le _, Nat.zero_le _⟩ hl.1 (Nat.le_of_ble_eq_true rfl) dX11_program_79 (fun H locs hH hS => ?_)
    refine lv_aload_n hx hb dX11_program_82 rfl (lv_at hl 2 rfl) ?_
    refine r_getp X hH (k := 11) (a := a) (j := 6) (b := (a + 47)) (A := 47) (B := 0) hk_a (by decide) rfl m_wi11 (by decide) in_3_79 rfl rfl rfl dX11_program_83 ?_
    refine r_getp X hH (k := 10) (a := (a + 47)) (j := 1) (b := (a + 70)) (A := 23) (B := 0) (m_lay_at hT hk_a (by decide) (i := 47) rfl) (by decide) rfl m_wi10 (by decide) in_3_25 rfl rfl rfl dX11_program_86 ?_
    obtain ⟨S10, e_S10, hm⟩ := m_cal0_of hm
    refine r_cVv X hH hS (k := 2) (c_X2_clear (a := (a + 70)) hT (m_lay_at hT hk_a (by decide) (i := 70) rfl) e_S10) mw_X2_clear in_4_156 (m_lay_at hT hk_a (by decide) (i := 70) rfl) (by decide) rfl rfl rfl ⟨rfl, rfl⟩ ⟨Nat.le_of_ble_eq_true rfl, Nat.le_of_ble_eq_true rfl⟩ ⟨Nat.zero_le _, Nat.zero_le _⟩ hl.1 (Nat.le_of_ble_eq_true rfl) dX11_program_89 (fun H locs hH hS => ?_)
    refine lv_aload_n hx hb dX11_program_92 rfl (lv_at hl 2 rfl) ?_
    refine r_getp X hH (k := 11) (a := a) (j := 6) (b := (a + 47)) (A := 47) (B := 0) hk_a (by decide) rfl m_wi11 (by decide) in_3_79 rfl rfl rfl dX11_program_93 ?_
    refine r_getp X hH (k := 10) (a := (a + 47)) (j := 2) (b := (a + 79)) (A := 32) (B := 0) (m_lay_at hT hk_a (by decide) (i := 47) rfl) (by decide) rfl m_wi10 (by decide) in_3_27 rfl rfl rfl dX11_program_96 ?_
    obtain ⟨S11, e_S11, hm⟩ := m_cal0_of hm
    refine r_cVv X hH hS (k := 7) (c_X7_clear (a := (a + 79)) hT (m_lay_at hT hk_a (by decide) (i := 79) rfl) e_S11) mw_X7_clear in_4_160 (m_lay_at hT hk_a (by decide) (i := 79) rfl) (by decide) rfl rfl rfl ⟨rfl, rfl⟩ ⟨Nat.le_of_ble_eq_true rfl, Nat.le_of_ble_eq_true rfl⟩ ⟨Nat.zero_le _, Nat.zero_le _⟩ hl.1 (Nat.le_of_ble_eq_true rfl) dX11_program_99 (fun H locs hH hS => ?_)
    refine lv_aload_n hx hb dX11_program_102 rfl (lv_at hl 2 rfl) ?_
    refine r_getp X hH (k := 11) (a := a) (j := 9) (b := (a + 96)) (A := 96) (B := 0) hk_a (by decide) rfl m_wi11 (by decide) in_3_82 rfl rfl rfl dX11_program_103 ?_
    obtain ⟨S12, e_S12, hm⟩ := m_cal0_of hm
    refine r_cVv X hH hS (k := 0) (c_X0_clear (a := (a + 96)) hT (m_lay_at hT hk_a (by decide) (i := 96) rfl) e_S12) mw_X0_clear in_4_164 (m_lay_at hT hk_a (by decide) (i := 96) rfl) (by decide) rfl rfl rfl ⟨rfl, rfl⟩ ⟨Nat.le_of_ble_eq_true rfl, Nat.le_of_ble_eq_true rfl⟩ ⟨Nat.zero_le _, Nat.zero_le _⟩ hl.1 (Nat.le_of_ble_eq_true rfl) dX11_program_106 (fun H locs hH hS => ?_)
    refine lv_aload_n hx hb dX11_program_109 rfl (lv_at hl 0 rfl) ?_
    refine r_geti X hH (k := 3) (a := (a + 3)) (j := 0) (m_lay_at hT hk_a (by decide) (i := 3) rfl) (by decide) rfl m_wi3 (by decide) in_1_126 rfl rfl dX11_program_110 ?_
    refine lv_aload_n hx hb dX11_program_113 rfl (lv_at hl 0 rfl) ?_
    refine r_geti X hH (k := 3) (a := (a + 3)) (j := 1) (m_lay_at hT hk_a (by decide) (i := 3) rfl) (by decide) rfl m_wi3 (by decide) in_1_130 rfl rfl dX11_program_114 ?_
    refine lv_iadd hx hb dX11_program_117 ?_
    exact r_iret X hr hH hS hm dX11_program_118
  · have hm := m_ite_t hm c6
    refine lv_iconst (v := (-1 : Int32)) hx hb dX11_program_34 (by decide) ?_
    refine lv_aload_n hx hb dX11_program_35 rfl (lv_at hl 1 rfl) ?_
    refine r_getp X hH (k := 11) (a := a) (j := 2) (b := (a + 2)) (A := 2) (B := 0) hk_a (by decide) rfl m_wi11 (by decide) in_3_75 rfl rfl rfl dX11_program_36 ?_
    refine r_getp X hH (k := 4) (a := (a + 2)) (j := 1) (b := (a + 25)) (A := 23) (B := 0) (m_lay_at hT hk_a (by decide) (i := 2) rfl) (by decide) rfl m_wi4 (by decide) in_2_75 rfl rfl rfl dX11_program_39 ?_
    refine r_geti X hH (k := 9) (a := (a + 25)) (j := 16) (m_lay_at hT hk_a (by decide) (i := 25) rfl) (by decide) rfl m_wi9 (by decide) in_2_36 rfl rfl dX11_program_42 ?_
    refine lv_isub hx hb dX11_program_45 ?_
    exact r_iret X hr hH hS hm dX11_program_46
def rm_X11_fault : Room := { frames := 0, cells := 0, slots := 0, locals := 0 }
def f_X11_fault (a : Nat) (S : m_M)  : Option (Int32 × m_M) :=
    some ((m_ri S a 5), S)
set_option maxHeartbeats 4000000 in
set_option maxRecDepth 100000 in
theorem c_X11_fault {l : Launch} {G : m_G} {nx : Nat} {κ : Nat → Nat} {a : Nat} {S : m_M}  {res : (Int32 × m_M)} (hT : m_Str κ) (hk_a : κ a = 12) (hm : f_X11_fault a S = some res) : m_Ci l yX11_fault cX11_fault 1 (some .int) rm_X11_fault G nx κ [.ref a] S res := by
  refine m_Ci.of (by decide) (Nat.le_of_ble_eq_true rfl) ?_
  intro p e s m args below meth c ls X hr hH hl
  have hx := X.1.1
  have hb := X.1.2.1
  have hS : m_S G s s.heap [] := va_S.rf
  have hl : lv_has ls 1 [(0, .ref a)] := hl
  rw [f_X11_fault] at hm
  refine lv_aload_n hx hb dX11_fault_0 rfl (lv_at hl 0 rfl) ?_
  refine r_geti X hH (k := 11) (a := a) (j := 5) hk_a (by decide) rfl m_wi11 (by decide) in_3_78 rfl rfl dX11_fault_1 ?_
  exact r_iret X hr hH hS hm dX11_fault_4
def rm_X11_points : Room := { frames := 2, cells := 0, slots := 0, locals := 43 }
def b_X11_points_34 (a : Nat)  (S : m_M) (t0 : Int32) : Option (Int32 × m_M) :=
    some (t0, S)
set_option maxHeartbeats 4000000 in
set_option maxRecDepth 100000 in
theorem k_X11_points_34 {p : Program} {l : Launch} {e : Env} {s : State} {m : MethodId} {args : Array Value} {below : List Frame} {meth : Method} {c : Code} {G : m_G} {nx : Nat} {κ : Nat → Nat} {res : (Int32 × m_M)} {a : Nat} (X : m_Cx p s m args meth c cX11_points 3 RX11 G) (hr : meth.sig.returnType = (some .int)) (hT : m_Str κ) (hk_a : κ a = 12)  : ∀ (S : m_M) (t0 : Int32) (H : Heap) (locs : List Loc) (ls : Array Slot), m_H G nx κ S H → m_S G s H locs → lv_has ls 3 [] → b_X11_points_34 a S t0 = some res → W p l e rm_X11_points s m args below meth c H locs 0 0 (m_Qi below args s G nx κ res) (F0 m 34 ls [.int t0]) := by
  have hx := X.1.1
  have hb := X.1.2.1
  intro S t0 H locs ls hH hS hl hm
  rw [b_X11_points_34] at hm
  exact r_iret X hr hH hS hm dX11_points_34
def f_X11_points (a : Nat) (S : m_M) (i1 : Int32) (i2 : Int32) : Option (Int32 × m_M) :=
    m_call (f_X3_hasVar (a + 48) S i1 i2) fun v2 S1 =>
    if v2 = 0 then (
    b_X11_points_34 a S1 (-1 : Int32)) else (
    m_call (f_X6_pointedBy (a + 56) S1 i1 i2) fun v5 S4 =>
    b_X11_points_34 a S4 v5)
set_option maxHeartbeats 4000000 in
set_option maxRecDepth 100000 in
theorem c_X11_points {l : Launch} {G : m_G} {nx : Nat} {κ : Nat → Nat} {a : Nat} {S : m_M} {i1 : Int32} {i2 : Int32} {res : (Int32 × m_M)} (hT : m_Str κ) (hk_a : κ a = 12) (hm : f_X11_points a S i1 i2 = some res) : m_Ci l yX11_points cX11_points 3 (some .int) rm_X11_points G nx κ [.ref a, .int i1, .int i2] S res := by
  refine m_Ci.of (by decide) (Nat.le_of_ble_eq_true rfl) ?_
  intro p e s m args below meth c ls X hr hH hl
  have hx := X.1.1
  have hb := X.1.2.1
  have hS : m_S G s s.heap [] := va_S.rf
  have hl : lv_has ls 3 [(0, .ref a), (1, .int i1), (2, .int i2)] := hl
  rw [f_X11_points] at hm
  refine lv_aload_n hx hb dX11_points_0 rfl (lv_at hl 0 rfl) ?_
  refine r_getp X hH (k := 11) (a := a) (j := 6) (b := (a + 47)) (A := 47) (B := 0) hk_a (by decide) rfl m_wi11 (by decide) in_3_79 rfl rfl rfl dX11_points_1 ?_
  refine r_getp X hH (k := 10) (a := (a + 47)) (j := 0) (b := (a + 48)) (A := 1) (B := 0) (m_lay_at hT hk_a (by decide) (i := 47) rfl) (by decide) rfl m_wi10 (by decide) in_3_23 rfl rfl rfl dX11_points_4 ?_
  refine lv_iload_n hx hb dX11_points_7 rfl (lv_at hl 1 rfl) ?_
  refine lv_iload_n hx hb dX11_points_8 rfl (lv_at hl 2 rfl) ?_
  obtain ⟨v2, S1, e_S1, hm⟩ := m_call_of hm
  refine n_cVi X hH hS (k := 3) (c_X3_hasVar (a := (a + 48)) hT (m_lay_at hT hk_a (by decide) (i := 48) rfl) e_S1) mw_X3_hasVar in_4_176 (m_lay_at hT hk_a (by decide) (i := 48) rfl) (by decide) rfl rfl rfl ⟨rfl, rfl⟩ ⟨Nat.le_of_ble_eq_true rfl, Nat.le_of_ble_eq_true rfl⟩ ⟨Nat.zero_le _, Nat.zero_le _⟩ hl.1 (Nat.le_of_ble_eq_true rfl) dX11_points_9 (fun H locs hH hS => ?_)
  refine lv_if_eq (tgt := 33) hx hb dX11_points_12 (by decide) (fun c3 => ?_) (fun c3 => ?_)
  · have hm := m_ite_t hm c3
    refine lv_iconst (v := (-1 : Int32)) hx hb dX11_points_33 (by decide) ?_
    exact k_X11_points_34 (a := a) X hr hT hk_a   S1 (-1 : Int32) _ _ _ hH hS (lv_sub hl [] rfl) hm
  · have hm := m_ite_f hm c3
    refine lv_aload_n hx hb dX11_points_15 rfl (lv_at hl 0 rfl) ?_
    refine r_getp X hH (k := 11) (a := a) (j := 6) (b := (a + 47)) (A := 47) (B := 0) hk_a (by decide) rfl m_wi11 (by decide) in_3_79 rfl rfl rfl dX11_points_16 ?_
    refine r_getp X hH (k := 10) (a := (a + 47)) (j := 0) (b := (a + 48)) (A := 1) (B := 0) (m_lay_at hT hk_a (by decide) (i := 47) rfl) (by decide) rfl m_wi10 (by decide) in_3_23 rfl rfl rfl dX11_points_19 ?_
    refine r_getp X hH (k := 3) (a := (a + 48)) (j := 9) (b := (a + 56)) (A := 8) (B := 0) (m_lay_at hT hk_a (by decide) (i := 48) rfl) (by decide) rfl m_wi3 (by decide) in_1_162 rfl rfl rfl dX11_points_22 ?_
    refine lv_iload_n hx hb dX11_points_25 rfl (lv_at hl 1 rfl) ?_
    refine lv_iload_n hx hb dX11_points_26 rfl (lv_at hl 2 rfl) ?_
    obtain ⟨v5, S4, e_S4, hm⟩ := m_call_of hm
    refine n_cVi X hH hS (k := 6) (c_X6_pointedBy (a := (a + 56)) hT (m_lay_at hT hk_a (by decide) (i := 56) rfl) e_S4) mw_X6_pointedBy in_4_184 (m_lay_at hT hk_a (by decide) (i := 56) rfl) (by decide) rfl rfl rfl ⟨rfl, rfl⟩ ⟨Nat.le_of_ble_eq_true rfl, Nat.le_of_ble_eq_true rfl⟩ ⟨Nat.zero_le _, Nat.zero_le _⟩ hl.1 (Nat.le_of_ble_eq_true rfl) dX11_points_27 (fun H locs hH hS => ?_)
    refine lv_goto (tgt := 34) hx hb dX11_points_30 (by decide) ?_
    exact k_X11_points_34 (a := a) X hr hT hk_a   S4 v5 _ _ _ hH hS (lv_sub hl [] rfl) hm
def rm_X11_region : Room := { frames := 3, cells := 0, slots := 0, locals := 65 }
def b_X11_region_105 (a : Nat)  (S : m_M) (t0 : Int32) : Option (Int32 × m_M) :=
    some (t0, S)
set_option maxHeartbeats 4000000 in
set_option maxRecDepth 100000 in
theorem k_X11_region_105 {p : Program} {l : Launch} {e : Env} {s : State} {m : MethodId} {args : Array Value} {below : List Frame} {meth : Method} {c : Code} {G : m_G} {nx : Nat} {κ : Nat → Nat} {res : (Int32 × m_M)} {a : Nat} (X : m_Cx p s m args meth c cX11_region 4 RX11 G) (hr : meth.sig.returnType = (some .int)) (hT : m_Str κ) (hk_a : κ a = 12)  : ∀ (S : m_M) (t0 : Int32) (H : Heap) (locs : List Loc) (ls : Array Slot), m_H G nx κ S H → m_S G s H locs → lv_has ls 4 [] → b_X11_region_105 a S t0 = some res → W p l e rm_X11_region s m args below meth c H locs 0 0 (m_Qi below args s G nx κ res) (F0 m 105 ls [.int t0]) := by
  have hx := X.1.1
  have hb := X.1.2.1
  intro S t0 H locs ls hH hS hl hm
  rw [b_X11_region_105] at hm
  exact r_iret X hr hH hS hm dX11_region_105
def f_X11_region (a : Nat) (S : m_M) (i1 : Int32) (i2 : Int32) : Option (Int32 × m_M) :=
    m_call (f_X6_has (a + 56) S i1) fun v2 S1 =>
    if v2 = 0 then (
    some ((-1 : Int32), S1)) else (
    if i2 = (0 : Int32) then (
    (m_ldi S1 (a + 59) 24 i1).bind fun v5 =>
    some (v5, S1)) else (
    if i2 = (1 : Int32) then (
    (m_ldi S1 (a + 60) 24 i1).bind fun v7 =>
    some (v7, S1)) else (
    if i2 = (2 : Int32) then (
    (m_ldi S1 (a + 62) 24 i1).bind fun v9 =>
    some (v9, S1)) else (
    if i2 = (3 : Int32) then (
    (m_ldi S1 (a + 63) 24 i1).bind fun v11 =>
    some (v11, S1)) else (
    if i2 = (4 : Int32) then (
    m_call (f_X6_isFinite (a + 56) S1 i1) fun v14 S13 =>
    if v14 = 0 then (
    b_X11_region_105 a S13 (0 : Int32)) else (
    b_X11_region_105 a S13 (1 : Int32))) else (
    if i2 = (5 : Int32) then (
    m_call (f_X2_roomsOf (a + 70) S1 i1) fun v18 S17 =>
    some (v18, S17)) else (
    if i2 = (6 : Int32) then (
    m_call (f_X2_cellsOf (a + 70) S1 i1) fun v21 S20 =>
    some (v21, S20)) else (
    some ((-1 : Int32), S1)))))))))
set_option maxHeartbeats 4000000 in
set_option maxRecDepth 100000 in
theorem c_X11_region {l : Launch} {G : m_G} {nx : Nat} {κ : Nat → Nat} {a : Nat} {S : m_M} {i1 : Int32} {i2 : Int32} {res : (Int32 × m_M)} (hT : m_Str κ) (hk_a : κ a = 12) (hm : f_X11_region a S i1 i2 = some res) : m_Ci l yX11_region cX11_region 4 (some .int) rm_X11_region G nx κ [.ref a, .int i1, .int i2] S res := by
  refine m_Ci.of (by decide) (Nat.le_of_ble_eq_true rfl) ?_
  intro p e s m args below meth c ls X hr hH hl
  have hx := X.1.1
  have hb := X.1.2.1
  have hS : m_S G s s.heap [] := va_S.rf
  have hl : lv_has ls 4 [(0, .ref a), (1, .int i1), (2, .int i2)] := hl
  rw [f_X11_region] at hm
  refine lv_aload_n hx hb dX11_region_0 rfl (lv_at hl 0 rfl) ?_
  refine r_getp X hH (k := 11) (a := a) (j := 6) (b := (a + 47)) (A := 47) (B := 0) hk_a (by decide) rfl m_wi11 (by decide) in_3_79 rfl rfl rfl dX11_region_1 ?_
  refine r_getp X hH (k := 10) (a := (a + 47)) (j := 0) (b := (a + 48)) (A := 1) (B := 0) (m_lay_at hT hk_a (by decide) (i := 47) rfl) (by decide) rfl m_wi10 (by decide) in_3_23 rfl rfl rfl dX11_region_4 ?_
  refine r_getp X hH (k := 3) (a := (a + 48)) (j := 9) (b := (a + 56)) (A := 8) (B := 0) (m_lay_at hT hk_a (by decide) (i := 48) rfl) (by decide) rfl m_wi3 (by decide) in_1_162 rfl rfl rfl dX11_region_7 ?_
  refine lv_astore_n (lv' := [(3, .ref (a + 56)), (0, .ref a), (1, .int i1), (2, .int i2)]) hx hb dX11_region_10 rfl hl (by decide) rfl (fun ls hl => ?_)
  refine lv_aload_n hx hb dX11_region_11 rfl (lv_at hl 0 rfl) ?_
  refine lv_iload_n hx hb dX11_region_12 rfl (lv_at hl 2 rfl) ?_
  obtain ⟨v2, S1, e_S1, hm⟩ := m_call_of hm
  refine n_cVi X hH hS (k := 6) (c_X6_has (a := (a + 56)) hT (m_lay_at hT hk_a (by decide) (i := 56) rfl) e_S1) mw_X6_has in_4_189 (m_lay_at hT hk_a (by decide) (i := 56) rfl) (by decide) rfl rfl rfl ⟨rfl, rfl⟩ ⟨Nat.le_of_ble_eq_true rfl, Nat.le_of_ble_eq_true rfl⟩ ⟨Nat.zero_le _, Nat.zero_le _⟩ hl.1 (Nat.le_of_ble_eq_true rfl) dX11_region_13 (fun H locs hH hS => ?_)
  refine lv_if_ne (tgt := 21) hx hb dX11_region_16 (by decide) (fun c3 => ?_) (fun c3 => ?_)
  · have hm := m_ite_f hm c3
    refine lv_iload_n hx hb dX11_region_21 rfl (lv_at hl 3 rfl) ?_
    by_cases c4 : i2 = (0 : Int32)
    · have hm := m_ite_t hm c4
      refine lv_tableIn (off := 42) (tgt := 64) hx hb dX11_region_22 (by rw [c4]; decide) (by rw [c4]; decide) (by rw [c4]; rfl) (by decide) ?_
      refine lv_aload_n hx hb dX11_region_64 rfl (lv_at hl 0 rfl) ?_
      refine r_getp X hH (k := 6) (a := (a + 56)) (j := 4) (b := (a + 59)) (A := 3) (B := 0) (m_lay_at hT hk_a (by decide) (i := 56) rfl) (by decide) rfl m_wi6 (by decide) in_1_61 rfl rfl rfl dX11_region_65 ?_
      refine lv_iload_n hx hb dX11_region_68 rfl (lv_at hl 2 rfl) ?_
      obtain ⟨v5, h_v5, e_v5, hm⟩ := n_ldi hm
      refine n_iald X hH (n := 24) (m_lay_at hT hk_a (by decide) (i := 59) rfl) h_v5 e_v5 dX11_region_69 ?_
      exact r_iret X hr hH hS hm dX11_region_70
    · have hm := m_ite_f hm c4
      by_cases c6 : i2 = (1 : Int32)
      · have hm := m_ite_t hm c6
        refine lv_tableIn (off := 49) (tgt := 71) hx hb dX11_region_22 (by rw [c6]; decide) (by rw [c6]; decide) (by rw [c6]; rfl) (by decide) ?_
        refine lv_aload_n hx hb dX11_region_71 rfl (lv_at hl 0 rfl) ?_
        refine r_getp X hH (k := 6) (a := (a + 56)) (j := 5) (b := (a + 60)) (A := 4) (B := 0) (m_lay_at hT hk_a (by decide) (i := 56) rfl) (by decide) rfl m_wi6 (by decide) in_1_64 rfl rfl rfl dX11_region_72 ?_
        refine lv_iload_n hx hb dX11_region_75 rfl (lv_at hl 2 rfl) ?_
        obtain ⟨v7, h_v7, e_v7, hm⟩ := n_ldi hm
        refine n_iald X hH (n := 24) (m_lay_at hT hk_a (by decide) (i := 60) rfl) h_v7 e_v7 dX11_region_76 ?_
        exact r_iret X hr hH hS hm dX11_region_77
      · have hm := m_ite_f hm c6
        by_cases c8 : i2 = (2 : Int32)
        · have hm := m_ite_t hm c8
          refine lv_tableIn (off := 56) (tgt := 78) hx hb dX11_region_22 (by rw [c8]; decide) (by rw [c8]; decide) (by rw [c8]; rfl) (by decide) ?_
          refine lv_aload_n hx hb dX11_region_78 rfl (lv_at hl 0 rfl) ?_
          refine r_getp X hH (k := 6) (a := (a + 56)) (j := 7) (b := (a + 62)) (A := 6) (B := 0) (m_lay_at hT hk_a (by decide) (i := 56) rfl) (by decide) rfl m_wi6 (by decide) in_1_69 rfl rfl rfl dX11_region_79 ?_
          refine lv_iload_n hx hb dX11_region_82 rfl (lv_at hl 2 rfl) ?_
          obtain ⟨v9, h_v9, e_v9, hm⟩ := n_ldi hm
          refine n_iald X hH (n := 24) (m_lay_at hT hk_a (by decide) (i := 62) rfl) h_v9 e_v9 dX11_region_83 ?_
          exact r_iret X hr hH hS hm dX11_region_84
        · have hm := m_ite_f hm c8
          by_cases c10 : i2 = (3 : Int32)
          · have hm := m_ite_t hm c10
            refine lv_tableIn (off := 63) (tgt := 85) hx hb dX11_region_22 (by rw [c10]; decide) (by rw [c10]; decide) (by rw [c10]; rfl) (by decide) ?_
            refine lv_aload_n hx hb dX11_region_85 rfl (lv_at hl 0 rfl) ?_
            refine r_getp X hH (k := 6) (a := (a + 56)) (j := 8) (b := (a + 63)) (A := 7) (B := 0) (m_lay_at hT hk_a (by decide) (i := 56) rfl) (by decide) rfl m_wi6 (by decide) in_1_72 rfl rfl rfl dX11_region_86 ?_
            refine lv_iload_n hx hb dX11_region_89 rfl (lv_at hl 2 rfl) ?_
            obtain ⟨v11, h_v11, e_v11, hm⟩ := n_ldi hm
            refine n_iald X hH (n := 24) (m_lay_at hT hk_a (by decide) (i := 63) rfl) h_v11 e_v11 dX11_region_90 ?_
            exact r_iret X hr hH hS hm dX11_region_91
          · have hm := m_ite_f hm c10
            by_cases c12 : i2 = (4 : Int32)
            · have hm := m_ite_t hm c12
              refine lv_tableIn (off := 70) (tgt := 92) hx hb dX11_region_22 (by rw [c12]; decide) (by rw [c12]; decide) (by rw [c12]; rfl) (by decide) ?_
              refine lv_aload_n hx hb dX11_region_92 rfl (lv_at hl 0 rfl) ?_
              refine lv_iload_n hx hb dX11_region_93 rfl (lv_at hl 2 rfl) ?_
              obtain ⟨v14, S13, e_S13, hm⟩ := m_call_of hm
              refine n_cVi X hH hS (k := 6) (c_X6_isFinite (a := (a + 56)) hT (m_lay_at hT hk_a (by decide) (i := 56) rfl) e_S13) mw_X6_isFinite in_4_190 (m_lay_at hT hk_a (by decide) (i := 56) rfl) (by decide) rfl rfl rfl ⟨rfl, rfl⟩ ⟨Nat.le_of_ble_eq_true rfl, Nat.le_of_ble_eq_true rfl⟩ ⟨Nat.zero_le _, Nat.zero_le _⟩ hl.1 (Nat.le_of_ble_eq_true rfl) dX11_region_94 (fun H locs hH hS => ?_)
              refine lv_if_eq (tgt := 104) hx hb dX11_region_97 (by decide) (fun c15 => ?_) (fun c15 => ?_)
              · have hm := m_ite_t hm c15
                refine lv_iconst (v := (0 : Int32)) hx hb dX11_region_104 (by decide) ?_
                exact k_X11_region_105 (a := a) X hr hT hk_a   S13 (0 : Int32) _ _ _ hH hS (lv_sub hl [] rfl) hm
              · have hm := m_ite_f hm c15
                refine lv_iconst (v := (1 : Int32)) hx hb dX11_region_100 (by decide) ?_
                refine lv_goto (tgt := 105) hx hb dX11_region_101 (by decide) ?_
                exact k_X11_region_105 (a := a) X hr hT hk_a   S13 (1 : Int32) _ _ _ hH hS (lv_sub hl [] rfl) hm
            · have hm := m_ite_f hm c12
              by_cases c16 : i2 = (5 : Int32)
              · have hm := m_ite_t hm c16
                refine lv_tableIn (off := 84) (tgt := 106) hx hb dX11_region_22 (by rw [c16]; decide) (by rw [c16]; decide) (by rw [c16]; rfl) (by decide) ?_
                refine lv_aload_n hx hb dX11_region_106 rfl (lv_at hl 1 rfl) ?_
                refine r_getp X hH (k := 11) (a := a) (j := 6) (b := (a + 47)) (A := 47) (B := 0) hk_a (by decide) rfl m_wi11 (by decide) in_3_79 rfl rfl rfl dX11_region_107 ?_
                refine r_getp X hH (k := 10) (a := (a + 47)) (j := 1) (b := (a + 70)) (A := 23) (B := 0) (m_lay_at hT hk_a (by decide) (i := 47) rfl) (by decide) rfl m_wi10 (by decide) in_3_25 rfl rfl rfl dX11_region_110 ?_
                refine lv_iload_n hx hb dX11_region_113 rfl (lv_at hl 2 rfl) ?_
                obtain ⟨v18, S17, e_S17, hm⟩ := m_call_of hm
                refine n_cVi X hH hS (k := 2) (c_X2_roomsOf (a := (a + 70)) hT (m_lay_at hT hk_a (by decide) (i := 70) rfl) e_S17) mw_X2_roomsOf in_4_194 (m_lay_at hT hk_a (by decide) (i := 70) rfl) (by decide) rfl rfl rfl ⟨rfl, rfl⟩ ⟨Nat.le_of_ble_eq_true rfl, Nat.le_of_ble_eq_true rfl⟩ ⟨Nat.zero_le _, Nat.zero_le _⟩ hl.1 (Nat.le_of_ble_eq_true rfl) dX11_region_114 (fun H locs hH hS => ?_)
                exact r_iret X hr hH hS hm dX11_region_117
              · have hm := m_ite_f hm c16
                by_cases c19 : i2 = (6 : Int32)
                · have hm := m_ite_t hm c19
                  refine lv_tableIn (off := 96) (tgt := 118) hx hb dX11_region_22 (by rw [c19]; decide) (by rw [c19]; decide) (by rw [c19]; rfl) (by decide) ?_
                  refine lv_aload_n hx hb dX11_region_118 rfl (lv_at hl 1 rfl) ?_
                  refine r_getp X hH (k := 11) (a := a) (j := 6) (b := (a + 47)) (A := 47) (B := 0) hk_a (by decide) rfl m_wi11 (by decide) in_3_79 rfl rfl rfl dX11_region_119 ?_
                  refine r_getp X hH (k := 10) (a := (a + 47)) (j := 1) (b := (a + 70)) (A := 23) (B := 0) (m_lay_at hT hk_a (by decide) (i := 47) rfl) (by decide) rfl m_wi10 (by decide) in_3_25 rfl rfl rfl dX11_region_122 ?_
                  refine lv_iload_n hx hb dX11_region_125 rfl (lv_at hl 2 rfl) ?_
                  obtain ⟨v21, S20, e_S20, hm⟩ := m_call_of hm
                  refine n_cVi X hH hS (k := 2) (c_X2_cellsOf (a := (a + 70)) hT (m_lay_at hT hk_a (by decide) (i := 70) rfl) e_S20) mw_X2_cellsOf in_4_198 (m_lay_at hT hk_a (by decide) (i := 70) rfl) (by decide) rfl rfl rfl ⟨rfl, rfl⟩ ⟨Nat.le_of_ble_eq_true rfl, Nat.le_of_ble_eq_true rfl⟩ ⟨Nat.zero_le _, Nat.zero_le _⟩ hl.1 (Nat.le_of_ble_eq_true rfl) dX11_region_126 (fun H locs hH hS => ?_)
                  exact r_iret X hr hH hS hm dX11_region_129
                · have hm := m_ite_f hm c19
                  refine lv_tableOut (tgt := 130) hx hb dX11_region_22 (by have h_c4 := lv_neT (a := 0) c4 rfl; have h_c6 := lv_neT (a := 1) c6 rfl; have h_c8 := lv_neT (a := 2) c8 rfl; have h_c10 := lv_neT (a := 3) c10 rfl; have h_c12 := lv_neT (a := 4) c12 rfl; have h_c16 := lv_neT (a := 5) c16 rfl; have h_c19 := lv_neT (a := 6) c19 rfl; omega) (by decide) ?_
                  refine lv_iconst (v := (-1 : Int32)) hx hb dX11_region_130 (by decide) ?_
                  exact r_iret X hr hH hS hm dX11_region_131
  · have hm := m_ite_t hm c3
    refine lv_iconst (v := (-1 : Int32)) hx hb dX11_region_19 (by decide) ?_
    exact r_iret X hr hH hS hm dX11_region_20
def rm_X11_span : Room := { frames := 1, cells := 0, slots := 0, locals := 22 }
def b_X11_span_45 (a : Nat)  (S : m_M)  : Option (Int32 × m_M) :=
    some ((-1 : Int32), S)
set_option maxHeartbeats 4000000 in
set_option maxRecDepth 100000 in
theorem k_X11_span_45 {p : Program} {l : Launch} {e : Env} {s : State} {m : MethodId} {args : Array Value} {below : List Frame} {meth : Method} {c : Code} {G : m_G} {nx : Nat} {κ : Nat → Nat} {res : (Int32 × m_M)} {a : Nat} (X : m_Cx p s m args meth c cX11_span 5 RX11 G) (hr : meth.sig.returnType = (some .int)) (hT : m_Str κ) (hk_a : κ a = 12)  : ∀ (S : m_M)  (H : Heap) (locs : List Loc) (ls : Array Slot), m_H G nx κ S H → m_S G s H locs → lv_has ls 5 [] → b_X11_span_45 a S  = some res → W p l e rm_X11_span s m args below meth c H locs 0 0 (m_Qi below args s G nx κ res) (F0 m 45 ls []) := by
  have hx := X.1.1
  have hb := X.1.2.1
  intro S H locs ls hH hS hl hm
  rw [b_X11_span_45] at hm
  refine lv_iconst (v := (-1 : Int32)) hx hb dX11_span_45 (by decide) ?_
  exact r_iret X hr hH hS hm dX11_span_46
def f_X11_span (a : Nat) (S : m_M) (i1 : Int32) (i2 : Int32) (i3 : Int32) : Option (Int32 × m_M) :=
    m_call (f_X3_hasFun (a + 48) S i1) fun v2 S1 =>
    if v2 = 0 then (
    b_X11_span_45 a S1) else (
    m_call (f_X6_has (a + 56) S1 i2) fun v5 S4 =>
    if v5 = 0 then (
    b_X11_span_45 a S4) else (
    m_call (f_X6_isOwned (a + 56) S4 i1 i2) fun v8 S7 =>
    if v8 = 0 then (
    b_X11_span_45 a S7) else (
    if i3 = (0 : Int32) then (
    (m_ldi S7 (a + 66) 120 ((i1 * (24 : Int32)) + i2)).bind fun v11 =>
    some (v11, S7)) else (
    if i3 = (1 : Int32) then (
    (m_ldi S7 (a + 67) 120 ((i1 * (24 : Int32)) + i2)).bind fun v13 =>
    some (v13, S7)) else (
    some ((-1 : Int32), S7))))))
set_option maxHeartbeats 4000000 in
set_option maxRecDepth 100000 in
theorem c_X11_span {l : Launch} {G : m_G} {nx : Nat} {κ : Nat → Nat} {a : Nat} {S : m_M} {i1 : Int32} {i2 : Int32} {i3 : Int32} {res : (Int32 × m_M)} (hT : m_Str κ) (hk_a : κ a = 12) (hm : f_X11_span a S i1 i2 i3 = some res) : m_Ci l yX11_span cX11_span 5 (some .int) rm_X11_span G nx κ [.ref a, .int i1, .int i2, .int i3] S res := by
  refine m_Ci.of (by decide) (Nat.le_of_ble_eq_true rfl) ?_
  intro p e s m args below meth c ls X hr hH hl
  have hx := X.1.1
  have hb := X.1.2.1
  have hS : m_S G s s.heap [] := va_S.rf
  have hl : lv_has ls 5 [(0, .ref a), (1, .int i1), (2, .int i2), (3, .int i3)] := hl
  rw [f_X11_span] at hm
  refine lv_aload_n hx hb dX11_span_0 rfl (lv_at hl 0 rfl) ?_
  refine r_getp X hH (k := 11) (a := a) (j := 6) (b := (a + 47)) (A := 47) (B := 0) hk_a (by decide) rfl m_wi11 (by decide) in_3_79 rfl rfl rfl dX11_span_1 ?_
  refine r_getp X hH (k := 10) (a := (a + 47)) (j := 0) (b := (a + 48)) (A := 1) (B := 0) (m_lay_at hT hk_a (by decide) (i := 47) rfl) (by decide) rfl m_wi10 (by decide) in_3_23 rfl rfl rfl dX11_span_4 ?_
  refine r_getp X hH (k := 3) (a := (a + 48)) (j := 9) (b := (a + 56)) (A := 8) (B := 0) (m_lay_at hT hk_a (by decide) (i := 48) rfl) (by decide) rfl m_wi3 (by decide) in_1_162 rfl rfl rfl dX11_span_7 ?_
  refine lv_astore (lv' := [(4, .ref (a + 56)), (0, .ref a), (1, .int i1), (2, .int i2), (3, .int i3)]) hx hb dX11_span_10 hl (by decide) rfl (fun ls hl => ?_)
  refine lv_aload_n hx hb dX11_span_12 rfl (lv_at hl 1 rfl) ?_
  refine r_getp X hH (k := 11) (a := a) (j := 6) (b := (a + 47)) (A := 47) (B := 0) hk_a (by decide) rfl m_wi11 (by decide) in_3_79 rfl rfl rfl dX11_span_13 ?_
  refine r_getp X hH (k := 10) (a := (a + 47)) (j := 0) (b := (a + 48)) (A := 1) (B := 0) (m_lay_at hT hk_a (by decide) (i := 47) rfl) (by decide) rfl m_wi10 (by decide) in_3_23 rfl rfl rfl dX11_span_16 ?_
  refine lv_iload_n hx hb dX11_span_19 rfl (lv_at hl 2 rfl) ?_
  obtain ⟨v2, S1, e_S1, hm⟩ := m_call_of hm
  refine n_cVi X hH hS (k := 3) (c_X3_hasFun (a := (a + 48)) hT (m_lay_at hT hk_a (by decide) (i := 48) rfl) e_S1) mw_X3_hasFun in_4_218 (m_lay_at hT hk_a (by decide) (i := 48) rfl) (by decide) rfl rfl rfl ⟨rfl, rfl⟩ ⟨Nat.le_of_ble_eq_true rfl, Nat.le_of_ble_eq_true rfl⟩ ⟨Nat.zero_le _, Nat.zero_le _⟩ hl.1 (Nat.le_of_ble_eq_true rfl) dX11_span_20 (fun H locs hH hS => ?_)
  refine lv_if_eq (tgt := 45) hx hb dX11_span_23 (by decide) (fun c3 => ?_) (fun c3 => ?_)
  · have hm := m_ite_t hm c3
    exact k_X11_span_45 (a := a) X hr hT hk_a   S1 _ _ _ hH hS (lv_sub hl [] rfl) hm
  · have hm := m_ite_f hm c3
    refine lv_aload hx hb dX11_span_26 (lv_at hl 0 rfl) ?_
    refine lv_iload_n hx hb dX11_span_28 rfl (lv_at hl 3 rfl) ?_
    obtain ⟨v5, S4, e_S4, hm⟩ := m_call_of hm
    refine n_cVi X hH hS (k := 6) (c_X6_has (a := (a + 56)) hT (m_lay_at hT hk_a (by decide) (i := 56) rfl) e_S4) mw_X6_has in_4_189 (m_lay_at hT hk_a (by decide) (i := 56) rfl) (by decide) rfl rfl rfl ⟨rfl, rfl⟩ ⟨Nat.le_of_ble_eq_true rfl, Nat.le_of_ble_eq_true rfl⟩ ⟨Nat.zero_le _, Nat.zero_le _⟩ hl.1 (Nat.le_of_ble_eq_true rfl) dX11_span_29 (fun H locs hH hS => ?_)
    refine lv_if_eq (tgt := 45) hx hb dX11_span_32 (by decide) (fun c6 => ?_) (fun c6 => ?_)
    · have hm := m_ite_t hm c6
      exact k_X11_span_45 (a := a) X hr hT hk_a   S4 _ _ _ hH hS (lv_sub hl [] rfl) hm
    · have hm := m_ite_f hm c6
      refine lv_aload hx hb dX11_span_35 (lv_at hl 0 rfl) ?_
      refine lv_iload_n hx hb dX11_span_37 rfl (lv_at hl 2 rfl) ?_
      refine lv_iload_n hx hb dX11_span_38 rfl (lv_at hl 3 rfl) ?_
      obtain ⟨v8, S7, e_S7, hm⟩ := m_call_of hm
      refine n_cVi X hH hS (k := 6) (c_X6_isOwned (a := (a + 56)) hT (m_lay_at hT hk_a (by decide) (i := 56) rfl) e_S7) mw_X6_isOwned in_4_219 (m_lay_at hT hk_a (by decide) (i := 56) rfl) (by decide) rfl rfl rfl ⟨rfl, rfl⟩ ⟨Nat.le_of_ble_eq_true rfl, Nat.le_of_ble_eq_true rfl⟩ ⟨Nat.zero_le _, Nat.zero_le _⟩ hl.1 (Nat.le_of_ble_eq_true rfl) dX11_span_39 (fun H locs hH hS => ?_)
      refine lv_if_ne (tgt := 47) hx hb dX11_span_42 (by decide) (fun c9 => ?_) (fun c9 => ?_)
      · have hm := m_ite_f hm c9
        refine lv_iload_n hx hb dX11_span_47 rfl (lv_at hl 4 rfl) ?_
        by_cases c10 : i3 = (0 : Int32)
        · have hm := m_ite_t hm c10
          refine lv_lookup (off := 28) (tgt := 76) hx hb dX11_span_48 (by decide) (by rw [c10]; decide) (by decide) ?_
          refine lv_aload hx hb dX11_span_76 (lv_at hl 0 rfl) ?_
          refine r_getp X hH (k := 6) (a := (a + 56)) (j := 11) (b := (a + 66)) (A := 10) (B := 0) (m_lay_at hT hk_a (by decide) (i := 56) rfl) (by decide) rfl m_wi6 (by decide) in_1_80 rfl rfl rfl dX11_span_78 ?_
          refine lv_iload_n hx hb dX11_span_81 rfl (lv_at hl 2 rfl) ?_
          refine lv_bipush (v := (24 : Int32)) hx hb dX11_span_82 (by decide) ?_
          refine lv_imul hx hb dX11_span_84 ?_
          refine lv_iload_n hx hb dX11_span_85 rfl (lv_at hl 3 rfl) ?_
          refine lv_iadd hx hb dX11_span_86 ?_
          obtain ⟨v11, h_v11, e_v11, hm⟩ := n_ldi hm
          refine n_iald X hH (n := 120) (m_lay_at hT hk_a (by decide) (i := 66) rfl) h_v11 e_v11 dX11_span_87 ?_
          exact r_iret X hr hH hS hm dX11_span_88
        · have hm := m_ite_f hm c10
          by_cases c12 : i3 = (1 : Int32)
          · have hm := m_ite_t hm c12
            refine lv_lookup (off := 41) (tgt := 89) hx hb dX11_span_48 (by decide) (by rw [c12]; decide) (by decide) ?_
            refine lv_aload hx hb dX11_span_89 (lv_at hl 0 rfl) ?_
            refine r_getp X hH (k := 6) (a := (a + 56)) (j := 12) (b := (a + 67)) (A := 11) (B := 0) (m_lay_at hT hk_a (by decide) (i := 56) rfl) (by decide) rfl m_wi6 (by decide) in_1_82 rfl rfl rfl dX11_span_91 ?_
            refine lv_iload_n hx hb dX11_span_94 rfl (lv_at hl 2 rfl) ?_
            refine lv_bipush (v := (24 : Int32)) hx hb dX11_span_95 (by decide) ?_
            refine lv_imul hx hb dX11_span_97 ?_
            refine lv_iload_n hx hb dX11_span_98 rfl (lv_at hl 3 rfl) ?_
            refine lv_iadd hx hb dX11_span_99 ?_
            obtain ⟨v13, h_v13, e_v13, hm⟩ := n_ldi hm
            refine n_iald X hH (n := 120) (m_lay_at hT hk_a (by decide) (i := 67) rfl) h_v13 e_v13 dX11_span_100 ?_
            exact r_iret X hr hH hS hm dX11_span_101
          · have hm := m_ite_f hm c12
            refine lv_lookup (off := 54) (tgt := 102) hx hb dX11_span_48 (by decide) (by exact (lv_osw (a := 0) c10 (by decide)).trans ((lv_osw (a := 1) c12 (by decide)).trans (rfl))) (by decide) ?_
            refine lv_iconst (v := (-1 : Int32)) hx hb dX11_span_102 (by decide) ?_
            exact r_iret X hr hH hS hm dX11_span_103
      · have hm := m_ite_t hm c9
        exact k_X11_span_45 (a := a) X hr hT hk_a   S7 _ _ _ hH hS (lv_sub hl [] rfl) hm
def rm_X11_fitsMain : Room := { frames := 0, cells := 0, slots := 0, locals := 0 }
def b_X11_fitsMain_35 (a : Nat)  (S : m_M) (t0 : Int32) : Option (Int32 × m_M) :=
    if t0 = 0 ∨ t0 = 1 then some (t0, S) else none
set_option maxHeartbeats 4000000 in
set_option maxRecDepth 100000 in
theorem k_X11_fitsMain_35 {p : Program} {l : Launch} {e : Env} {s : State} {m : MethodId} {args : Array Value} {below : List Frame} {meth : Method} {c : Code} {G : m_G} {nx : Nat} {κ : Nat → Nat} {res : (Int32 × m_M)} {a : Nat} (X : m_Cx p s m args meth c cX11_fitsMain 3 RX11 G) (hr : meth.sig.returnType = (some .boolean)) (hT : m_Str κ) (hk_a : κ a = 12)  : ∀ (S : m_M) (t0 : Int32) (H : Heap) (locs : List Loc) (ls : Array Slot), m_H G nx κ S H → m_S G s H locs → lv_has ls 3 [] → b_X11_fitsMain_35 a S t0 = some res → W p l e rm_X11_fitsMain s m args below meth c H locs 0 0 (m_Qi below args s G nx κ res) (F0 m 35 ls [.int t0]) := by
  have hx := X.1.1
  have hb := X.1.2.1
  intro S t0 H locs ls hH hS hl hm
  rw [b_X11_fitsMain_35] at hm
  exact r_zret X hr hH hS hm dX11_fitsMain_35
def b_X11_fitsMain_34 (a : Nat)  (S : m_M)  : Option (Int32 × m_M) :=
    b_X11_fitsMain_35 a S (0 : Int32)
set_option maxHeartbeats 4000000 in
set_option maxRecDepth 100000 in
theorem k_X11_fitsMain_34 {p : Program} {l : Launch} {e : Env} {s : State} {m : MethodId} {args : Array Value} {below : List Frame} {meth : Method} {c : Code} {G : m_G} {nx : Nat} {κ : Nat → Nat} {res : (Int32 × m_M)} {a : Nat} (X : m_Cx p s m args meth c cX11_fitsMain 3 RX11 G) (hr : meth.sig.returnType = (some .boolean)) (hT : m_Str κ) (hk_a : κ a = 12)  : ∀ (S : m_M)  (H : Heap) (locs : List Loc) (ls : Array Slot), m_H G nx κ S H → m_S G s H locs → lv_has ls 3 [] → b_X11_fitsMain_34 a S  = some res → W p l e rm_X11_fitsMain s m args below meth c H locs 0 0 (m_Qi below args s G nx κ res) (F0 m 34 ls []) := by
  have hx := X.1.1
  have hb := X.1.2.1
  intro S H locs ls hH hS hl hm
  rw [b_X11_fitsMain_34] at hm
  refine lv_iconst (v := (0 : Int32)) hx hb dX11_fitsMain_34 (by decide) ?_
  exact k_X11_fitsMain_35 (a := a) X hr hT hk_a   S (0 : Int32) _ _ _ hH hS hl hm
def f_X11_fitsMain (a : Nat) (S : m_M) (i1 : Int32) : Option (Int32 × m_M) :=
    if (m_ri S (a + 48) 0) ≤ 0 then (
    b_X11_fitsMain_34 a S) else (
    (m_ldi S (a + 50) 5 ((m_ri S (a + 48) 0) - (1 : Int32))).bind fun v2 =>
    if i1 = v2 then (
    b_X11_fitsMain_35 a S (1 : Int32)) else (
    b_X11_fitsMain_34 a S))
set_option maxHeartbeats 4000000 in
set_option maxRecDepth 100000 in
theorem c_X11_fitsMain {l : Launch} {G : m_G} {nx : Nat} {κ : Nat → Nat} {a : Nat} {S : m_M} {i1 : Int32} {res : (Int32 × m_M)} (hT : m_Str κ) (hk_a : κ a = 12) (hm : f_X11_fitsMain a S i1 = some res) : m_Ci l yX11_fitsMain cX11_fitsMain 3 (some .boolean) rm_X11_fitsMain G nx κ [.ref a, .int i1] S res := by
  refine m_Ci.of (by decide) (Nat.le_of_ble_eq_true rfl) ?_
  intro p e s m args below meth c ls X hr hH hl
  have hx := X.1.1
  have hb := X.1.2.1
  have hS : m_S G s s.heap [] := va_S.rf
  have hl : lv_has ls 3 [(0, .ref a), (1, .int i1)] := hl
  rw [f_X11_fitsMain] at hm
  refine lv_aload_n hx hb dX11_fitsMain_0 rfl (lv_at hl 0 rfl) ?_
  refine r_getp X hH (k := 11) (a := a) (j := 6) (b := (a + 47)) (A := 47) (B := 0) hk_a (by decide) rfl m_wi11 (by decide) in_3_79 rfl rfl rfl dX11_fitsMain_1 ?_
  refine r_getp X hH (k := 10) (a := (a + 47)) (j := 0) (b := (a + 48)) (A := 1) (B := 0) (m_lay_at hT hk_a (by decide) (i := 47) rfl) (by decide) rfl m_wi10 (by decide) in_3_23 rfl rfl rfl dX11_fitsMain_4 ?_
  refine lv_astore_n (lv' := [(2, .ref (a + 48)), (0, .ref a), (1, .int i1)]) hx hb dX11_fitsMain_7 rfl hl (by decide) rfl (fun ls hl => ?_)
  refine lv_aload_n hx hb dX11_fitsMain_8 rfl (lv_at hl 0 rfl) ?_
  refine r_geti X hH (k := 3) (a := (a + 48)) (j := 0) (m_lay_at hT hk_a (by decide) (i := 48) rfl) (by decide) rfl m_wi3 (by decide) in_1_126 rfl rfl dX11_fitsMain_9 ?_
  refine lv_if_le (tgt := 34) hx hb dX11_fitsMain_12 (by decide) (fun c1 => ?_) (fun c1 => ?_)
  · have hm := m_ite_t hm c1
    exact k_X11_fitsMain_34 (a := a) X hr hT hk_a   S _ _ _ hH hS (lv_sub hl [] rfl) hm
  · have hm := m_ite_f hm c1
    refine lv_iload_n hx hb dX11_fitsMain_15 rfl (lv_at hl 2 rfl) ?_
    refine lv_aload_n hx hb dX11_fitsMain_16 rfl (lv_at hl 0 rfl) ?_
    refine r_getp X hH (k := 3) (a := (a + 48)) (j := 3) (b := (a + 50)) (A := 2) (B := 0) (m_lay_at hT hk_a (by decide) (i := 48) rfl) (by decide) rfl m_wi3 (by decide) in_1_135 rfl rfl rfl dX11_fitsMain_17 ?_
    refine lv_aload_n hx hb dX11_fitsMain_20 rfl (lv_at hl 0 rfl) ?_
    refine r_geti X hH (k := 3) (a := (a + 48)) (j := 0) (m_lay_at hT hk_a (by decide) (i := 48) rfl) (by decide) rfl m_wi3 (by decide) in_1_126 rfl rfl dX11_fitsMain_21 ?_
    refine lv_iconst (v := (1 : Int32)) hx hb dX11_fitsMain_24 (by decide) ?_
    refine lv_isub hx hb dX11_fitsMain_25 ?_
    obtain ⟨v2, h_v2, e_v2, hm⟩ := n_ldi hm
    refine n_iald X hH (n := 5) (m_lay_at hT hk_a (by decide) (i := 50) rfl) h_v2 e_v2 dX11_fitsMain_26 ?_
    refine lv_icmp_ne (tgt := 34) hx hb dX11_fitsMain_27 (by decide) (fun c3 => ?_) (fun c3 => ?_)
    · have hm := m_ite_f hm c3
      exact k_X11_fitsMain_34 (a := a) X hr hT hk_a   S _ _ _ hH hS (lv_sub hl [] rfl) hm
    · have hm := m_ite_t hm c3
      refine lv_iconst (v := (1 : Int32)) hx hb dX11_fitsMain_30 (by decide) ?_
      refine lv_goto (tgt := 35) hx hb dX11_fitsMain_31 (by decide) ?_
      exact k_X11_fitsMain_35 (a := a) X hr hT hk_a   S (1 : Int32) _ _ _ hH hS (lv_sub hl [] rfl) hm
def rm_X11_now : Room := { frames := 1, cells := 0, slots := 0, locals := 20 }
def f_X11_now (a : Nat) (S : m_M) (i1 : Int32) : Option (Int32 × m_M) :=
    if i1 = (0 : Int32) then (
    some ((m_ri S (a + 70) 0), S)) else (
    if i1 = (1 : Int32) then (
    some ((m_ri S (a + 70) 1), S)) else (
    if i1 = (2 : Int32) then (
    some ((m_ri S (a + 70) 2), S)) else (
    if i1 = (3 : Int32) then (
    m_call (f_X2_latestFun (a + 70) S) fun v6 S5 =>
    some (v6, S5)) else (
    if i1 = (4 : Int32) then (
    m_call (f_X2_latestLine (a + 70) S) fun v9 S8 =>
    some (v9, S8)) else (
    if i1 = (5 : Int32) then (
    some ((m_ri S (a + 70) 4), S)) else (
    if i1 = (6 : Int32) then (
    some ((m_ri S (a + 70) 3), S)) else (
    if i1 = (7 : Int32) then (
    some ((m_ri S (a + 70) 5), S)) else (
    if i1 = (8 : Int32) then (
    some ((m_ri S (a + 70) 6), S)) else (
    if i1 = (9 : Int32) then (
    some ((m_ri S (a + 70) 7), S)) else (
    if i1 = (10 : Int32) then (
    some ((m_ri S (a + 70) 8), S)) else (
    some ((-1 : Int32), S))))))))))))
set_option maxHeartbeats 4000000 in
set_option maxRecDepth 100000 in
theorem c_X11_now {l : Launch} {G : m_G} {nx : Nat} {κ : Nat → Nat} {a : Nat} {S : m_M} {i1 : Int32} {res : (Int32 × m_M)} (hT : m_Str κ) (hk_a : κ a = 12) (hm : f_X11_now a S i1 = some res) : m_Ci l yX11_now cX11_now 3 (some .int) rm_X11_now G nx κ [.ref a, .int i1] S res := by
  refine m_Ci.of (by decide) (Nat.le_of_ble_eq_true rfl) ?_
  intro p e s m args below meth c ls X hr hH hl
  have hx := X.1.1
  have hb := X.1.2.1
  have hS : m_S G s s.heap [] := va_S.rf
  have hl : lv_has ls 3 [(0, .ref a), (1, .int i1)] := hl
  rw [f_X11_now] at hm
  refine lv_aload_n hx hb dX11_now_0 rfl (lv_at hl 0 rfl) ?_
  refine r_getp X hH (k := 11) (a := a) (j := 6) (b := (a + 47)) (A := 47) (B := 0) hk_a (by decide) rfl m_wi11 (by decide) in_3_79 rfl rfl rfl dX11_now_1 ?_
  refine r_getp X hH (k := 10) (a := (a + 47)) (j := 1) (b := (a + 70)) (A := 23) (B := 0) (m_lay_at hT hk_a (by decide) (i := 47) rfl) (by decide) rfl m_wi10 (by decide) in_3_25 rfl rfl rfl dX11_now_4 ?_
  refine lv_astore_n (lv' := [(2, .ref (a + 70)), (0, .ref a), (1, .int i1)]) hx hb dX11_now_7 rfl hl (by decide) rfl (fun ls hl => ?_)
  refine lv_iload_n hx hb dX11_now_8 rfl (lv_at hl 2 rfl) ?_
  by_cases c1 : i1 = (0 : Int32)
  · have hm := m_ite_t hm c1
    refine lv_tableIn (off := 59) (tgt := 68) hx hb dX11_now_9 (by rw [c1]; decide) (by rw [c1]; decide) (by rw [c1]; rfl) (by decide) ?_
    refine lv_aload_n hx hb dX11_now_68 rfl (lv_at hl 0 rfl) ?_
    refine r_geti X hH (k := 2) (a := (a + 70)) (j := 0) (m_lay_at hT hk_a (by decide) (i := 70) rfl) (by decide) rfl m_wi2 (by decide) in_2_177 rfl rfl dX11_now_69 ?_
    exact r_iret X hr hH hS hm dX11_now_72
  · have hm := m_ite_f hm c1
    by_cases c2 : i1 = (1 : Int32)
    · have hm := m_ite_t hm c2
      refine lv_tableIn (off := 64) (tgt := 73) hx hb dX11_now_9 (by rw [c2]; decide) (by rw [c2]; decide) (by rw [c2]; rfl) (by decide) ?_
      refine lv_aload_n hx hb dX11_now_73 rfl (lv_at hl 0 rfl) ?_
      refine r_geti X hH (k := 2) (a := (a + 70)) (j := 1) (m_lay_at hT hk_a (by decide) (i := 70) rfl) (by decide) rfl m_wi2 (by decide) in_2_179 rfl rfl dX11_now_74 ?_
      exact r_iret X hr hH hS hm dX11_now_77
    · have hm := m_ite_f hm c2
      by_cases c3 : i1 = (2 : Int32)
      · have hm := m_ite_t hm c3
        refine lv_tableIn (off := 69) (tgt := 78) hx hb dX11_now_9 (by rw [c3]; decide) (by rw [c3]; decide) (by rw [c3]; rfl) (by decide) ?_
        refine lv_aload_n hx hb dX11_now_78 rfl (lv_at hl 0 rfl) ?_
        refine r_geti X hH (k := 2) (a := (a + 70)) (j := 2) (m_lay_at hT hk_a (by decide) (i := 70) rfl) (by decide) rfl m_wi2 (by decide) in_2_182 rfl rfl dX11_now_79 ?_
        exact r_iret X hr hH hS hm dX11_now_82
      · have hm := m_ite_f hm c3
        by_cases c4 : i1 = (3 : Int32)
        · have hm := m_ite_t hm c4
          refine lv_tableIn (off := 74) (tgt := 83) hx hb dX11_now_9 (by rw [c4]; decide) (by rw [c4]; decide) (by rw [c4]; rfl) (by decide) ?_
          refine lv_aload_n hx hb dX11_now_83 rfl (lv_at hl 0 rfl) ?_
          obtain ⟨v6, S5, e_S5, hm⟩ := m_call_of hm
          refine n_cVi X hH hS (k := 2) (c_X2_latestFun (a := (a + 70)) hT (m_lay_at hT hk_a (by decide) (i := 70) rfl) e_S5) mw_X2_latestFun in_5_120 (m_lay_at hT hk_a (by decide) (i := 70) rfl) (by decide) rfl rfl rfl ⟨rfl, rfl⟩ ⟨Nat.le_of_ble_eq_true rfl, Nat.le_of_ble_eq_true rfl⟩ ⟨Nat.zero_le _, Nat.zero_le _⟩ hl.1 (Nat.le_of_ble_eq_true rfl) dX11_now_84 (fun H locs hH hS => ?_)
          exact r_iret X hr hH hS hm dX11_now_87
        · have hm := m_ite_f hm c4
          by_cases c7 : i1 = (4 : Int32)
          · have hm := m_ite_t hm c7
            refine lv_tableIn (off := 79) (tgt := 88) hx hb dX11_now_9 (by rw [c7]; decide) (by rw [c7]; decide) (by rw [c7]; rfl) (by decide) ?_
            refine lv_aload_n hx hb dX11_now_88 rfl (lv_at hl 0 rfl) ?_
            obtain ⟨v9, S8, e_S8, hm⟩ := m_call_of hm
            refine n_cVi X hH hS (k := 2) (c_X2_latestLine (a := (a + 70)) hT (m_lay_at hT hk_a (by decide) (i := 70) rfl) e_S8) mw_X2_latestLine in_5_124 (m_lay_at hT hk_a (by decide) (i := 70) rfl) (by decide) rfl rfl rfl ⟨rfl, rfl⟩ ⟨Nat.le_of_ble_eq_true rfl, Nat.le_of_ble_eq_true rfl⟩ ⟨Nat.zero_le _, Nat.zero_le _⟩ hl.1 (Nat.le_of_ble_eq_true rfl) dX11_now_89 (fun H locs hH hS => ?_)
            exact r_iret X hr hH hS hm dX11_now_92
          · have hm := m_ite_f hm c7
            by_cases c10 : i1 = (5 : Int32)
            · have hm := m_ite_t hm c10
              refine lv_tableIn (off := 84) (tgt := 93) hx hb dX11_now_9 (by rw [c10]; decide) (by rw [c10]; decide) (by rw [c10]; rfl) (by decide) ?_
              refine lv_aload_n hx hb dX11_now_93 rfl (lv_at hl 0 rfl) ?_
              refine r_geti X hH (k := 2) (a := (a + 70)) (j := 4) (m_lay_at hT hk_a (by decide) (i := 70) rfl) (by decide) rfl m_wi2 (by decide) in_2_186 rfl rfl dX11_now_94 ?_
              exact r_iret X hr hH hS hm dX11_now_97
            · have hm := m_ite_f hm c10
              by_cases c11 : i1 = (6 : Int32)
              · have hm := m_ite_t hm c11
                refine lv_tableIn (off := 89) (tgt := 98) hx hb dX11_now_9 (by rw [c11]; decide) (by rw [c11]; decide) (by rw [c11]; rfl) (by decide) ?_
                refine lv_aload_n hx hb dX11_now_98 rfl (lv_at hl 0 rfl) ?_
                refine r_geti X hH (k := 2) (a := (a + 70)) (j := 3) (m_lay_at hT hk_a (by decide) (i := 70) rfl) (by decide) rfl m_wi2 (by decide) in_2_184 rfl rfl dX11_now_99 ?_
                exact r_iret X hr hH hS hm dX11_now_102
              · have hm := m_ite_f hm c11
                by_cases c12 : i1 = (7 : Int32)
                · have hm := m_ite_t hm c12
                  refine lv_tableIn (off := 94) (tgt := 103) hx hb dX11_now_9 (by rw [c12]; decide) (by rw [c12]; decide) (by rw [c12]; rfl) (by decide) ?_
                  refine lv_aload_n hx hb dX11_now_103 rfl (lv_at hl 0 rfl) ?_
                  refine r_geti X hH (k := 2) (a := (a + 70)) (j := 5) (m_lay_at hT hk_a (by decide) (i := 70) rfl) (by decide) rfl m_wi2 (by decide) in_2_188 rfl rfl dX11_now_104 ?_
                  exact r_iret X hr hH hS hm dX11_now_107
                · have hm := m_ite_f hm c12
                  by_cases c13 : i1 = (8 : Int32)
                  · have hm := m_ite_t hm c13
                    refine lv_tableIn (off := 99) (tgt := 108) hx hb dX11_now_9 (by rw [c13]; decide) (by rw [c13]; decide) (by rw [c13]; rfl) (by decide) ?_
                    refine lv_aload_n hx hb dX11_now_108 rfl (lv_at hl 0 rfl) ?_
                    refine r_geti X hH (k := 2) (a := (a + 70)) (j := 6) (m_lay_at hT hk_a (by decide) (i := 70) rfl) (by decide) rfl m_wi2 (by decide) in_2_190 rfl rfl dX11_now_109 ?_
                    exact r_iret X hr hH hS hm dX11_now_112
                  · have hm := m_ite_f hm c13
                    by_cases c14 : i1 = (9 : Int32)
                    · have hm := m_ite_t hm c14
                      refine lv_tableIn (off := 104) (tgt := 113) hx hb dX11_now_9 (by rw [c14]; decide) (by rw [c14]; decide) (by rw [c14]; rfl) (by decide) ?_
                      refine lv_aload_n hx hb dX11_now_113 rfl (lv_at hl 0 rfl) ?_
                      refine r_geti X hH (k := 2) (a := (a + 70)) (j := 7) (m_lay_at hT hk_a (by decide) (i := 70) rfl) (by decide) rfl m_wi2 (by decide) in_2_192 rfl rfl dX11_now_114 ?_
                      exact r_iret X hr hH hS hm dX11_now_117
                    · have hm := m_ite_f hm c14
                      by_cases c15 : i1 = (10 : Int32)
                      · have hm := m_ite_t hm c15
                        refine lv_tableIn (off := 109) (tgt := 118) hx hb dX11_now_9 (by rw [c15]; decide) (by rw [c15]; decide) (by rw [c15]; rfl) (by decide) ?_
                        refine lv_aload_n hx hb dX11_now_118 rfl (lv_at hl 0 rfl) ?_
                        refine r_geti X hH (k := 2) (a := (a + 70)) (j := 8) (m_lay_at hT hk_a (by decide) (i := 70) rfl) (by decide) rfl m_wi2 (by decide) in_2_194 rfl rfl dX11_now_119 ?_
                        exact r_iret X hr hH hS hm dX11_now_122
                      · have hm := m_ite_f hm c15
                        refine lv_tableOut (tgt := 123) hx hb dX11_now_9 (by have h_c1 := lv_neT (a := 0) c1 rfl; have h_c2 := lv_neT (a := 1) c2 rfl; have h_c3 := lv_neT (a := 2) c3 rfl; have h_c4 := lv_neT (a := 3) c4 rfl; have h_c7 := lv_neT (a := 4) c7 rfl; have h_c10 := lv_neT (a := 5) c10 rfl; have h_c11 := lv_neT (a := 6) c11 rfl; have h_c12 := lv_neT (a := 7) c12 rfl; have h_c13 := lv_neT (a := 8) c13 rfl; have h_c14 := lv_neT (a := 9) c14 rfl; have h_c15 := lv_neT (a := 10) c15 rfl; omega) (by decide) ?_
                        refine lv_iconst (v := (-1 : Int32)) hx hb dX11_now_123 (by decide) ?_
                        exact r_iret X hr hH hS hm dX11_now_124
def rm_X11_kind : Room := { frames := 3, cells := 0, slots := 0, locals := 66 }
def b_X11_kind_43 (a : Nat)  (S : m_M) (t0 : Int32) : Option (Int32 × m_M) :=
    some (t0, S)
set_option maxHeartbeats 4000000 in
set_option maxRecDepth 100000 in
theorem k_X11_kind_43 {p : Program} {l : Launch} {e : Env} {s : State} {m : MethodId} {args : Array Value} {below : List Frame} {meth : Method} {c : Code} {G : m_G} {nx : Nat} {κ : Nat → Nat} {res : (Int32 × m_M)} {a : Nat} (X : m_Cx p s m args meth c cX11_kind 3 RX11 G) (hr : meth.sig.returnType = (some .int)) (hT : m_Str κ) (hk_a : κ a = 12)  : ∀ (S : m_M) (t0 : Int32) (H : Heap) (locs : List Loc) (ls : Array Slot), m_H G nx κ S H → m_S G s H locs → lv_has ls 3 [] → b_X11_kind_43 a S t0 = some res → W p l e rm_X11_kind s m args below meth c H locs 0 0 (m_Qi below args s G nx κ res) (F0 m 43 ls [.int t0]) := by
  have hx := X.1.1
  have hb := X.1.2.1
  intro S t0 H locs ls hH hS hl hm
  rw [b_X11_kind_43] at hm
  exact r_iret X hr hH hS hm dX11_kind_43
def f_X11_kind (a : Nat) (S : m_M) (i1 : Int32) (i2 : Int32) : Option (Int32 × m_M) :=
    m_call (f_X2_hasVar (a + 70) (a + 48) S i1 i2) fun v2 S1 =>
    if v2 = 0 then (
    b_X11_kind_43 a S1 (-1 : Int32)) else (
    (m_ldi S1 (a + 73) 351 ((i1 * (27 : Int32)) + i2)).bind fun v4 =>
    b_X11_kind_43 a S1 v4)
set_option maxHeartbeats 4000000 in
set_option maxRecDepth 100000 in
theorem c_X11_kind {l : Launch} {G : m_G} {nx : Nat} {κ : Nat → Nat} {a : Nat} {S : m_M} {i1 : Int32} {i2 : Int32} {res : (Int32 × m_M)} (hT : m_Str κ) (hk_a : κ a = 12) (hm : f_X11_kind a S i1 i2 = some res) : m_Ci l yX11_kind cX11_kind 3 (some .int) rm_X11_kind G nx κ [.ref a, .int i1, .int i2] S res := by
  refine m_Ci.of (by decide) (Nat.le_of_ble_eq_true rfl) ?_
  intro p e s m args below meth c ls X hr hH hl
  have hx := X.1.1
  have hb := X.1.2.1
  have hS : m_S G s s.heap [] := va_S.rf
  have hl : lv_has ls 3 [(0, .ref a), (1, .int i1), (2, .int i2)] := hl
  rw [f_X11_kind] at hm
  refine lv_aload_n hx hb dX11_kind_0 rfl (lv_at hl 0 rfl) ?_
  refine r_getp X hH (k := 11) (a := a) (j := 6) (b := (a + 47)) (A := 47) (B := 0) hk_a (by decide) rfl m_wi11 (by decide) in_3_79 rfl rfl rfl dX11_kind_1 ?_
  refine r_getp X hH (k := 10) (a := (a + 47)) (j := 1) (b := (a + 70)) (A := 23) (B := 0) (m_lay_at hT hk_a (by decide) (i := 47) rfl) (by decide) rfl m_wi10 (by decide) in_3_25 rfl rfl rfl dX11_kind_4 ?_
  refine lv_aload_n hx hb dX11_kind_7 rfl (lv_at hl 0 rfl) ?_
  refine r_getp X hH (k := 11) (a := a) (j := 6) (b := (a + 47)) (A := 47) (B := 0) hk_a (by decide) rfl m_wi11 (by decide) in_3_79 rfl rfl rfl dX11_kind_8 ?_
  refine r_getp X hH (k := 10) (a := (a + 47)) (j := 0) (b := (a + 48)) (A := 1) (B := 0) (m_lay_at hT hk_a (by decide) (i := 47) rfl) (by decide) rfl m_wi10 (by decide) in_3_23 rfl rfl rfl dX11_kind_11 ?_
  refine lv_iload_n hx hb dX11_kind_14 rfl (lv_at hl 1 rfl) ?_
  refine lv_iload_n hx hb dX11_kind_15 rfl (lv_at hl 2 rfl) ?_
  obtain ⟨v2, S1, e_S1, hm⟩ := m_call_of hm
  refine n_cVi X hH hS (k := 2) (c_X2_hasVar (a := (a + 70)) (o1 := (a + 48)) hT (m_lay_at hT hk_a (by decide) (i := 70) rfl) (m_lay_at hT hk_a (by decide) (i := 48) rfl) e_S1) mw_X2_hasVar in_5_132 (m_lay_at hT hk_a (by decide) (i := 70) rfl) (by decide) rfl rfl rfl ⟨rfl, rfl⟩ ⟨Nat.le_of_ble_eq_true rfl, Nat.le_of_ble_eq_true rfl⟩ ⟨Nat.zero_le _, Nat.zero_le _⟩ hl.1 (Nat.le_of_ble_eq_true rfl) dX11_kind_16 (fun H locs hH hS => ?_)
  refine lv_if_eq (tgt := 42) hx hb dX11_kind_19 (by decide) (fun c3 => ?_) (fun c3 => ?_)
  · have hm := m_ite_t hm c3
    refine lv_iconst (v := (-1 : Int32)) hx hb dX11_kind_42 (by decide) ?_
    exact k_X11_kind_43 (a := a) X hr hT hk_a   S1 (-1 : Int32) _ _ _ hH hS (lv_sub hl [] rfl) hm
  · have hm := m_ite_f hm c3
    refine lv_aload_n hx hb dX11_kind_22 rfl (lv_at hl 0 rfl) ?_
    refine r_getp X hH (k := 11) (a := a) (j := 6) (b := (a + 47)) (A := 47) (B := 0) hk_a (by decide) rfl m_wi11 (by decide) in_3_79 rfl rfl rfl dX11_kind_23 ?_
    refine r_getp X hH (k := 10) (a := (a + 47)) (j := 1) (b := (a + 70)) (A := 23) (B := 0) (m_lay_at hT hk_a (by decide) (i := 47) rfl) (by decide) rfl m_wi10 (by decide) in_3_25 rfl rfl rfl dX11_kind_26 ?_
    refine r_getp X hH (k := 2) (a := (a + 70)) (j := 14) (b := (a + 73)) (A := 3) (B := 0) (m_lay_at hT hk_a (by decide) (i := 70) rfl) (by decide) rfl m_wi2 (by decide) in_2_206 rfl rfl rfl dX11_kind_29 ?_
    refine lv_iload_n hx hb dX11_kind_32 rfl (lv_at hl 1 rfl) ?_
    refine lv_bipush (v := (27 : Int32)) hx hb dX11_kind_33 (by decide) ?_
    refine lv_imul hx hb dX11_kind_35 ?_
    refine lv_iload_n hx hb dX11_kind_36 rfl (lv_at hl 2 rfl) ?_
    refine lv_iadd hx hb dX11_kind_37 ?_
    obtain ⟨v4, h_v4, e_v4, hm⟩ := n_ldi hm
    refine n_iald X hH (n := 351) (m_lay_at hT hk_a (by decide) (i := 73) rfl) h_v4 e_v4 dX11_kind_38 ?_
    refine lv_goto (tgt := 43) hx hb dX11_kind_39 (by decide) ?_
    exact k_X11_kind_43 (a := a) X hr hT hk_a   S1 v4 _ _ _ hH hS (lv_sub hl [] rfl) hm
def rm_X11_cell : Room := { frames := 2, cells := 0, slots := 0, locals := 42 }
def f_X11_cell (a : Nat) (S : m_M) (i1 : Int32) (i2 : Int32) : Option (Int32 × m_M) :=
    m_call (f_X2_hasCell (a + 70) S i1) fun v2 S1 =>
    if v2 = 0 then (
    some ((-1 : Int32), S1)) else (
    if i2 = (0 : Int32) then (
    m_call (f_X2_regionOfCell (a + 70) S1 i1) fun v6 S5 =>
    some (v6, S5)) else (
    if i2 = (1 : Int32) then (
    (m_ldi S1 (a + 77) 400 ((2 : Int32) * i1)).bind fun v8 =>
    some (v8, S1)) else (
    if i2 = (2 : Int32) then (
    (m_ldi S1 (a + 77) 400 (((2 : Int32) * i1) + (1 : Int32))).bind fun v10 =>
    some (v10, S1)) else (
    some ((-1 : Int32), S1)))))
set_option maxHeartbeats 4000000 in
set_option maxRecDepth 100000 in
theorem c_X11_cell {l : Launch} {G : m_G} {nx : Nat} {κ : Nat → Nat} {a : Nat} {S : m_M} {i1 : Int32} {i2 : Int32} {res : (Int32 × m_M)} (hT : m_Str κ) (hk_a : κ a = 12) (hm : f_X11_cell a S i1 i2 = some res) : m_Ci l yX11_cell cX11_cell 3 (some .int) rm_X11_cell G nx κ [.ref a, .int i1, .int i2] S res := by
  refine m_Ci.of (by decide) (Nat.le_of_ble_eq_true rfl) ?_
  intro p e s m args below meth c ls X hr hH hl
  have hx := X.1.1
  have hb := X.1.2.1
  have hS : m_S G s s.heap [] := va_S.rf
  have hl : lv_has ls 3 [(0, .ref a), (1, .int i1), (2, .int i2)] := hl
  rw [f_X11_cell] at hm
  refine lv_aload_n hx hb dX11_cell_0 rfl (lv_at hl 0 rfl) ?_
  refine r_getp X hH (k := 11) (a := a) (j := 6) (b := (a + 47)) (A := 47) (B := 0) hk_a (by decide) rfl m_wi11 (by decide) in_3_79 rfl rfl rfl dX11_cell_1 ?_
  refine r_getp X hH (k := 10) (a := (a + 47)) (j := 1) (b := (a + 70)) (A := 23) (B := 0) (m_lay_at hT hk_a (by decide) (i := 47) rfl) (by decide) rfl m_wi10 (by decide) in_3_25 rfl rfl rfl dX11_cell_4 ?_
  refine lv_iload_n hx hb dX11_cell_7 rfl (lv_at hl 1 rfl) ?_
  obtain ⟨v2, S1, e_S1, hm⟩ := m_call_of hm
  refine n_cVi X hH hS (k := 2) (c_X2_hasCell (a := (a + 70)) hT (m_lay_at hT hk_a (by decide) (i := 70) rfl) e_S1) mw_X2_hasCell in_5_141 (m_lay_at hT hk_a (by decide) (i := 70) rfl) (by decide) rfl rfl rfl ⟨rfl, rfl⟩ ⟨Nat.le_of_ble_eq_true rfl, Nat.le_of_ble_eq_true rfl⟩ ⟨Nat.zero_le _, Nat.zero_le _⟩ hl.1 (Nat.le_of_ble_eq_true rfl) dX11_cell_8 (fun H locs hH hS => ?_)
  refine lv_if_ne (tgt := 16) hx hb dX11_cell_11 (by decide) (fun c3 => ?_) (fun c3 => ?_)
  · have hm := m_ite_f hm c3
    refine lv_iload_n hx hb dX11_cell_16 rfl (lv_at hl 2 rfl) ?_
    by_cases c4 : i2 = (0 : Int32)
    · have hm := m_ite_t hm c4
      refine lv_tableIn (off := 27) (tgt := 44) hx hb dX11_cell_17 (by rw [c4]; decide) (by rw [c4]; decide) (by rw [c4]; rfl) (by decide) ?_
      refine lv_aload_n hx hb dX11_cell_44 rfl (lv_at hl 0 rfl) ?_
      refine r_getp X hH (k := 11) (a := a) (j := 6) (b := (a + 47)) (A := 47) (B := 0) hk_a (by decide) rfl m_wi11 (by decide) in_3_79 rfl rfl rfl dX11_cell_45 ?_
      refine r_getp X hH (k := 10) (a := (a + 47)) (j := 1) (b := (a + 70)) (A := 23) (B := 0) (m_lay_at hT hk_a (by decide) (i := 47) rfl) (by decide) rfl m_wi10 (by decide) in_3_25 rfl rfl rfl dX11_cell_48 ?_
      refine lv_iload_n hx hb dX11_cell_51 rfl (lv_at hl 1 rfl) ?_
      obtain ⟨v6, S5, e_S5, hm⟩ := m_call_of hm
      refine n_cVi X hH hS (k := 2) (c_X2_regionOfCell (a := (a + 70)) hT (m_lay_at hT hk_a (by decide) (i := 70) rfl) e_S5) mw_X2_regionOfCell in_5_142 (m_lay_at hT hk_a (by decide) (i := 70) rfl) (by decide) rfl rfl rfl ⟨rfl, rfl⟩ ⟨Nat.le_of_ble_eq_true rfl, Nat.le_of_ble_eq_true rfl⟩ ⟨Nat.zero_le _, Nat.zero_le _⟩ hl.1 (Nat.le_of_ble_eq_true rfl) dX11_cell_52 (fun H locs hH hS => ?_)
      exact r_iret X hr hH hS hm dX11_cell_55
    · have hm := m_ite_f hm c4
      by_cases c7 : i2 = (1 : Int32)
      · have hm := m_ite_t hm c7
        refine lv_tableIn (off := 39) (tgt := 56) hx hb dX11_cell_17 (by rw [c7]; decide) (by rw [c7]; decide) (by rw [c7]; rfl) (by decide) ?_
        refine lv_aload_n hx hb dX11_cell_56 rfl (lv_at hl 0 rfl) ?_
        refine r_getp X hH (k := 11) (a := a) (j := 6) (b := (a + 47)) (A := 47) (B := 0) hk_a (by decide) rfl m_wi11 (by decide) in_3_79 rfl rfl rfl dX11_cell_57 ?_
        refine r_getp X hH (k := 10) (a := (a + 47)) (j := 1) (b := (a + 70)) (A := 23) (B := 0) (m_lay_at hT hk_a (by decide) (i := 47) rfl) (by decide) rfl m_wi10 (by decide) in_3_25 rfl rfl rfl dX11_cell_60 ?_
        refine r_getp X hH (k := 2) (a := (a + 70)) (j := 18) (b := (a + 77)) (A := 7) (B := 0) (m_lay_at hT hk_a (by decide) (i := 70) rfl) (by decide) rfl m_wi2 (by decide) in_2_215 rfl rfl rfl dX11_cell_63 ?_
        refine lv_iconst (v := (2 : Int32)) hx hb dX11_cell_66 (by decide) ?_
        refine lv_iload_n hx hb dX11_cell_67 rfl (lv_at hl 1 rfl) ?_
        refine lv_imul hx hb dX11_cell_68 ?_
        obtain ⟨v8, h_v8, e_v8, hm⟩ := n_ldi hm
        refine n_iald X hH (n := 400) (m_lay_at hT hk_a (by decide) (i := 77) rfl) h_v8 e_v8 dX11_cell_69 ?_
        exact r_iret X hr hH hS hm dX11_cell_70
      · have hm := m_ite_f hm c7
        by_cases c9 : i2 = (2 : Int32)
        · have hm := m_ite_t hm c9
          refine lv_tableIn (off := 54) (tgt := 71) hx hb dX11_cell_17 (by rw [c9]; decide) (by rw [c9]; decide) (by rw [c9]; rfl) (by decide) ?_
          refine lv_aload_n hx hb dX11_cell_71 rfl (lv_at hl 0 rfl) ?_
          refine r_getp X hH (k := 11) (a := a) (j := 6) (b := (a + 47)) (A := 47) (B := 0) hk_a (by decide) rfl m_wi11 (by decide) in_3_79 rfl rfl rfl dX11_cell_72 ?_
          refine r_getp X hH (k := 10) (a := (a + 47)) (j := 1) (b := (a + 70)) (A := 23) (B := 0) (m_lay_at hT hk_a (by decide) (i := 47) rfl) (by decide) rfl m_wi10 (by decide) in_3_25 rfl rfl rfl dX11_cell_75 ?_
          refine r_getp X hH (k := 2) (a := (a + 70)) (j := 18) (b := (a + 77)) (A := 7) (B := 0) (m_lay_at hT hk_a (by decide) (i := 70) rfl) (by decide) rfl m_wi2 (by decide) in_2_215 rfl rfl rfl dX11_cell_78 ?_
          refine lv_iconst (v := (2 : Int32)) hx hb dX11_cell_81 (by decide) ?_
          refine lv_iload_n hx hb dX11_cell_82 rfl (lv_at hl 1 rfl) ?_
          refine lv_imul hx hb dX11_cell_83 ?_
          refine lv_iconst (v := (1 : Int32)) hx hb dX11_cell_84 (by decide) ?_
          refine lv_iadd hx hb dX11_cell_85 ?_
          obtain ⟨v10, h_v10, e_v10, hm⟩ := n_ldi hm
          refine n_iald X hH (n := 400) (m_lay_at hT hk_a (by decide) (i := 77) rfl) h_v10 e_v10 dX11_cell_86 ?_
          exact r_iret X hr hH hS hm dX11_cell_87
        · have hm := m_ite_f hm c9
          refine lv_tableOut (tgt := 88) hx hb dX11_cell_17 (by have h_c4 := lv_neT (a := 0) c4 rfl; have h_c7 := lv_neT (a := 1) c7 rfl; have h_c9 := lv_neT (a := 2) c9 rfl; omega) (by decide) ?_
          refine lv_iconst (v := (-1 : Int32)) hx hb dX11_cell_88 (by decide) ?_
          exact r_iret X hr hH hS hm dX11_cell_89
  · have hm := m_ite_t hm c3
    refine lv_iconst (v := (-1 : Int32)) hx hb dX11_cell_14 (by decide) ?_
    exact r_iret X hr hH hS hm dX11_cell_15
def rm_X11_gave : Room := { frames := 1, cells := 0, slots := 0, locals := 20 }
def f_X11_gave (a : Nat) (S : m_M)  : Option (Int32 × m_M) :=
    m_call (f_X2_resultKind (a + 70) S) fun v2 S1 =>
    some (v2, S1)
set_option maxHeartbeats 4000000 in
set_option maxRecDepth 100000 in
theorem c_X11_gave {l : Launch} {G : m_G} {nx : Nat} {κ : Nat → Nat} {a : Nat} {S : m_M}  {res : (Int32 × m_M)} (hT : m_Str κ) (hk_a : κ a = 12) (hm : f_X11_gave a S = some res) : m_Ci l yX11_gave cX11_gave 1 (some .int) rm_X11_gave G nx κ [.ref a] S res := by
  refine m_Ci.of (by decide) (Nat.le_of_ble_eq_true rfl) ?_
  intro p e s m args below meth c ls X hr hH hl
  have hx := X.1.1
  have hb := X.1.2.1
  have hS : m_S G s s.heap [] := va_S.rf
  have hl : lv_has ls 1 [(0, .ref a)] := hl
  rw [f_X11_gave] at hm
  refine lv_aload_n hx hb dX11_gave_0 rfl (lv_at hl 0 rfl) ?_
  refine r_getp X hH (k := 11) (a := a) (j := 6) (b := (a + 47)) (A := 47) (B := 0) hk_a (by decide) rfl m_wi11 (by decide) in_3_79 rfl rfl rfl dX11_gave_1 ?_
  refine r_getp X hH (k := 10) (a := (a + 47)) (j := 1) (b := (a + 70)) (A := 23) (B := 0) (m_lay_at hT hk_a (by decide) (i := 47) rfl) (by decide) rfl m_wi10 (by decide) in_3_25 rfl rfl rfl dX11_gave_4 ?_
  obtain ⟨v2, S1, e_S1, hm⟩ := m_call_of hm
  refine n_cVi X hH hS (k := 2) (c_X2_resultKind (a := (a + 70)) hT (m_lay_at hT hk_a (by decide) (i := 70) rfl) e_S1) mw_X2_resultKind in_5_147 (m_lay_at hT hk_a (by decide) (i := 70) rfl) (by decide) rfl rfl rfl ⟨rfl, rfl⟩ ⟨Nat.le_of_ble_eq_true rfl, Nat.le_of_ble_eq_true rfl⟩ ⟨Nat.zero_le _, Nat.zero_le _⟩ hl.1 (Nat.le_of_ble_eq_true rfl) dX11_gave_7 (fun H locs hH hS => ?_)
  exact r_iret X hr hH hS hm dX11_gave_10
def rm_X11_room : Room := { frames := 1, cells := 0, slots := 0, locals := 21 }
def b_X11_room_30 (a : Nat)  (S : m_M) (t0 : Int32) : Option (Int32 × m_M) :=
    some (t0, S)
set_option maxHeartbeats 4000000 in
set_option maxRecDepth 100000 in
theorem k_X11_room_30 {p : Program} {l : Launch} {e : Env} {s : State} {m : MethodId} {args : Array Value} {below : List Frame} {meth : Method} {c : Code} {G : m_G} {nx : Nat} {κ : Nat → Nat} {res : (Int32 × m_M)} {a : Nat} (X : m_Cx p s m args meth c cX11_room 2 RX11 G) (hr : meth.sig.returnType = (some .int)) (hT : m_Str κ) (hk_a : κ a = 12)  : ∀ (S : m_M) (t0 : Int32) (H : Heap) (locs : List Loc) (ls : Array Slot), m_H G nx κ S H → m_S G s H locs → lv_has ls 2 [] → b_X11_room_30 a S t0 = some res → W p l e rm_X11_room s m args below meth c H locs 0 0 (m_Qi below args s G nx κ res) (F0 m 30 ls [.int t0]) := by
  have hx := X.1.1
  have hb := X.1.2.1
  intro S t0 H locs ls hH hS hl hm
  rw [b_X11_room_30] at hm
  exact r_iret X hr hH hS hm dX11_room_30
def f_X11_room (a : Nat) (S : m_M) (i1 : Int32) : Option (Int32 × m_M) :=
    m_call (f_X2_hasRoom (a + 70) S i1) fun v2 S1 =>
    if v2 = 0 then (
    b_X11_room_30 a S1 (-1 : Int32)) else (
    (m_ldi S1 (a + 75) 312 i1).bind fun v4 =>
    b_X11_room_30 a S1 v4)
set_option maxHeartbeats 4000000 in
set_option maxRecDepth 100000 in
theorem c_X11_room {l : Launch} {G : m_G} {nx : Nat} {κ : Nat → Nat} {a : Nat} {S : m_M} {i1 : Int32} {res : (Int32 × m_M)} (hT : m_Str κ) (hk_a : κ a = 12) (hm : f_X11_room a S i1 = some res) : m_Ci l yX11_room cX11_room 2 (some .int) rm_X11_room G nx κ [.ref a, .int i1] S res := by
  refine m_Ci.of (by decide) (Nat.le_of_ble_eq_true rfl) ?_
  intro p e s m args below meth c ls X hr hH hl
  have hx := X.1.1
  have hb := X.1.2.1
  have hS : m_S G s s.heap [] := va_S.rf
  have hl : lv_has ls 2 [(0, .ref a), (1, .int i1)] := hl
  rw [f_X11_room] at hm
  refine lv_aload_n hx hb dX11_room_0 rfl (lv_at hl 0 rfl) ?_
  refine r_getp X hH (k := 11) (a := a) (j := 6) (b := (a + 47)) (A := 47) (B := 0) hk_a (by decide) rfl m_wi11 (by decide) in_3_79 rfl rfl rfl dX11_room_1 ?_
  refine r_getp X hH (k := 10) (a := (a + 47)) (j := 1) (b := (a + 70)) (A := 23) (B := 0) (m_lay_at hT hk_a (by decide) (i := 47) rfl) (by decide) rfl m_wi10 (by decide) in_3_25 rfl rfl rfl dX11_room_4 ?_
  refine lv_iload_n hx hb dX11_room_7 rfl (lv_at hl 1 rfl) ?_
  obtain ⟨v2, S1, e_S1, hm⟩ := m_call_of hm
  refine n_cVi X hH hS (k := 2) (c_X2_hasRoom (a := (a + 70)) hT (m_lay_at hT hk_a (by decide) (i := 70) rfl) e_S1) mw_X2_hasRoom in_5_155 (m_lay_at hT hk_a (by decide) (i := 70) rfl) (by decide) rfl rfl rfl ⟨rfl, rfl⟩ ⟨Nat.le_of_ble_eq_true rfl, Nat.le_of_ble_eq_true rfl⟩ ⟨Nat.zero_le _, Nat.zero_le _⟩ hl.1 (Nat.le_of_ble_eq_true rfl) dX11_room_8 (fun H locs hH hS => ?_)
  refine lv_if_eq (tgt := 29) hx hb dX11_room_11 (by decide) (fun c3 => ?_) (fun c3 => ?_)
  · have hm := m_ite_t hm c3
    refine lv_iconst (v := (-1 : Int32)) hx hb dX11_room_29 (by decide) ?_
    exact k_X11_room_30 (a := a) X hr hT hk_a   S1 (-1 : Int32) _ _ _ hH hS (lv_sub hl [] rfl) hm
  · have hm := m_ite_f hm c3
    refine lv_aload_n hx hb dX11_room_14 rfl (lv_at hl 0 rfl) ?_
    refine r_getp X hH (k := 11) (a := a) (j := 6) (b := (a + 47)) (A := 47) (B := 0) hk_a (by decide) rfl m_wi11 (by decide) in_3_79 rfl rfl rfl dX11_room_15 ?_
    refine r_getp X hH (k := 10) (a := (a + 47)) (j := 1) (b := (a + 70)) (A := 23) (B := 0) (m_lay_at hT hk_a (by decide) (i := 47) rfl) (by decide) rfl m_wi10 (by decide) in_3_25 rfl rfl rfl dX11_room_18 ?_
    refine r_getp X hH (k := 2) (a := (a + 70)) (j := 16) (b := (a + 75)) (A := 5) (B := 0) (m_lay_at hT hk_a (by decide) (i := 70) rfl) (by decide) rfl m_wi2 (by decide) in_2_211 rfl rfl rfl dX11_room_21 ?_
    refine lv_iload_n hx hb dX11_room_24 rfl (lv_at hl 1 rfl) ?_
    obtain ⟨v4, h_v4, e_v4, hm⟩ := n_ldi hm
    refine n_iald X hH (n := 312) (m_lay_at hT hk_a (by decide) (i := 75) rfl) h_v4 e_v4 dX11_room_25 ?_
    refine lv_goto (tgt := 30) hx hb dX11_room_26 (by decide) ?_
    exact k_X11_room_30 (a := a) X hr hT hk_a   S1 v4 _ _ _ hH hS (lv_sub hl [] rfl) hm
def rm_X11_roomful : Room := { frames := 1, cells := 0, slots := 0, locals := 23 }
def b_X11_roomful_29 (a : Nat)  (S : m_M) (t0 : Int32) : Option (Int32 × m_M) :=
    some (t0, S)
set_option maxHeartbeats 4000000 in
set_option maxRecDepth 100000 in
theorem k_X11_roomful_29 {p : Program} {l : Launch} {e : Env} {s : State} {m : MethodId} {args : Array Value} {below : List Frame} {meth : Method} {c : Code} {G : m_G} {nx : Nat} {κ : Nat → Nat} {res : (Int32 × m_M)} {a : Nat} (X : m_Cx p s m args meth c cX11_roomful 2 RX11 G) (hr : meth.sig.returnType = (some .int)) (hT : m_Str κ) (hk_a : κ a = 12)  : ∀ (S : m_M) (t0 : Int32) (H : Heap) (locs : List Loc) (ls : Array Slot), m_H G nx κ S H → m_S G s H locs → lv_has ls 2 [] → b_X11_roomful_29 a S t0 = some res → W p l e rm_X11_roomful s m args below meth c H locs 0 0 (m_Qi below args s G nx κ res) (F0 m 29 ls [.int t0]) := by
  have hx := X.1.1
  have hb := X.1.2.1
  intro S t0 H locs ls hH hS hl hm
  rw [b_X11_roomful_29] at hm
  exact r_iret X hr hH hS hm dX11_roomful_29
def f_X11_roomful (a : Nat) (S : m_M) (i1 : Int32) : Option (Int32 × m_M) :=
    m_call (f_X2_hasRoom (a + 70) S i1) fun v2 S1 =>
    if v2 = 0 then (
    b_X11_roomful_29 a S1 (-1 : Int32)) else (
    m_call (f_X2_cellsIn (a + 70) S1 i1) fun v5 S4 =>
    b_X11_roomful_29 a S4 v5)
set_option maxHeartbeats 4000000 in
set_option maxRecDepth 100000 in
theorem c_X11_roomful {l : Launch} {G : m_G} {nx : Nat} {κ : Nat → Nat} {a : Nat} {S : m_M} {i1 : Int32} {res : (Int32 × m_M)} (hT : m_Str κ) (hk_a : κ a = 12) (hm : f_X11_roomful a S i1 = some res) : m_Ci l yX11_roomful cX11_roomful 2 (some .int) rm_X11_roomful G nx κ [.ref a, .int i1] S res := by
  refine m_Ci.of (by decide) (Nat.le_of_ble_eq_true rfl) ?_
  intro p e s m args below meth c ls X hr hH hl
  have hx := X.1.1
  have hb := X.1.2.1
  have hS : m_S G s s.heap [] := va_S.rf
  have hl : lv_has ls 2 [(0, .ref a), (1, .int i1)] := hl
  rw [f_X11_roomful] at hm
  refine lv_aload_n hx hb dX11_roomful_0 rfl (lv_at hl 0 rfl) ?_
  refine r_getp X hH (k := 11) (a := a) (j := 6) (b := (a + 47)) (A := 47) (B := 0) hk_a (by decide) rfl m_wi11 (by decide) in_3_79 rfl rfl rfl dX11_roomful_1 ?_
  refine r_getp X hH (k := 10) (a := (a + 47)) (j := 1) (b := (a + 70)) (A := 23) (B := 0) (m_lay_at hT hk_a (by decide) (i := 47) rfl) (by decide) rfl m_wi10 (by decide) in_3_25 rfl rfl rfl dX11_roomful_4 ?_
  refine lv_iload_n hx hb dX11_roomful_7 rfl (lv_at hl 1 rfl) ?_
  obtain ⟨v2, S1, e_S1, hm⟩ := m_call_of hm
  refine n_cVi X hH hS (k := 2) (c_X2_hasRoom (a := (a + 70)) hT (m_lay_at hT hk_a (by decide) (i := 70) rfl) e_S1) mw_X2_hasRoom in_5_155 (m_lay_at hT hk_a (by decide) (i := 70) rfl) (by decide) rfl rfl rfl ⟨rfl, rfl⟩ ⟨Nat.le_of_ble_eq_true rfl, Nat.le_of_ble_eq_true rfl⟩ ⟨Nat.zero_le _, Nat.zero_le _⟩ hl.1 (Nat.le_of_ble_eq_true rfl) dX11_roomful_8 (fun H locs hH hS => ?_)
  refine lv_if_eq (tgt := 28) hx hb dX11_roomful_11 (by decide) (fun c3 => ?_) (fun c3 => ?_)
  · have hm := m_ite_t hm c3
    refine lv_iconst (v := (-1 : Int32)) hx hb dX11_roomful_28 (by decide) ?_
    exact k_X11_roomful_29 (a := a) X hr hT hk_a   S1 (-1 : Int32) _ _ _ hH hS (lv_sub hl [] rfl) hm
  · have hm := m_ite_f hm c3
    refine lv_aload_n hx hb dX11_roomful_14 rfl (lv_at hl 0 rfl) ?_
    refine r_getp X hH (k := 11) (a := a) (j := 6) (b := (a + 47)) (A := 47) (B := 0) hk_a (by decide) rfl m_wi11 (by decide) in_3_79 rfl rfl rfl dX11_roomful_15 ?_
    refine r_getp X hH (k := 10) (a := (a + 47)) (j := 1) (b := (a + 70)) (A := 23) (B := 0) (m_lay_at hT hk_a (by decide) (i := 47) rfl) (by decide) rfl m_wi10 (by decide) in_3_25 rfl rfl rfl dX11_roomful_18 ?_
    refine lv_iload_n hx hb dX11_roomful_21 rfl (lv_at hl 1 rfl) ?_
    obtain ⟨v5, S4, e_S4, hm⟩ := m_call_of hm
    refine n_cVi X hH hS (k := 2) (c_X2_cellsIn (a := (a + 70)) hT (m_lay_at hT hk_a (by decide) (i := 70) rfl) e_S4) mw_X2_cellsIn in_5_160 (m_lay_at hT hk_a (by decide) (i := 70) rfl) (by decide) rfl rfl rfl ⟨rfl, rfl⟩ ⟨Nat.le_of_ble_eq_true rfl, Nat.le_of_ble_eq_true rfl⟩ ⟨Nat.zero_le _, Nat.zero_le _⟩ hl.1 (Nat.le_of_ble_eq_true rfl) dX11_roomful_22 (fun H locs hH hS => ?_)
    refine lv_goto (tgt := 29) hx hb dX11_roomful_25 (by decide) ?_
    exact k_X11_roomful_29 (a := a) X hr hT hk_a   S4 v5 _ _ _ hH hS (lv_sub hl [] rfl) hm
def rm_X11_reached : Room := { frames := 3, cells := 0, slots := 0, locals := 69 }
def f_X11_reached (a : Nat) (S : m_M)  : Option (Int32 × m_M) :=
    m_call (f_X1_countReached (a + 93) (a + 48) (a + 70) S) fun v2 S1 =>
    some (v2, S1)
set_option maxHeartbeats 4000000 in
set_option maxRecDepth 100000 in
theorem c_X11_reached {l : Launch} {G : m_G} {nx : Nat} {κ : Nat → Nat} {a : Nat} {S : m_M}  {res : (Int32 × m_M)} (hT : m_Str κ) (hk_a : κ a = 12) (hm : f_X11_reached a S = some res) : m_Ci l yX11_reached cX11_reached 1 (some .int) rm_X11_reached G nx κ [.ref a] S res := by
  refine m_Ci.of (by decide) (Nat.le_of_ble_eq_true rfl) ?_
  intro p e s m args below meth c ls X hr hH hl
  have hx := X.1.1
  have hb := X.1.2.1
  have hS : m_S G s s.heap [] := va_S.rf
  have hl : lv_has ls 1 [(0, .ref a)] := hl
  rw [f_X11_reached] at hm
  refine lv_aload_n hx hb dX11_reached_0 rfl (lv_at hl 0 rfl) ?_
  refine r_getp X hH (k := 11) (a := a) (j := 8) (b := (a + 93)) (A := 93) (B := 0) hk_a (by decide) rfl m_wi11 (by decide) in_3_81 rfl rfl rfl dX11_reached_1 ?_
  refine lv_aload_n hx hb dX11_reached_4 rfl (lv_at hl 0 rfl) ?_
  refine r_getp X hH (k := 11) (a := a) (j := 6) (b := (a + 47)) (A := 47) (B := 0) hk_a (by decide) rfl m_wi11 (by decide) in_3_79 rfl rfl rfl dX11_reached_5 ?_
  refine r_getp X hH (k := 10) (a := (a + 47)) (j := 0) (b := (a + 48)) (A := 1) (B := 0) (m_lay_at hT hk_a (by decide) (i := 47) rfl) (by decide) rfl m_wi10 (by decide) in_3_23 rfl rfl rfl dX11_reached_8 ?_
  refine lv_aload_n hx hb dX11_reached_11 rfl (lv_at hl 0 rfl) ?_
  refine r_getp X hH (k := 11) (a := a) (j := 6) (b := (a + 47)) (A := 47) (B := 0) hk_a (by decide) rfl m_wi11 (by decide) in_3_79 rfl rfl rfl dX11_reached_12 ?_
  refine r_getp X hH (k := 10) (a := (a + 47)) (j := 1) (b := (a + 70)) (A := 23) (B := 0) (m_lay_at hT hk_a (by decide) (i := 47) rfl) (by decide) rfl m_wi10 (by decide) in_3_25 rfl rfl rfl dX11_reached_15 ?_
  obtain ⟨v2, S1, e_S1, hm⟩ := m_call_of hm
  refine n_cVi X hH hS (k := 1) (c_X1_countReached (a := (a + 93)) (o1 := (a + 48)) (o2 := (a + 70)) hT (m_lay_at hT hk_a (by decide) (i := 93) rfl) (m_lay_at hT hk_a (by decide) (i := 48) rfl) (m_lay_at hT hk_a (by decide) (i := 70) rfl) e_S1) mw_X1_countReached in_5_168 (m_lay_at hT hk_a (by decide) (i := 93) rfl) (by decide) rfl rfl rfl ⟨rfl, rfl⟩ ⟨Nat.le_of_ble_eq_true rfl, Nat.le_of_ble_eq_true rfl⟩ ⟨Nat.zero_le _, Nat.zero_le _⟩ hl.1 (Nat.le_of_ble_eq_true rfl) dX11_reached_18 (fun H locs hH hS => ?_)
  exact r_iret X hr hH hS hm dX11_reached_21
def rm_X11_isReached : Room := { frames := 3, cells := 0, slots := 0, locals := 69 }
def b_X11_isReached_55 (a : Nat)  (S : m_M) (t0 : Int32) : Option (Int32 × m_M) :=
    some (t0, S)
set_option maxHeartbeats 4000000 in
set_option maxRecDepth 100000 in
theorem k_X11_isReached_55 {p : Program} {l : Launch} {e : Env} {s : State} {m : MethodId} {args : Array Value} {below : List Frame} {meth : Method} {c : Code} {G : m_G} {nx : Nat} {κ : Nat → Nat} {res : (Int32 × m_M)} {a : Nat} (X : m_Cx p s m args meth c cX11_isReached 2 RX11 G) (hr : meth.sig.returnType = (some .int)) (hT : m_Str κ) (hk_a : κ a = 12)  : ∀ (S : m_M) (t0 : Int32) (H : Heap) (locs : List Loc) (ls : Array Slot), m_H G nx κ S H → m_S G s H locs → lv_has ls 2 [] → b_X11_isReached_55 a S t0 = some res → W p l e rm_X11_isReached s m args below meth c H locs 0 0 (m_Qi below args s G nx κ res) (F0 m 55 ls [.int t0]) := by
  have hx := X.1.1
  have hb := X.1.2.1
  intro S t0 H locs ls hH hS hl hm
  rw [b_X11_isReached_55] at hm
  exact r_iret X hr hH hS hm dX11_isReached_55
def f_X11_isReached (a : Nat) (S : m_M) (i1 : Int32) : Option (Int32 × m_M) :=
    m_call (f_X2_hasCell (a + 70) S i1) fun v2 S1 =>
    if v2 = 0 then (
    some ((-1 : Int32), S1)) else (
    m_call (f_X1_countReached (a + 93) (a + 48) (a + 70) S1) fun v5 S4 =>
    (m_ldi S4 (a + 94) 200 i1).bind fun v6 =>
    if v6 = 0 then (
    b_X11_isReached_55 a S4 (0 : Int32)) else (
    b_X11_isReached_55 a S4 (1 : Int32)))
set_option maxHeartbeats 4000000 in
set_option maxRecDepth 100000 in
theorem c_X11_isReached {l : Launch} {G : m_G} {nx : Nat} {κ : Nat → Nat} {a : Nat} {S : m_M} {i1 : Int32} {res : (Int32 × m_M)} (hT : m_Str κ) (hk_a : κ a = 12) (hm : f_X11_isReached a S i1 = some res) : m_Ci l yX11_isReached cX11_isReached 2 (some .int) rm_X11_isReached G nx κ [.ref a, .int i1] S res := by
  refine m_Ci.of (by decide) (Nat.le_of_ble_eq_true rfl) ?_
  intro p e s m args below meth c ls X hr hH hl
  have hx := X.1.1
  have hb := X.1.2.1
  have hS : m_S G s s.heap [] := va_S.rf
  have hl : lv_has ls 2 [(0, .ref a), (1, .int i1)] := hl
  rw [f_X11_isReached] at hm
  refine lv_aload_n hx hb dX11_isReached_0 rfl (lv_at hl 0 rfl) ?_
  refine r_getp X hH (k := 11) (a := a) (j := 6) (b := (a + 47)) (A := 47) (B := 0) hk_a (by decide) rfl m_wi11 (by decide) in_3_79 rfl rfl rfl dX11_isReached_1 ?_
  refine r_getp X hH (k := 10) (a := (a + 47)) (j := 1) (b := (a + 70)) (A := 23) (B := 0) (m_lay_at hT hk_a (by decide) (i := 47) rfl) (by decide) rfl m_wi10 (by decide) in_3_25 rfl rfl rfl dX11_isReached_4 ?_
  refine lv_iload_n hx hb dX11_isReached_7 rfl (lv_at hl 1 rfl) ?_
  obtain ⟨v2, S1, e_S1, hm⟩ := m_call_of hm
  refine n_cVi X hH hS (k := 2) (c_X2_hasCell (a := (a + 70)) hT (m_lay_at hT hk_a (by decide) (i := 70) rfl) e_S1) mw_X2_hasCell in_5_141 (m_lay_at hT hk_a (by decide) (i := 70) rfl) (by decide) rfl rfl rfl ⟨rfl, rfl⟩ ⟨Nat.le_of_ble_eq_true rfl, Nat.le_of_ble_eq_true rfl⟩ ⟨Nat.zero_le _, Nat.zero_le _⟩ hl.1 (Nat.le_of_ble_eq_true rfl) dX11_isReached_8 (fun H locs hH hS => ?_)
  refine lv_if_ne (tgt := 16) hx hb dX11_isReached_11 (by decide) (fun c3 => ?_) (fun c3 => ?_)
  · have hm := m_ite_f hm c3
    refine lv_aload_n hx hb dX11_isReached_16 rfl (lv_at hl 0 rfl) ?_
    refine r_getp X hH (k := 11) (a := a) (j := 8) (b := (a + 93)) (A := 93) (B := 0) hk_a (by decide) rfl m_wi11 (by decide) in_3_81 rfl rfl rfl dX11_isReached_17 ?_
    refine lv_aload_n hx hb dX11_isReached_20 rfl (lv_at hl 0 rfl) ?_
    refine r_getp X hH (k := 11) (a := a) (j := 6) (b := (a + 47)) (A := 47) (B := 0) hk_a (by decide) rfl m_wi11 (by decide) in_3_79 rfl rfl rfl dX11_isReached_21 ?_
    refine r_getp X hH (k := 10) (a := (a + 47)) (j := 0) (b := (a + 48)) (A := 1) (B := 0) (m_lay_at hT hk_a (by decide) (i := 47) rfl) (by decide) rfl m_wi10 (by decide) in_3_23 rfl rfl rfl dX11_isReached_24 ?_
    refine lv_aload_n hx hb dX11_isReached_27 rfl (lv_at hl 0 rfl) ?_
    refine r_getp X hH (k := 11) (a := a) (j := 6) (b := (a + 47)) (A := 47) (B := 0) hk_a (by decide) rfl m_wi11 (by decide) in_3_79 rfl rfl rfl dX11_isReached_28 ?_
    refine r_getp X hH (k := 10) (a := (a + 47)) (j := 1) (b := (a + 70)) (A := 23) (B := 0) (m_lay_at hT hk_a (by decide) (i := 47) rfl) (by decide) rfl m_wi10 (by decide) in_3_25 rfl rfl rfl dX11_isReached_31 ?_
    obtain ⟨v5, S4, e_S4, hm⟩ := m_call_of hm
    refine n_cVi X hH hS (k := 1) (c_X1_countReached (a := (a + 93)) (o1 := (a + 48)) (o2 := (a + 70)) hT (m_lay_at hT hk_a (by decide) (i := 93) rfl) (m_lay_at hT hk_a (by decide) (i := 48) rfl) (m_lay_at hT hk_a (by decide) (i := 70) rfl) e_S4) mw_X1_countReached in_5_168 (m_lay_at hT hk_a (by decide) (i := 93) rfl) (by decide) rfl rfl rfl ⟨rfl, rfl⟩ ⟨Nat.le_of_ble_eq_true rfl, Nat.le_of_ble_eq_true rfl⟩ ⟨Nat.zero_le _, Nat.zero_le _⟩ hl.1 (Nat.le_of_ble_eq_true rfl) dX11_isReached_34 (fun H locs hH hS => ?_)
    refine lv_pop hx hb dX11_isReached_37 rfl ?_
    refine lv_aload_n hx hb dX11_isReached_38 rfl (lv_at hl 0 rfl) ?_
    refine r_getp X hH (k := 11) (a := a) (j := 8) (b := (a + 93)) (A := 93) (B := 0) hk_a (by decide) rfl m_wi11 (by decide) in_3_81 rfl rfl rfl dX11_isReached_39 ?_
    refine r_getp X hH (k := 1) (a := (a + 93)) (j := 0) (b := (a + 94)) (A := 1) (B := 0) (m_lay_at hT hk_a (by decide) (i := 93) rfl) (by decide) rfl m_wi1 (by decide) in_3_44 rfl rfl rfl dX11_isReached_42 ?_
    refine lv_iload_n hx hb dX11_isReached_45 rfl (lv_at hl 1 rfl) ?_
    obtain ⟨v6, h_v6, e_v6, hm⟩ := n_ldi hm
    refine n_zald X hH (n := 200) (m_lay_at hT hk_a (by decide) (i := 94) rfl) h_v6 e_v6 dX11_isReached_46 ?_
    refine lv_if_eq (tgt := 54) hx hb dX11_isReached_47 (by decide) (fun c7 => ?_) (fun c7 => ?_)
    · have hm := m_ite_t hm c7
      refine lv_iconst (v := (0 : Int32)) hx hb dX11_isReached_54 (by decide) ?_
      exact k_X11_isReached_55 (a := a) X hr hT hk_a   S4 (0 : Int32) _ _ _ hH hS (lv_sub hl [] rfl) hm
    · have hm := m_ite_f hm c7
      refine lv_iconst (v := (1 : Int32)) hx hb dX11_isReached_50 (by decide) ?_
      refine lv_goto (tgt := 55) hx hb dX11_isReached_51 (by decide) ?_
      exact k_X11_isReached_55 (a := a) X hr hT hk_a   S4 (1 : Int32) _ _ _ hH hS (lv_sub hl [] rfl) hm
  · have hm := m_ite_t hm c3
    refine lv_iconst (v := (-1 : Int32)) hx hb dX11_isReached_14 (by decide) ?_
    exact r_iret X hr hH hS hm dX11_isReached_15
def rm_X11_drag : Room := { frames := 3, cells := 0, slots := 0, locals := 69 }
def f_X11_drag (a : Nat) (S : m_M)  : Option (Int32 × m_M) :=
    m_call (f_X1_countReached (a + 93) (a + 48) (a + 70) S) fun v2 S1 =>
    some (((m_ri S (a + 70) 4) - v2), S1)
set_option maxHeartbeats 4000000 in
set_option maxRecDepth 100000 in
theorem c_X11_drag {l : Launch} {G : m_G} {nx : Nat} {κ : Nat → Nat} {a : Nat} {S : m_M}  {res : (Int32 × m_M)} (hT : m_Str κ) (hk_a : κ a = 12) (hm : f_X11_drag a S = some res) : m_Ci l yX11_drag cX11_drag 1 (some .int) rm_X11_drag G nx κ [.ref a] S res := by
  refine m_Ci.of (by decide) (Nat.le_of_ble_eq_true rfl) ?_
  intro p e s m args below meth c ls X hr hH hl
  have hx := X.1.1
  have hb := X.1.2.1
  have hS : m_S G s s.heap [] := va_S.rf
  have hl : lv_has ls 1 [(0, .ref a)] := hl
  rw [f_X11_drag] at hm
  refine lv_aload_n hx hb dX11_drag_0 rfl (lv_at hl 0 rfl) ?_
  refine r_getp X hH (k := 11) (a := a) (j := 6) (b := (a + 47)) (A := 47) (B := 0) hk_a (by decide) rfl m_wi11 (by decide) in_3_79 rfl rfl rfl dX11_drag_1 ?_
  refine r_getp X hH (k := 10) (a := (a + 47)) (j := 1) (b := (a + 70)) (A := 23) (B := 0) (m_lay_at hT hk_a (by decide) (i := 47) rfl) (by decide) rfl m_wi10 (by decide) in_3_25 rfl rfl rfl dX11_drag_4 ?_
  refine r_geti X hH (k := 2) (a := (a + 70)) (j := 4) (m_lay_at hT hk_a (by decide) (i := 70) rfl) (by decide) rfl m_wi2 (by decide) in_2_186 rfl rfl dX11_drag_7 ?_
  refine lv_aload_n hx hb dX11_drag_10 rfl (lv_at hl 0 rfl) ?_
  refine r_getp X hH (k := 11) (a := a) (j := 8) (b := (a + 93)) (A := 93) (B := 0) hk_a (by decide) rfl m_wi11 (by decide) in_3_81 rfl rfl rfl dX11_drag_11 ?_
  refine lv_aload_n hx hb dX11_drag_14 rfl (lv_at hl 0 rfl) ?_
  refine r_getp X hH (k := 11) (a := a) (j := 6) (b := (a + 47)) (A := 47) (B := 0) hk_a (by decide) rfl m_wi11 (by decide) in_3_79 rfl rfl rfl dX11_drag_15 ?_
  refine r_getp X hH (k := 10) (a := (a + 47)) (j := 0) (b := (a + 48)) (A := 1) (B := 0) (m_lay_at hT hk_a (by decide) (i := 47) rfl) (by decide) rfl m_wi10 (by decide) in_3_23 rfl rfl rfl dX11_drag_18 ?_
  refine lv_aload_n hx hb dX11_drag_21 rfl (lv_at hl 0 rfl) ?_
  refine r_getp X hH (k := 11) (a := a) (j := 6) (b := (a + 47)) (A := 47) (B := 0) hk_a (by decide) rfl m_wi11 (by decide) in_3_79 rfl rfl rfl dX11_drag_22 ?_
  refine r_getp X hH (k := 10) (a := (a + 47)) (j := 1) (b := (a + 70)) (A := 23) (B := 0) (m_lay_at hT hk_a (by decide) (i := 47) rfl) (by decide) rfl m_wi10 (by decide) in_3_25 rfl rfl rfl dX11_drag_25 ?_
  obtain ⟨v2, S1, e_S1, hm⟩ := m_call_of hm
  refine n_cVi X hH hS (k := 1) (c_X1_countReached (a := (a + 93)) (o1 := (a + 48)) (o2 := (a + 70)) hT (m_lay_at hT hk_a (by decide) (i := 93) rfl) (m_lay_at hT hk_a (by decide) (i := 48) rfl) (m_lay_at hT hk_a (by decide) (i := 70) rfl) e_S1) mw_X1_countReached in_5_168 (m_lay_at hT hk_a (by decide) (i := 93) rfl) (by decide) rfl rfl rfl ⟨rfl, rfl⟩ ⟨Nat.le_of_ble_eq_true rfl, Nat.le_of_ble_eq_true rfl⟩ ⟨Nat.zero_le _, Nat.zero_le _⟩ hl.1 (Nat.le_of_ble_eq_true rfl) dX11_drag_28 (fun H locs hH hS => ?_)
  refine lv_isub hx hb dX11_drag_31 ?_
  exact r_iret X hr hH hS hm dX11_drag_32
def rm_X11_beginWithTape : Room := { frames := 3, cells := 0, slots := 0, locals := 68 }
def b_X11_beginWithTape_24 (a o1 : Nat)  : Nat → m_M → Int32 → Int32 → Option m_M
  | 0, _, _, _ => none
  | n + 1, S, l2, l3 =>
    if l2 ≤ l3 then (
    some S) else (
    (m_ldi S (a + 1) 940 l3).bind fun v2 =>
    m_cal0 (f_X2_setVar o1 S (0 : Int32) l3 (1 : Int32) (v2 &&& (255 : Int32))) fun S3 =>
    m_let (l3 + (1 : Int32)) fun v4 =>
    b_X11_beginWithTape_24 a o1 n S3 l2 v4)
set_option maxHeartbeats 4000000 in
set_option maxRecDepth 100000 in
theorem k_X11_beginWithTape_24 {p : Program} {l : Launch} {e : Env} {s : State} {m : MethodId} {args : Array Value} {below : List Frame} {meth : Method} {c : Code} {G : m_G} {nx : Nat} {κ : Nat → Nat} {res : m_M} {a o1 : Nat} (X : m_Cx p s m args meth c cX11_beginWithTape 4 RX11 G) (hr : meth.sig.returnType = none) (hT : m_Str κ) (hk_a : κ a = 12) (hk_o1 : κ o1 = 3)  (n : Nat) : ∀ (S : m_M) (l2 : Int32) (l3 : Int32) (H : Heap) (locs : List Loc) (ls : Array Slot), m_H G nx κ S H → m_S G s H locs → lv_has ls 4 [(0, .ref a), (1, .ref o1), (2, .int l2), (3, .int l3)] → b_X11_beginWithTape_24 a o1 n S l2 l3 = some res → W p l e rm_X11_beginWithTape s m args below meth c H locs 0 0 (m_Qv below args s G nx κ res) (F0 m 24 ls []) := by
  have hx := X.1.1
  have hb := X.1.2.1
  induction n with
  | zero => intro S l2 l3 H locs ls hH hS hl hm; have hm : (none : Option m_M) = some res := hm; cases hm
  | succ n ih =>
    intro S l2 l3 H locs ls hH hS hl hm
    rw [b_X11_beginWithTape_24] at hm
    refine lv_iload_n hx hb dX11_beginWithTape_24 rfl (lv_at hl 3 rfl) ?_
    refine lv_iload_n hx hb dX11_beginWithTape_25 rfl (lv_at hl 2 rfl) ?_
    refine lv_icmp_ge (tgt := 52) hx hb dX11_beginWithTape_26 (by decide) (fun c1 => ?_) (fun c1 => ?_)
    · have hm := m_ite_t hm c1
      exact r_vret X hr hH hS hm dX11_beginWithTape_52
    · have hm := m_ite_f hm c1
      refine lv_aload_n hx hb dX11_beginWithTape_29 rfl (lv_at hl 1 rfl) ?_
      refine lv_iconst (v := (0 : Int32)) hx hb dX11_beginWithTape_30 (by decide) ?_
      refine lv_iload_n hx hb dX11_beginWithTape_31 rfl (lv_at hl 3 rfl) ?_
      refine lv_iconst (v := (1 : Int32)) hx hb dX11_beginWithTape_32 (by decide) ?_
      refine lv_aload_n hx hb dX11_beginWithTape_33 rfl (lv_at hl 0 rfl) ?_
      refine r_getp X hH (k := 11) (a := a) (j := 0) (b := (a + 1)) (A := 1) (B := 0) hk_a (by decide) rfl m_wi11 (by decide) in_3_73 rfl rfl rfl dX11_beginWithTape_34 ?_
      refine lv_iload_n hx hb dX11_beginWithTape_37 rfl (lv_at hl 3 rfl) ?_
      obtain ⟨v2, h_v2, e_v2, hm⟩ := n_ldi hm
      refine n_bald X hH (n := 940) (m_lay_at hT hk_a (by decide) (i := 1) rfl) h_v2 e_v2 dX11_beginWithTape_38 ?_
      refine lv_sipush (v := (255 : Int32)) hx hb dX11_beginWithTape_39 (by decide) ?_
      refine lv_iand hx hb dX11_beginWithTape_42 ?_
      obtain ⟨S3, e_S3, hm⟩ := m_cal0_of hm
      refine r_cVv X hH hS (k := 2) (c_X2_setVar (a := o1) hT hk_o1 e_S3) mw_X2_setVar in_5_23 hk_o1 (by decide) rfl rfl rfl ⟨rfl, rfl⟩ ⟨Nat.le_of_ble_eq_true rfl, Nat.le_of_ble_eq_true rfl⟩ ⟨Nat.zero_le _, Nat.zero_le _⟩ hl.1 (Nat.le_of_ble_eq_true rfl) dX11_beginWithTape_43 (fun H locs hH hS => ?_)
      obtain ⟨v4, e_v4, hm⟩ := m_let_of hm
      refine lv_iinc (v := v4) (lv' := [(3, .int v4), (0, .ref a), (1, .ref o1), (2, .int l2)]) hx hb dX11_beginWithTape_46 hl (k := 3) rfl (by rw [← e_v4]; rfl) (by decide) rfl (fun ls hl => ?_)
      refine lv_goto (tgt := 24) hx hb dX11_beginWithTape_49 (by decide) ?_
      exact ih S3 l2 v4 _ _ _ hH hS (lv_sub hl [1, 2, 3, 0] rfl) hm
def f_X11_beginWithTape (a o1 : Nat) (S : m_M)  : Option m_M :=
    m_cal0 (f_X2_begin o1 (a + 48) S) fun S1 =>
    m_call (f_X3_parametersOfMain (a + 48) S1) fun v3 S2 =>
    b_X11_beginWithTape_24 a o1 m_fu S2 v3 (0 : Int32)
set_option maxHeartbeats 4000000 in
set_option maxRecDepth 100000 in
theorem c_X11_beginWithTape {l : Launch} {G : m_G} {nx : Nat} {κ : Nat → Nat} {a o1 : Nat} {S : m_M}  {res : m_M} (hT : m_Str κ) (hk_a : κ a = 12) (hk_o1 : κ o1 = 3) (hm : f_X11_beginWithTape a o1 S = some res) : m_Cv l yX11_beginWithTape cX11_beginWithTape 4 rm_X11_beginWithTape G nx κ [.ref a, .ref o1] S res := by
  refine m_Cv.of (by decide) (Nat.le_of_ble_eq_true rfl) ?_
  intro p e s m args below meth c ls X hr hH hl
  have hx := X.1.1
  have hb := X.1.2.1
  have hS : m_S G s s.heap [] := va_S.rf
  have hl : lv_has ls 4 [(0, .ref a), (1, .ref o1)] := hl
  rw [f_X11_beginWithTape] at hm
  refine lv_aload_n hx hb dX11_beginWithTape_0 rfl (lv_at hl 1 rfl) ?_
  refine lv_aload_n hx hb dX11_beginWithTape_1 rfl (lv_at hl 0 rfl) ?_
  refine r_getp X hH (k := 11) (a := a) (j := 6) (b := (a + 47)) (A := 47) (B := 0) hk_a (by decide) rfl m_wi11 (by decide) in_3_79 rfl rfl rfl dX11_beginWithTape_2 ?_
  refine r_getp X hH (k := 10) (a := (a + 47)) (j := 0) (b := (a + 48)) (A := 1) (B := 0) (m_lay_at hT hk_a (by decide) (i := 47) rfl) (by decide) rfl m_wi10 (by decide) in_3_23 rfl rfl rfl dX11_beginWithTape_5 ?_
  obtain ⟨S1, e_S1, hm⟩ := m_cal0_of hm
  refine r_cVv X hH hS (k := 2) (c_X2_begin (a := o1) (o1 := (a + 48)) hT hk_o1 (m_lay_at hT hk_a (by decide) (i := 48) rfl) e_S1) mw_X2_begin in_5_2 hk_o1 (by decide) rfl rfl rfl ⟨rfl, rfl⟩ ⟨Nat.le_of_ble_eq_true rfl, Nat.le_of_ble_eq_true rfl⟩ ⟨Nat.zero_le _, Nat.zero_le _⟩ hl.1 (Nat.le_of_ble_eq_true rfl) dX11_beginWithTape_8 (fun H locs hH hS => ?_)
  refine lv_aload_n hx hb dX11_beginWithTape_11 rfl (lv_at hl 0 rfl) ?_
  refine r_getp X hH (k := 11) (a := a) (j := 6) (b := (a + 47)) (A := 47) (B := 0) hk_a (by decide) rfl m_wi11 (by decide) in_3_79 rfl rfl rfl dX11_beginWithTape_12 ?_
  refine r_getp X hH (k := 10) (a := (a + 47)) (j := 0) (b := (a + 48)) (A := 1) (B := 0) (m_lay_at hT hk_a (by decide) (i := 47) rfl) (by decide) rfl m_wi10 (by decide) in_3_23 rfl rfl rfl dX11_beginWithTape_15 ?_
  obtain ⟨v3, S2, e_S2, hm⟩ := m_call_of hm
  refine n_cVi X hH hS (k := 3) (c_X3_parametersOfMain (a := (a + 48)) hT (m_lay_at hT hk_a (by decide) (i := 48) rfl) e_S2) mw_X3_parametersOfMain in_5_19 (m_lay_at hT hk_a (by decide) (i := 48) rfl) (by decide) rfl rfl rfl ⟨rfl, rfl⟩ ⟨Nat.le_of_ble_eq_true rfl, Nat.le_of_ble_eq_true rfl⟩ ⟨Nat.zero_le _, Nat.zero_le _⟩ hl.1 (Nat.le_of_ble_eq_true rfl) dX11_beginWithTape_18 (fun H locs hH hS => ?_)
  refine lv_istore_n (lv' := [(2, .int v3), (0, .ref a), (1, .ref o1)]) hx hb dX11_beginWithTape_21 rfl hl (by decide) rfl (fun ls hl => ?_)
  refine lv_iconst (v := (0 : Int32)) hx hb dX11_beginWithTape_22 (by decide) ?_
  refine lv_istore_n (lv' := [(3, .int (0 : Int32)), (2, .int v3), (0, .ref a), (1, .ref o1)]) hx hb dX11_beginWithTape_23 rfl hl (by decide) rfl (fun ls hl => ?_)
  exact k_X11_beginWithTape_24 (a := a) (o1 := o1) X hr hT hk_a hk_o1  m_fu S2 v3 (0 : Int32) _ _ _ hH hS (lv_sub hl [2, 3, 1, 0] rfl) hm
def rm_X11_tellRan : Room := { frames := 1, cells := 0, slots := 0, locals := 20 }
def b_X11_tellRan_111 (a : Nat)  (S : m_M) (l1 : Int32) (t1 : Int32) (t2 : Int32) : Option m_M :=
    (m_sti S (a + 99) 8 t1 t2).bind fun S1 =>
    (m_sti S1 (a + 99) 8 (7 : Int32) l1).bind fun S2 =>
    some S2
set_option maxHeartbeats 4000000 in
set_option maxRecDepth 100000 in
theorem k_X11_tellRan_111 {p : Program} {l : Launch} {e : Env} {s : State} {m : MethodId} {args : Array Value} {below : List Frame} {meth : Method} {c : Code} {G : m_G} {nx : Nat} {κ : Nat → Nat} {res : m_M} {a : Nat} (X : m_Cx p s m args meth c cX11_tellRan 2 RX11 G) (hr : meth.sig.returnType = none) (hT : m_Str κ) (hk_a : κ a = 12)  : ∀ (S : m_M) (l1 : Int32) (t1 : Int32) (t2 : Int32) (H : Heap) (locs : List Loc) (ls : Array Slot), m_H G nx κ S H → m_S G s H locs → lv_has ls 2 [(0, .ref a), (1, .int l1)] → b_X11_tellRan_111 a S l1 t1 t2 = some res → W p l e rm_X11_tellRan s m args below meth c H locs 0 0 (m_Qv below args s G nx κ res) (F0 m 111 ls [.int t2, .int t1, .ref (a + 99)]) := by
  have hx := X.1.1
  have hb := X.1.2.1
  intro S l1 t1 t2 H locs ls hH hS hl hm
  rw [b_X11_tellRan_111] at hm
  obtain ⟨S1, h_S1, e_S1, hm⟩ := n_sti hm
  refine n_iast X hH hS (n := 8) (m_lay_at hT hk_a (by decide) (i := 99) rfl) h_S1 e_S1 dX11_tellRan_111 (fun H locs hH hS => ?_)
  refine lv_aload_n hx hb dX11_tellRan_112 rfl (lv_at hl 0 rfl) ?_
  refine r_getp X hH (k := 11) (a := a) (j := 11) (b := (a + 99)) (A := 99) (B := 0) hk_a (by decide) rfl m_wi11 (by decide) in_3_84 rfl rfl rfl dX11_tellRan_113 ?_
  refine lv_bipush (v := (7 : Int32)) hx hb dX11_tellRan_116 (by decide) ?_
  refine lv_iload_n hx hb dX11_tellRan_118 rfl (lv_at hl 1 rfl) ?_
  obtain ⟨S2, h_S2, e_S2, hm⟩ := n_sti hm
  refine n_iast X hH hS (n := 8) (m_lay_at hT hk_a (by decide) (i := 99) rfl) h_S2 e_S2 dX11_tellRan_119 (fun H locs hH hS => ?_)
  exact r_vret X hr hH hS hm dX11_tellRan_120
def f_X11_tellRan (a : Nat) (S : m_M) (i1 : Int32) : Option m_M :=
    m_let (m_si S a 12 (1 : Int32)) fun S1 =>
    (m_sti S1 (a + 99) 8 (0 : Int32) (m_ri S1 (a + 84) 6)).bind fun S2 =>
    (m_sti S2 (a + 99) 8 (1 : Int32) (m_ri S2 (a + 84) 5)).bind fun S3 =>
    (m_sti S3 (a + 99) 8 (2 : Int32) (m_ri S3 (a + 84) 4)).bind fun S4 =>
    (m_sti S4 (a + 99) 8 (3 : Int32) (m_ri S4 (a + 84) 7)).bind fun S5 =>
    (m_sti S5 (a + 99) 8 (4 : Int32) (m_ri S5 (a + 84) 1)).bind fun S6 =>
    m_call (f_X2_resultKind (a + 84) S6) fun v8 S7 =>
    (m_sti S7 (a + 99) 8 (5 : Int32) v8).bind fun S9 =>
    m_call (f_X2_resultKind (a + 84) S9) fun v11 S10 =>
    if v11 = (1 : Int32) then (
    b_X11_tellRan_111 a S10 i1 (6 : Int32) (m_ri S10 (a + 84) 10)) else (
    b_X11_tellRan_111 a S10 i1 (6 : Int32) (0 : Int32))
set_option maxHeartbeats 4000000 in
set_option maxRecDepth 100000 in
theorem c_X11_tellRan {l : Launch} {G : m_G} {nx : Nat} {κ : Nat → Nat} {a : Nat} {S : m_M} {i1 : Int32} {res : m_M} (hT : m_Str κ) (hk_a : κ a = 12) (hm : f_X11_tellRan a S i1 = some res) : m_Cv l yX11_tellRan cX11_tellRan 2 rm_X11_tellRan G nx κ [.ref a, .int i1] S res := by
  refine m_Cv.of (by decide) (Nat.le_of_ble_eq_true rfl) ?_
  intro p e s m args below meth c ls X hr hH hl
  have hx := X.1.1
  have hb := X.1.2.1
  have hS : m_S G s s.heap [] := va_S.rf
  have hl : lv_has ls 2 [(0, .ref a), (1, .int i1)] := hl
  rw [f_X11_tellRan] at hm
  refine lv_aload_n hx hb dX11_tellRan_0 rfl (lv_at hl 0 rfl) ?_
  refine lv_iconst (v := (1 : Int32)) hx hb dX11_tellRan_1 (by decide) ?_
  obtain ⟨S1, e_S1, hm⟩ := m_let_of hm
  refine n_puti X hH hS tyX11 (k := 11) (a := a) (j := 12) hk_a (by decide) rfl m_wi11 tyX11_ok nmX11 (by decide) in_3_85 rfl rfl rfl (m_nz (by decide)) e_S1 dX11_tellRan_2 (fun H locs hH hS => ?_)
  refine lv_aload_n hx hb dX11_tellRan_5 rfl (lv_at hl 0 rfl) ?_
  refine r_getp X hH (k := 11) (a := a) (j := 11) (b := (a + 99)) (A := 99) (B := 0) hk_a (by decide) rfl m_wi11 (by decide) in_3_84 rfl rfl rfl dX11_tellRan_6 ?_
  refine lv_iconst (v := (0 : Int32)) hx hb dX11_tellRan_9 (by decide) ?_
  refine lv_aload_n hx hb dX11_tellRan_10 rfl (lv_at hl 0 rfl) ?_
  refine r_getp X hH (k := 11) (a := a) (j := 7) (b := (a + 84)) (A := 84) (B := 0) hk_a (by decide) rfl m_wi11 (by decide) in_3_80 rfl rfl rfl dX11_tellRan_11 ?_
  refine r_geti X hH (k := 2) (a := (a + 84)) (j := 6) (m_lay_at hT hk_a (by decide) (i := 84) rfl) (by decide) rfl m_wi2 (by decide) in_2_190 rfl rfl dX11_tellRan_14 ?_
  obtain ⟨S2, h_S2, e_S2, hm⟩ := n_sti hm
  refine n_iast X hH hS (n := 8) (m_lay_at hT hk_a (by decide) (i := 99) rfl) h_S2 e_S2 dX11_tellRan_17 (fun H locs hH hS => ?_)
  refine lv_aload_n hx hb dX11_tellRan_18 rfl (lv_at hl 0 rfl) ?_
  refine r_getp X hH (k := 11) (a := a) (j := 11) (b := (a + 99)) (A := 99) (B := 0) hk_a (by decide) rfl m_wi11 (by decide) in_3_84 rfl rfl rfl dX11_tellRan_19 ?_
  refine lv_iconst (v := (1 : Int32)) hx hb dX11_tellRan_22 (by decide) ?_
  refine lv_aload_n hx hb dX11_tellRan_23 rfl (lv_at hl 0 rfl) ?_
  refine r_getp X hH (k := 11) (a := a) (j := 7) (b := (a + 84)) (A := 84) (B := 0) hk_a (by decide) rfl m_wi11 (by decide) in_3_80 rfl rfl rfl dX11_tellRan_24 ?_
  refine r_geti X hH (k := 2) (a := (a + 84)) (j := 5) (m_lay_at hT hk_a (by decide) (i := 84) rfl) (by decide) rfl m_wi2 (by decide) in_2_188 rfl rfl dX11_tellRan_27 ?_
  obtain ⟨S3, h_S3, e_S3, hm⟩ := n_sti hm
  refine n_iast X hH hS (n := 8) (m_lay_at hT hk_a (by decide) (i := 99) rfl) h_S3 e_S3 dX11_tellRan_30 (fun H locs hH hS => ?_)
  refine lv_aload_n hx hb dX11_tellRan_31 rfl (lv_at hl 0 rfl) ?_
  refine r_getp X hH (k := 11) (a := a) (j := 11) (b := (a + 99)) (A := 99) (B := 0) hk_a (by decide) rfl m_wi11 (by decide) in_3_84 rfl rfl rfl dX11_tellRan_32 ?_
  refine lv_iconst (v := (2 : Int32)) hx hb dX11_tellRan_35 (by decide) ?_
  refine lv_aload_n hx hb dX11_tellRan_36 rfl (lv_at hl 0 rfl) ?_
  refine r_getp X hH (k := 11) (a := a) (j := 7) (b := (a + 84)) (A := 84) (B := 0) hk_a (by decide) rfl m_wi11 (by decide) in_3_80 rfl rfl rfl dX11_tellRan_37 ?_
  refine r_geti X hH (k := 2) (a := (a + 84)) (j := 4) (m_lay_at hT hk_a (by decide) (i := 84) rfl) (by decide) rfl m_wi2 (by decide) in_2_186 rfl rfl dX11_tellRan_40 ?_
  obtain ⟨S4, h_S4, e_S4, hm⟩ := n_sti hm
  refine n_iast X hH hS (n := 8) (m_lay_at hT hk_a (by decide) (i := 99) rfl) h_S4 e_S4 dX11_tellRan_43 (fun H locs hH hS => ?_)
  refine lv_aload_n hx hb dX11_tellRan_44 rfl (lv_at hl 0 rfl) ?_
  refine r_getp X hH (k := 11) (a := a) (j := 11) (b := (a + 99)) (A := 99) (B := 0) hk_a (by decide) rfl m_wi11 (by decide) in_3_84 rfl rfl rfl dX11_tellRan_45 ?_
  refine lv_iconst (v := (3 : Int32)) hx hb dX11_tellRan_48 (by decide) ?_
  refine lv_aload_n hx hb dX11_tellRan_49 rfl (lv_at hl 0 rfl) ?_
  refine r_getp X hH (k := 11) (a := a) (j := 7) (b := (a + 84)) (A := 84) (B := 0) hk_a (by decide) rfl m_wi11 (by decide) in_3_80 rfl rfl rfl dX11_tellRan_50 ?_
  refine r_geti X hH (k := 2) (a := (a + 84)) (j := 7) (m_lay_at hT hk_a (by decide) (i := 84) rfl) (by decide) rfl m_wi2 (by decide) in_2_192 rfl rfl dX11_tellRan_53 ?_
  obtain ⟨S5, h_S5, e_S5, hm⟩ := n_sti hm
  refine n_iast X hH hS (n := 8) (m_lay_at hT hk_a (by decide) (i := 99) rfl) h_S5 e_S5 dX11_tellRan_56 (fun H locs hH hS => ?_)
  refine lv_aload_n hx hb dX11_tellRan_57 rfl (lv_at hl 0 rfl) ?_
  refine r_getp X hH (k := 11) (a := a) (j := 11) (b := (a + 99)) (A := 99) (B := 0) hk_a (by decide) rfl m_wi11 (by decide) in_3_84 rfl rfl rfl dX11_tellRan_58 ?_
  refine lv_iconst (v := (4 : Int32)) hx hb dX11_tellRan_61 (by decide) ?_
  refine lv_aload_n hx hb dX11_tellRan_62 rfl (lv_at hl 0 rfl) ?_
  refine r_getp X hH (k := 11) (a := a) (j := 7) (b := (a + 84)) (A := 84) (B := 0) hk_a (by decide) rfl m_wi11 (by decide) in_3_80 rfl rfl rfl dX11_tellRan_63 ?_
  refine r_geti X hH (k := 2) (a := (a + 84)) (j := 1) (m_lay_at hT hk_a (by decide) (i := 84) rfl) (by decide) rfl m_wi2 (by decide) in_2_179 rfl rfl dX11_tellRan_66 ?_
  obtain ⟨S6, h_S6, e_S6, hm⟩ := n_sti hm
  refine n_iast X hH hS (n := 8) (m_lay_at hT hk_a (by decide) (i := 99) rfl) h_S6 e_S6 dX11_tellRan_69 (fun H locs hH hS => ?_)
  refine lv_aload_n hx hb dX11_tellRan_70 rfl (lv_at hl 0 rfl) ?_
  refine r_getp X hH (k := 11) (a := a) (j := 11) (b := (a + 99)) (A := 99) (B := 0) hk_a (by decide) rfl m_wi11 (by decide) in_3_84 rfl rfl rfl dX11_tellRan_71 ?_
  refine lv_iconst (v := (5 : Int32)) hx hb dX11_tellRan_74 (by decide) ?_
  refine lv_aload_n hx hb dX11_tellRan_75 rfl (lv_at hl 0 rfl) ?_
  refine r_getp X hH (k := 11) (a := a) (j := 7) (b := (a + 84)) (A := 84) (B := 0) hk_a (by decide) rfl m_wi11 (by decide) in_3_80 rfl rfl rfl dX11_tellRan_76 ?_
  obtain ⟨v8, S7, e_S7, hm⟩ := m_call_of hm
  refine n_cVi X hH hS (k := 2) (c_X2_resultKind (a := (a + 84)) hT (m_lay_at hT hk_a (by decide) (i := 84) rfl) e_S7) mw_X2_resultKind in_5_147 (m_lay_at hT hk_a (by decide) (i := 84) rfl) (by decide) rfl rfl rfl ⟨rfl, rfl⟩ ⟨Nat.le_of_ble_eq_true rfl, Nat.le_of_ble_eq_true rfl⟩ ⟨Nat.zero_le _, Nat.zero_le _⟩ hl.1 (Nat.le_of_ble_eq_true rfl) dX11_tellRan_79 (fun H locs hH hS => ?_)
  obtain ⟨S9, h_S9, e_S9, hm⟩ := n_sti hm
  refine n_iast X hH hS (n := 8) (m_lay_at hT hk_a (by decide) (i := 99) rfl) h_S9 e_S9 dX11_tellRan_82 (fun H locs hH hS => ?_)
  refine lv_aload_n hx hb dX11_tellRan_83 rfl (lv_at hl 0 rfl) ?_
  refine r_getp X hH (k := 11) (a := a) (j := 11) (b := (a + 99)) (A := 99) (B := 0) hk_a (by decide) rfl m_wi11 (by decide) in_3_84 rfl rfl rfl dX11_tellRan_84 ?_
  refine lv_bipush (v := (6 : Int32)) hx hb dX11_tellRan_87 (by decide) ?_
  refine lv_aload_n hx hb dX11_tellRan_89 rfl (lv_at hl 0 rfl) ?_
  refine r_getp X hH (k := 11) (a := a) (j := 7) (b := (a + 84)) (A := 84) (B := 0) hk_a (by decide) rfl m_wi11 (by decide) in_3_80 rfl rfl rfl dX11_tellRan_90 ?_
  obtain ⟨v11, S10, e_S10, hm⟩ := m_call_of hm
  refine n_cVi X hH hS (k := 2) (c_X2_resultKind (a := (a + 84)) hT (m_lay_at hT hk_a (by decide) (i := 84) rfl) e_S10) mw_X2_resultKind in_5_147 (m_lay_at hT hk_a (by decide) (i := 84) rfl) (by decide) rfl rfl rfl ⟨rfl, rfl⟩ ⟨Nat.le_of_ble_eq_true rfl, Nat.le_of_ble_eq_true rfl⟩ ⟨Nat.zero_le _, Nat.zero_le _⟩ hl.1 (Nat.le_of_ble_eq_true rfl) dX11_tellRan_93 (fun H locs hH hS => ?_)
  refine lv_iconst (v := (1 : Int32)) hx hb dX11_tellRan_96 (by decide) ?_
  refine lv_icmp_ne (tgt := 110) hx hb dX11_tellRan_97 (by decide) (fun c12 => ?_) (fun c12 => ?_)
  · have hm := m_ite_f hm c12
    refine lv_iconst (v := (0 : Int32)) hx hb dX11_tellRan_110 (by decide) ?_
    exact k_X11_tellRan_111 (a := a) X hr hT hk_a   S10 i1 (6 : Int32) (0 : Int32) _ _ _ hH hS hl hm
  · have hm := m_ite_t hm c12
    refine lv_aload_n hx hb dX11_tellRan_100 rfl (lv_at hl 0 rfl) ?_
    refine r_getp X hH (k := 11) (a := a) (j := 7) (b := (a + 84)) (A := 84) (B := 0) hk_a (by decide) rfl m_wi11 (by decide) in_3_80 rfl rfl rfl dX11_tellRan_101 ?_
    refine r_geti X hH (k := 2) (a := (a + 84)) (j := 10) (m_lay_at hT hk_a (by decide) (i := 84) rfl) (by decide) rfl m_wi2 (by decide) in_2_198 rfl rfl dX11_tellRan_104 ?_
    refine lv_goto (tgt := 111) hx hb dX11_tellRan_107 (by decide) ?_
    exact k_X11_tellRan_111 (a := a) X hr hT hk_a   S10 i1 (6 : Int32) (m_ri S10 (a + 84) 10) _ _ _ hH hS hl hm
def rm_X11_run : Room := { frames := 5, cells := 0, slots := 0, locals := 155 }
def b_X11_run_109 (a : Nat) (K_25 : m_M → Int32 → Int32 → Option (Int32 × m_M)) (S : m_M) (l1 : Int32) (l2 : Int32) : Option (Int32 × m_M) :=
    m_let (l2 + (1 : Int32)) fun v1 =>
    K_25 S l1 v1
set_option maxHeartbeats 4000000 in
set_option maxRecDepth 100000 in
theorem k_X11_run_109 {p : Program} {l : Launch} {e : Env} {s : State} {m : MethodId} {args : Array Value} {below : List Frame} {meth : Method} {c : Code} {G : m_G} {nx : Nat} {κ : Nat → Nat} {res : (Int32 × m_M)} {a : Nat} (X : m_Cx p s m args meth c cX11_run 3 RX11 G) (hr : meth.sig.returnType = (some .int)) (hT : m_Str κ) (hk_a : κ a = 12) (K_25 : m_M → Int32 → Int32 → Option (Int32 × m_M)) (hK_25 : ∀ (S : m_M) (l1 : Int32) (l2 : Int32) (H : Heap) (locs : List Loc) (ls : Array Slot), m_H G nx κ S H → m_S G s H locs → lv_has ls 3 [(0, .ref a), (1, .int l1), (2, .int l2)] → K_25 S l1 l2 = some res → W p l e rm_X11_run s m args below meth c H locs 0 0 (m_Qi below args s G nx κ res) (F0 m 25 ls [])) : ∀ (S : m_M) (l1 : Int32) (l2 : Int32) (H : Heap) (locs : List Loc) (ls : Array Slot), m_H G nx κ S H → m_S G s H locs → lv_has ls 3 [(0, .ref a), (1, .int l1), (2, .int l2)] → b_X11_run_109 a K_25 S l1 l2 = some res → W p l e rm_X11_run s m args below meth c H locs 0 0 (m_Qi below args s G nx κ res) (F0 m 109 ls []) := by
  have hx := X.1.1
  have hb := X.1.2.1
  intro S l1 l2 H locs ls hH hS hl hm
  rw [b_X11_run_109] at hm
  obtain ⟨v1, e_v1, hm⟩ := m_let_of hm
  refine lv_iinc (v := v1) (lv' := [(2, .int v1), (0, .ref a), (1, .int l1)]) hx hb dX11_run_109 hl (k := 2) rfl (by rw [← e_v1]; rfl) (by decide) rfl (fun ls hl => ?_)
  refine lv_goto (tgt := 25) hx hb dX11_run_112 (by decide) ?_
  exact hK_25 S l1 v1 _ _ _ hH hS (lv_sub hl [1, 2, 0] rfl) hm
def b_X11_run_115 (a : Nat)  (S : m_M) (l1 : Int32) : Option (Int32 × m_M) :=
    m_cal0 (f_X11_tellRan a S l1) fun S1 =>
    some ((m_ri S1 (a + 84) 0), S1)
set_option maxHeartbeats 4000000 in
set_option maxRecDepth 100000 in
theorem k_X11_run_115 {p : Program} {l : Launch} {e : Env} {s : State} {m : MethodId} {args : Array Value} {below : List Frame} {meth : Method} {c : Code} {G : m_G} {nx : Nat} {κ : Nat → Nat} {res : (Int32 × m_M)} {a : Nat} (X : m_Cx p s m args meth c cX11_run 3 RX11 G) (hr : meth.sig.returnType = (some .int)) (hT : m_Str κ) (hk_a : κ a = 12)  : ∀ (S : m_M) (l1 : Int32) (H : Heap) (locs : List Loc) (ls : Array Slot), m_H G nx κ S H → m_S G s H locs → lv_has ls 3 [(0, .ref a), (1, .int l1)] → b_X11_run_115 a S l1 = some res → W p l e rm_X11_run s m args below meth c H locs 0 0 (m_Qi below args s G nx κ res) (F0 m 115 ls []) := by
  have hx := X.1.1
  have hb := X.1.2.1
  intro S l1 H locs ls hH hS hl hm
  rw [b_X11_run_115] at hm
  refine lv_aload_n hx hb dX11_run_115 rfl (lv_at hl 0 rfl) ?_
  refine lv_iload_n hx hb dX11_run_116 rfl (lv_at hl 1 rfl) ?_
  obtain ⟨S1, e_S1, hm⟩ := m_cal0_of hm
  refine r_cVv X hH hS (k := 11) (c_X11_tellRan (a := a) hT hk_a e_S1) mw_X11_tellRan in_5_192 hk_a (by decide) rfl rfl rfl ⟨rfl, rfl⟩ ⟨Nat.le_of_ble_eq_true rfl, Nat.le_of_ble_eq_true rfl⟩ ⟨Nat.zero_le _, Nat.zero_le _⟩ hl.1 (Nat.le_of_ble_eq_true rfl) dX11_run_117 (fun H locs hH hS => ?_)
  refine lv_aload_n hx hb dX11_run_120 rfl (lv_at hl 0 rfl) ?_
  refine r_getp X hH (k := 11) (a := a) (j := 7) (b := (a + 84)) (A := 84) (B := 0) hk_a (by decide) rfl m_wi11 (by decide) in_3_80 rfl rfl rfl dX11_run_121 ?_
  refine r_geti X hH (k := 2) (a := (a + 84)) (j := 0) (m_lay_at hT hk_a (by decide) (i := 84) rfl) (by decide) rfl m_wi2 (by decide) in_2_177 rfl rfl dX11_run_124 ?_
  exact r_iret X hr hH hS hm dX11_run_127
def b_X11_run_25 (a : Nat)  : Nat → m_M → Int32 → Int32 → Option (Int32 × m_M)
  | 0, _, _, _ => none
  | n + 1, S, l1, l2 =>
    if (5000 : Int32) < l2 then (
    b_X11_run_115 a S l1) else (
    if (m_ri S (a + 84) 0) = (1 : Int32) then (
    m_cal0 (f_X2_makeStep (a + 84) (a + 48) S) fun S3 =>
    if (m_ri S3 (a + 84) 11) = 0 then (
    b_X11_run_109 a (b_X11_run_25 a n) S3 l1 l2) else (
    if (m_ri S3 (a + 84) 4) ≤ l1 then (
    b_X11_run_109 a (b_X11_run_25 a n) S3 l1 l2) else (
    m_call (f_X1_countReached (a + 93) (a + 48) (a + 84) S3) fun v7 S6 =>
    m_let (if l1 < ((m_ri S3 (a + 84) 4) - v7) then ((m_ri S3 (a + 84) 4) - v7) else l1) fun v8 =>
    b_X11_run_109 a (b_X11_run_25 a n) S6 v8 l2))) else (
    b_X11_run_115 a S l1))
set_option maxHeartbeats 4000000 in
set_option maxRecDepth 100000 in
theorem k_X11_run_25 {p : Program} {l : Launch} {e : Env} {s : State} {m : MethodId} {args : Array Value} {below : List Frame} {meth : Method} {c : Code} {G : m_G} {nx : Nat} {κ : Nat → Nat} {res : (Int32 × m_M)} {a : Nat} (X : m_Cx p s m args meth c cX11_run 3 RX11 G) (hr : meth.sig.returnType = (some .int)) (hT : m_Str κ) (hk_a : κ a = 12)  (n : Nat) : ∀ (S : m_M) (l1 : Int32) (l2 : Int32) (H : Heap) (locs : List Loc) (ls : Array Slot), m_H G nx κ S H → m_S G s H locs → lv_has ls 3 [(0, .ref a), (1, .int l1), (2, .int l2)] → b_X11_run_25 a n S l1 l2 = some res → W p l e rm_X11_run s m args below meth c H locs 0 0 (m_Qi below args s G nx κ res) (F0 m 25 ls []) := by
  have hx := X.1.1
  have hb := X.1.2.1
  induction n with
  | zero => intro S l1 l2 H locs ls hH hS hl hm; have hm : (none : Option (Int32 × m_M)) = some res := hm; cases hm
  | succ n ih =>
    intro S l1 l2 H locs ls hH hS hl hm
    rw [b_X11_run_25] at hm
    refine lv_iload_n hx hb dX11_run_25 rfl (lv_at hl 2 rfl) ?_
    refine lv_sipush (v := (5000 : Int32)) hx hb dX11_run_26 (by decide) ?_
    refine lv_icmp_gt (tgt := 115) hx hb dX11_run_29 (by decide) (fun c1 => ?_) (fun c1 => ?_)
    · have hm := m_ite_t hm c1
      exact k_X11_run_115 (a := a) X hr hT hk_a   S l1 _ _ _ hH hS (lv_sub hl [0, 1] rfl) hm
    · have hm := m_ite_f hm c1
      refine lv_aload_n hx hb dX11_run_32 rfl (lv_at hl 0 rfl) ?_
      refine r_getp X hH (k := 11) (a := a) (j := 7) (b := (a + 84)) (A := 84) (B := 0) hk_a (by decide) rfl m_wi11 (by decide) in_3_80 rfl rfl rfl dX11_run_33 ?_
      refine r_geti X hH (k := 2) (a := (a + 84)) (j := 0) (m_lay_at hT hk_a (by decide) (i := 84) rfl) (by decide) rfl m_wi2 (by decide) in_2_177 rfl rfl dX11_run_36 ?_
      refine lv_iconst (v := (1 : Int32)) hx hb dX11_run_39 (by decide) ?_
      refine lv_icmp_ne (tgt := 115) hx hb dX11_run_40 (by decide) (fun c2 => ?_) (fun c2 => ?_)
      · have hm := m_ite_f hm c2
        exact k_X11_run_115 (a := a) X hr hT hk_a   S l1 _ _ _ hH hS (lv_sub hl [0, 1] rfl) hm
      · have hm := m_ite_t hm c2
        refine lv_aload_n hx hb dX11_run_43 rfl (lv_at hl 0 rfl) ?_
        refine r_getp X hH (k := 11) (a := a) (j := 7) (b := (a + 84)) (A := 84) (B := 0) hk_a (by decide) rfl m_wi11 (by decide) in_3_80 rfl rfl rfl dX11_run_44 ?_
        refine lv_aload_n hx hb dX11_run_47 rfl (lv_at hl 0 rfl) ?_
        refine r_getp X hH (k := 11) (a := a) (j := 6) (b := (a + 47)) (A := 47) (B := 0) hk_a (by decide) rfl m_wi11 (by decide) in_3_79 rfl rfl rfl dX11_run_48 ?_
        refine r_getp X hH (k := 10) (a := (a + 47)) (j := 0) (b := (a + 48)) (A := 1) (B := 0) (m_lay_at hT hk_a (by decide) (i := 47) rfl) (by decide) rfl m_wi10 (by decide) in_3_23 rfl rfl rfl dX11_run_51 ?_
        obtain ⟨S3, e_S3, hm⟩ := m_cal0_of hm
        refine r_cVv X hH hS (k := 2) (c_X2_makeStep (a := (a + 84)) (o1 := (a + 48)) hT (m_lay_at hT hk_a (by decide) (i := 84) rfl) (m_lay_at hT hk_a (by decide) (i := 48) rfl) e_S3) mw_X2_makeStep in_5_28 (m_lay_at hT hk_a (by decide) (i := 84) rfl) (by decide) rfl rfl rfl ⟨rfl, rfl⟩ ⟨Nat.le_of_ble_eq_true rfl, Nat.le_of_ble_eq_true rfl⟩ ⟨Nat.zero_le _, Nat.zero_le _⟩ hl.1 (Nat.le_of_ble_eq_true rfl) dX11_run_54 (fun H locs hH hS => ?_)
        refine lv_aload_n hx hb dX11_run_57 rfl (lv_at hl 0 rfl) ?_
        refine r_getp X hH (k := 11) (a := a) (j := 7) (b := (a + 84)) (A := 84) (B := 0) hk_a (by decide) rfl m_wi11 (by decide) in_3_80 rfl rfl rfl dX11_run_58 ?_
        refine r_geti X hH (k := 2) (a := (a + 84)) (j := 11) (m_lay_at hT hk_a (by decide) (i := 84) rfl) (by decide) rfl m_wi2 (by decide) in_2_200 rfl rfl dX11_run_61 ?_
        refine lv_if_eq (tgt := 109) hx hb dX11_run_64 (by decide) (fun c4 => ?_) (fun c4 => ?_)
        · have hm := m_ite_t hm c4
          exact k_X11_run_109 (a := a) X hr hT hk_a (b_X11_run_25 a n) ih  S3 l1 l2 _ _ _ hH hS hl hm
        · have hm := m_ite_f hm c4
          refine lv_aload_n hx hb dX11_run_67 rfl (lv_at hl 0 rfl) ?_
          refine r_getp X hH (k := 11) (a := a) (j := 7) (b := (a + 84)) (A := 84) (B := 0) hk_a (by decide) rfl m_wi11 (by decide) in_3_80 rfl rfl rfl dX11_run_68 ?_
          refine r_geti X hH (k := 2) (a := (a + 84)) (j := 4) (m_lay_at hT hk_a (by decide) (i := 84) rfl) (by decide) rfl m_wi2 (by decide) in_2_186 rfl rfl dX11_run_71 ?_
          refine lv_iload_n hx hb dX11_run_74 rfl (lv_at hl 1 rfl) ?_
          refine lv_icmp_le (tgt := 109) hx hb dX11_run_75 (by decide) (fun c5 => ?_) (fun c5 => ?_)
          · have hm := m_ite_t hm c5
            exact k_X11_run_109 (a := a) X hr hT hk_a (b_X11_run_25 a n) ih  S3 l1 l2 _ _ _ hH hS hl hm
          · have hm := m_ite_f hm c5
            refine lv_iload_n hx hb dX11_run_78 rfl (lv_at hl 1 rfl) ?_
            refine lv_aload_n hx hb dX11_run_79 rfl (lv_at hl 0 rfl) ?_
            refine r_getp X hH (k := 11) (a := a) (j := 7) (b := (a + 84)) (A := 84) (B := 0) hk_a (by decide) rfl m_wi11 (by decide) in_3_80 rfl rfl rfl dX11_run_80 ?_
            refine r_geti X hH (k := 2) (a := (a + 84)) (j := 4) (m_lay_at hT hk_a (by decide) (i := 84) rfl) (by decide) rfl m_wi2 (by decide) in_2_186 rfl rfl dX11_run_83 ?_
            refine lv_aload_n hx hb dX11_run_86 rfl (lv_at hl 0 rfl) ?_
            refine r_getp X hH (k := 11) (a := a) (j := 8) (b := (a + 93)) (A := 93) (B := 0) hk_a (by decide) rfl m_wi11 (by decide) in_3_81 rfl rfl rfl dX11_run_87 ?_
            refine lv_aload_n hx hb dX11_run_90 rfl (lv_at hl 0 rfl) ?_
            refine r_getp X hH (k := 11) (a := a) (j := 6) (b := (a + 47)) (A := 47) (B := 0) hk_a (by decide) rfl m_wi11 (by decide) in_3_79 rfl rfl rfl dX11_run_91 ?_
            refine r_getp X hH (k := 10) (a := (a + 47)) (j := 0) (b := (a + 48)) (A := 1) (B := 0) (m_lay_at hT hk_a (by decide) (i := 47) rfl) (by decide) rfl m_wi10 (by decide) in_3_23 rfl rfl rfl dX11_run_94 ?_
            refine lv_aload_n hx hb dX11_run_97 rfl (lv_at hl 0 rfl) ?_
            refine r_getp X hH (k := 11) (a := a) (j := 7) (b := (a + 84)) (A := 84) (B := 0) hk_a (by decide) rfl m_wi11 (by decide) in_3_80 rfl rfl rfl dX11_run_98 ?_
            obtain ⟨v7, S6, e_S6, hm⟩ := m_call_of hm
            refine n_cVi X hH hS (k := 1) (c_X1_countReached (a := (a + 93)) (o1 := (a + 48)) (o2 := (a + 84)) hT (m_lay_at hT hk_a (by decide) (i := 93) rfl) (m_lay_at hT hk_a (by decide) (i := 48) rfl) (m_lay_at hT hk_a (by decide) (i := 84) rfl) e_S6) mw_X1_countReached in_5_168 (m_lay_at hT hk_a (by decide) (i := 93) rfl) (by decide) rfl rfl rfl ⟨rfl, rfl⟩ ⟨Nat.le_of_ble_eq_true rfl, Nat.le_of_ble_eq_true rfl⟩ ⟨Nat.zero_le _, Nat.zero_le _⟩ hl.1 (Nat.le_of_ble_eq_true rfl) dX11_run_101 (fun H locs hH hS => ?_)
            refine lv_isub hx hb dX11_run_104 ?_
            refine va_mmax hx hb (X.1.2.2.1.trans hl.1.symm) X.1.2.2.2.1 (m_w X in_5_191) (m_w X in_1_194) (m_w X in_1_6) (m_w X in_1_195) (Nat.le_of_ble_eq_true rfl) (Nat.le_of_ble_eq_true rfl) (Nat.zero_le _) (Nat.zero_le _) dX11_run_105 ?_
            obtain ⟨v8, e_v8, hm⟩ := m_let_of hm
            refine n_topi e_v8 ?_
            refine lv_istore_n (lv' := [(1, .int v8), (0, .ref a), (2, .int l2)]) hx hb dX11_run_108 rfl hl (by decide) rfl (fun ls hl => ?_)
            exact k_X11_run_109 (a := a) X hr hT hk_a (b_X11_run_25 a n) ih  S6 v8 l2 _ _ _ hH hS (lv_sub hl [1, 0, 2] rfl) hm
def f_X11_run (a : Nat) (S : m_M)  : Option (Int32 × m_M) :=
    m_call (f_X11_takeTape a S) fun v2 S1 =>
    m_call (f_X11_fitsMain a S1 v2) fun v4 S3 =>
    if v4 = 0 then (
    some ((-1 : Int32), S3)) else (
    m_cal0 (f_X11_beginWithTape a (a + 84) S3) fun S6 =>
    b_X11_run_25 a m_fu S6 (0 : Int32) (0 : Int32))
set_option maxHeartbeats 4000000 in
set_option maxRecDepth 100000 in
theorem c_X11_run {l : Launch} {G : m_G} {nx : Nat} {κ : Nat → Nat} {a : Nat} {S : m_M}  {res : (Int32 × m_M)} (hT : m_Str κ) (hk_a : κ a = 12) (hm : f_X11_run a S = some res) : m_Ci l yX11_run cX11_run 3 (some .int) rm_X11_run G nx κ [.ref a] S res := by
  refine m_Ci.of (by decide) (Nat.le_of_ble_eq_true rfl) ?_
  intro p e s m args below meth c ls X hr hH hl
  have hx := X.1.1
  have hb := X.1.2.1
  have hS : m_S G s s.heap [] := va_S.rf
  have hl : lv_has ls 3 [(0, .ref a)] := hl
  rw [f_X11_run] at hm
  refine lv_aload_n hx hb dX11_run_0 rfl (lv_at hl 0 rfl) ?_
  refine lv_aload_n hx hb dX11_run_1 rfl (lv_at hl 0 rfl) ?_
  obtain ⟨v2, S1, e_S1, hm⟩ := m_call_of hm
  refine n_cVi X hH hS (k := 11) (c_X11_takeTape (a := a) hT hk_a e_S1) mw_X11_takeTape in_3_129 hk_a (by decide) rfl rfl rfl ⟨rfl, rfl⟩ ⟨Nat.le_of_ble_eq_true rfl, Nat.le_of_ble_eq_true rfl⟩ ⟨Nat.zero_le _, Nat.zero_le _⟩ hl.1 (Nat.le_of_ble_eq_true rfl) dX11_run_2 (fun H locs hH hS => ?_)
  obtain ⟨v4, S3, e_S3, hm⟩ := m_call_of hm
  refine n_cVi X hH hS (k := 11) (c_X11_fitsMain (a := a) hT hk_a e_S3) mw_X11_fitsMain in_4_224 hk_a (by decide) rfl rfl rfl ⟨rfl, rfl⟩ ⟨Nat.le_of_ble_eq_true rfl, Nat.le_of_ble_eq_true rfl⟩ ⟨Nat.zero_le _, Nat.zero_le _⟩ hl.1 (Nat.le_of_ble_eq_true rfl) dX11_run_5 (fun H locs hH hS => ?_)
  refine lv_if_ne (tgt := 13) hx hb dX11_run_8 (by decide) (fun c5 => ?_) (fun c5 => ?_)
  · have hm := m_ite_f hm c5
    refine lv_aload_n hx hb dX11_run_13 rfl (lv_at hl 0 rfl) ?_
    refine lv_aload_n hx hb dX11_run_14 rfl (lv_at hl 0 rfl) ?_
    refine r_getp X hH (k := 11) (a := a) (j := 7) (b := (a + 84)) (A := 84) (B := 0) hk_a (by decide) rfl m_wi11 (by decide) in_3_80 rfl rfl rfl dX11_run_15 ?_
    obtain ⟨S6, e_S6, hm⟩ := m_cal0_of hm
    refine r_cVv X hH hS (k := 11) (c_X11_beginWithTape (a := a) (o1 := (a + 84)) hT hk_a (m_lay_at hT hk_a (by decide) (i := 84) rfl) e_S6) mw_X11_beginWithTape in_4_238 hk_a (by decide) rfl rfl rfl ⟨rfl, rfl⟩ ⟨Nat.le_of_ble_eq_true rfl, Nat.le_of_ble_eq_true rfl⟩ ⟨Nat.zero_le _, Nat.zero_le _⟩ hl.1 (Nat.le_of_ble_eq_true rfl) dX11_run_18 (fun H locs hH hS => ?_)
    refine lv_iconst (v := (0 : Int32)) hx hb dX11_run_21 (by decide) ?_
    refine lv_istore_n (lv' := [(1, .int (0 : Int32)), (0, .ref a)]) hx hb dX11_run_22 rfl hl (by decide) rfl (fun ls hl => ?_)
    refine lv_iconst (v := (0 : Int32)) hx hb dX11_run_23 (by decide) ?_
    refine lv_istore_n (lv' := [(2, .int (0 : Int32)), (1, .int (0 : Int32)), (0, .ref a)]) hx hb dX11_run_24 rfl hl (by decide) rfl (fun ls hl => ?_)
    exact k_X11_run_25 (a := a) X hr hT hk_a  m_fu S6 (0 : Int32) (0 : Int32) _ _ _ hH hS (lv_sub hl [2, 1, 0] rfl) hm
  · have hm := m_ite_t hm c5
    refine lv_iconst (v := (-1 : Int32)) hx hb dX11_run_11 (by decide) ?_
    exact r_iret X hr hH hS hm dX11_run_12
def rm_X11_ran : Room := { frames := 0, cells := 0, slots := 0, locals := 0 }
def b_X11_ran_27 (a : Nat)  (S : m_M) (t0 : Int32) : Option (Int32 × m_M) :=
    some (t0, S)
set_option maxHeartbeats 4000000 in
set_option maxRecDepth 100000 in
theorem k_X11_ran_27 {p : Program} {l : Launch} {e : Env} {s : State} {m : MethodId} {args : Array Value} {below : List Frame} {meth : Method} {c : Code} {G : m_G} {nx : Nat} {κ : Nat → Nat} {res : (Int32 × m_M)} {a : Nat} (X : m_Cx p s m args meth c cX11_ran 2 RX11 G) (hr : meth.sig.returnType = (some .int)) (hT : m_Str κ) (hk_a : κ a = 12)  : ∀ (S : m_M) (t0 : Int32) (H : Heap) (locs : List Loc) (ls : Array Slot), m_H G nx κ S H → m_S G s H locs → lv_has ls 2 [] → b_X11_ran_27 a S t0 = some res → W p l e rm_X11_ran s m args below meth c H locs 0 0 (m_Qi below args s G nx κ res) (F0 m 27 ls [.int t0]) := by
  have hx := X.1.1
  have hb := X.1.2.1
  intro S t0 H locs ls hH hS hl hm
  rw [b_X11_ran_27] at hm
  exact r_iret X hr hH hS hm dX11_ran_27
def b_X11_ran_26 (a : Nat)  (S : m_M)  : Option (Int32 × m_M) :=
    b_X11_ran_27 a S (-1 : Int32)
set_option maxHeartbeats 4000000 in
set_option maxRecDepth 100000 in
theorem k_X11_ran_26 {p : Program} {l : Launch} {e : Env} {s : State} {m : MethodId} {args : Array Value} {below : List Frame} {meth : Method} {c : Code} {G : m_G} {nx : Nat} {κ : Nat → Nat} {res : (Int32 × m_M)} {a : Nat} (X : m_Cx p s m args meth c cX11_ran 2 RX11 G) (hr : meth.sig.returnType = (some .int)) (hT : m_Str κ) (hk_a : κ a = 12)  : ∀ (S : m_M)  (H : Heap) (locs : List Loc) (ls : Array Slot), m_H G nx κ S H → m_S G s H locs → lv_has ls 2 [] → b_X11_ran_26 a S  = some res → W p l e rm_X11_ran s m args below meth c H locs 0 0 (m_Qi below args s G nx κ res) (F0 m 26 ls []) := by
  have hx := X.1.1
  have hb := X.1.2.1
  intro S H locs ls hH hS hl hm
  rw [b_X11_ran_26] at hm
  refine lv_iconst (v := (-1 : Int32)) hx hb dX11_ran_26 (by decide) ?_
  exact k_X11_ran_27 (a := a) X hr hT hk_a   S (-1 : Int32) _ _ _ hH hS hl hm
def f_X11_ran (a : Nat) (S : m_M) (i1 : Int32) : Option (Int32 × m_M) :=
    if (m_ri S a 12) = 0 then (
    b_X11_ran_26 a S) else (
    if i1 < 0 then (
    b_X11_ran_26 a S) else (
    if (8 : Int32) ≤ i1 then (
    b_X11_ran_26 a S) else (
    (m_ldi S (a + 99) 8 i1).bind fun v4 =>
    b_X11_ran_27 a S v4)))
set_option maxHeartbeats 4000000 in
set_option maxRecDepth 100000 in
theorem c_X11_ran {l : Launch} {G : m_G} {nx : Nat} {κ : Nat → Nat} {a : Nat} {S : m_M} {i1 : Int32} {res : (Int32 × m_M)} (hT : m_Str κ) (hk_a : κ a = 12) (hm : f_X11_ran a S i1 = some res) : m_Ci l yX11_ran cX11_ran 2 (some .int) rm_X11_ran G nx κ [.ref a, .int i1] S res := by
  refine m_Ci.of (by decide) (Nat.le_of_ble_eq_true rfl) ?_
  intro p e s m args below meth c ls X hr hH hl
  have hx := X.1.1
  have hb := X.1.2.1
  have hS : m_S G s s.heap [] := va_S.rf
  have hl : lv_has ls 2 [(0, .ref a), (1, .int i1)] := hl
  rw [f_X11_ran] at hm
  refine lv_aload_n hx hb dX11_ran_0 rfl (lv_at hl 0 rfl) ?_
  refine r_geti X hH (k := 11) (a := a) (j := 12) hk_a (by decide) rfl m_wi11 (by decide) in_3_85 rfl rfl dX11_ran_1 ?_
  refine lv_if_eq (tgt := 26) hx hb dX11_ran_4 (by decide) (fun c1 => ?_) (fun c1 => ?_)
  · have hm := m_ite_t hm c1
    exact k_X11_ran_26 (a := a) X hr hT hk_a   S _ _ _ hH hS (lv_sub hl [] rfl) hm
  · have hm := m_ite_f hm c1
    refine lv_iload_n hx hb dX11_ran_7 rfl (lv_at hl 1 rfl) ?_
    refine lv_if_lt (tgt := 26) hx hb dX11_ran_8 (by decide) (fun c2 => ?_) (fun c2 => ?_)
    · have hm := m_ite_t hm c2
      exact k_X11_ran_26 (a := a) X hr hT hk_a   S _ _ _ hH hS (lv_sub hl [] rfl) hm
    · have hm := m_ite_f hm c2
      refine lv_iload_n hx hb dX11_ran_11 rfl (lv_at hl 1 rfl) ?_
      refine lv_bipush (v := (8 : Int32)) hx hb dX11_ran_12 (by decide) ?_
      refine lv_icmp_ge (tgt := 26) hx hb dX11_ran_14 (by decide) (fun c3 => ?_) (fun c3 => ?_)
      · have hm := m_ite_t hm c3
        exact k_X11_ran_26 (a := a) X hr hT hk_a   S _ _ _ hH hS (lv_sub hl [] rfl) hm
      · have hm := m_ite_f hm c3
        refine lv_aload_n hx hb dX11_ran_17 rfl (lv_at hl 0 rfl) ?_
        refine r_getp X hH (k := 11) (a := a) (j := 11) (b := (a + 99)) (A := 99) (B := 0) hk_a (by decide) rfl m_wi11 (by decide) in_3_84 rfl rfl rfl dX11_ran_18 ?_
        refine lv_iload_n hx hb dX11_ran_21 rfl (lv_at hl 1 rfl) ?_
        obtain ⟨v4, h_v4, e_v4, hm⟩ := n_ldi hm
        refine n_iald X hH (n := 8) (m_lay_at hT hk_a (by decide) (i := 99) rfl) h_v4 e_v4 dX11_ran_22 ?_
        refine lv_goto (tgt := 27) hx hb dX11_ran_23 (by decide) ?_
        exact k_X11_ran_27 (a := a) X hr hT hk_a   S v4 _ _ _ hH hS (lv_sub hl [] rfl) hm
def rm_X11_endsByDraws : Room := { frames := 5, cells := 0, slots := 0, locals := 155 }
def b_X11_endsByDraws_128 (a : Nat)  (S : m_M) (t0 : Int32) : Option (Int32 × m_M) :=
    if t0 = 0 ∨ t0 = 1 then some (t0, S) else none
set_option maxHeartbeats 4000000 in
set_option maxRecDepth 100000 in
theorem k_X11_endsByDraws_128 {p : Program} {l : Launch} {e : Env} {s : State} {m : MethodId} {args : Array Value} {below : List Frame} {meth : Method} {c : Code} {G : m_G} {nx : Nat} {κ : Nat → Nat} {res : (Int32 × m_M)} {a : Nat} (X : m_Cx p s m args meth c cX11_endsByDraws 5 RX11 G) (hr : meth.sig.returnType = (some .boolean)) (hT : m_Str κ) (hk_a : κ a = 12)  : ∀ (S : m_M) (t0 : Int32) (H : Heap) (locs : List Loc) (ls : Array Slot), m_H G nx κ S H → m_S G s H locs → lv_has ls 5 [] → b_X11_endsByDraws_128 a S t0 = some res → W p l e rm_X11_endsByDraws s m args below meth c H locs 0 0 (m_Qi below args s G nx κ res) (F0 m 128 ls [.int t0]) := by
  have hx := X.1.1
  have hb := X.1.2.1
  intro S t0 H locs ls hH hS hl hm
  rw [b_X11_endsByDraws_128] at hm
  exact r_zret X hr hH hS hm dX11_endsByDraws_128
def b_X11_endsByDraws_112 (a : Nat)  (S : m_M)  : Option (Int32 × m_M) :=
    if (m_ri S (a + 84) 0) = (2 : Int32) then (
    b_X11_endsByDraws_128 a S (1 : Int32)) else (
    b_X11_endsByDraws_128 a S (0 : Int32))
set_option maxHeartbeats 4000000 in
set_option maxRecDepth 100000 in
theorem k_X11_endsByDraws_112 {p : Program} {l : Launch} {e : Env} {s : State} {m : MethodId} {args : Array Value} {below : List Frame} {meth : Method} {c : Code} {G : m_G} {nx : Nat} {κ : Nat → Nat} {res : (Int32 × m_M)} {a : Nat} (X : m_Cx p s m args meth c cX11_endsByDraws 5 RX11 G) (hr : meth.sig.returnType = (some .boolean)) (hT : m_Str κ) (hk_a : κ a = 12)  : ∀ (S : m_M)  (H : Heap) (locs : List Loc) (ls : Array Slot), m_H G nx κ S H → m_S G s H locs → lv_has ls 5 [(0, .ref a)] → b_X11_endsByDraws_112 a S  = some res → W p l e rm_X11_endsByDraws s m args below meth c H locs 0 0 (m_Qi below args s G nx κ res) (F0 m 112 ls []) := by
  have hx := X.1.1
  have hb := X.1.2.1
  intro S H locs ls hH hS hl hm
  rw [b_X11_endsByDraws_112] at hm
  refine lv_aload_n hx hb dX11_endsByDraws_112 rfl (lv_at hl 0 rfl) ?_
  refine r_getp X hH (k := 11) (a := a) (j := 7) (b := (a + 84)) (A := 84) (B := 0) hk_a (by decide) rfl m_wi11 (by decide) in_3_80 rfl rfl rfl dX11_endsByDraws_113 ?_
  refine r_geti X hH (k := 2) (a := (a + 84)) (j := 0) (m_lay_at hT hk_a (by decide) (i := 84) rfl) (by decide) rfl m_wi2 (by decide) in_2_177 rfl rfl dX11_endsByDraws_116 ?_
  refine lv_iconst (v := (2 : Int32)) hx hb dX11_endsByDraws_119 (by decide) ?_
  refine lv_icmp_ne (tgt := 127) hx hb dX11_endsByDraws_120 (by decide) (fun c1 => ?_) (fun c1 => ?_)
  · have hm := m_ite_f hm c1
    refine lv_iconst (v := (0 : Int32)) hx hb dX11_endsByDraws_127 (by decide) ?_
    exact k_X11_endsByDraws_128 (a := a) X hr hT hk_a   S (0 : Int32) _ _ _ hH hS (lv_sub hl [] rfl) hm
  · have hm := m_ite_t hm c1
    refine lv_iconst (v := (1 : Int32)) hx hb dX11_endsByDraws_123 (by decide) ?_
    refine lv_goto (tgt := 128) hx hb dX11_endsByDraws_124 (by decide) ?_
    exact k_X11_endsByDraws_128 (a := a) X hr hT hk_a   S (1 : Int32) _ _ _ hH hS (lv_sub hl [] rfl) hm
def b_X11_endsByDraws_73 (a : Nat)  : Nat → m_M → Int32 → Option (Int32 × m_M)
  | 0, _, _ => none
  | n + 1, S, l4 =>
    if (5000 : Int32) < l4 then (
    b_X11_endsByDraws_112 a S) else (
    if (m_ri S (a + 84) 0) = (1 : Int32) then (
    m_cal0 (f_X2_makeStep (a + 84) (a + 48) S) fun S3 =>
    m_let (l4 + (1 : Int32)) fun v4 =>
    b_X11_endsByDraws_73 a n S3 v4) else (
    b_X11_endsByDraws_112 a S))
set_option maxHeartbeats 4000000 in
set_option maxRecDepth 100000 in
theorem k_X11_endsByDraws_73 {p : Program} {l : Launch} {e : Env} {s : State} {m : MethodId} {args : Array Value} {below : List Frame} {meth : Method} {c : Code} {G : m_G} {nx : Nat} {κ : Nat → Nat} {res : (Int32 × m_M)} {a : Nat} (X : m_Cx p s m args meth c cX11_endsByDraws 5 RX11 G) (hr : meth.sig.returnType = (some .boolean)) (hT : m_Str κ) (hk_a : κ a = 12)  (n : Nat) : ∀ (S : m_M) (l4 : Int32) (H : Heap) (locs : List Loc) (ls : Array Slot), m_H G nx κ S H → m_S G s H locs → lv_has ls 5 [(0, .ref a), (4, .int l4)] → b_X11_endsByDraws_73 a n S l4 = some res → W p l e rm_X11_endsByDraws s m args below meth c H locs 0 0 (m_Qi below args s G nx κ res) (F0 m 73 ls []) := by
  have hx := X.1.1
  have hb := X.1.2.1
  induction n with
  | zero => intro S l4 H locs ls hH hS hl hm; have hm : (none : Option (Int32 × m_M)) = some res := hm; cases hm
  | succ n ih =>
    intro S l4 H locs ls hH hS hl hm
    rw [b_X11_endsByDraws_73] at hm
    refine lv_iload hx hb dX11_endsByDraws_73 (lv_at hl 1 rfl) ?_
    refine lv_sipush (v := (5000 : Int32)) hx hb dX11_endsByDraws_75 (by decide) ?_
    refine lv_icmp_gt (tgt := 112) hx hb dX11_endsByDraws_78 (by decide) (fun c1 => ?_) (fun c1 => ?_)
    · have hm := m_ite_t hm c1
      exact k_X11_endsByDraws_112 (a := a) X hr hT hk_a   S _ _ _ hH hS (lv_sub hl [0] rfl) hm
    · have hm := m_ite_f hm c1
      refine lv_aload_n hx hb dX11_endsByDraws_81 rfl (lv_at hl 0 rfl) ?_
      refine r_getp X hH (k := 11) (a := a) (j := 7) (b := (a + 84)) (A := 84) (B := 0) hk_a (by decide) rfl m_wi11 (by decide) in_3_80 rfl rfl rfl dX11_endsByDraws_82 ?_
      refine r_geti X hH (k := 2) (a := (a + 84)) (j := 0) (m_lay_at hT hk_a (by decide) (i := 84) rfl) (by decide) rfl m_wi2 (by decide) in_2_177 rfl rfl dX11_endsByDraws_85 ?_
      refine lv_iconst (v := (1 : Int32)) hx hb dX11_endsByDraws_88 (by decide) ?_
      refine lv_icmp_ne (tgt := 112) hx hb dX11_endsByDraws_89 (by decide) (fun c2 => ?_) (fun c2 => ?_)
      · have hm := m_ite_f hm c2
        exact k_X11_endsByDraws_112 (a := a) X hr hT hk_a   S _ _ _ hH hS (lv_sub hl [0] rfl) hm
      · have hm := m_ite_t hm c2
        refine lv_aload_n hx hb dX11_endsByDraws_92 rfl (lv_at hl 0 rfl) ?_
        refine r_getp X hH (k := 11) (a := a) (j := 7) (b := (a + 84)) (A := 84) (B := 0) hk_a (by decide) rfl m_wi11 (by decide) in_3_80 rfl rfl rfl dX11_endsByDraws_93 ?_
        refine lv_aload_n hx hb dX11_endsByDraws_96 rfl (lv_at hl 0 rfl) ?_
        refine r_getp X hH (k := 11) (a := a) (j := 6) (b := (a + 47)) (A := 47) (B := 0) hk_a (by decide) rfl m_wi11 (by decide) in_3_79 rfl rfl rfl dX11_endsByDraws_97 ?_
        refine r_getp X hH (k := 10) (a := (a + 47)) (j := 0) (b := (a + 48)) (A := 1) (B := 0) (m_lay_at hT hk_a (by decide) (i := 47) rfl) (by decide) rfl m_wi10 (by decide) in_3_23 rfl rfl rfl dX11_endsByDraws_100 ?_
        obtain ⟨S3, e_S3, hm⟩ := m_cal0_of hm
        refine r_cVv X hH hS (k := 2) (c_X2_makeStep (a := (a + 84)) (o1 := (a + 48)) hT (m_lay_at hT hk_a (by decide) (i := 84) rfl) (m_lay_at hT hk_a (by decide) (i := 48) rfl) e_S3) mw_X2_makeStep in_5_28 (m_lay_at hT hk_a (by decide) (i := 84) rfl) (by decide) rfl rfl rfl ⟨rfl, rfl⟩ ⟨Nat.le_of_ble_eq_true rfl, Nat.le_of_ble_eq_true rfl⟩ ⟨Nat.zero_le _, Nat.zero_le _⟩ hl.1 (Nat.le_of_ble_eq_true rfl) dX11_endsByDraws_103 (fun H locs hH hS => ?_)
        obtain ⟨v4, e_v4, hm⟩ := m_let_of hm
        refine lv_iinc (v := v4) (lv' := [(4, .int v4), (0, .ref a)]) hx hb dX11_endsByDraws_106 hl (k := 1) rfl (by rw [← e_v4]; rfl) (by decide) rfl (fun ls hl => ?_)
        refine lv_goto (tgt := 73) hx hb dX11_endsByDraws_109 (by decide) ?_
        exact ih S3 v4 _ _ _ hH hS (lv_sub hl [1, 0] rfl) hm
def b_X11_endsByDraws_30 (a : Nat)  : Nat → m_M → Int32 → Int32 → Int32 → Option (Int32 × m_M)
  | 0, _, _, _, _ => none
  | n + 1, S, l2, l3, l4 =>
    if l2 ≤ l4 then (
    b_X11_endsByDraws_73 a m_fu S (0 : Int32)) else (
    m_let ((l3 * (1103515245 : Int32)) + (12345 : Int32)) fun v2 =>
    m_cal0 (f_X2_setVar (a + 84) S (0 : Int32) l4 (1 : Int32) ((v2.toUInt32 >>> ((8 : Int32).toUInt32 &&& Int32.toUInt32 31)).toInt32 - (v2.toUInt32 >>> ((8 : Int32).toUInt32 &&& Int32.toUInt32 31)).toInt32 / (10 : Int32) * (10 : Int32))) fun S3 =>
    m_let (l4 + (1 : Int32)) fun v4 =>
    b_X11_endsByDraws_30 a n S3 l2 v2 v4)
set_option maxHeartbeats 4000000 in
set_option maxRecDepth 100000 in
theorem k_X11_endsByDraws_30 {p : Program} {l : Launch} {e : Env} {s : State} {m : MethodId} {args : Array Value} {below : List Frame} {meth : Method} {c : Code} {G : m_G} {nx : Nat} {κ : Nat → Nat} {res : (Int32 × m_M)} {a : Nat} (X : m_Cx p s m args meth c cX11_endsByDraws 5 RX11 G) (hr : meth.sig.returnType = (some .boolean)) (hT : m_Str κ) (hk_a : κ a = 12)  (n : Nat) : ∀ (S : m_M) (l2 : Int32) (l3 : Int32) (l4 : Int32) (H : Heap) (locs : List Loc) (ls : Array Slot), m_H G nx κ S H → m_S G s H locs → lv_has ls 5 [(0, .ref a), (2, .int l2), (3, .int l3), (4, .int l4)] → b_X11_endsByDraws_30 a n S l2 l3 l4 = some res → W p l e rm_X11_endsByDraws s m args below meth c H locs 0 0 (m_Qi below args s G nx κ res) (F0 m 30 ls []) := by
  have hx := X.1.1
  have hb := X.1.2.1
  induction n with
  | zero => intro S l2 l3 l4 H locs ls hH hS hl hm; have hm : (none : Option (Int32 × m_M)) = some res := hm; cases hm
  | succ n ih =>
    intro S l2 l3 l4 H locs ls hH hS hl hm
    rw [b_X11_endsByDraws_30] at hm
    refine lv_iload hx hb dX11_endsByDraws_30 (lv_at hl 3 rfl) ?_
    refine lv_iload_n hx hb dX11_endsByDraws_32 rfl (lv_at hl 1 rfl) ?_
    refine lv_icmp_ge (tgt := 70) hx hb dX11_endsByDraws_33 (by decide) (fun c1 => ?_) (fun c1 => ?_)
    · have hm := m_ite_t hm c1
      refine lv_iconst (v := (0 : Int32)) hx hb dX11_endsByDraws_70 (by decide) ?_
      refine lv_istore (lv' := [(4, .int (0 : Int32)), (0, .ref a), (2, .int l2), (3, .int l3)]) hx hb dX11_endsByDraws_71 hl (by decide) rfl (fun ls hl => ?_)
      exact k_X11_endsByDraws_73 (a := a) X hr hT hk_a  m_fu S (0 : Int32) _ _ _ hH hS (lv_sub hl [1, 0] rfl) hm
    · have hm := m_ite_f hm c1
      refine lv_iload_n hx hb dX11_endsByDraws_36 rfl (lv_at hl 2 rfl) ?_
      refine lv_ldcw hx hb X.1.2.2.2.1 (m_w X in_5_208) dX11_endsByDraws_37 ?_
      refine lv_imul hx hb dX11_endsByDraws_40 ?_
      refine lv_sipush (v := (12345 : Int32)) hx hb dX11_endsByDraws_41 (by decide) ?_
      refine lv_iadd hx hb dX11_endsByDraws_44 ?_
      obtain ⟨v2, e_v2, hm⟩ := m_let_of hm
      refine n_topi e_v2 ?_
      refine lv_istore_n (lv' := [(3, .int v2), (0, .ref a), (2, .int l2), (4, .int l4)]) hx hb dX11_endsByDraws_45 rfl hl (by decide) rfl (fun ls hl => ?_)
      refine lv_aload_n hx hb dX11_endsByDraws_46 rfl (lv_at hl 1 rfl) ?_
      refine r_getp X hH (k := 11) (a := a) (j := 7) (b := (a + 84)) (A := 84) (B := 0) hk_a (by decide) rfl m_wi11 (by decide) in_3_80 rfl rfl rfl dX11_endsByDraws_47 ?_
      refine lv_iconst (v := (0 : Int32)) hx hb dX11_endsByDraws_50 (by decide) ?_
      refine lv_iload hx hb dX11_endsByDraws_51 (lv_at hl 3 rfl) ?_
      refine lv_iconst (v := (1 : Int32)) hx hb dX11_endsByDraws_53 (by decide) ?_
      refine lv_iload_n hx hb dX11_endsByDraws_54 rfl (lv_at hl 0 rfl) ?_
      refine lv_bipush (v := (8 : Int32)) hx hb dX11_endsByDraws_55 (by decide) ?_
      refine lv_iushr hx hb dX11_endsByDraws_57 rfl ?_
      refine lv_bipush (v := (10 : Int32)) hx hb dX11_endsByDraws_58 (by decide) ?_
      refine lv_irem hx hb dX11_endsByDraws_60 (by decide) ?_
      obtain ⟨S3, e_S3, hm⟩ := m_cal0_of hm
      refine r_cVv X hH hS (k := 2) (c_X2_setVar (a := (a + 84)) hT (m_lay_at hT hk_a (by decide) (i := 84) rfl) e_S3) mw_X2_setVar in_5_23 (m_lay_at hT hk_a (by decide) (i := 84) rfl) (by decide) rfl rfl rfl ⟨rfl, rfl⟩ ⟨Nat.le_of_ble_eq_true rfl, Nat.le_of_ble_eq_true rfl⟩ ⟨Nat.zero_le _, Nat.zero_le _⟩ hl.1 (Nat.le_of_ble_eq_true rfl) dX11_endsByDraws_61 (fun H locs hH hS => ?_)
      obtain ⟨v4, e_v4, hm⟩ := m_let_of hm
      refine lv_iinc (v := v4) (lv' := [(4, .int v4), (3, .int v2), (0, .ref a), (2, .int l2)]) hx hb dX11_endsByDraws_64 hl (k := 3) rfl (by rw [← e_v4]; rfl) (by decide) rfl (fun ls hl => ?_)
      refine lv_goto (tgt := 30) hx hb dX11_endsByDraws_67 (by decide) ?_
      exact ih S3 l2 v2 v4 _ _ _ hH hS (lv_sub hl [2, 3, 1, 0] rfl) hm
def f_X11_endsByDraws (a : Nat) (S : m_M) (i1 : Int32) : Option (Int32 × m_M) :=
    m_cal0 (f_X2_begin (a + 84) (a + 48) S) fun S1 =>
    m_call (f_X3_parametersOfMain (a + 48) S1) fun v3 S2 =>
    b_X11_endsByDraws_30 a m_fu S2 v3 i1 (0 : Int32)
set_option maxHeartbeats 4000000 in
set_option maxRecDepth 100000 in
theorem c_X11_endsByDraws {l : Launch} {G : m_G} {nx : Nat} {κ : Nat → Nat} {a : Nat} {S : m_M} {i1 : Int32} {res : (Int32 × m_M)} (hT : m_Str κ) (hk_a : κ a = 12) (hm : f_X11_endsByDraws a S i1 = some res) : m_Ci l yX11_endsByDraws cX11_endsByDraws 5 (some .boolean) rm_X11_endsByDraws G nx κ [.ref a, .int i1] S res := by
  refine m_Ci.of (by decide) (Nat.le_of_ble_eq_true rfl) ?_
  intro p e s m args below meth c ls X hr hH hl
  have hx := X.1.1
  have hb := X.1.2.1
  have hS : m_S G s s.heap [] := va_S.rf
  have hl : lv_has ls 5 [(0, .ref a), (1, .int i1)] := hl
  rw [f_X11_endsByDraws] at hm
  refine lv_aload_n hx hb dX11_endsByDraws_0 rfl (lv_at hl 0 rfl) ?_
  refine r_getp X hH (k := 11) (a := a) (j := 7) (b := (a + 84)) (A := 84) (B := 0) hk_a (by decide) rfl m_wi11 (by decide) in_3_80 rfl rfl rfl dX11_endsByDraws_1 ?_
  refine lv_aload_n hx hb dX11_endsByDraws_4 rfl (lv_at hl 0 rfl) ?_
  refine r_getp X hH (k := 11) (a := a) (j := 6) (b := (a + 47)) (A := 47) (B := 0) hk_a (by decide) rfl m_wi11 (by decide) in_3_79 rfl rfl rfl dX11_endsByDraws_5 ?_
  refine r_getp X hH (k := 10) (a := (a + 47)) (j := 0) (b := (a + 48)) (A := 1) (B := 0) (m_lay_at hT hk_a (by decide) (i := 47) rfl) (by decide) rfl m_wi10 (by decide) in_3_23 rfl rfl rfl dX11_endsByDraws_8 ?_
  obtain ⟨S1, e_S1, hm⟩ := m_cal0_of hm
  refine r_cVv X hH hS (k := 2) (c_X2_begin (a := (a + 84)) (o1 := (a + 48)) hT (m_lay_at hT hk_a (by decide) (i := 84) rfl) (m_lay_at hT hk_a (by decide) (i := 48) rfl) e_S1) mw_X2_begin in_5_2 (m_lay_at hT hk_a (by decide) (i := 84) rfl) (by decide) rfl rfl rfl ⟨rfl, rfl⟩ ⟨Nat.le_of_ble_eq_true rfl, Nat.le_of_ble_eq_true rfl⟩ ⟨Nat.zero_le _, Nat.zero_le _⟩ hl.1 (Nat.le_of_ble_eq_true rfl) dX11_endsByDraws_11 (fun H locs hH hS => ?_)
  refine lv_aload_n hx hb dX11_endsByDraws_14 rfl (lv_at hl 0 rfl) ?_
  refine r_getp X hH (k := 11) (a := a) (j := 6) (b := (a + 47)) (A := 47) (B := 0) hk_a (by decide) rfl m_wi11 (by decide) in_3_79 rfl rfl rfl dX11_endsByDraws_15 ?_
  refine r_getp X hH (k := 10) (a := (a + 47)) (j := 0) (b := (a + 48)) (A := 1) (B := 0) (m_lay_at hT hk_a (by decide) (i := 47) rfl) (by decide) rfl m_wi10 (by decide) in_3_23 rfl rfl rfl dX11_endsByDraws_18 ?_
  obtain ⟨v3, S2, e_S2, hm⟩ := m_call_of hm
  refine n_cVi X hH hS (k := 3) (c_X3_parametersOfMain (a := (a + 48)) hT (m_lay_at hT hk_a (by decide) (i := 48) rfl) e_S2) mw_X3_parametersOfMain in_5_19 (m_lay_at hT hk_a (by decide) (i := 48) rfl) (by decide) rfl rfl rfl ⟨rfl, rfl⟩ ⟨Nat.le_of_ble_eq_true rfl, Nat.le_of_ble_eq_true rfl⟩ ⟨Nat.zero_le _, Nat.zero_le _⟩ hl.1 (Nat.le_of_ble_eq_true rfl) dX11_endsByDraws_21 (fun H locs hH hS => ?_)
  refine lv_istore_n (lv' := [(2, .int v3), (0, .ref a), (1, .int i1)]) hx hb dX11_endsByDraws_24 rfl hl (by decide) rfl (fun ls hl => ?_)
  refine lv_iload_n hx hb dX11_endsByDraws_25 rfl (lv_at hl 2 rfl) ?_
  refine lv_istore_n (lv' := [(3, .int i1), (2, .int v3), (0, .ref a), (1, .int i1)]) hx hb dX11_endsByDraws_26 rfl hl (by decide) rfl (fun ls hl => ?_)
  refine lv_iconst (v := (0 : Int32)) hx hb dX11_endsByDraws_27 (by decide) ?_
  refine lv_istore (lv' := [(4, .int (0 : Int32)), (3, .int i1), (2, .int v3), (0, .ref a), (1, .int i1)]) hx hb dX11_endsByDraws_28 hl (by decide) rfl (fun ls hl => ?_)
  exact k_X11_endsByDraws_30 (a := a) X hr hT hk_a  m_fu S2 v3 i1 (0 : Int32) _ _ _ hH hS (lv_sub hl [3, 2, 1, 0] rfl) hm
def rm_X11_odds : Room := { frames := 6, cells := 0, slots := 0, locals := 179 }
def b_X11_odds_24 (a : Nat)  (S : m_M)  : Option (Int32 × m_M) :=
    some ((-1 : Int32), S)
set_option maxHeartbeats 4000000 in
set_option maxRecDepth 100000 in
theorem k_X11_odds_24 {p : Program} {l : Launch} {e : Env} {s : State} {m : MethodId} {args : Array Value} {below : List Frame} {meth : Method} {c : Code} {G : m_G} {nx : Nat} {κ : Nat → Nat} {res : (Int32 × m_M)} {a : Nat} (X : m_Cx p s m args meth c cX11_odds 5 RX11 G) (hr : meth.sig.returnType = (some .int)) (hT : m_Str κ) (hk_a : κ a = 12)  : ∀ (S : m_M)  (H : Heap) (locs : List Loc) (ls : Array Slot), m_H G nx κ S H → m_S G s H locs → lv_has ls 5 [] → b_X11_odds_24 a S  = some res → W p l e rm_X11_odds s m args below meth c H locs 0 0 (m_Qi below args s G nx κ res) (F0 m 24 ls []) := by
  have hx := X.1.1
  have hb := X.1.2.1
  intro S H locs ls hH hS hl hm
  rw [b_X11_odds_24] at hm
  refine lv_iconst (v := (-1 : Int32)) hx hb dX11_odds_24 (by decide) ?_
  exact r_iret X hr hH hS hm dX11_odds_25
def b_X11_odds_51 (a : Nat) (K_31 : m_M → Int32 → Int32 → Int32 → Int32 → Option (Int32 × m_M)) (S : m_M) (l1 : Int32) (l2 : Int32) (l3 : Int32) (l4 : Int32) : Option (Int32 × m_M) :=
    m_let (l4 + (1 : Int32)) fun v1 =>
    K_31 S l1 l2 l3 v1
set_option maxHeartbeats 4000000 in
set_option maxRecDepth 100000 in
theorem k_X11_odds_51 {p : Program} {l : Launch} {e : Env} {s : State} {m : MethodId} {args : Array Value} {below : List Frame} {meth : Method} {c : Code} {G : m_G} {nx : Nat} {κ : Nat → Nat} {res : (Int32 × m_M)} {a : Nat} (X : m_Cx p s m args meth c cX11_odds 5 RX11 G) (hr : meth.sig.returnType = (some .int)) (hT : m_Str κ) (hk_a : κ a = 12) (K_31 : m_M → Int32 → Int32 → Int32 → Int32 → Option (Int32 × m_M)) (hK_31 : ∀ (S : m_M) (l1 : Int32) (l2 : Int32) (l3 : Int32) (l4 : Int32) (H : Heap) (locs : List Loc) (ls : Array Slot), m_H G nx κ S H → m_S G s H locs → lv_has ls 5 [(0, .ref a), (1, .int l1), (2, .int l2), (3, .int l3), (4, .int l4)] → K_31 S l1 l2 l3 l4 = some res → W p l e rm_X11_odds s m args below meth c H locs 0 0 (m_Qi below args s G nx κ res) (F0 m 31 ls [])) : ∀ (S : m_M) (l1 : Int32) (l2 : Int32) (l3 : Int32) (l4 : Int32) (H : Heap) (locs : List Loc) (ls : Array Slot), m_H G nx κ S H → m_S G s H locs → lv_has ls 5 [(0, .ref a), (1, .int l1), (2, .int l2), (3, .int l3), (4, .int l4)] → b_X11_odds_51 a K_31 S l1 l2 l3 l4 = some res → W p l e rm_X11_odds s m args below meth c H locs 0 0 (m_Qi below args s G nx κ res) (F0 m 51 ls []) := by
  have hx := X.1.1
  have hb := X.1.2.1
  intro S l1 l2 l3 l4 H locs ls hH hS hl hm
  rw [b_X11_odds_51] at hm
  obtain ⟨v1, e_v1, hm⟩ := m_let_of hm
  refine lv_iinc (v := v1) (lv' := [(4, .int v1), (0, .ref a), (1, .int l1), (2, .int l2), (3, .int l3)]) hx hb dX11_odds_51 hl (k := 4) rfl (by rw [← e_v1]; rfl) (by decide) rfl (fun ls hl => ?_)
  refine lv_goto (tgt := 31) hx hb dX11_odds_54 (by decide) ?_
  exact hK_31 S l1 l2 l3 v1 _ _ _ hH hS (lv_sub hl [1, 2, 3, 4, 0] rfl) hm
def b_X11_odds_31 (a : Nat)  : Nat → m_M → Int32 → Int32 → Int32 → Int32 → Option (Int32 × m_M)
  | 0, _, _, _, _, _ => none
  | n + 1, S, l1, l2, l3, l4 =>
    if l1 ≤ l4 then (
    some (l3, S)) else (
    m_call (f_X11_endsByDraws a S (l2 + l4)) fun v3 S2 =>
    if v3 = 0 then (
    b_X11_odds_51 a (b_X11_odds_31 a n) S2 l1 l2 l3 l4) else (
    m_let (l3 + (1 : Int32)) fun v5 =>
    b_X11_odds_51 a (b_X11_odds_31 a n) S2 l1 l2 v5 l4))
set_option maxHeartbeats 4000000 in
set_option maxRecDepth 100000 in
theorem k_X11_odds_31 {p : Program} {l : Launch} {e : Env} {s : State} {m : MethodId} {args : Array Value} {below : List Frame} {meth : Method} {c : Code} {G : m_G} {nx : Nat} {κ : Nat → Nat} {res : (Int32 × m_M)} {a : Nat} (X : m_Cx p s m args meth c cX11_odds 5 RX11 G) (hr : meth.sig.returnType = (some .int)) (hT : m_Str κ) (hk_a : κ a = 12)  (n : Nat) : ∀ (S : m_M) (l1 : Int32) (l2 : Int32) (l3 : Int32) (l4 : Int32) (H : Heap) (locs : List Loc) (ls : Array Slot), m_H G nx κ S H → m_S G s H locs → lv_has ls 5 [(0, .ref a), (1, .int l1), (2, .int l2), (3, .int l3), (4, .int l4)] → b_X11_odds_31 a n S l1 l2 l3 l4 = some res → W p l e rm_X11_odds s m args below meth c H locs 0 0 (m_Qi below args s G nx κ res) (F0 m 31 ls []) := by
  have hx := X.1.1
  have hb := X.1.2.1
  induction n with
  | zero => intro S l1 l2 l3 l4 H locs ls hH hS hl hm; have hm : (none : Option (Int32 × m_M)) = some res := hm; cases hm
  | succ n ih =>
    intro S l1 l2 l3 l4 H locs ls hH hS hl hm
    rw [b_X11_odds_31] at hm
    refine lv_iload hx hb dX11_odds_31 (lv_at hl 4 rfl) ?_
    refine lv_iload_n hx hb dX11_odds_33 rfl (lv_at hl 1 rfl) ?_
    refine lv_icmp_ge (tgt := 57) hx hb dX11_odds_34 (by decide) (fun c1 => ?_) (fun c1 => ?_)
    · have hm := m_ite_t hm c1
      refine lv_iload_n hx hb dX11_odds_57 rfl (lv_at hl 3 rfl) ?_
      exact r_iret X hr hH hS hm dX11_odds_58
    · have hm := m_ite_f hm c1
      refine lv_aload_n hx hb dX11_odds_37 rfl (lv_at hl 0 rfl) ?_
      refine lv_iload_n hx hb dX11_odds_38 rfl (lv_at hl 2 rfl) ?_
      refine lv_iload hx hb dX11_odds_39 (lv_at hl 4 rfl) ?_
      refine lv_iadd hx hb dX11_odds_41 ?_
      obtain ⟨v3, S2, e_S2, hm⟩ := m_call_of hm
      refine n_cVi X hH hS (k := 11) (c_X11_endsByDraws (a := a) hT hk_a e_S2) mw_X11_endsByDraws in_5_204 hk_a (by decide) rfl rfl rfl ⟨rfl, rfl⟩ ⟨Nat.le_of_ble_eq_true rfl, Nat.le_of_ble_eq_true rfl⟩ ⟨Nat.zero_le _, Nat.zero_le _⟩ hl.1 (Nat.le_of_ble_eq_true rfl) dX11_odds_42 (fun H locs hH hS => ?_)
      refine lv_if_eq (tgt := 51) hx hb dX11_odds_45 (by decide) (fun c4 => ?_) (fun c4 => ?_)
      · have hm := m_ite_t hm c4
        exact k_X11_odds_51 (a := a) X hr hT hk_a (b_X11_odds_31 a n) ih  S2 l1 l2 l3 l4 _ _ _ hH hS hl hm
      · have hm := m_ite_f hm c4
        obtain ⟨v5, e_v5, hm⟩ := m_let_of hm
        refine lv_iinc (v := v5) (lv' := [(3, .int v5), (0, .ref a), (1, .int l1), (2, .int l2), (4, .int l4)]) hx hb dX11_odds_48 hl (k := 3) rfl (by rw [← e_v5]; rfl) (by decide) rfl (fun ls hl => ?_)
        exact k_X11_odds_51 (a := a) X hr hT hk_a (b_X11_odds_31 a n) ih  S2 l1 l2 v5 l4 _ _ _ hH hS (lv_sub hl [1, 2, 3, 0, 4] rfl) hm
def f_X11_odds (a : Nat) (S : m_M) (i1 : Int32) (i2 : Int32) : Option (Int32 × m_M) :=
    if i1 < (1 : Int32) then (
    b_X11_odds_24 a S) else (
    if (20 : Int32) < i1 then (
    b_X11_odds_24 a S) else (
    if (m_ri S (a + 48) 0) = 0 then (
    b_X11_odds_24 a S) else (
    b_X11_odds_31 a m_fu S i1 i2 (0 : Int32) (0 : Int32))))
set_option maxHeartbeats 4000000 in
set_option maxRecDepth 100000 in
theorem c_X11_odds {l : Launch} {G : m_G} {nx : Nat} {κ : Nat → Nat} {a : Nat} {S : m_M} {i1 : Int32} {i2 : Int32} {res : (Int32 × m_M)} (hT : m_Str κ) (hk_a : κ a = 12) (hm : f_X11_odds a S i1 i2 = some res) : m_Ci l yX11_odds cX11_odds 5 (some .int) rm_X11_odds G nx κ [.ref a, .int i1, .int i2] S res := by
  refine m_Ci.of (by decide) (Nat.le_of_ble_eq_true rfl) ?_
  intro p e s m args below meth c ls X hr hH hl
  have hx := X.1.1
  have hb := X.1.2.1
  have hS : m_S G s s.heap [] := va_S.rf
  have hl : lv_has ls 5 [(0, .ref a), (1, .int i1), (2, .int i2)] := hl
  rw [f_X11_odds] at hm
  refine lv_iload_n hx hb dX11_odds_0 rfl (lv_at hl 1 rfl) ?_
  refine lv_iconst (v := (1 : Int32)) hx hb dX11_odds_1 (by decide) ?_
  refine lv_icmp_lt (tgt := 24) hx hb dX11_odds_2 (by decide) (fun c1 => ?_) (fun c1 => ?_)
  · have hm := m_ite_t hm c1
    exact k_X11_odds_24 (a := a) X hr hT hk_a   S _ _ _ hH hS (lv_sub hl [] rfl) hm
  · have hm := m_ite_f hm c1
    refine lv_iload_n hx hb dX11_odds_5 rfl (lv_at hl 1 rfl) ?_
    refine lv_bipush (v := (20 : Int32)) hx hb dX11_odds_6 (by decide) ?_
    refine lv_icmp_gt (tgt := 24) hx hb dX11_odds_8 (by decide) (fun c2 => ?_) (fun c2 => ?_)
    · have hm := m_ite_t hm c2
      exact k_X11_odds_24 (a := a) X hr hT hk_a   S _ _ _ hH hS (lv_sub hl [] rfl) hm
    · have hm := m_ite_f hm c2
      refine lv_aload_n hx hb dX11_odds_11 rfl (lv_at hl 0 rfl) ?_
      refine r_getp X hH (k := 11) (a := a) (j := 6) (b := (a + 47)) (A := 47) (B := 0) hk_a (by decide) rfl m_wi11 (by decide) in_3_79 rfl rfl rfl dX11_odds_12 ?_
      refine r_getp X hH (k := 10) (a := (a + 47)) (j := 0) (b := (a + 48)) (A := 1) (B := 0) (m_lay_at hT hk_a (by decide) (i := 47) rfl) (by decide) rfl m_wi10 (by decide) in_3_23 rfl rfl rfl dX11_odds_15 ?_
      refine r_geti X hH (k := 3) (a := (a + 48)) (j := 0) (m_lay_at hT hk_a (by decide) (i := 48) rfl) (by decide) rfl m_wi3 (by decide) in_1_126 rfl rfl dX11_odds_18 ?_
      refine lv_if_ne (tgt := 26) hx hb dX11_odds_21 (by decide) (fun c3 => ?_) (fun c3 => ?_)
      · have hm := m_ite_f hm c3
        refine lv_iconst (v := (0 : Int32)) hx hb dX11_odds_26 (by decide) ?_
        refine lv_istore_n (lv' := [(3, .int (0 : Int32)), (0, .ref a), (1, .int i1), (2, .int i2)]) hx hb dX11_odds_27 rfl hl (by decide) rfl (fun ls hl => ?_)
        refine lv_iconst (v := (0 : Int32)) hx hb dX11_odds_28 (by decide) ?_
        refine lv_istore (lv' := [(4, .int (0 : Int32)), (3, .int (0 : Int32)), (0, .ref a), (1, .int i1), (2, .int i2)]) hx hb dX11_odds_29 hl (by decide) rfl (fun ls hl => ?_)
        exact k_X11_odds_31 (a := a) X hr hT hk_a  m_fu S i1 i2 (0 : Int32) (0 : Int32) _ _ _ hH hS (lv_sub hl [2, 3, 4, 1, 0] rfl) hm
      · have hm := m_ite_t hm c3
        exact k_X11_odds_24 (a := a) X hr hT hk_a   S _ _ _ hH hS (lv_sub hl [] rfl) hm
def rm_X11_undo : Room := { frames := 3, cells := 0, slots := 0, locals := 103 }
def f_X11_undo (a : Nat) (S : m_M)  : Option (Int32 × m_M) :=
    m_call (f_X0_takeBack (a + 96) (a + 70) S) fun v2 S1 =>
    some (v2, S1)
set_option maxHeartbeats 4000000 in
set_option maxRecDepth 100000 in
theorem c_X11_undo {l : Launch} {G : m_G} {nx : Nat} {κ : Nat → Nat} {a : Nat} {S : m_M}  {res : (Int32 × m_M)} (hT : m_Str κ) (hk_a : κ a = 12) (hm : f_X11_undo a S = some res) : m_Ci l yX11_undo cX11_undo 1 (some .int) rm_X11_undo G nx κ [.ref a] S res := by
  refine m_Ci.of (by decide) (Nat.le_of_ble_eq_true rfl) ?_
  intro p e s m args below meth c ls X hr hH hl
  have hx := X.1.1
  have hb := X.1.2.1
  have hS : m_S G s s.heap [] := va_S.rf
  have hl : lv_has ls 1 [(0, .ref a)] := hl
  rw [f_X11_undo] at hm
  refine lv_aload_n hx hb dX11_undo_0 rfl (lv_at hl 0 rfl) ?_
  refine r_getp X hH (k := 11) (a := a) (j := 9) (b := (a + 96)) (A := 96) (B := 0) hk_a (by decide) rfl m_wi11 (by decide) in_3_82 rfl rfl rfl dX11_undo_1 ?_
  refine lv_aload_n hx hb dX11_undo_4 rfl (lv_at hl 0 rfl) ?_
  refine r_getp X hH (k := 11) (a := a) (j := 6) (b := (a + 47)) (A := 47) (B := 0) hk_a (by decide) rfl m_wi11 (by decide) in_3_79 rfl rfl rfl dX11_undo_5 ?_
  refine r_getp X hH (k := 10) (a := (a + 47)) (j := 1) (b := (a + 70)) (A := 23) (B := 0) (m_lay_at hT hk_a (by decide) (i := 47) rfl) (by decide) rfl m_wi10 (by decide) in_3_25 rfl rfl rfl dX11_undo_8 ?_
  obtain ⟨v2, S1, e_S1, hm⟩ := m_call_of hm
  refine n_cVi X hH hS (k := 0) (c_X0_takeBack (a := (a + 96)) (o1 := (a + 70)) hT (m_lay_at hT hk_a (by decide) (i := 96) rfl) (m_lay_at hT hk_a (by decide) (i := 70) rfl) e_S1) mw_X0_takeBack in_5_213 (m_lay_at hT hk_a (by decide) (i := 96) rfl) (by decide) rfl rfl rfl ⟨rfl, rfl⟩ ⟨Nat.le_of_ble_eq_true rfl, Nat.le_of_ble_eq_true rfl⟩ ⟨Nat.zero_le _, Nat.zero_le _⟩ hl.1 (Nat.le_of_ble_eq_true rfl) dX11_undo_11 (fun H locs hH hS => ?_)
  exact r_iret X hr hH hS hm dX11_undo_14
def rm_X11_sentence : Room := { frames := 40, cells := 0, slots := 0, locals := 933 }
def f_X11_sentence (a : Nat) (S : m_M)  : Option (Int32 × m_M) :=
    m_call (f_X11_takeTape a S) fun v2 S1 =>
    m_call (f_X8_readsAll a (a + 48) S1 v2) fun v4 S3 =>
    m_let (m_si S3 a 5 (m_ri S3 (a + 37) 15)) fun S5 =>
    if v4 = 0 then (
    some (((-1 : Int32) - (m_ri S5 (a + 37) 16)), S5)) else (
    m_cal0 (f_X7_copyFrom (a + 79) (a + 32) S5) fun S7 =>
    some ((m_ri S7 (a + 79) 1), S7))
set_option maxHeartbeats 4000000 in
set_option maxRecDepth 100000 in
theorem c_X11_sentence {l : Launch} {G : m_G} {nx : Nat} {κ : Nat → Nat} {a : Nat} {S : m_M}  {res : (Int32 × m_M)} (hT : m_Str κ) (hk_a : κ a = 12) (hm : f_X11_sentence a S = some res) : m_Ci l yX11_sentence cX11_sentence 2 (some .int) rm_X11_sentence G nx κ [.ref a] S res := by
  refine m_Ci.of (by decide) (Nat.le_of_ble_eq_true rfl) ?_
  intro p e s m args below meth c ls X hr hH hl
  have hx := X.1.1
  have hb := X.1.2.1
  have hS : m_S G s s.heap [] := va_S.rf
  have hl : lv_has ls 2 [(0, .ref a)] := hl
  rw [f_X11_sentence] at hm
  refine lv_aload_n hx hb dX11_sentence_0 rfl (lv_at hl 0 rfl) ?_
  refine r_getp X hH (k := 11) (a := a) (j := 3) (b := (a + 31)) (A := 31) (B := 0) hk_a (by decide) rfl m_wi11 (by decide) in_3_76 rfl rfl rfl dX11_sentence_1 ?_
  refine lv_aload_n hx hb dX11_sentence_4 rfl (lv_at hl 0 rfl) ?_
  refine r_getp X hH (k := 11) (a := a) (j := 0) (b := (a + 1)) (A := 1) (B := 0) hk_a (by decide) rfl m_wi11 (by decide) in_3_73 rfl rfl rfl dX11_sentence_5 ?_
  refine lv_aload_n hx hb dX11_sentence_8 rfl (lv_at hl 0 rfl) ?_
  obtain ⟨v2, S1, e_S1, hm⟩ := m_call_of hm
  refine n_cVi X hH hS (k := 11) (c_X11_takeTape (a := a) hT hk_a e_S1) mw_X11_takeTape in_3_129 hk_a (by decide) rfl rfl rfl ⟨rfl, rfl⟩ ⟨Nat.le_of_ble_eq_true rfl, Nat.le_of_ble_eq_true rfl⟩ ⟨Nat.zero_le _, Nat.zero_le _⟩ hl.1 (Nat.le_of_ble_eq_true rfl) dX11_sentence_9 (fun H locs hH hS => ?_)
  refine lv_aload_n hx hb dX11_sentence_12 rfl (lv_at hl 0 rfl) ?_
  refine r_getp X hH (k := 11) (a := a) (j := 6) (b := (a + 47)) (A := 47) (B := 0) hk_a (by decide) rfl m_wi11 (by decide) in_3_79 rfl rfl rfl dX11_sentence_13 ?_
  refine r_getp X hH (k := 10) (a := (a + 47)) (j := 0) (b := (a + 48)) (A := 1) (B := 0) (m_lay_at hT hk_a (by decide) (i := 47) rfl) (by decide) rfl m_wi10 (by decide) in_3_23 rfl rfl rfl dX11_sentence_16 ?_
  obtain ⟨v4, S3, e_S3, hm⟩ := m_call_of hm
  refine n_cVi X hH hS (k := 8) (c_X8_readsAll (x := a) (o3 := (a + 48)) hT hk_a (m_lay_at hT hk_a (by decide) (i := 48) rfl) e_S3) mw_X8_readsAll in_5_221 (m_lay_at hT hk_a (by decide) (i := 31) rfl) (by decide) rfl rfl rfl ⟨rfl, rfl⟩ ⟨Nat.le_of_ble_eq_true rfl, Nat.le_of_ble_eq_true rfl⟩ ⟨Nat.zero_le _, Nat.zero_le _⟩ hl.1 (Nat.le_of_ble_eq_true rfl) dX11_sentence_19 (fun H locs hH hS => ?_)
  refine lv_istore_n (lv' := [(1, .int v4), (0, .ref a)]) hx hb dX11_sentence_22 rfl hl (by decide) rfl (fun ls hl => ?_)
  refine lv_aload_n hx hb dX11_sentence_23 rfl (lv_at hl 1 rfl) ?_
  refine lv_aload_n hx hb dX11_sentence_24 rfl (lv_at hl 1 rfl) ?_
  refine r_getp X hH (k := 11) (a := a) (j := 3) (b := (a + 31)) (A := 31) (B := 0) hk_a (by decide) rfl m_wi11 (by decide) in_3_76 rfl rfl rfl dX11_sentence_25 ?_
  refine r_getp X hH (k := 8) (a := (a + 31)) (j := 1) (b := (a + 37)) (A := 6) (B := 0) (m_lay_at hT hk_a (by decide) (i := 31) rfl) (by decide) rfl m_wi8 (by decide) in_2_131 rfl rfl rfl dX11_sentence_28 ?_
  refine r_geti X hH (k := 9) (a := (a + 37)) (j := 15) (m_lay_at hT hk_a (by decide) (i := 37) rfl) (by decide) rfl m_wi9 (by decide) in_2_34 rfl rfl dX11_sentence_31 ?_
  obtain ⟨S5, e_S5, hm⟩ := m_let_of hm
  refine n_puti X hH hS tyX11 (k := 11) (a := a) (j := 5) hk_a (by decide) rfl m_wi11 tyX11_ok nmX11 (by decide) in_3_78 rfl rfl rfl ⟨rfl, rfl⟩ e_S5 dX11_sentence_34 (fun H locs hH hS => ?_)
  refine lv_iload_n hx hb dX11_sentence_37 rfl (lv_at hl 0 rfl) ?_
  refine lv_if_ne (tgt := 54) hx hb dX11_sentence_38 (by decide) (fun c6 => ?_) (fun c6 => ?_)
  · have hm := m_ite_f hm c6
    refine lv_aload_n hx hb dX11_sentence_54 rfl (lv_at hl 1 rfl) ?_
    refine r_getp X hH (k := 11) (a := a) (j := 6) (b := (a + 47)) (A := 47) (B := 0) hk_a (by decide) rfl m_wi11 (by decide) in_3_79 rfl rfl rfl dX11_sentence_55 ?_
    refine r_getp X hH (k := 10) (a := (a + 47)) (j := 2) (b := (a + 79)) (A := 32) (B := 0) (m_lay_at hT hk_a (by decide) (i := 47) rfl) (by decide) rfl m_wi10 (by decide) in_3_27 rfl rfl rfl dX11_sentence_58 ?_
    refine lv_aload_n hx hb dX11_sentence_61 rfl (lv_at hl 1 rfl) ?_
    refine r_getp X hH (k := 11) (a := a) (j := 3) (b := (a + 31)) (A := 31) (B := 0) hk_a (by decide) rfl m_wi11 (by decide) in_3_76 rfl rfl rfl dX11_sentence_62 ?_
    refine r_getp X hH (k := 8) (a := (a + 31)) (j := 0) (b := (a + 32)) (A := 1) (B := 0) (m_lay_at hT hk_a (by decide) (i := 31) rfl) (by decide) rfl m_wi8 (by decide) in_2_129 rfl rfl rfl dX11_sentence_65 ?_
    obtain ⟨S7, e_S7, hm⟩ := m_cal0_of hm
    refine r_cVv X hH hS (k := 7) (c_X7_copyFrom (a := (a + 79)) (o1 := (a + 32)) hT (m_lay_at hT hk_a (by decide) (i := 79) rfl) (m_lay_at hT hk_a (by decide) (i := 32) rfl) e_S7) mw_X7_copyFrom in_6_15 (m_lay_at hT hk_a (by decide) (i := 79) rfl) (by decide) rfl rfl rfl ⟨rfl, rfl⟩ ⟨Nat.le_of_ble_eq_true rfl, Nat.le_of_ble_eq_true rfl⟩ ⟨Nat.zero_le _, Nat.zero_le _⟩ hl.1 (Nat.le_of_ble_eq_true rfl) dX11_sentence_68 (fun H locs hH hS => ?_)
    refine lv_aload_n hx hb dX11_sentence_71 rfl (lv_at hl 1 rfl) ?_
    refine r_getp X hH (k := 11) (a := a) (j := 6) (b := (a + 47)) (A := 47) (B := 0) hk_a (by decide) rfl m_wi11 (by decide) in_3_79 rfl rfl rfl dX11_sentence_72 ?_
    refine r_getp X hH (k := 10) (a := (a + 47)) (j := 2) (b := (a + 79)) (A := 32) (B := 0) (m_lay_at hT hk_a (by decide) (i := 47) rfl) (by decide) rfl m_wi10 (by decide) in_3_27 rfl rfl rfl dX11_sentence_75 ?_
    refine r_geti X hH (k := 7) (a := (a + 79)) (j := 1) (m_lay_at hT hk_a (by decide) (i := 79) rfl) (by decide) rfl m_wi7 (by decide) in_2_104 rfl rfl dX11_sentence_78 ?_
    exact r_iret X hr hH hS hm dX11_sentence_81
  · have hm := m_ite_t hm c6
    refine lv_iconst (v := (-1 : Int32)) hx hb dX11_sentence_41 (by decide) ?_
    refine lv_aload_n hx hb dX11_sentence_42 rfl (lv_at hl 1 rfl) ?_
    refine r_getp X hH (k := 11) (a := a) (j := 3) (b := (a + 31)) (A := 31) (B := 0) hk_a (by decide) rfl m_wi11 (by decide) in_3_76 rfl rfl rfl dX11_sentence_43 ?_
    refine r_getp X hH (k := 8) (a := (a + 31)) (j := 1) (b := (a + 37)) (A := 6) (B := 0) (m_lay_at hT hk_a (by decide) (i := 31) rfl) (by decide) rfl m_wi8 (by decide) in_2_131 rfl rfl rfl dX11_sentence_46 ?_
    refine r_geti X hH (k := 9) (a := (a + 37)) (j := 16) (m_lay_at hT hk_a (by decide) (i := 37) rfl) (by decide) rfl m_wi9 (by decide) in_2_36 rfl rfl dX11_sentence_49 ?_
    refine lv_isub hx hb dX11_sentence_52 ?_
    exact r_iret X hr hH hS hm dX11_sentence_53
def rm_X11_said : Room := { frames := 5, cells := 0, slots := 0, locals := 117 }
def b_X11_said_18 (a : Nat)  (S : m_M)  : Option (Int32 × m_M) :=
    some ((-1 : Int32), S)
set_option maxHeartbeats 4000000 in
set_option maxRecDepth 100000 in
theorem k_X11_said_18 {p : Program} {l : Launch} {e : Env} {s : State} {m : MethodId} {args : Array Value} {below : List Frame} {meth : Method} {c : Code} {G : m_G} {nx : Nat} {κ : Nat → Nat} {res : (Int32 × m_M)} {a : Nat} (X : m_Cx p s m args meth c cX11_said 4 RX11 G) (hr : meth.sig.returnType = (some .int)) (hT : m_Str κ) (hk_a : κ a = 12)  : ∀ (S : m_M)  (H : Heap) (locs : List Loc) (ls : Array Slot), m_H G nx κ S H → m_S G s H locs → lv_has ls 4 [] → b_X11_said_18 a S  = some res → W p l e rm_X11_said s m args below meth c H locs 0 0 (m_Qi below args s G nx κ res) (F0 m 18 ls []) := by
  have hx := X.1.1
  have hb := X.1.2.1
  intro S H locs ls hH hS hl hm
  rw [b_X11_said_18] at hm
  refine lv_iconst (v := (-1 : Int32)) hx hb dX11_said_18 (by decide) ?_
  exact r_iret X hr hH hS hm dX11_said_19
def b_X11_said_79 (a : Nat) (K_24 : m_M → Int32 → Int32 → Int32 → Option (Int32 × m_M)) (S : m_M) (l1 : Int32) (l2 : Int32) (l3 : Int32) : Option (Int32 × m_M) :=
    m_let (l3 + (1 : Int32)) fun v1 =>
    K_24 S l1 l2 v1
set_option maxHeartbeats 4000000 in
set_option maxRecDepth 100000 in
theorem k_X11_said_79 {p : Program} {l : Launch} {e : Env} {s : State} {m : MethodId} {args : Array Value} {below : List Frame} {meth : Method} {c : Code} {G : m_G} {nx : Nat} {κ : Nat → Nat} {res : (Int32 × m_M)} {a : Nat} (X : m_Cx p s m args meth c cX11_said 4 RX11 G) (hr : meth.sig.returnType = (some .int)) (hT : m_Str κ) (hk_a : κ a = 12) (K_24 : m_M → Int32 → Int32 → Int32 → Option (Int32 × m_M)) (hK_24 : ∀ (S : m_M) (l1 : Int32) (l2 : Int32) (l3 : Int32) (H : Heap) (locs : List Loc) (ls : Array Slot), m_H G nx κ S H → m_S G s H locs → lv_has ls 4 [(0, .ref a), (1, .int l1), (2, .int l2), (3, .int l3)] → K_24 S l1 l2 l3 = some res → W p l e rm_X11_said s m args below meth c H locs 0 0 (m_Qi below args s G nx κ res) (F0 m 24 ls [])) : ∀ (S : m_M) (l1 : Int32) (l2 : Int32) (l3 : Int32) (H : Heap) (locs : List Loc) (ls : Array Slot), m_H G nx κ S H → m_S G s H locs → lv_has ls 4 [(0, .ref a), (1, .int l1), (2, .int l2), (3, .int l3)] → b_X11_said_79 a K_24 S l1 l2 l3 = some res → W p l e rm_X11_said s m args below meth c H locs 0 0 (m_Qi below args s G nx κ res) (F0 m 79 ls []) := by
  have hx := X.1.1
  have hb := X.1.2.1
  intro S l1 l2 l3 H locs ls hH hS hl hm
  rw [b_X11_said_79] at hm
  obtain ⟨v1, e_v1, hm⟩ := m_let_of hm
  refine lv_iinc (v := v1) (lv' := [(3, .int v1), (0, .ref a), (1, .int l1), (2, .int l2)]) hx hb dX11_said_79 hl (k := 3) rfl (by rw [← e_v1]; rfl) (by decide) rfl (fun ls hl => ?_)
  refine lv_goto (tgt := 24) hx hb dX11_said_82 (by decide) ?_
  exact hK_24 S l1 l2 v1 _ _ _ hH hS (lv_sub hl [1, 2, 3, 0] rfl) hm
def b_X11_said_95 (a : Nat)  (S : m_M) (t0 : Int32) : Option (Int32 × m_M) :=
    some (t0, S)
set_option maxHeartbeats 4000000 in
set_option maxRecDepth 100000 in
theorem k_X11_said_95 {p : Program} {l : Launch} {e : Env} {s : State} {m : MethodId} {args : Array Value} {below : List Frame} {meth : Method} {c : Code} {G : m_G} {nx : Nat} {κ : Nat → Nat} {res : (Int32 × m_M)} {a : Nat} (X : m_Cx p s m args meth c cX11_said 4 RX11 G) (hr : meth.sig.returnType = (some .int)) (hT : m_Str κ) (hk_a : κ a = 12)  : ∀ (S : m_M) (t0 : Int32) (H : Heap) (locs : List Loc) (ls : Array Slot), m_H G nx κ S H → m_S G s H locs → lv_has ls 4 [] → b_X11_said_95 a S t0 = some res → W p l e rm_X11_said s m args below meth c H locs 0 0 (m_Qi below args s G nx κ res) (F0 m 95 ls [.int t0]) := by
  have hx := X.1.1
  have hb := X.1.2.1
  intro S t0 H locs ls hH hS hl hm
  rw [b_X11_said_95] at hm
  exact r_iret X hr hH hS hm dX11_said_95
def b_X11_said_24 (a : Nat)  : Nat → m_M → Int32 → Int32 → Int32 → Option (Int32 × m_M)
  | 0, _, _, _, _ => none
  | n + 1, S, l1, l2, l3 =>
    if (m_ri S (a + 56) 0) ≤ l3 then (
    if l1 = (-1 : Int32) then (
    b_X11_said_95 a S l2) else (
    b_X11_said_95 a S (-1 : Int32))) else (
    m_call (f_X7_holds (a + 79) (a + 48) (a + 70) S l3) fun v4 S3 =>
    if v4 = 0 then (
    b_X11_said_79 a (b_X11_said_24 a n) S3 l1 l2 l3) else (
    if l2 = l1 then (
    some (l3, S3)) else (
    m_let (l2 + (1 : Int32)) fun v7 =>
    b_X11_said_79 a (b_X11_said_24 a n) S3 l1 v7 l3)))
set_option maxHeartbeats 4000000 in
set_option maxRecDepth 100000 in
theorem k_X11_said_24 {p : Program} {l : Launch} {e : Env} {s : State} {m : MethodId} {args : Array Value} {below : List Frame} {meth : Method} {c : Code} {G : m_G} {nx : Nat} {κ : Nat → Nat} {res : (Int32 × m_M)} {a : Nat} (X : m_Cx p s m args meth c cX11_said 4 RX11 G) (hr : meth.sig.returnType = (some .int)) (hT : m_Str κ) (hk_a : κ a = 12)  (n : Nat) : ∀ (S : m_M) (l1 : Int32) (l2 : Int32) (l3 : Int32) (H : Heap) (locs : List Loc) (ls : Array Slot), m_H G nx κ S H → m_S G s H locs → lv_has ls 4 [(0, .ref a), (1, .int l1), (2, .int l2), (3, .int l3)] → b_X11_said_24 a n S l1 l2 l3 = some res → W p l e rm_X11_said s m args below meth c H locs 0 0 (m_Qi below args s G nx κ res) (F0 m 24 ls []) := by
  have hx := X.1.1
  have hb := X.1.2.1
  induction n with
  | zero => intro S l1 l2 l3 H locs ls hH hS hl hm; have hm : (none : Option (Int32 × m_M)) = some res := hm; cases hm
  | succ n ih =>
    intro S l1 l2 l3 H locs ls hH hS hl hm
    rw [b_X11_said_24] at hm
    refine lv_iload_n hx hb dX11_said_24 rfl (lv_at hl 3 rfl) ?_
    refine lv_aload_n hx hb dX11_said_25 rfl (lv_at hl 0 rfl) ?_
    refine r_getp X hH (k := 11) (a := a) (j := 6) (b := (a + 47)) (A := 47) (B := 0) hk_a (by decide) rfl m_wi11 (by decide) in_3_79 rfl rfl rfl dX11_said_26 ?_
    refine r_getp X hH (k := 10) (a := (a + 47)) (j := 0) (b := (a + 48)) (A := 1) (B := 0) (m_lay_at hT hk_a (by decide) (i := 47) rfl) (by decide) rfl m_wi10 (by decide) in_3_23 rfl rfl rfl dX11_said_29 ?_
    refine r_getp X hH (k := 3) (a := (a + 48)) (j := 9) (b := (a + 56)) (A := 8) (B := 0) (m_lay_at hT hk_a (by decide) (i := 48) rfl) (by decide) rfl m_wi3 (by decide) in_1_162 rfl rfl rfl dX11_said_32 ?_
    refine r_geti X hH (k := 6) (a := (a + 56)) (j := 0) (m_lay_at hT hk_a (by decide) (i := 56) rfl) (by decide) rfl m_wi6 (by decide) in_1_54 rfl rfl dX11_said_35 ?_
    refine lv_icmp_ge (tgt := 85) hx hb dX11_said_38 (by decide) (fun c1 => ?_) (fun c1 => ?_)
    · have hm := m_ite_t hm c1
      refine lv_iload_n hx hb dX11_said_85 rfl (lv_at hl 1 rfl) ?_
      refine lv_iconst (v := (-1 : Int32)) hx hb dX11_said_86 (by decide) ?_
      refine lv_icmp_ne (tgt := 94) hx hb dX11_said_87 (by decide) (fun c2 => ?_) (fun c2 => ?_)
      · have hm := m_ite_f hm c2
        refine lv_iconst (v := (-1 : Int32)) hx hb dX11_said_94 (by decide) ?_
        exact k_X11_said_95 (a := a) X hr hT hk_a   S (-1 : Int32) _ _ _ hH hS (lv_sub hl [] rfl) hm
      · have hm := m_ite_t hm c2
        refine lv_iload_n hx hb dX11_said_90 rfl (lv_at hl 2 rfl) ?_
        refine lv_goto (tgt := 95) hx hb dX11_said_91 (by decide) ?_
        exact k_X11_said_95 (a := a) X hr hT hk_a   S l2 _ _ _ hH hS (lv_sub hl [] rfl) hm
    · have hm := m_ite_f hm c1
      refine lv_aload_n hx hb dX11_said_41 rfl (lv_at hl 0 rfl) ?_
      refine r_getp X hH (k := 11) (a := a) (j := 6) (b := (a + 47)) (A := 47) (B := 0) hk_a (by decide) rfl m_wi11 (by decide) in_3_79 rfl rfl rfl dX11_said_42 ?_
      refine r_getp X hH (k := 10) (a := (a + 47)) (j := 2) (b := (a + 79)) (A := 32) (B := 0) (m_lay_at hT hk_a (by decide) (i := 47) rfl) (by decide) rfl m_wi10 (by decide) in_3_27 rfl rfl rfl dX11_said_45 ?_
      refine lv_iload_n hx hb dX11_said_48 rfl (lv_at hl 3 rfl) ?_
      refine lv_aload_n hx hb dX11_said_49 rfl (lv_at hl 0 rfl) ?_
      refine r_getp X hH (k := 11) (a := a) (j := 6) (b := (a + 47)) (A := 47) (B := 0) hk_a (by decide) rfl m_wi11 (by decide) in_3_79 rfl rfl rfl dX11_said_50 ?_
      refine r_getp X hH (k := 10) (a := (a + 47)) (j := 0) (b := (a + 48)) (A := 1) (B := 0) (m_lay_at hT hk_a (by decide) (i := 47) rfl) (by decide) rfl m_wi10 (by decide) in_3_23 rfl rfl rfl dX11_said_53 ?_
      refine lv_aload_n hx hb dX11_said_56 rfl (lv_at hl 0 rfl) ?_
      refine r_getp X hH (k := 11) (a := a) (j := 6) (b := (a + 47)) (A := 47) (B := 0) hk_a (by decide) rfl m_wi11 (by decide) in_3_79 rfl rfl rfl dX11_said_57 ?_
      refine r_getp X hH (k := 10) (a := (a + 47)) (j := 1) (b := (a + 70)) (A := 23) (B := 0) (m_lay_at hT hk_a (by decide) (i := 47) rfl) (by decide) rfl m_wi10 (by decide) in_3_25 rfl rfl rfl dX11_said_60 ?_
      obtain ⟨v4, S3, e_S3, hm⟩ := m_call_of hm
      refine n_cVi X hH hS (k := 7) (c_X7_holds (a := (a + 79)) (o2 := (a + 48)) (o3 := (a + 70)) hT (m_lay_at hT hk_a (by decide) (i := 79) rfl) (m_lay_at hT hk_a (by decide) (i := 48) rfl) (m_lay_at hT hk_a (by decide) (i := 70) rfl) e_S3) mw_X7_holds in_6_24 (m_lay_at hT hk_a (by decide) (i := 79) rfl) (by decide) rfl rfl rfl ⟨rfl, rfl⟩ ⟨Nat.le_of_ble_eq_true rfl, Nat.le_of_ble_eq_true rfl⟩ ⟨Nat.zero_le _, Nat.zero_le _⟩ hl.1 (Nat.le_of_ble_eq_true rfl) dX11_said_63 (fun H locs hH hS => ?_)
      refine lv_if_eq (tgt := 79) hx hb dX11_said_66 (by decide) (fun c5 => ?_) (fun c5 => ?_)
      · have hm := m_ite_t hm c5
        exact k_X11_said_79 (a := a) X hr hT hk_a (b_X11_said_24 a n) ih  S3 l1 l2 l3 _ _ _ hH hS hl hm
      · have hm := m_ite_f hm c5
        refine lv_iload_n hx hb dX11_said_69 rfl (lv_at hl 2 rfl) ?_
        refine lv_iload_n hx hb dX11_said_70 rfl (lv_at hl 1 rfl) ?_
        refine lv_icmp_ne (tgt := 76) hx hb dX11_said_71 (by decide) (fun c6 => ?_) (fun c6 => ?_)
        · have hm := m_ite_f hm c6
          obtain ⟨v7, e_v7, hm⟩ := m_let_of hm
          refine lv_iinc (v := v7) (lv' := [(2, .int v7), (0, .ref a), (1, .int l1), (3, .int l3)]) hx hb dX11_said_76 hl (k := 2) rfl (by rw [← e_v7]; rfl) (by decide) rfl (fun ls hl => ?_)
          exact k_X11_said_79 (a := a) X hr hT hk_a (b_X11_said_24 a n) ih  S3 l1 v7 l3 _ _ _ hH hS (lv_sub hl [1, 2, 0, 3] rfl) hm
        · have hm := m_ite_t hm c6
          refine lv_iload_n hx hb dX11_said_74 rfl (lv_at hl 3 rfl) ?_
          exact r_iret X hr hH hS hm dX11_said_75
def f_X11_said (a : Nat) (S : m_M) (i1 : Int32) : Option (Int32 × m_M) :=
    if (m_ri S (a + 79) 0) = 0 then (
    b_X11_said_18 a S) else (
    if (-1 : Int32) ≤ i1 then (
    b_X11_said_24 a m_fu S i1 (0 : Int32) (0 : Int32)) else (
    b_X11_said_18 a S))
set_option maxHeartbeats 4000000 in
set_option maxRecDepth 100000 in
theorem c_X11_said {l : Launch} {G : m_G} {nx : Nat} {κ : Nat → Nat} {a : Nat} {S : m_M} {i1 : Int32} {res : (Int32 × m_M)} (hT : m_Str κ) (hk_a : κ a = 12) (hm : f_X11_said a S i1 = some res) : m_Ci l yX11_said cX11_said 4 (some .int) rm_X11_said G nx κ [.ref a, .int i1] S res := by
  refine m_Ci.of (by decide) (Nat.le_of_ble_eq_true rfl) ?_
  intro p e s m args below meth c ls X hr hH hl
  have hx := X.1.1
  have hb := X.1.2.1
  have hS : m_S G s s.heap [] := va_S.rf
  have hl : lv_has ls 4 [(0, .ref a), (1, .int i1)] := hl
  rw [f_X11_said] at hm
  refine lv_aload_n hx hb dX11_said_0 rfl (lv_at hl 0 rfl) ?_
  refine r_getp X hH (k := 11) (a := a) (j := 6) (b := (a + 47)) (A := 47) (B := 0) hk_a (by decide) rfl m_wi11 (by decide) in_3_79 rfl rfl rfl dX11_said_1 ?_
  refine r_getp X hH (k := 10) (a := (a + 47)) (j := 2) (b := (a + 79)) (A := 32) (B := 0) (m_lay_at hT hk_a (by decide) (i := 47) rfl) (by decide) rfl m_wi10 (by decide) in_3_27 rfl rfl rfl dX11_said_4 ?_
  refine r_geti X hH (k := 7) (a := (a + 79)) (j := 0) (m_lay_at hT hk_a (by decide) (i := 79) rfl) (by decide) rfl m_wi7 (by decide) in_2_101 rfl rfl dX11_said_7 ?_
  refine lv_if_eq (tgt := 18) hx hb dX11_said_10 (by decide) (fun c1 => ?_) (fun c1 => ?_)
  · have hm := m_ite_t hm c1
    exact k_X11_said_18 (a := a) X hr hT hk_a   S _ _ _ hH hS (lv_sub hl [] rfl) hm
  · have hm := m_ite_f hm c1
    refine lv_iload_n hx hb dX11_said_13 rfl (lv_at hl 1 rfl) ?_
    refine lv_iconst (v := (-1 : Int32)) hx hb dX11_said_14 (by decide) ?_
    refine lv_icmp_ge (tgt := 20) hx hb dX11_said_15 (by decide) (fun c2 => ?_) (fun c2 => ?_)
    · have hm := m_ite_t hm c2
      refine lv_iconst (v := (0 : Int32)) hx hb dX11_said_20 (by decide) ?_
      refine lv_istore_n (lv' := [(2, .int (0 : Int32)), (0, .ref a), (1, .int i1)]) hx hb dX11_said_21 rfl hl (by decide) rfl (fun ls hl => ?_)
      refine lv_iconst (v := (0 : Int32)) hx hb dX11_said_22 (by decide) ?_
      refine lv_istore_n (lv' := [(3, .int (0 : Int32)), (2, .int (0 : Int32)), (0, .ref a), (1, .int i1)]) hx hb dX11_said_23 rfl hl (by decide) rfl (fun ls hl => ?_)
      exact k_X11_said_24 (a := a) X hr hT hk_a  m_fu S i1 (0 : Int32) (0 : Int32) _ _ _ hH hS (lv_sub hl [2, 3, 1, 0] rfl) hm
    · have hm := m_ite_f hm c2
      exact k_X11_said_18 (a := a) X hr hT hk_a   S _ _ _ hH hS (lv_sub hl [] rfl) hm
def rm_X11_restore : Room := { frames := 4, cells := 0, slots := 0, locals := 123 }
def b_X11_restore_18 (a : Nat)  (S : m_M)  : Option (Int32 × m_M) :=
    if (0 : Int32) = 0 ∨ (0 : Int32) = 1 then some ((0 : Int32), S) else none
set_option maxHeartbeats 4000000 in
set_option maxRecDepth 100000 in
theorem k_X11_restore_18 {p : Program} {l : Launch} {e : Env} {s : State} {m : MethodId} {args : Array Value} {below : List Frame} {meth : Method} {c : Code} {G : m_G} {nx : Nat} {κ : Nat → Nat} {res : (Int32 × m_M)} {a : Nat} (X : m_Cx p s m args meth c cX11_restore 2 RX11 G) (hr : meth.sig.returnType = (some .boolean)) (hT : m_Str κ) (hk_a : κ a = 12)  : ∀ (S : m_M)  (H : Heap) (locs : List Loc) (ls : Array Slot), m_H G nx κ S H → m_S G s H locs → lv_has ls 2 [] → b_X11_restore_18 a S  = some res → W p l e rm_X11_restore s m args below meth c H locs 0 0 (m_Qi below args s G nx κ res) (F0 m 18 ls []) := by
  have hx := X.1.1
  have hb := X.1.2.1
  intro S H locs ls hH hS hl hm
  rw [b_X11_restore_18] at hm
  refine lv_iconst (v := (0 : Int32)) hx hb dX11_restore_18 (by decide) ?_
  exact r_zret X hr hH hS hm dX11_restore_19
def f_X11_restore (a : Nat) (S : m_M) (i1 : Int32) : Option (Int32 × m_M) :=
    if i1 < 0 then (
    b_X11_restore_18 a S) else (
    if (2 : Int32) ≤ i1 then (
    b_X11_restore_18 a S) else (
    (m_ldr S (a + 98) 2 i1).bind fun v3 =>
    if v3 = none then (
    b_X11_restore_18 a S) else (
    (m_ldr S (a + 98) 2 i1).bind fun v5 =>
    v5.bind fun b6 =>
    m_cal0 (f_X10_copyFrom (a + 47) b6 S) fun S7 =>
    m_cal0 (f_X0_clear (a + 96) S7) fun S8 =>
    if (1 : Int32) = 0 ∨ (1 : Int32) = 1 then some ((1 : Int32), S8) else none)))
set_option maxHeartbeats 4000000 in
set_option maxRecDepth 100000 in
theorem c_X11_restore {l : Launch} {G : m_G} {nx : Nat} {κ : Nat → Nat} {a : Nat} {S : m_M} {i1 : Int32} {res : (Int32 × m_M)} (hT : m_Str κ) (hk_a : κ a = 12) (hm : f_X11_restore a S i1 = some res) : m_Ci l yX11_restore cX11_restore 2 (some .boolean) rm_X11_restore G nx κ [.ref a, .int i1] S res := by
  refine m_Ci.of (by decide) (Nat.le_of_ble_eq_true rfl) ?_
  intro p e s m args below meth c ls X hr hH hl
  have hx := X.1.1
  have hb := X.1.2.1
  have hS : m_S G s s.heap [] := va_S.rf
  have hl : lv_has ls 2 [(0, .ref a), (1, .int i1)] := hl
  rw [f_X11_restore] at hm
  refine lv_iload_n hx hb dX11_restore_0 rfl (lv_at hl 1 rfl) ?_
  refine lv_if_lt (tgt := 18) hx hb dX11_restore_1 (by decide) (fun c1 => ?_) (fun c1 => ?_)
  · have hm := m_ite_t hm c1
    exact k_X11_restore_18 (a := a) X hr hT hk_a   S _ _ _ hH hS (lv_sub hl [] rfl) hm
  · have hm := m_ite_f hm c1
    refine lv_iload_n hx hb dX11_restore_4 rfl (lv_at hl 1 rfl) ?_
    refine lv_iconst (v := (2 : Int32)) hx hb dX11_restore_5 (by decide) ?_
    refine lv_icmp_ge (tgt := 18) hx hb dX11_restore_6 (by decide) (fun c2 => ?_) (fun c2 => ?_)
    · have hm := m_ite_t hm c2
      exact k_X11_restore_18 (a := a) X hr hT hk_a   S _ _ _ hH hS (lv_sub hl [] rfl) hm
    · have hm := m_ite_f hm c2
      refine lv_aload_n hx hb dX11_restore_9 rfl (lv_at hl 0 rfl) ?_
      refine r_getp X hH (k := 11) (a := a) (j := 10) (b := (a + 98)) (A := 98) (B := 0) hk_a (by decide) rfl m_wi11 (by decide) in_3_83 rfl rfl rfl dX11_restore_10 ?_
      refine lv_iload_n hx hb dX11_restore_13 rfl (lv_at hl 1 rfl) ?_
      obtain ⟨v3, h_v3, e_v3, hm⟩ := n_ldr hm
      refine n_aald X hH (t := 5) (n := 2) (m_lay_at hT hk_a (by decide) (i := 98) rfl) (by decide) h_v3 e_v3 dX11_restore_14 ?_
      refine n_ifnn (tgt := 20) hx hb dX11_restore_15 (by decide) (fun c4 => ?_) (fun c4 => ?_)
      · have hm := m_ite_f hm c4
        refine lv_aload_n hx hb dX11_restore_20 rfl (lv_at hl 0 rfl) ?_
        refine r_getp X hH (k := 11) (a := a) (j := 6) (b := (a + 47)) (A := 47) (B := 0) hk_a (by decide) rfl m_wi11 (by decide) in_3_79 rfl rfl rfl dX11_restore_21 ?_
        refine lv_aload_n hx hb dX11_restore_24 rfl (lv_at hl 0 rfl) ?_
        refine r_getp X hH (k := 11) (a := a) (j := 10) (b := (a + 98)) (A := 98) (B := 0) hk_a (by decide) rfl m_wi11 (by decide) in_3_83 rfl rfl rfl dX11_restore_25 ?_
        refine lv_iload_n hx hb dX11_restore_28 rfl (lv_at hl 1 rfl) ?_
        obtain ⟨v5, h_v5, e_v5, hm⟩ := n_ldr hm
        obtain ⟨b6, e_b6, hm⟩ := m_bind_of hm
        subst e_b6
        refine n_aald X hH (t := 5) (n := 2) (v := some b6) (m_lay_at hT hk_a (by decide) (i := 98) rfl) (by decide) h_v5 e_v5 dX11_restore_29 ?_
        have hk_b6 : κ b6 = 11 := m_kel hH (t := 5) (n := 2) (m_lay_at hT hk_a (by decide) (i := 98) rfl) (by decide) e_v5
        obtain ⟨S7, e_S7, hm⟩ := m_cal0_of hm
        refine r_cVv X hH hS (k := 10) (c_X10_copyFrom (a := (a + 47)) (o1 := b6) hT (m_lay_at hT hk_a (by decide) (i := 47) rfl) hk_b6 e_S7) mw_X10_copyFrom in_6_43 (m_lay_at hT hk_a (by decide) (i := 47) rfl) (by decide) rfl rfl rfl ⟨rfl, rfl⟩ ⟨Nat.le_of_ble_eq_true rfl, Nat.le_of_ble_eq_true rfl⟩ ⟨Nat.zero_le _, Nat.zero_le _⟩ hl.1 (Nat.le_of_ble_eq_true rfl) dX11_restore_30 (fun H locs hH hS => ?_)
        refine lv_aload_n hx hb dX11_restore_33 rfl (lv_at hl 0 rfl) ?_
        refine r_getp X hH (k := 11) (a := a) (j := 9) (b := (a + 96)) (A := 96) (B := 0) hk_a (by decide) rfl m_wi11 (by decide) in_3_82 rfl rfl rfl dX11_restore_34 ?_
        obtain ⟨S8, e_S8, hm⟩ := m_cal0_of hm
        refine r_cVv X hH hS (k := 0) (c_X0_clear (a := (a + 96)) hT (m_lay_at hT hk_a (by decide) (i := 96) rfl) e_S8) mw_X0_clear in_4_164 (m_lay_at hT hk_a (by decide) (i := 96) rfl) (by decide) rfl rfl rfl ⟨rfl, rfl⟩ ⟨Nat.le_of_ble_eq_true rfl, Nat.le_of_ble_eq_true rfl⟩ ⟨Nat.zero_le _, Nat.zero_le _⟩ hl.1 (Nat.le_of_ble_eq_true rfl) dX11_restore_37 (fun H locs hH hS => ?_)
        refine lv_iconst (v := (1 : Int32)) hx hb dX11_restore_40 (by decide) ?_
        exact r_zret X hr hH hS hm dX11_restore_41
      · have hm := m_ite_t hm c4
        exact k_X11_restore_18 (a := a) X hr hT hk_a   S _ _ _ hH hS (lv_sub hl [] rfl) hm
def rm_X11_count : Room := { frames := 1, cells := 0, slots := 0, locals := 20 }
def f_X11_count (a : Nat) (S : m_M) (i1 : Int32) : Option (Int32 × m_M) :=
    if i1 = (0 : Int32) then (
    some ((m_ri S (a + 48) 0), S)) else (
    if i1 = (1 : Int32) then (
    some ((m_ri S (a + 48) 1), S)) else (
    if i1 = (2 : Int32) then (
    some ((m_ri S (a + 56) 0), S)) else (
    if i1 = (3 : Int32) then (
    m_call (f_J6_bitCount_0f7a4 S (m_ri S (a + 56) 1)) fun v6 S5 =>
    some (v6, S5)) else (
    if i1 = (4 : Int32) then (
    some ((m_ri S a 1), S)) else (
    some ((-1 : Int32), S))))))
set_option maxHeartbeats 4000000 in
set_option maxRecDepth 100000 in
theorem c_X11_count {l : Launch} {G : m_G} {nx : Nat} {κ : Nat → Nat} {a : Nat} {S : m_M} {i1 : Int32} {res : (Int32 × m_M)} (hT : m_Str κ) (hk_a : κ a = 12) (hm : f_X11_count a S i1 = some res) : m_Ci l yX11_count cX11_count 2 (some .int) rm_X11_count G nx κ [.ref a, .int i1] S res := by
  refine m_Ci.of (by decide) (Nat.le_of_ble_eq_true rfl) ?_
  intro p e s m args below meth c ls X hr hH hl
  have hx := X.1.1
  have hb := X.1.2.1
  have hS : m_S G s s.heap [] := va_S.rf
  have hl : lv_has ls 2 [(0, .ref a), (1, .int i1)] := hl
  rw [f_X11_count] at hm
  refine lv_iload_n hx hb dX11_count_0 rfl (lv_at hl 1 rfl) ?_
  by_cases c1 : i1 = (0 : Int32)
  · have hm := m_ite_t hm c1
    refine lv_tableIn (off := 35) (tgt := 36) hx hb dX11_count_1 (by rw [c1]; decide) (by rw [c1]; decide) (by rw [c1]; rfl) (by decide) ?_
    refine lv_aload_n hx hb dX11_count_36 rfl (lv_at hl 0 rfl) ?_
    refine r_getp X hH (k := 11) (a := a) (j := 6) (b := (a + 47)) (A := 47) (B := 0) hk_a (by decide) rfl m_wi11 (by decide) in_3_79 rfl rfl rfl dX11_count_37 ?_
    refine r_getp X hH (k := 10) (a := (a + 47)) (j := 0) (b := (a + 48)) (A := 1) (B := 0) (m_lay_at hT hk_a (by decide) (i := 47) rfl) (by decide) rfl m_wi10 (by decide) in_3_23 rfl rfl rfl dX11_count_40 ?_
    refine r_geti X hH (k := 3) (a := (a + 48)) (j := 0) (m_lay_at hT hk_a (by decide) (i := 48) rfl) (by decide) rfl m_wi3 (by decide) in_1_126 rfl rfl dX11_count_43 ?_
    exact r_iret X hr hH hS hm dX11_count_46
  · have hm := m_ite_f hm c1
    by_cases c2 : i1 = (1 : Int32)
    · have hm := m_ite_t hm c2
      refine lv_tableIn (off := 46) (tgt := 47) hx hb dX11_count_1 (by rw [c2]; decide) (by rw [c2]; decide) (by rw [c2]; rfl) (by decide) ?_
      refine lv_aload_n hx hb dX11_count_47 rfl (lv_at hl 0 rfl) ?_
      refine r_getp X hH (k := 11) (a := a) (j := 6) (b := (a + 47)) (A := 47) (B := 0) hk_a (by decide) rfl m_wi11 (by decide) in_3_79 rfl rfl rfl dX11_count_48 ?_
      refine r_getp X hH (k := 10) (a := (a + 47)) (j := 0) (b := (a + 48)) (A := 1) (B := 0) (m_lay_at hT hk_a (by decide) (i := 47) rfl) (by decide) rfl m_wi10 (by decide) in_3_23 rfl rfl rfl dX11_count_51 ?_
      refine r_geti X hH (k := 3) (a := (a + 48)) (j := 1) (m_lay_at hT hk_a (by decide) (i := 48) rfl) (by decide) rfl m_wi3 (by decide) in_1_130 rfl rfl dX11_count_54 ?_
      exact r_iret X hr hH hS hm dX11_count_57
    · have hm := m_ite_f hm c2
      by_cases c3 : i1 = (2 : Int32)
      · have hm := m_ite_t hm c3
        refine lv_tableIn (off := 57) (tgt := 58) hx hb dX11_count_1 (by rw [c3]; decide) (by rw [c3]; decide) (by rw [c3]; rfl) (by decide) ?_
        refine lv_aload_n hx hb dX11_count_58 rfl (lv_at hl 0 rfl) ?_
        refine r_getp X hH (k := 11) (a := a) (j := 6) (b := (a + 47)) (A := 47) (B := 0) hk_a (by decide) rfl m_wi11 (by decide) in_3_79 rfl rfl rfl dX11_count_59 ?_
        refine r_getp X hH (k := 10) (a := (a + 47)) (j := 0) (b := (a + 48)) (A := 1) (B := 0) (m_lay_at hT hk_a (by decide) (i := 47) rfl) (by decide) rfl m_wi10 (by decide) in_3_23 rfl rfl rfl dX11_count_62 ?_
        refine r_getp X hH (k := 3) (a := (a + 48)) (j := 9) (b := (a + 56)) (A := 8) (B := 0) (m_lay_at hT hk_a (by decide) (i := 48) rfl) (by decide) rfl m_wi3 (by decide) in_1_162 rfl rfl rfl dX11_count_65 ?_
        refine r_geti X hH (k := 6) (a := (a + 56)) (j := 0) (m_lay_at hT hk_a (by decide) (i := 56) rfl) (by decide) rfl m_wi6 (by decide) in_1_54 rfl rfl dX11_count_68 ?_
        exact r_iret X hr hH hS hm dX11_count_71
      · have hm := m_ite_f hm c3
        by_cases c4 : i1 = (3 : Int32)
        · have hm := m_ite_t hm c4
          refine lv_tableIn (off := 71) (tgt := 72) hx hb dX11_count_1 (by rw [c4]; decide) (by rw [c4]; decide) (by rw [c4]; rfl) (by decide) ?_
          refine lv_aload_n hx hb dX11_count_72 rfl (lv_at hl 0 rfl) ?_
          refine r_getp X hH (k := 11) (a := a) (j := 6) (b := (a + 47)) (A := 47) (B := 0) hk_a (by decide) rfl m_wi11 (by decide) in_3_79 rfl rfl rfl dX11_count_73 ?_
          refine r_getp X hH (k := 10) (a := (a + 47)) (j := 0) (b := (a + 48)) (A := 1) (B := 0) (m_lay_at hT hk_a (by decide) (i := 47) rfl) (by decide) rfl m_wi10 (by decide) in_3_23 rfl rfl rfl dX11_count_76 ?_
          refine r_getp X hH (k := 3) (a := (a + 48)) (j := 9) (b := (a + 56)) (A := 8) (B := 0) (m_lay_at hT hk_a (by decide) (i := 48) rfl) (by decide) rfl m_wi3 (by decide) in_1_162 rfl rfl rfl dX11_count_79 ?_
          refine r_geti X hH (k := 6) (a := (a + 56)) (j := 1) (m_lay_at hT hk_a (by decide) (i := 56) rfl) (by decide) rfl m_wi6 (by decide) in_1_56 rfl rfl dX11_count_82 ?_
          obtain ⟨v6, S5, e_S5, hm⟩ := m_call_of hm
          refine n_cSi X hH hS (c_J6_bitCount_0f7a4  hT  e_S5) mw_J6_bitCount_0f7a4 in_6_58 rfl ⟨rfl, rfl⟩ ⟨Nat.le_of_ble_eq_true rfl, Nat.le_of_ble_eq_true rfl⟩ ⟨Nat.zero_le _, Nat.zero_le _⟩ hl.1 (Nat.le_of_ble_eq_true rfl) dX11_count_85 (fun H locs hH hS => ?_)
          exact r_iret X hr hH hS hm dX11_count_88
        · have hm := m_ite_f hm c4
          by_cases c7 : i1 = (4 : Int32)
          · have hm := m_ite_t hm c7
            refine lv_tableIn (off := 88) (tgt := 89) hx hb dX11_count_1 (by rw [c7]; decide) (by rw [c7]; decide) (by rw [c7]; rfl) (by decide) ?_
            refine lv_aload_n hx hb dX11_count_89 rfl (lv_at hl 0 rfl) ?_
            refine r_geti X hH (k := 11) (a := a) (j := 1) hk_a (by decide) rfl m_wi11 (by decide) in_3_74 rfl rfl dX11_count_90 ?_
            exact r_iret X hr hH hS hm dX11_count_93
          · have hm := m_ite_f hm c7
            refine lv_tableOut (tgt := 94) hx hb dX11_count_1 (by have h_c1 := lv_neT (a := 0) c1 rfl; have h_c2 := lv_neT (a := 1) c2 rfl; have h_c3 := lv_neT (a := 2) c3 rfl; have h_c4 := lv_neT (a := 3) c4 rfl; have h_c7 := lv_neT (a := 4) c7 rfl; omega) (by decide) ?_
            refine lv_iconst (v := (-1 : Int32)) hx hb dX11_count_94 (by decide) ?_
            exact r_iret X hr hH hS hm dX11_count_95
def rm_X12_thrown : Room := { frames := 0, cells := 0, slots := 0, locals := 0 }
def f_X12_thrown (a : Nat) (S : m_M)  : Option (Int32 × m_M) :=
    some ((m_ri S a 0), S)
set_option maxHeartbeats 4000000 in
set_option maxRecDepth 100000 in
theorem c_X12_thrown {l : Launch} {G : m_G} {nx : Nat} {κ : Nat → Nat} {a : Nat} {S : m_M}  {res : (Int32 × m_M)} (hT : m_Str κ) (hk_a : κ a = 13) (hm : f_X12_thrown a S = some res) : m_Ci l yX12_thrown cX12_thrown 1 (some .int) rm_X12_thrown G nx κ [.ref a] S res := by
  refine m_Ci.of (by decide) (Nat.le_of_ble_eq_true rfl) ?_
  intro p e s m args below meth c ls X hr hH hl
  have hx := X.1.1
  have hb := X.1.2.1
  have hS : m_S G s s.heap [] := va_S.rf
  have hl : lv_has ls 1 [(0, .ref a)] := hl
  rw [f_X12_thrown] at hm
  refine lv_aload_n hx hb dX12_thrown_0 rfl (lv_at hl 0 rfl) ?_
  refine r_geti X hH (k := 12) (a := a) (j := 0) hk_a (by decide) rfl m_wi12 (by decide) in_7_15 rfl rfl dX12_thrown_1 ?_
  exact r_iret X hr hH hS hm dX12_thrown_4
def rm_X12_refuse : Room := { frames := 0, cells := 0, slots := 0, locals := 0 }
def f_X12_refuse (a : Nat) (S : m_M)  : Option (Int32 × m_M) :=
    m_let (m_si S a 0 (1 : Int32)) fun S1 =>
    some ((0 : Int32), S1)
set_option maxHeartbeats 4000000 in
set_option maxRecDepth 100000 in
theorem c_X12_refuse {l : Launch} {G : m_G} {nx : Nat} {κ : Nat → Nat} {a : Nat} {S : m_M}  {res : (Int32 × m_M)} (hT : m_Str κ) (hk_a : κ a = 13) (hm : f_X12_refuse a S = some res) : m_Ci l yX12_refuse cX12_refuse 1 (some .int) rm_X12_refuse G nx κ [.ref a] S res := by
  refine m_Ci.of (by decide) (Nat.le_of_ble_eq_true rfl) ?_
  intro p e s m args below meth c ls X hr hH hl
  have hx := X.1.1
  have hb := X.1.2.1
  have hS : m_S G s s.heap [] := va_S.rf
  have hl : lv_has ls 1 [(0, .ref a)] := hl
  rw [f_X12_refuse] at hm
  refine lv_aload_n hx hb dX12_refuse_0 rfl (lv_at hl 0 rfl) ?_
  refine lv_iconst (v := (1 : Int32)) hx hb dX12_refuse_1 (by decide) ?_
  obtain ⟨S1, e_S1, hm⟩ := m_let_of hm
  refine n_puti X hH hS tyX12 (k := 12) (a := a) (j := 0) hk_a (by decide) rfl m_wi12 tyX12_ok nmX12 (by decide) in_7_15 rfl rfl rfl ⟨rfl, rfl⟩ e_S1 dX12_refuse_2 (fun H locs hH hS => ?_)
  refine lv_iconst (v := (0 : Int32)) hx hb dX12_refuse_5 (by decide) ?_
  exact r_iret X hr hH hS hm dX12_refuse_6
def rm_X12_come : Room := { frames := 0, cells := 0, slots := 0, locals := 0 }
def b_X12_come_3 (a : Nat)  : Nat → m_M → Int32 → Int32 → Option m_M
  | 0, _, _, _ => none
  | n + 1, S, l1, l2 =>
    if l2 < 0 then (
    some S) else (
    (m_sti S (a + 1) 940 (m_ri S a 2) ((l1.toUInt32 >>> (l2.toUInt32 &&& Int32.toUInt32 31)).toInt32 &&& (255 : Int32))).bind fun S2 =>
    m_let (m_si S2 a 2 ((m_ri S2 a 2) + (1 : Int32))) fun S3 =>
    m_let (l2 + (-8 : Int32)) fun v4 =>
    b_X12_come_3 a n S3 l1 v4)
set_option maxHeartbeats 4000000 in
set_option maxRecDepth 100000 in
theorem k_X12_come_3 {p : Program} {l : Launch} {e : Env} {s : State} {m : MethodId} {args : Array Value} {below : List Frame} {meth : Method} {c : Code} {G : m_G} {nx : Nat} {κ : Nat → Nat} {res : m_M} {a : Nat} (X : m_Cx p s m args meth c cX12_come 3 RX12 G) (hr : meth.sig.returnType = none) (hT : m_Str κ) (hk_a : κ a = 13)  (n : Nat) : ∀ (S : m_M) (l1 : Int32) (l2 : Int32) (H : Heap) (locs : List Loc) (ls : Array Slot), m_H G nx κ S H → m_S G s H locs → lv_has ls 3 [(0, .ref a), (1, .int l1), (2, .int l2)] → b_X12_come_3 a n S l1 l2 = some res → W p l e rm_X12_come s m args below meth c H locs 0 0 (m_Qv below args s G nx κ res) (F0 m 3 ls []) := by
  have hx := X.1.1
  have hb := X.1.2.1
  induction n with
  | zero => intro S l1 l2 H locs ls hH hS hl hm; have hm : (none : Option m_M) = some res := hm; cases hm
  | succ n ih =>
    intro S l1 l2 H locs ls hH hS hl hm
    rw [b_X12_come_3] at hm
    refine lv_iload_n hx hb dX12_come_3 rfl (lv_at hl 2 rfl) ?_
    refine lv_if_lt (tgt := 39) hx hb dX12_come_4 (by decide) (fun c1 => ?_) (fun c1 => ?_)
    · have hm := m_ite_t hm c1
      exact r_vret X hr hH hS hm dX12_come_39
    · have hm := m_ite_f hm c1
      refine lv_aload_n hx hb dX12_come_7 rfl (lv_at hl 0 rfl) ?_
      refine r_getp X hH (k := 12) (a := a) (j := 1) (b := (a + 1)) (A := 1) (B := 0) hk_a (by decide) rfl m_wi12 (by decide) in_7_16 rfl rfl rfl dX12_come_8 ?_
      refine lv_aload_n hx hb dX12_come_11 rfl (lv_at hl 0 rfl) ?_
      refine r_geti X hH (k := 12) (a := a) (j := 2) hk_a (by decide) rfl m_wi12 (by decide) in_7_17 rfl rfl dX12_come_12 ?_
      refine lv_iload_n hx hb dX12_come_15 rfl (lv_at hl 1 rfl) ?_
      refine lv_iload_n hx hb dX12_come_16 rfl (lv_at hl 2 rfl) ?_
      refine lv_iushr hx hb dX12_come_17 rfl ?_
      refine lv_sipush (v := (255 : Int32)) hx hb dX12_come_18 (by decide) ?_
      refine lv_iand hx hb dX12_come_21 ?_
      obtain ⟨S2, h_S2, e_S2, hm⟩ := n_sti hm
      refine n_iast X hH hS (n := 940) (m_lay_at hT hk_a (by decide) (i := 1) rfl) h_S2 e_S2 dX12_come_22 (fun H locs hH hS => ?_)
      refine lv_aload_n hx hb dX12_come_23 rfl (lv_at hl 0 rfl) ?_
      refine lv_dup hx hb dX12_come_24 rfl ?_
      refine r_geti X hH (k := 12) (a := a) (j := 2) hk_a (by decide) rfl m_wi12 (by decide) in_7_17 rfl rfl dX12_come_25 ?_
      refine lv_iconst (v := (1 : Int32)) hx hb dX12_come_28 (by decide) ?_
      refine lv_iadd hx hb dX12_come_29 ?_
      obtain ⟨S3, e_S3, hm⟩ := m_let_of hm
      refine n_puti X hH hS tyX12 (k := 12) (a := a) (j := 2) hk_a (by decide) rfl m_wi12 tyX12_ok nmX12 (by decide) in_7_17 rfl rfl rfl ⟨rfl, rfl⟩ e_S3 dX12_come_30 (fun H locs hH hS => ?_)
      obtain ⟨v4, e_v4, hm⟩ := m_let_of hm
      refine lv_iinc (v := v4) (lv' := [(2, .int v4), (0, .ref a), (1, .int l1)]) hx hb dX12_come_33 hl (k := 2) rfl (by rw [← e_v4]; rfl) (by decide) rfl (fun ls hl => ?_)
      refine lv_goto (tgt := 3) hx hb dX12_come_36 (by decide) ?_
      exact ih S3 l1 v4 _ _ _ hH hS (lv_sub hl [1, 2, 0] rfl) hm
def f_X12_come (a : Nat) (S : m_M) (i1 : Int32) : Option m_M :=
    b_X12_come_3 a m_fu S i1 (24 : Int32)
set_option maxHeartbeats 4000000 in
set_option maxRecDepth 100000 in
theorem c_X12_come {l : Launch} {G : m_G} {nx : Nat} {κ : Nat → Nat} {a : Nat} {S : m_M} {i1 : Int32} {res : m_M} (hT : m_Str κ) (hk_a : κ a = 13) (hm : f_X12_come a S i1 = some res) : m_Cv l yX12_come cX12_come 3 rm_X12_come G nx κ [.ref a, .int i1] S res := by
  refine m_Cv.of (by decide) (Nat.le_of_ble_eq_true rfl) ?_
  intro p e s m args below meth c ls X hr hH hl
  have hx := X.1.1
  have hb := X.1.2.1
  have hS : m_S G s s.heap [] := va_S.rf
  have hl : lv_has ls 3 [(0, .ref a), (1, .int i1)] := hl
  rw [f_X12_come] at hm
  refine lv_bipush (v := (24 : Int32)) hx hb dX12_come_0 (by decide) ?_
  refine lv_istore_n (lv' := [(2, .int (24 : Int32)), (0, .ref a), (1, .int i1)]) hx hb dX12_come_2 rfl hl (by decide) rfl (fun ls hl => ?_)
  exact k_X12_come_3 (a := a) X hr hT hk_a  m_fu S i1 (24 : Int32) _ _ _ hH hS (lv_sub hl [1, 2, 0] rfl) hm
def rm_X12_feed : Room := { frames := 1, cells := 0, slots := 0, locals := 22 }
def f_X12_feed (a : Nat) (S : m_M) (i1 : Int32) (i2 : Int32) (i3 : Int32) (i4 : Int32) (i5 : Int32) : Option (Int32 × m_M) :=
    m_let (m_si S a 0 (0 : Int32)) fun S1 =>
    if ((m_ri S1 a 2) + (20 : Int32)) ≤ (940 : Int32) then (
    m_cal0 (f_X12_come a S1 i1) fun S3 =>
    m_cal0 (f_X12_come a S3 i2) fun S4 =>
    m_cal0 (f_X12_come a S4 i3) fun S5 =>
    m_cal0 (f_X12_come a S5 i4) fun S6 =>
    m_cal0 (f_X12_come a S6 i5) fun S7 =>
    some ((m_ri S7 a 2), S7)) else (
    some ((-1 : Int32), S1))
set_option maxHeartbeats 4000000 in
set_option maxRecDepth 100000 in
theorem c_X12_feed {l : Launch} {G : m_G} {nx : Nat} {κ : Nat → Nat} {a : Nat} {S : m_M} {i1 : Int32} {i2 : Int32} {i3 : Int32} {i4 : Int32} {i5 : Int32} {res : (Int32 × m_M)} (hT : m_Str κ) (hk_a : κ a = 13) (hm : f_X12_feed a S i1 i2 i3 i4 i5 = some res) : m_Ci l yX12_feed cX12_feed 6 (some .int) rm_X12_feed G nx κ [.ref a, .int i1, .int i2, .int i3, .int i4, .int i5] S res := by
  refine m_Ci.of (by decide) (Nat.le_of_ble_eq_true rfl) ?_
  intro p e s m args below meth c ls X hr hH hl
  have hx := X.1.1
  have hb := X.1.2.1
  have hS : m_S G s s.heap [] := va_S.rf
  have hl : lv_has ls 6 [(0, .ref a), (1, .int i1), (2, .int i2), (3, .int i3), (4, .int i4), (5, .int i5)] := hl
  rw [f_X12_feed] at hm
  refine lv_aload_n hx hb dX12_feed_0 rfl (lv_at hl 0 rfl) ?_
  refine lv_iconst (v := (0 : Int32)) hx hb dX12_feed_1 (by decide) ?_
  obtain ⟨S1, e_S1, hm⟩ := m_let_of hm
  refine n_puti X hH hS tyX12 (k := 12) (a := a) (j := 0) hk_a (by decide) rfl m_wi12 tyX12_ok nmX12 (by decide) in_7_15 rfl rfl rfl ⟨rfl, rfl⟩ e_S1 dX12_feed_2 (fun H locs hH hS => ?_)
  refine lv_aload_n hx hb dX12_feed_5 rfl (lv_at hl 0 rfl) ?_
  refine r_geti X hH (k := 12) (a := a) (j := 2) hk_a (by decide) rfl m_wi12 (by decide) in_7_17 rfl rfl dX12_feed_6 ?_
  refine lv_bipush (v := (20 : Int32)) hx hb dX12_feed_9 (by decide) ?_
  refine lv_iadd hx hb dX12_feed_11 ?_
  refine lv_sipush (v := (940 : Int32)) hx hb dX12_feed_12 (by decide) ?_
  refine lv_icmp_le (tgt := 20) hx hb dX12_feed_15 (by decide) (fun c2 => ?_) (fun c2 => ?_)
  · have hm := m_ite_t hm c2
    refine lv_aload_n hx hb dX12_feed_20 rfl (lv_at hl 0 rfl) ?_
    refine lv_iload_n hx hb dX12_feed_21 rfl (lv_at hl 1 rfl) ?_
    obtain ⟨S3, e_S3, hm⟩ := m_cal0_of hm
    refine r_cVv X hH hS (k := 12) (c_X12_come (a := a) hT hk_a e_S3) mw_X12_come in_6_170 hk_a (by decide) rfl rfl rfl ⟨rfl, rfl⟩ ⟨Nat.le_of_ble_eq_true rfl, Nat.le_of_ble_eq_true rfl⟩ ⟨Nat.zero_le _, Nat.zero_le _⟩ hl.1 (Nat.le_of_ble_eq_true rfl) dX12_feed_22 (fun H locs hH hS => ?_)
    refine lv_aload_n hx hb dX12_feed_25 rfl (lv_at hl 0 rfl) ?_
    refine lv_iload_n hx hb dX12_feed_26 rfl (lv_at hl 2 rfl) ?_
    obtain ⟨S4, e_S4, hm⟩ := m_cal0_of hm
    refine r_cVv X hH hS (k := 12) (c_X12_come (a := a) hT hk_a e_S4) mw_X12_come in_6_170 hk_a (by decide) rfl rfl rfl ⟨rfl, rfl⟩ ⟨Nat.le_of_ble_eq_true rfl, Nat.le_of_ble_eq_true rfl⟩ ⟨Nat.zero_le _, Nat.zero_le _⟩ hl.1 (Nat.le_of_ble_eq_true rfl) dX12_feed_27 (fun H locs hH hS => ?_)
    refine lv_aload_n hx hb dX12_feed_30 rfl (lv_at hl 0 rfl) ?_
    refine lv_iload_n hx hb dX12_feed_31 rfl (lv_at hl 3 rfl) ?_
    obtain ⟨S5, e_S5, hm⟩ := m_cal0_of hm
    refine r_cVv X hH hS (k := 12) (c_X12_come (a := a) hT hk_a e_S5) mw_X12_come in_6_170 hk_a (by decide) rfl rfl rfl ⟨rfl, rfl⟩ ⟨Nat.le_of_ble_eq_true rfl, Nat.le_of_ble_eq_true rfl⟩ ⟨Nat.zero_le _, Nat.zero_le _⟩ hl.1 (Nat.le_of_ble_eq_true rfl) dX12_feed_32 (fun H locs hH hS => ?_)
    refine lv_aload_n hx hb dX12_feed_35 rfl (lv_at hl 0 rfl) ?_
    refine lv_iload hx hb dX12_feed_36 (lv_at hl 4 rfl) ?_
    obtain ⟨S6, e_S6, hm⟩ := m_cal0_of hm
    refine r_cVv X hH hS (k := 12) (c_X12_come (a := a) hT hk_a e_S6) mw_X12_come in_6_170 hk_a (by decide) rfl rfl rfl ⟨rfl, rfl⟩ ⟨Nat.le_of_ble_eq_true rfl, Nat.le_of_ble_eq_true rfl⟩ ⟨Nat.zero_le _, Nat.zero_le _⟩ hl.1 (Nat.le_of_ble_eq_true rfl) dX12_feed_38 (fun H locs hH hS => ?_)
    refine lv_aload_n hx hb dX12_feed_41 rfl (lv_at hl 0 rfl) ?_
    refine lv_iload hx hb dX12_feed_42 (lv_at hl 5 rfl) ?_
    obtain ⟨S7, e_S7, hm⟩ := m_cal0_of hm
    refine r_cVv X hH hS (k := 12) (c_X12_come (a := a) hT hk_a e_S7) mw_X12_come in_6_170 hk_a (by decide) rfl rfl rfl ⟨rfl, rfl⟩ ⟨Nat.le_of_ble_eq_true rfl, Nat.le_of_ble_eq_true rfl⟩ ⟨Nat.zero_le _, Nat.zero_le _⟩ hl.1 (Nat.le_of_ble_eq_true rfl) dX12_feed_44 (fun H locs hH hS => ?_)
    refine lv_aload_n hx hb dX12_feed_47 rfl (lv_at hl 0 rfl) ?_
    refine r_geti X hH (k := 12) (a := a) (j := 2) hk_a (by decide) rfl m_wi12 (by decide) in_7_17 rfl rfl dX12_feed_48 ?_
    exact r_iret X hr hH hS hm dX12_feed_51
  · have hm := m_ite_f hm c2
    refine lv_iconst (v := (-1 : Int32)) hx hb dX12_feed_18 (by decide) ?_
    exact r_iret X hr hH hS hm dX12_feed_19
def rm_X12_end : Room := { frames := 0, cells := 0, slots := 0, locals := 0 }
def b_X12_end_17 (a : Nat)  (S : m_M)  : Option (Int32 × m_M) :=
    if (0 : Int32) = 0 ∨ (0 : Int32) = 1 then some ((0 : Int32), S) else none
set_option maxHeartbeats 4000000 in
set_option maxRecDepth 100000 in
theorem k_X12_end_17 {p : Program} {l : Launch} {e : Env} {s : State} {m : MethodId} {args : Array Value} {below : List Frame} {meth : Method} {c : Code} {G : m_G} {nx : Nat} {κ : Nat → Nat} {res : (Int32 × m_M)} {a : Nat} (X : m_Cx p s m args meth c cX12_end 2 RX12 G) (hr : meth.sig.returnType = (some .boolean)) (hT : m_Str κ) (hk_a : κ a = 13)  : ∀ (S : m_M)  (H : Heap) (locs : List Loc) (ls : Array Slot), m_H G nx κ S H → m_S G s H locs → lv_has ls 2 [] → b_X12_end_17 a S  = some res → W p l e rm_X12_end s m args below meth c H locs 0 0 (m_Qi below args s G nx κ res) (F0 m 17 ls []) := by
  have hx := X.1.1
  have hb := X.1.2.1
  intro S H locs ls hH hS hl hm
  rw [b_X12_end_17] at hm
  refine lv_iconst (v := (0 : Int32)) hx hb dX12_end_17 (by decide) ?_
  exact r_zret X hr hH hS hm dX12_end_18
def f_X12_end (a : Nat) (S : m_M) (i1 : Int32) : Option (Int32 × m_M) :=
    m_let (m_si S a 0 (0 : Int32)) fun S1 =>
    if i1 < 0 then (
    b_X12_end_17 a S1) else (
    if i1 ≤ (m_ri S1 a 2) then (
    m_let (m_si S1 a 2 i1) fun S4 =>
    if (1 : Int32) = 0 ∨ (1 : Int32) = 1 then some ((1 : Int32), S4) else none) else (
    b_X12_end_17 a S1))
set_option maxHeartbeats 4000000 in
set_option maxRecDepth 100000 in
theorem c_X12_end {l : Launch} {G : m_G} {nx : Nat} {κ : Nat → Nat} {a : Nat} {S : m_M} {i1 : Int32} {res : (Int32 × m_M)} (hT : m_Str κ) (hk_a : κ a = 13) (hm : f_X12_end a S i1 = some res) : m_Ci l yX12_end cX12_end 2 (some .boolean) rm_X12_end G nx κ [.ref a, .int i1] S res := by
  refine m_Ci.of (by decide) (Nat.le_of_ble_eq_true rfl) ?_
  intro p e s m args below meth c ls X hr hH hl
  have hx := X.1.1
  have hb := X.1.2.1
  have hS : m_S G s s.heap [] := va_S.rf
  have hl : lv_has ls 2 [(0, .ref a), (1, .int i1)] := hl
  rw [f_X12_end] at hm
  refine lv_aload_n hx hb dX12_end_0 rfl (lv_at hl 0 rfl) ?_
  refine lv_iconst (v := (0 : Int32)) hx hb dX12_end_1 (by decide) ?_
  obtain ⟨S1, e_S1, hm⟩ := m_let_of hm
  refine n_puti X hH hS tyX12 (k := 12) (a := a) (j := 0) hk_a (by decide) rfl m_wi12 tyX12_ok nmX12 (by decide) in_7_15 rfl rfl rfl ⟨rfl, rfl⟩ e_S1 dX12_end_2 (fun H locs hH hS => ?_)
  refine lv_iload_n hx hb dX12_end_5 rfl (lv_at hl 1 rfl) ?_
  refine lv_if_lt (tgt := 17) hx hb dX12_end_6 (by decide) (fun c2 => ?_) (fun c2 => ?_)
  · have hm := m_ite_t hm c2
    exact k_X12_end_17 (a := a) X hr hT hk_a   S1 _ _ _ hH hS (lv_sub hl [] rfl) hm
  · have hm := m_ite_f hm c2
    refine lv_iload_n hx hb dX12_end_9 rfl (lv_at hl 1 rfl) ?_
    refine lv_aload_n hx hb dX12_end_10 rfl (lv_at hl 0 rfl) ?_
    refine r_geti X hH (k := 12) (a := a) (j := 2) hk_a (by decide) rfl m_wi12 (by decide) in_7_17 rfl rfl dX12_end_11 ?_
    refine lv_icmp_le (tgt := 19) hx hb dX12_end_14 (by decide) (fun c3 => ?_) (fun c3 => ?_)
    · have hm := m_ite_t hm c3
      refine lv_aload_n hx hb dX12_end_19 rfl (lv_at hl 0 rfl) ?_
      refine lv_iload_n hx hb dX12_end_20 rfl (lv_at hl 1 rfl) ?_
      obtain ⟨S4, e_S4, hm⟩ := m_let_of hm
      refine n_puti X hH hS tyX12 (k := 12) (a := a) (j := 2) hk_a (by decide) rfl m_wi12 tyX12_ok nmX12 (by decide) in_7_17 rfl rfl rfl ⟨rfl, rfl⟩ e_S4 dX12_end_21 (fun H locs hH hS => ?_)
      refine lv_iconst (v := (1 : Int32)) hx hb dX12_end_24 (by decide) ?_
      exact r_zret X hr hH hS hm dX12_end_25
    · have hm := m_ite_f hm c3
      exact k_X12_end_17 (a := a) X hr hT hk_a   S1 _ _ _ hH hS (lv_sub hl [] rfl) hm
def rm_X12_take : Room := { frames := 0, cells := 0, slots := 0, locals := 0 }
def f_X12_take (a : Nat) (S : m_M)  : Option (Int32 × m_M) :=
    m_let (m_ri S a 2) fun v1 =>
    m_let (m_si S a 2 (0 : Int32)) fun S2 =>
    some (v1, S2)
set_option maxHeartbeats 4000000 in
set_option maxRecDepth 100000 in
theorem c_X12_take {l : Launch} {G : m_G} {nx : Nat} {κ : Nat → Nat} {a : Nat} {S : m_M}  {res : (Int32 × m_M)} (hT : m_Str κ) (hk_a : κ a = 13) (hm : f_X12_take a S = some res) : m_Ci l yX12_take cX12_take 2 (some .int) rm_X12_take G nx κ [.ref a] S res := by
  refine m_Ci.of (by decide) (Nat.le_of_ble_eq_true rfl) ?_
  intro p e s m args below meth c ls X hr hH hl
  have hx := X.1.1
  have hb := X.1.2.1
  have hS : m_S G s s.heap [] := va_S.rf
  have hl : lv_has ls 2 [(0, .ref a)] := hl
  rw [f_X12_take] at hm
  refine lv_aload_n hx hb dX12_take_0 rfl (lv_at hl 0 rfl) ?_
  refine r_geti X hH (k := 12) (a := a) (j := 2) hk_a (by decide) rfl m_wi12 (by decide) in_7_17 rfl rfl dX12_take_1 ?_
  obtain ⟨v1, e_v1, hm⟩ := m_let_of hm
  refine n_topi e_v1 ?_
  refine lv_istore_n (lv' := [(1, .int v1), (0, .ref a)]) hx hb dX12_take_4 rfl hl (by decide) rfl (fun ls hl => ?_)
  refine lv_aload_n hx hb dX12_take_5 rfl (lv_at hl 1 rfl) ?_
  refine lv_iconst (v := (0 : Int32)) hx hb dX12_take_6 (by decide) ?_
  obtain ⟨S2, e_S2, hm⟩ := m_let_of hm
  refine n_puti X hH hS tyX12 (k := 12) (a := a) (j := 2) hk_a (by decide) rfl m_wi12 tyX12_ok nmX12 (by decide) in_7_17 rfl rfl rfl ⟨rfl, rfl⟩ e_S2 dX12_take_7 (fun H locs hH hS => ?_)
  refine lv_iload_n hx hb dX12_take_10 rfl (lv_at hl 0 rfl) ?_
  exact r_iret X hr hH hS hm dX12_take_11
def rm_X12_isIn : Room := { frames := 0, cells := 0, slots := 0, locals := 0 }
def b_X12_isIn_15  (S : m_M) (t0 : Int32) : Option (Int32 × m_M) :=
    if t0 = 0 ∨ t0 = 1 then some (t0, S) else none
set_option maxHeartbeats 4000000 in
set_option maxRecDepth 100000 in
theorem k_X12_isIn_15 {p : Program} {l : Launch} {e : Env} {s : State} {m : MethodId} {args : Array Value} {below : List Frame} {meth : Method} {c : Code} {G : m_G} {nx : Nat} {κ : Nat → Nat} {res : (Int32 × m_M)} (X : m_Cx p s m args meth c cX12_isIn 3 RX12 G) (hr : meth.sig.returnType = (some .boolean)) (hT : m_Str κ)  : ∀ (S : m_M) (t0 : Int32) (H : Heap) (locs : List Loc) (ls : Array Slot), m_H G nx κ S H → m_S G s H locs → lv_has ls 3 [] → b_X12_isIn_15  S t0 = some res → W p l e rm_X12_isIn s m args below meth c H locs 0 0 (m_Qi below args s G nx κ res) (F0 m 15 ls [.int t0]) := by
  have hx := X.1.1
  have hb := X.1.2.1
  intro S t0 H locs ls hH hS hl hm
  rw [b_X12_isIn_15] at hm
  exact r_zret X hr hH hS hm dX12_isIn_15
def b_X12_isIn_14  (S : m_M)  : Option (Int32 × m_M) :=
    b_X12_isIn_15 S (0 : Int32)
set_option maxHeartbeats 4000000 in
set_option maxRecDepth 100000 in
theorem k_X12_isIn_14 {p : Program} {l : Launch} {e : Env} {s : State} {m : MethodId} {args : Array Value} {below : List Frame} {meth : Method} {c : Code} {G : m_G} {nx : Nat} {κ : Nat → Nat} {res : (Int32 × m_M)} (X : m_Cx p s m args meth c cX12_isIn 3 RX12 G) (hr : meth.sig.returnType = (some .boolean)) (hT : m_Str κ)  : ∀ (S : m_M)  (H : Heap) (locs : List Loc) (ls : Array Slot), m_H G nx κ S H → m_S G s H locs → lv_has ls 3 [] → b_X12_isIn_14  S  = some res → W p l e rm_X12_isIn s m args below meth c H locs 0 0 (m_Qi below args s G nx κ res) (F0 m 14 ls []) := by
  have hx := X.1.1
  have hb := X.1.2.1
  intro S H locs ls hH hS hl hm
  rw [b_X12_isIn_14] at hm
  refine lv_iconst (v := (0 : Int32)) hx hb dX12_isIn_14 (by decide) ?_
  exact k_X12_isIn_15  X hr hT    S (0 : Int32) _ _ _ hH hS hl hm
def f_X12_isIn (S : m_M) (i0 : Int32) (i1 : Int32) (i2 : Int32) : Option (Int32 × m_M) :=
    if i0 < i1 then (
    b_X12_isIn_14 S) else (
    if i2 < i0 then (
    b_X12_isIn_14 S) else (
    b_X12_isIn_15 S (1 : Int32)))
set_option maxHeartbeats 4000000 in
set_option maxRecDepth 100000 in
theorem c_X12_isIn {l : Launch} {G : m_G} {nx : Nat} {κ : Nat → Nat} {S : m_M} {i0 : Int32} {i1 : Int32} {i2 : Int32} {res : (Int32 × m_M)} (hT : m_Str κ)  (hm : f_X12_isIn S i0 i1 i2 = some res) : m_Ci l yX12_isIn cX12_isIn 3 (some .boolean) rm_X12_isIn G nx κ [.int i0, .int i1, .int i2] S res := by
  refine m_Ci.of (by decide) (Nat.le_of_ble_eq_true rfl) ?_
  intro p e s m args below meth c ls X hr hH hl
  have hx := X.1.1
  have hb := X.1.2.1
  have hS : m_S G s s.heap [] := va_S.rf
  have hl : lv_has ls 3 [(0, .int i0), (1, .int i1), (2, .int i2)] := hl
  rw [f_X12_isIn] at hm
  refine lv_iload_n hx hb dX12_isIn_0 rfl (lv_at hl 0 rfl) ?_
  refine lv_iload_n hx hb dX12_isIn_1 rfl (lv_at hl 1 rfl) ?_
  refine lv_icmp_lt (tgt := 14) hx hb dX12_isIn_2 (by decide) (fun c1 => ?_) (fun c1 => ?_)
  · have hm := m_ite_t hm c1
    exact k_X12_isIn_14  X hr hT    S _ _ _ hH hS (lv_sub hl [] rfl) hm
  · have hm := m_ite_f hm c1
    refine lv_iload_n hx hb dX12_isIn_5 rfl (lv_at hl 0 rfl) ?_
    refine lv_iload_n hx hb dX12_isIn_6 rfl (lv_at hl 2 rfl) ?_
    refine lv_icmp_gt (tgt := 14) hx hb dX12_isIn_7 (by decide) (fun c2 => ?_) (fun c2 => ?_)
    · have hm := m_ite_t hm c2
      exact k_X12_isIn_14  X hr hT    S _ _ _ hH hS (lv_sub hl [] rfl) hm
    · have hm := m_ite_f hm c2
      refine lv_iconst (v := (1 : Int32)) hx hb dX12_isIn_10 (by decide) ?_
      refine lv_goto (tgt := 15) hx hb dX12_isIn_11 (by decide) ?_
      exact k_X12_isIn_15  X hr hT    S (1 : Int32) _ _ _ hH hS (lv_sub hl [] rfl) hm
def rm_X12_has : Room := { frames := 0, cells := 0, slots := 0, locals := 0 }
def b_X12_has_14  (S : m_M) (t0 : Int32) : Option (Int32 × m_M) :=
    if t0 = 0 ∨ t0 = 1 then some (t0, S) else none
set_option maxHeartbeats 4000000 in
set_option maxRecDepth 100000 in
theorem k_X12_has_14 {p : Program} {l : Launch} {e : Env} {s : State} {m : MethodId} {args : Array Value} {below : List Frame} {meth : Method} {c : Code} {G : m_G} {nx : Nat} {κ : Nat → Nat} {res : (Int32 × m_M)} (X : m_Cx p s m args meth c cX12_has 2 RX12 G) (hr : meth.sig.returnType = (some .boolean)) (hT : m_Str κ)  : ∀ (S : m_M) (t0 : Int32) (H : Heap) (locs : List Loc) (ls : Array Slot), m_H G nx κ S H → m_S G s H locs → lv_has ls 2 [] → b_X12_has_14  S t0 = some res → W p l e rm_X12_has s m args below meth c H locs 0 0 (m_Qi below args s G nx κ res) (F0 m 14 ls [.int t0]) := by
  have hx := X.1.1
  have hb := X.1.2.1
  intro S t0 H locs ls hH hS hl hm
  rw [b_X12_has_14] at hm
  exact r_zret X hr hH hS hm dX12_has_14
def f_X12_has (S : m_M) (i0 : Int32) (i1 : Int32) : Option (Int32 × m_M) :=
    if ((i0 >>> (i1 &&& 31)) &&& (1 : Int32)) = (1 : Int32) then (
    b_X12_has_14 S (1 : Int32)) else (
    b_X12_has_14 S (0 : Int32))
set_option maxHeartbeats 4000000 in
set_option maxRecDepth 100000 in
theorem c_X12_has {l : Launch} {G : m_G} {nx : Nat} {κ : Nat → Nat} {S : m_M} {i0 : Int32} {i1 : Int32} {res : (Int32 × m_M)} (hT : m_Str κ)  (hm : f_X12_has S i0 i1 = some res) : m_Ci l yX12_has cX12_has 2 (some .boolean) rm_X12_has G nx κ [.int i0, .int i1] S res := by
  refine m_Ci.of (by decide) (Nat.le_of_ble_eq_true rfl) ?_
  intro p e s m args below meth c ls X hr hH hl
  have hx := X.1.1
  have hb := X.1.2.1
  have hS : m_S G s s.heap [] := va_S.rf
  have hl : lv_has ls 2 [(0, .int i0), (1, .int i1)] := hl
  rw [f_X12_has] at hm
  refine lv_iload_n hx hb dX12_has_0 rfl (lv_at hl 0 rfl) ?_
  refine lv_iload_n hx hb dX12_has_1 rfl (lv_at hl 1 rfl) ?_
  refine lv_ishr hx hb dX12_has_2 ?_
  refine lv_iconst (v := (1 : Int32)) hx hb dX12_has_3 (by decide) ?_
  refine lv_iand hx hb dX12_has_4 ?_
  refine lv_iconst (v := (1 : Int32)) hx hb dX12_has_5 (by decide) ?_
  refine lv_icmp_ne (tgt := 13) hx hb dX12_has_6 (by decide) (fun c1 => ?_) (fun c1 => ?_)
  · have hm := m_ite_f hm c1
    refine lv_iconst (v := (0 : Int32)) hx hb dX12_has_13 (by decide) ?_
    exact k_X12_has_14  X hr hT    S (0 : Int32) _ _ _ hH hS (lv_sub hl [] rfl) hm
  · have hm := m_ite_t hm c1
    refine lv_iconst (v := (1 : Int32)) hx hb dX12_has_9 (by decide) ?_
    refine lv_goto (tgt := 14) hx hb dX12_has_10 (by decide) ?_
    exact k_X12_has_14  X hr hT    S (1 : Int32) _ _ _ hH hS (lv_sub hl [] rfl) hm
def rm_X12_bits : Room := { frames := 0, cells := 0, slots := 0, locals := 0 }
def b_X12_bits_4  : Nat → m_M → Int32 → Int32 → Option (Int32 × m_M)
  | 0, _, _, _ => none
  | n + 1, S, l1, l2 =>
    if l2 = 0 then (
    some (l1, S)) else (
    m_let (l1 + (1 : Int32)) fun v2 =>
    m_let (l2 &&& (l2 - (1 : Int32))) fun v3 =>
    b_X12_bits_4  n S v2 v3)
set_option maxHeartbeats 4000000 in
set_option maxRecDepth 100000 in
theorem k_X12_bits_4 {p : Program} {l : Launch} {e : Env} {s : State} {m : MethodId} {args : Array Value} {below : List Frame} {meth : Method} {c : Code} {G : m_G} {nx : Nat} {κ : Nat → Nat} {res : (Int32 × m_M)} (X : m_Cx p s m args meth c cX12_bits 3 RX12 G) (hr : meth.sig.returnType = (some .int)) (hT : m_Str κ)  (n : Nat) : ∀ (S : m_M) (l1 : Int32) (l2 : Int32) (H : Heap) (locs : List Loc) (ls : Array Slot), m_H G nx κ S H → m_S G s H locs → lv_has ls 3 [(1, .int l1), (2, .int l2)] → b_X12_bits_4  n S l1 l2 = some res → W p l e rm_X12_bits s m args below meth c H locs 0 0 (m_Qi below args s G nx κ res) (F0 m 4 ls []) := by
  have hx := X.1.1
  have hb := X.1.2.1
  induction n with
  | zero => intro S l1 l2 H locs ls hH hS hl hm; have hm : (none : Option (Int32 × m_M)) = some res := hm; cases hm
  | succ n ih =>
    intro S l1 l2 H locs ls hH hS hl hm
    rw [b_X12_bits_4] at hm
    refine lv_iload_n hx hb dX12_bits_4 rfl (lv_at hl 1 rfl) ?_
    refine lv_if_eq (tgt := 20) hx hb dX12_bits_5 (by decide) (fun c1 => ?_) (fun c1 => ?_)
    · have hm := m_ite_t hm c1
      refine lv_iload_n hx hb dX12_bits_20 rfl (lv_at hl 0 rfl) ?_
      exact r_iret X hr hH hS hm dX12_bits_21
    · have hm := m_ite_f hm c1
      obtain ⟨v2, e_v2, hm⟩ := m_let_of hm
      refine lv_iinc (v := v2) (lv' := [(1, .int v2), (2, .int l2)]) hx hb dX12_bits_8 hl (k := 0) rfl (by rw [← e_v2]; rfl) (by decide) rfl (fun ls hl => ?_)
      refine lv_iload_n hx hb dX12_bits_11 rfl (lv_at hl 1 rfl) ?_
      refine lv_iload_n hx hb dX12_bits_12 rfl (lv_at hl 1 rfl) ?_
      refine lv_iconst (v := (1 : Int32)) hx hb dX12_bits_13 (by decide) ?_
      refine lv_isub hx hb dX12_bits_14 ?_
      refine lv_iand hx hb dX12_bits_15 ?_
      obtain ⟨v3, e_v3, hm⟩ := m_let_of hm
      refine n_topi e_v3 ?_
      refine lv_istore_n (lv' := [(2, .int v3), (1, .int v2)]) hx hb dX12_bits_16 rfl hl (by decide) rfl (fun ls hl => ?_)
      refine lv_goto (tgt := 4) hx hb dX12_bits_17 (by decide) ?_
      exact ih S v2 v3 _ _ _ hH hS (lv_sub hl [1, 0] rfl) hm
def f_X12_bits (S : m_M) (i0 : Int32) : Option (Int32 × m_M) :=
    b_X12_bits_4 m_fu S (0 : Int32) i0
set_option maxHeartbeats 4000000 in
set_option maxRecDepth 100000 in
theorem c_X12_bits {l : Launch} {G : m_G} {nx : Nat} {κ : Nat → Nat} {S : m_M} {i0 : Int32} {res : (Int32 × m_M)} (hT : m_Str κ)  (hm : f_X12_bits S i0 = some res) : m_Ci l yX12_bits cX12_bits 3 (some .int) rm_X12_bits G nx κ [.int i0] S res := by
  refine m_Ci.of (by decide) (Nat.le_of_ble_eq_true rfl) ?_
  intro p e s m args below meth c ls X hr hH hl
  have hx := X.1.1
  have hb := X.1.2.1
  have hS : m_S G s s.heap [] := va_S.rf
  have hl : lv_has ls 3 [(0, .int i0)] := hl
  rw [f_X12_bits] at hm
  refine lv_iconst (v := (0 : Int32)) hx hb dX12_bits_0 (by decide) ?_
  refine lv_istore_n (lv' := [(1, .int (0 : Int32)), (0, .int i0)]) hx hb dX12_bits_1 rfl hl (by decide) rfl (fun ls hl => ?_)
  refine lv_iload_n hx hb dX12_bits_2 rfl (lv_at hl 1 rfl) ?_
  refine lv_istore_n (lv' := [(2, .int i0), (1, .int (0 : Int32)), (0, .int i0)]) hx hb dX12_bits_3 rfl hl (by decide) rfl (fun ls hl => ?_)
  exact k_X12_bits_4  X hr hT   m_fu S (0 : Int32) i0 _ _ _ hH hS (lv_sub hl [1, 0] rfl) hm
def rm_X12_tapeAt : Room := { frames := 0, cells := 0, slots := 0, locals := 0 }
def b_X12_tapeAt_18 (a : Nat)  (S : m_M) (t0 : Int32) : Option (Int32 × m_M) :=
    some (t0, S)
set_option maxHeartbeats 4000000 in
set_option maxRecDepth 100000 in
theorem k_X12_tapeAt_18 {p : Program} {l : Launch} {e : Env} {s : State} {m : MethodId} {args : Array Value} {below : List Frame} {meth : Method} {c : Code} {G : m_G} {nx : Nat} {κ : Nat → Nat} {res : (Int32 × m_M)} {a : Nat} (X : m_Cx p s m args meth c cX12_tapeAt 2 RX12 G) (hr : meth.sig.returnType = (some .int)) (hT : m_Str κ) (hk_a : κ a = 13)  : ∀ (S : m_M) (t0 : Int32) (H : Heap) (locs : List Loc) (ls : Array Slot), m_H G nx κ S H → m_S G s H locs → lv_has ls 2 [] → b_X12_tapeAt_18 a S t0 = some res → W p l e rm_X12_tapeAt s m args below meth c H locs 0 0 (m_Qi below args s G nx κ res) (F0 m 18 ls [.int t0]) := by
  have hx := X.1.1
  have hb := X.1.2.1
  intro S t0 H locs ls hH hS hl hm
  rw [b_X12_tapeAt_18] at hm
  exact r_iret X hr hH hS hm dX12_tapeAt_18
def f_X12_tapeAt (a : Nat) (S : m_M) (i1 : Int32) : Option (Int32 × m_M) :=
    if (m_ri S a 3) ≤ i1 then (
    b_X12_tapeAt_18 a S (0 : Int32)) else (
    (m_ldi S (a + 1) 940 i1).bind fun v2 =>
    b_X12_tapeAt_18 a S v2)
set_option maxHeartbeats 4000000 in
set_option maxRecDepth 100000 in
theorem c_X12_tapeAt {l : Launch} {G : m_G} {nx : Nat} {κ : Nat → Nat} {a : Nat} {S : m_M} {i1 : Int32} {res : (Int32 × m_M)} (hT : m_Str κ) (hk_a : κ a = 13) (hm : f_X12_tapeAt a S i1 = some res) : m_Ci l yX12_tapeAt cX12_tapeAt 2 (some .int) rm_X12_tapeAt G nx κ [.ref a, .int i1] S res := by
  refine m_Ci.of (by decide) (Nat.le_of_ble_eq_true rfl) ?_
  intro p e s m args below meth c ls X hr hH hl
  have hx := X.1.1
  have hb := X.1.2.1
  have hS : m_S G s s.heap [] := va_S.rf
  have hl : lv_has ls 2 [(0, .ref a), (1, .int i1)] := hl
  rw [f_X12_tapeAt] at hm
  refine lv_iload_n hx hb dX12_tapeAt_0 rfl (lv_at hl 1 rfl) ?_
  refine lv_aload_n hx hb dX12_tapeAt_1 rfl (lv_at hl 0 rfl) ?_
  refine r_geti X hH (k := 12) (a := a) (j := 3) hk_a (by decide) rfl m_wi12 (by decide) in_7_18 rfl rfl dX12_tapeAt_2 ?_
  refine lv_icmp_ge (tgt := 17) hx hb dX12_tapeAt_5 (by decide) (fun c1 => ?_) (fun c1 => ?_)
  · have hm := m_ite_t hm c1
    refine lv_iconst (v := (0 : Int32)) hx hb dX12_tapeAt_17 (by decide) ?_
    exact k_X12_tapeAt_18 (a := a) X hr hT hk_a   S (0 : Int32) _ _ _ hH hS (lv_sub hl [] rfl) hm
  · have hm := m_ite_f hm c1
    refine lv_aload_n hx hb dX12_tapeAt_8 rfl (lv_at hl 0 rfl) ?_
    refine r_getp X hH (k := 12) (a := a) (j := 1) (b := (a + 1)) (A := 1) (B := 0) hk_a (by decide) rfl m_wi12 (by decide) in_7_16 rfl rfl rfl dX12_tapeAt_9 ?_
    refine lv_iload_n hx hb dX12_tapeAt_12 rfl (lv_at hl 1 rfl) ?_
    obtain ⟨v2, h_v2, e_v2, hm⟩ := n_ldi hm
    refine n_iald X hH (n := 940) (m_lay_at hT hk_a (by decide) (i := 1) rfl) h_v2 e_v2 dX12_tapeAt_13 ?_
    refine lv_goto (tgt := 18) hx hb dX12_tapeAt_14 (by decide) ?_
    exact k_X12_tapeAt_18 (a := a) X hr hT hk_a   S v2 _ _ _ hH hS (lv_sub hl [] rfl) hm
def rm_X12_isDigit : Room := { frames := 0, cells := 0, slots := 0, locals := 0 }
def b_X12_isDigit_17  (S : m_M) (t0 : Int32) : Option (Int32 × m_M) :=
    if t0 = 0 ∨ t0 = 1 then some (t0, S) else none
set_option maxHeartbeats 4000000 in
set_option maxRecDepth 100000 in
theorem k_X12_isDigit_17 {p : Program} {l : Launch} {e : Env} {s : State} {m : MethodId} {args : Array Value} {below : List Frame} {meth : Method} {c : Code} {G : m_G} {nx : Nat} {κ : Nat → Nat} {res : (Int32 × m_M)} (X : m_Cx p s m args meth c cX12_isDigit 1 RX12 G) (hr : meth.sig.returnType = (some .boolean)) (hT : m_Str κ)  : ∀ (S : m_M) (t0 : Int32) (H : Heap) (locs : List Loc) (ls : Array Slot), m_H G nx κ S H → m_S G s H locs → lv_has ls 1 [] → b_X12_isDigit_17  S t0 = some res → W p l e rm_X12_isDigit s m args below meth c H locs 0 0 (m_Qi below args s G nx κ res) (F0 m 17 ls [.int t0]) := by
  have hx := X.1.1
  have hb := X.1.2.1
  intro S t0 H locs ls hH hS hl hm
  rw [b_X12_isDigit_17] at hm
  exact r_zret X hr hH hS hm dX12_isDigit_17
def b_X12_isDigit_16  (S : m_M)  : Option (Int32 × m_M) :=
    b_X12_isDigit_17 S (0 : Int32)
set_option maxHeartbeats 4000000 in
set_option maxRecDepth 100000 in
theorem k_X12_isDigit_16 {p : Program} {l : Launch} {e : Env} {s : State} {m : MethodId} {args : Array Value} {below : List Frame} {meth : Method} {c : Code} {G : m_G} {nx : Nat} {κ : Nat → Nat} {res : (Int32 × m_M)} (X : m_Cx p s m args meth c cX12_isDigit 1 RX12 G) (hr : meth.sig.returnType = (some .boolean)) (hT : m_Str κ)  : ∀ (S : m_M)  (H : Heap) (locs : List Loc) (ls : Array Slot), m_H G nx κ S H → m_S G s H locs → lv_has ls 1 [] → b_X12_isDigit_16  S  = some res → W p l e rm_X12_isDigit s m args below meth c H locs 0 0 (m_Qi below args s G nx κ res) (F0 m 16 ls []) := by
  have hx := X.1.1
  have hb := X.1.2.1
  intro S H locs ls hH hS hl hm
  rw [b_X12_isDigit_16] at hm
  refine lv_iconst (v := (0 : Int32)) hx hb dX12_isDigit_16 (by decide) ?_
  exact k_X12_isDigit_17  X hr hT    S (0 : Int32) _ _ _ hH hS hl hm
def f_X12_isDigit (S : m_M) (i0 : Int32) : Option (Int32 × m_M) :=
    if i0 < (48 : Int32) then (
    b_X12_isDigit_16 S) else (
    if (57 : Int32) < i0 then (
    b_X12_isDigit_16 S) else (
    b_X12_isDigit_17 S (1 : Int32)))
set_option maxHeartbeats 4000000 in
set_option maxRecDepth 100000 in
theorem c_X12_isDigit {l : Launch} {G : m_G} {nx : Nat} {κ : Nat → Nat} {S : m_M} {i0 : Int32} {res : (Int32 × m_M)} (hT : m_Str κ)  (hm : f_X12_isDigit S i0 = some res) : m_Ci l yX12_isDigit cX12_isDigit 1 (some .boolean) rm_X12_isDigit G nx κ [.int i0] S res := by
  refine m_Ci.of (by decide) (Nat.le_of_ble_eq_true rfl) ?_
  intro p e s m args below meth c ls X hr hH hl
  have hx := X.1.1
  have hb := X.1.2.1
  have hS : m_S G s s.heap [] := va_S.rf
  have hl : lv_has ls 1 [(0, .int i0)] := hl
  rw [f_X12_isDigit] at hm
  refine lv_iload_n hx hb dX12_isDigit_0 rfl (lv_at hl 0 rfl) ?_
  refine lv_bipush (v := (48 : Int32)) hx hb dX12_isDigit_1 (by decide) ?_
  refine lv_icmp_lt (tgt := 16) hx hb dX12_isDigit_3 (by decide) (fun c1 => ?_) (fun c1 => ?_)
  · have hm := m_ite_t hm c1
    exact k_X12_isDigit_16  X hr hT    S _ _ _ hH hS (lv_sub hl [] rfl) hm
  · have hm := m_ite_f hm c1
    refine lv_iload_n hx hb dX12_isDigit_6 rfl (lv_at hl 0 rfl) ?_
    refine lv_bipush (v := (57 : Int32)) hx hb dX12_isDigit_7 (by decide) ?_
    refine lv_icmp_gt (tgt := 16) hx hb dX12_isDigit_9 (by decide) (fun c2 => ?_) (fun c2 => ?_)
    · have hm := m_ite_t hm c2
      exact k_X12_isDigit_16  X hr hT    S _ _ _ hH hS (lv_sub hl [] rfl) hm
    · have hm := m_ite_f hm c2
      refine lv_iconst (v := (1 : Int32)) hx hb dX12_isDigit_12 (by decide) ?_
      refine lv_goto (tgt := 17) hx hb dX12_isDigit_13 (by decide) ?_
      exact k_X12_isDigit_17  X hr hT    S (1 : Int32) _ _ _ hH hS (lv_sub hl [] rfl) hm
def rm_X12_isLetter : Room := { frames := 0, cells := 0, slots := 0, locals := 0 }
def b_X12_isLetter_17  (S : m_M) (t0 : Int32) : Option (Int32 × m_M) :=
    if t0 = 0 ∨ t0 = 1 then some (t0, S) else none
set_option maxHeartbeats 4000000 in
set_option maxRecDepth 100000 in
theorem k_X12_isLetter_17 {p : Program} {l : Launch} {e : Env} {s : State} {m : MethodId} {args : Array Value} {below : List Frame} {meth : Method} {c : Code} {G : m_G} {nx : Nat} {κ : Nat → Nat} {res : (Int32 × m_M)} (X : m_Cx p s m args meth c cX12_isLetter 1 RX12 G) (hr : meth.sig.returnType = (some .boolean)) (hT : m_Str κ)  : ∀ (S : m_M) (t0 : Int32) (H : Heap) (locs : List Loc) (ls : Array Slot), m_H G nx κ S H → m_S G s H locs → lv_has ls 1 [] → b_X12_isLetter_17  S t0 = some res → W p l e rm_X12_isLetter s m args below meth c H locs 0 0 (m_Qi below args s G nx κ res) (F0 m 17 ls [.int t0]) := by
  have hx := X.1.1
  have hb := X.1.2.1
  intro S t0 H locs ls hH hS hl hm
  rw [b_X12_isLetter_17] at hm
  exact r_zret X hr hH hS hm dX12_isLetter_17
def b_X12_isLetter_16  (S : m_M)  : Option (Int32 × m_M) :=
    b_X12_isLetter_17 S (0 : Int32)
set_option maxHeartbeats 4000000 in
set_option maxRecDepth 100000 in
theorem k_X12_isLetter_16 {p : Program} {l : Launch} {e : Env} {s : State} {m : MethodId} {args : Array Value} {below : List Frame} {meth : Method} {c : Code} {G : m_G} {nx : Nat} {κ : Nat → Nat} {res : (Int32 × m_M)} (X : m_Cx p s m args meth c cX12_isLetter 1 RX12 G) (hr : meth.sig.returnType = (some .boolean)) (hT : m_Str κ)  : ∀ (S : m_M)  (H : Heap) (locs : List Loc) (ls : Array Slot), m_H G nx κ S H → m_S G s H locs → lv_has ls 1 [] → b_X12_isLetter_16  S  = some res → W p l e rm_X12_isLetter s m args below meth c H locs 0 0 (m_Qi below args s G nx κ res) (F0 m 16 ls []) := by
  have hx := X.1.1
  have hb := X.1.2.1
  intro S H locs ls hH hS hl hm
  rw [b_X12_isLetter_16] at hm
  refine lv_iconst (v := (0 : Int32)) hx hb dX12_isLetter_16 (by decide) ?_
  exact k_X12_isLetter_17  X hr hT    S (0 : Int32) _ _ _ hH hS hl hm
def f_X12_isLetter (S : m_M) (i0 : Int32) : Option (Int32 × m_M) :=
    if i0 < (97 : Int32) then (
    b_X12_isLetter_16 S) else (
    if (122 : Int32) < i0 then (
    b_X12_isLetter_16 S) else (
    b_X12_isLetter_17 S (1 : Int32)))
set_option maxHeartbeats 4000000 in
set_option maxRecDepth 100000 in
theorem c_X12_isLetter {l : Launch} {G : m_G} {nx : Nat} {κ : Nat → Nat} {S : m_M} {i0 : Int32} {res : (Int32 × m_M)} (hT : m_Str κ)  (hm : f_X12_isLetter S i0 = some res) : m_Ci l yX12_isLetter cX12_isLetter 1 (some .boolean) rm_X12_isLetter G nx κ [.int i0] S res := by
  refine m_Ci.of (by decide) (Nat.le_of_ble_eq_true rfl) ?_
  intro p e s m args below meth c ls X hr hH hl
  have hx := X.1.1
  have hb := X.1.2.1
  have hS : m_S G s s.heap [] := va_S.rf
  have hl : lv_has ls 1 [(0, .int i0)] := hl
  rw [f_X12_isLetter] at hm
  refine lv_iload_n hx hb dX12_isLetter_0 rfl (lv_at hl 0 rfl) ?_
  refine lv_bipush (v := (97 : Int32)) hx hb dX12_isLetter_1 (by decide) ?_
  refine lv_icmp_lt (tgt := 16) hx hb dX12_isLetter_3 (by decide) (fun c1 => ?_) (fun c1 => ?_)
  · have hm := m_ite_t hm c1
    exact k_X12_isLetter_16  X hr hT    S _ _ _ hH hS (lv_sub hl [] rfl) hm
  · have hm := m_ite_f hm c1
    refine lv_iload_n hx hb dX12_isLetter_6 rfl (lv_at hl 0 rfl) ?_
    refine lv_bipush (v := (122 : Int32)) hx hb dX12_isLetter_7 (by decide) ?_
    refine lv_icmp_gt (tgt := 16) hx hb dX12_isLetter_9 (by decide) (fun c2 => ?_) (fun c2 => ?_)
    · have hm := m_ite_t hm c2
      exact k_X12_isLetter_16  X hr hT    S _ _ _ hH hS (lv_sub hl [] rfl) hm
    · have hm := m_ite_f hm c2
      refine lv_iconst (v := (1 : Int32)) hx hb dX12_isLetter_12 (by decide) ?_
      refine lv_goto (tgt := 17) hx hb dX12_isLetter_13 (by decide) ?_
      exact k_X12_isLetter_17  X hr hT    S (1 : Int32) _ _ _ hH hS (lv_sub hl [] rfl) hm
def rm_X12_go : Room := { frames := 1, cells := 0, slots := 0, locals := 21 }
def b_X12_go_39 (a : Nat) (K_0 : m_M → Option m_M) (S : m_M)  : Option m_M :=
    m_let (m_si S a 5 ((m_ri S a 5) + (1 : Int32))) fun S1 =>
    K_0 S1
set_option maxHeartbeats 4000000 in
set_option maxRecDepth 100000 in
theorem k_X12_go_39 {p : Program} {l : Launch} {e : Env} {s : State} {m : MethodId} {args : Array Value} {below : List Frame} {meth : Method} {c : Code} {G : m_G} {nx : Nat} {κ : Nat → Nat} {res : m_M} {a : Nat} (X : m_Cx p s m args meth c cX12_go 5 RX12 G) (hr : meth.sig.returnType = none) (hT : m_Str κ) (hk_a : κ a = 13) (K_0 : m_M → Option m_M) (hK_0 : ∀ (S : m_M)  (H : Heap) (locs : List Loc) (ls : Array Slot), m_H G nx κ S H → m_S G s H locs → lv_has ls 5 [(0, .ref a)] → K_0 S  = some res → W p l e rm_X12_go s m args below meth c H locs 0 0 (m_Qv below args s G nx κ res) (F0 m 0 ls [])) : ∀ (S : m_M)  (H : Heap) (locs : List Loc) (ls : Array Slot), m_H G nx κ S H → m_S G s H locs → lv_has ls 5 [(0, .ref a)] → b_X12_go_39 a K_0 S  = some res → W p l e rm_X12_go s m args below meth c H locs 0 0 (m_Qv below args s G nx κ res) (F0 m 39 ls []) := by
  have hx := X.1.1
  have hb := X.1.2.1
  intro S H locs ls hH hS hl hm
  rw [b_X12_go_39] at hm
  refine lv_aload_n hx hb dX12_go_39 rfl (lv_at hl 0 rfl) ?_
  refine lv_dup hx hb dX12_go_40 rfl ?_
  refine r_geti X hH (k := 12) (a := a) (j := 5) hk_a (by decide) rfl m_wi12 (by decide) in_7_20 rfl rfl dX12_go_41 ?_
  refine lv_iconst (v := (1 : Int32)) hx hb dX12_go_44 (by decide) ?_
  refine lv_iadd hx hb dX12_go_45 ?_
  obtain ⟨S1, e_S1, hm⟩ := m_let_of hm
  refine n_puti X hH hS tyX12 (k := 12) (a := a) (j := 5) hk_a (by decide) rfl m_wi12 tyX12_ok nmX12 (by decide) in_7_20 rfl rfl rfl ⟨rfl, rfl⟩ e_S1 dX12_go_46 (fun H locs hH hS => ?_)
  refine lv_goto (tgt := 0) hx hb dX12_go_49 (by decide) ?_
  exact hK_0 S1 _ _ _ hH hS hl hm
def b_X12_go_179 (a : Nat)  (S : m_M) (l1 : Int32) (t1 : Int32) : Option m_M :=
    m_let (m_si S a 7 t1) fun S1 =>
    m_let (m_si S1 a 9 l1) fun S2 =>
    m_let (m_si S2 a 5 ((m_ri S2 a 5) + (1 : Int32))) fun S3 =>
    some S3
set_option maxHeartbeats 4000000 in
set_option maxRecDepth 100000 in
theorem k_X12_go_179 {p : Program} {l : Launch} {e : Env} {s : State} {m : MethodId} {args : Array Value} {below : List Frame} {meth : Method} {c : Code} {G : m_G} {nx : Nat} {κ : Nat → Nat} {res : m_M} {a : Nat} (X : m_Cx p s m args meth c cX12_go 5 RX12 G) (hr : meth.sig.returnType = none) (hT : m_Str κ) (hk_a : κ a = 13)  : ∀ (S : m_M) (l1 : Int32) (t1 : Int32) (H : Heap) (locs : List Loc) (ls : Array Slot), m_H G nx κ S H → m_S G s H locs → lv_has ls 5 [(0, .ref a), (1, .int l1)] → b_X12_go_179 a S l1 t1 = some res → W p l e rm_X12_go s m args below meth c H locs 0 0 (m_Qv below args s G nx κ res) (F0 m 179 ls [.int t1, .ref a]) := by
  have hx := X.1.1
  have hb := X.1.2.1
  intro S l1 t1 H locs ls hH hS hl hm
  rw [b_X12_go_179] at hm
  obtain ⟨S1, e_S1, hm⟩ := m_let_of hm
  refine n_puti X hH hS tyX12 (k := 12) (a := a) (j := 7) hk_a (by decide) rfl m_wi12 tyX12_ok nmX12 (by decide) in_7_22 rfl rfl rfl ⟨rfl, rfl⟩ e_S1 dX12_go_179 (fun H locs hH hS => ?_)
  refine lv_aload_n hx hb dX12_go_182 rfl (lv_at hl 0 rfl) ?_
  refine lv_iload_n hx hb dX12_go_183 rfl (lv_at hl 1 rfl) ?_
  obtain ⟨S2, e_S2, hm⟩ := m_let_of hm
  refine n_puti X hH hS tyX12 (k := 12) (a := a) (j := 9) hk_a (by decide) rfl m_wi12 tyX12_ok nmX12 (by decide) in_7_24 rfl rfl rfl ⟨rfl, rfl⟩ e_S2 dX12_go_184 (fun H locs hH hS => ?_)
  refine lv_aload_n hx hb dX12_go_187 rfl (lv_at hl 0 rfl) ?_
  refine lv_dup hx hb dX12_go_188 rfl ?_
  refine r_geti X hH (k := 12) (a := a) (j := 5) hk_a (by decide) rfl m_wi12 (by decide) in_7_20 rfl rfl dX12_go_189 ?_
  refine lv_iconst (v := (1 : Int32)) hx hb dX12_go_192 (by decide) ?_
  refine lv_iadd hx hb dX12_go_193 ?_
  obtain ⟨S3, e_S3, hm⟩ := m_let_of hm
  refine n_puti X hH hS tyX12 (k := 12) (a := a) (j := 5) hk_a (by decide) rfl m_wi12 tyX12_ok nmX12 (by decide) in_7_20 rfl rfl rfl ⟨rfl, rfl⟩ e_S3 dX12_go_194 (fun H locs hH hS => ?_)
  exact r_vret X hr hH hS hm dX12_go_197
def b_X12_go_174 (a : Nat)  (S : m_M) (l1 : Int32) : Option m_M :=
    b_X12_go_179 a S l1 (4 : Int32)
set_option maxHeartbeats 4000000 in
set_option maxRecDepth 100000 in
theorem k_X12_go_174 {p : Program} {l : Launch} {e : Env} {s : State} {m : MethodId} {args : Array Value} {below : List Frame} {meth : Method} {c : Code} {G : m_G} {nx : Nat} {κ : Nat → Nat} {res : m_M} {a : Nat} (X : m_Cx p s m args meth c cX12_go 5 RX12 G) (hr : meth.sig.returnType = none) (hT : m_Str κ) (hk_a : κ a = 13)  : ∀ (S : m_M) (l1 : Int32) (H : Heap) (locs : List Loc) (ls : Array Slot), m_H G nx κ S H → m_S G s H locs → lv_has ls 5 [(0, .ref a), (1, .int l1)] → b_X12_go_174 a S l1 = some res → W p l e rm_X12_go s m args below meth c H locs 0 0 (m_Qv below args s G nx κ res) (F0 m 174 ls [.ref a]) := by
  have hx := X.1.1
  have hb := X.1.2.1
  intro S l1 H locs ls hH hS hl hm
  rw [b_X12_go_174] at hm
  refine lv_iconst (v := (4 : Int32)) hx hb dX12_go_174 (by decide) ?_
  refine lv_goto (tgt := 179) hx hb dX12_go_175 (by decide) ?_
  exact k_X12_go_179 (a := a) X hr hT hk_a   S l1 (4 : Int32) _ _ _ hH hS hl hm
def b_X12_go_337 (a : Nat) (K_215 : m_M → Int32 → Int32 → Option m_M) (S : m_M) (l2 : Int32) (l3 : Int32) : Option m_M :=
    m_let (m_si S a 5 ((m_ri S a 5) + (1 : Int32))) fun S1 =>
    K_215 S1 l2 l3
set_option maxHeartbeats 4000000 in
set_option maxRecDepth 100000 in
theorem k_X12_go_337 {p : Program} {l : Launch} {e : Env} {s : State} {m : MethodId} {args : Array Value} {below : List Frame} {meth : Method} {c : Code} {G : m_G} {nx : Nat} {κ : Nat → Nat} {res : m_M} {a : Nat} (X : m_Cx p s m args meth c cX12_go 5 RX12 G) (hr : meth.sig.returnType = none) (hT : m_Str κ) (hk_a : κ a = 13) (K_215 : m_M → Int32 → Int32 → Option m_M) (hK_215 : ∀ (S : m_M) (l2 : Int32) (l3 : Int32) (H : Heap) (locs : List Loc) (ls : Array Slot), m_H G nx κ S H → m_S G s H locs → lv_has ls 5 [(0, .ref a), (2, .int l2), (3, .int l3)] → K_215 S l2 l3 = some res → W p l e rm_X12_go s m args below meth c H locs 0 0 (m_Qv below args s G nx κ res) (F0 m 215 ls [])) : ∀ (S : m_M) (l2 : Int32) (l3 : Int32) (H : Heap) (locs : List Loc) (ls : Array Slot), m_H G nx κ S H → m_S G s H locs → lv_has ls 5 [(0, .ref a), (2, .int l2), (3, .int l3)] → b_X12_go_337 a K_215 S l2 l3 = some res → W p l e rm_X12_go s m args below meth c H locs 0 0 (m_Qv below args s G nx κ res) (F0 m 337 ls []) := by
  have hx := X.1.1
  have hb := X.1.2.1
  intro S l2 l3 H locs ls hH hS hl hm
  rw [b_X12_go_337] at hm
  refine lv_aload_n hx hb dX12_go_337 rfl (lv_at hl 0 rfl) ?_
  refine lv_dup hx hb dX12_go_338 rfl ?_
  refine r_geti X hH (k := 12) (a := a) (j := 5) hk_a (by decide) rfl m_wi12 (by decide) in_7_20 rfl rfl dX12_go_339 ?_
  refine lv_iconst (v := (1 : Int32)) hx hb dX12_go_342 (by decide) ?_
  refine lv_iadd hx hb dX12_go_343 ?_
  obtain ⟨S1, e_S1, hm⟩ := m_let_of hm
  refine n_puti X hH hS tyX12 (k := 12) (a := a) (j := 5) hk_a (by decide) rfl m_wi12 tyX12_ok nmX12 (by decide) in_7_20 rfl rfl rfl ⟨rfl, rfl⟩ e_S1 dX12_go_344 (fun H locs hH hS => ?_)
  refine lv_goto (tgt := 215) hx hb dX12_go_347 (by decide) ?_
  exact hK_215 S1 l2 l3 _ _ _ hH hS hl hm
def b_X12_go_307 (a : Nat) (K_215 : m_M → Int32 → Int32 → Option m_M) (S : m_M) (l2 : Int32) (l3 : Int32) (l4 : Int32) : Option m_M :=
    if (3 : Int32) ≤ ((m_ri S a 5) - (m_ri S a 6)) then (
    b_X12_go_337 a K_215 S l2 l3) else (
    m_let (m_si S a 8 ((((10 : Int32) * (m_ri S a 8)) + l4) - (48 : Int32))) fun S2 =>
    b_X12_go_337 a K_215 S2 l2 l3)
set_option maxHeartbeats 4000000 in
set_option maxRecDepth 100000 in
theorem k_X12_go_307 {p : Program} {l : Launch} {e : Env} {s : State} {m : MethodId} {args : Array Value} {below : List Frame} {meth : Method} {c : Code} {G : m_G} {nx : Nat} {κ : Nat → Nat} {res : m_M} {a : Nat} (X : m_Cx p s m args meth c cX12_go 5 RX12 G) (hr : meth.sig.returnType = none) (hT : m_Str κ) (hk_a : κ a = 13) (K_215 : m_M → Int32 → Int32 → Option m_M) (hK_215 : ∀ (S : m_M) (l2 : Int32) (l3 : Int32) (H : Heap) (locs : List Loc) (ls : Array Slot), m_H G nx κ S H → m_S G s H locs → lv_has ls 5 [(0, .ref a), (2, .int l2), (3, .int l3)] → K_215 S l2 l3 = some res → W p l e rm_X12_go s m args below meth c H locs 0 0 (m_Qv below args s G nx κ res) (F0 m 215 ls [])) : ∀ (S : m_M) (l2 : Int32) (l3 : Int32) (l4 : Int32) (H : Heap) (locs : List Loc) (ls : Array Slot), m_H G nx κ S H → m_S G s H locs → lv_has ls 5 [(0, .ref a), (2, .int l2), (3, .int l3), (4, .int l4)] → b_X12_go_307 a K_215 S l2 l3 l4 = some res → W p l e rm_X12_go s m args below meth c H locs 0 0 (m_Qv below args s G nx κ res) (F0 m 307 ls []) := by
  have hx := X.1.1
  have hb := X.1.2.1
  intro S l2 l3 l4 H locs ls hH hS hl hm
  rw [b_X12_go_307] at hm
  refine lv_aload_n hx hb dX12_go_307 rfl (lv_at hl 0 rfl) ?_
  refine r_geti X hH (k := 12) (a := a) (j := 5) hk_a (by decide) rfl m_wi12 (by decide) in_7_20 rfl rfl dX12_go_308 ?_
  refine lv_aload_n hx hb dX12_go_311 rfl (lv_at hl 0 rfl) ?_
  refine r_geti X hH (k := 12) (a := a) (j := 6) hk_a (by decide) rfl m_wi12 (by decide) in_7_21 rfl rfl dX12_go_312 ?_
  refine lv_isub hx hb dX12_go_315 ?_
  refine lv_iconst (v := (3 : Int32)) hx hb dX12_go_316 (by decide) ?_
  refine lv_icmp_ge (tgt := 337) hx hb dX12_go_317 (by decide) (fun c1 => ?_) (fun c1 => ?_)
  · have hm := m_ite_t hm c1
    exact k_X12_go_337 (a := a) X hr hT hk_a K_215 hK_215  S l2 l3 _ _ _ hH hS (lv_sub hl [0, 1, 2] rfl) hm
  · have hm := m_ite_f hm c1
    refine lv_aload_n hx hb dX12_go_320 rfl (lv_at hl 0 rfl) ?_
    refine lv_bipush (v := (10 : Int32)) hx hb dX12_go_321 (by decide) ?_
    refine lv_aload_n hx hb dX12_go_323 rfl (lv_at hl 0 rfl) ?_
    refine r_geti X hH (k := 12) (a := a) (j := 8) hk_a (by decide) rfl m_wi12 (by decide) in_7_23 rfl rfl dX12_go_324 ?_
    refine lv_imul hx hb dX12_go_327 ?_
    refine lv_iload hx hb dX12_go_328 (lv_at hl 3 rfl) ?_
    refine lv_iadd hx hb dX12_go_330 ?_
    refine lv_bipush (v := (48 : Int32)) hx hb dX12_go_331 (by decide) ?_
    refine lv_isub hx hb dX12_go_333 ?_
    obtain ⟨S2, e_S2, hm⟩ := m_let_of hm
    refine n_puti X hH hS tyX12 (k := 12) (a := a) (j := 8) hk_a (by decide) rfl m_wi12 tyX12_ok nmX12 (by decide) in_7_23 rfl rfl rfl ⟨rfl, rfl⟩ e_S2 dX12_go_334 (fun H locs hH hS => ?_)
    exact k_X12_go_337 (a := a) X hr hT hk_a K_215 hK_215  S2 l2 l3 _ _ _ hH hS (lv_sub hl [0, 1, 2] rfl) hm
def b_X12_go_272 (a : Nat) (K_215 : m_M → Int32 → Int32 → Option m_M) (S : m_M) (l2 : Int32) (l4 : Int32) (t0 : Int32) : Option m_M :=
    if (7 : Int32) ≤ ((m_ri S a 5) - (m_ri S a 6)) then (
    b_X12_go_307 a K_215 S l2 t0 l4) else (
    m_let (m_sj S a 12 ((((27 : Int64) * (m_rj S a 12)) + l4.toInt64) - (96 : Int64))) fun S2 =>
    b_X12_go_307 a K_215 S2 l2 t0 l4)
set_option maxHeartbeats 4000000 in
set_option maxRecDepth 100000 in
theorem k_X12_go_272 {p : Program} {l : Launch} {e : Env} {s : State} {m : MethodId} {args : Array Value} {below : List Frame} {meth : Method} {c : Code} {G : m_G} {nx : Nat} {κ : Nat → Nat} {res : m_M} {a : Nat} (X : m_Cx p s m args meth c cX12_go 5 RX12 G) (hr : meth.sig.returnType = none) (hT : m_Str κ) (hk_a : κ a = 13) (K_215 : m_M → Int32 → Int32 → Option m_M) (hK_215 : ∀ (S : m_M) (l2 : Int32) (l3 : Int32) (H : Heap) (locs : List Loc) (ls : Array Slot), m_H G nx κ S H → m_S G s H locs → lv_has ls 5 [(0, .ref a), (2, .int l2), (3, .int l3)] → K_215 S l2 l3 = some res → W p l e rm_X12_go s m args below meth c H locs 0 0 (m_Qv below args s G nx κ res) (F0 m 215 ls [])) : ∀ (S : m_M) (l2 : Int32) (l4 : Int32) (t0 : Int32) (H : Heap) (locs : List Loc) (ls : Array Slot), m_H G nx κ S H → m_S G s H locs → lv_has ls 5 [(0, .ref a), (2, .int l2), (4, .int l4)] → b_X12_go_272 a K_215 S l2 l4 t0 = some res → W p l e rm_X12_go s m args below meth c H locs 0 0 (m_Qv below args s G nx κ res) (F0 m 272 ls [.int t0]) := by
  have hx := X.1.1
  have hb := X.1.2.1
  intro S l2 l4 t0 H locs ls hH hS hl hm
  rw [b_X12_go_272] at hm
  refine lv_istore_n (lv' := [(3, .int t0), (0, .ref a), (2, .int l2), (4, .int l4)]) hx hb dX12_go_272 rfl hl (by decide) rfl (fun ls hl => ?_)
  refine lv_aload_n hx hb dX12_go_273 rfl (lv_at hl 1 rfl) ?_
  refine r_geti X hH (k := 12) (a := a) (j := 5) hk_a (by decide) rfl m_wi12 (by decide) in_7_20 rfl rfl dX12_go_274 ?_
  refine lv_aload_n hx hb dX12_go_277 rfl (lv_at hl 1 rfl) ?_
  refine r_geti X hH (k := 12) (a := a) (j := 6) hk_a (by decide) rfl m_wi12 (by decide) in_7_21 rfl rfl dX12_go_278 ?_
  refine lv_isub hx hb dX12_go_281 ?_
  refine lv_bipush (v := (7 : Int32)) hx hb dX12_go_282 (by decide) ?_
  refine lv_icmp_ge (tgt := 307) hx hb dX12_go_284 (by decide) (fun c1 => ?_) (fun c1 => ?_)
  · have hm := m_ite_t hm c1
    exact k_X12_go_307 (a := a) X hr hT hk_a K_215 hK_215  S l2 t0 l4 _ _ _ hH hS (lv_sub hl [1, 2, 0, 3] rfl) hm
  · have hm := m_ite_f hm c1
    refine lv_aload_n hx hb dX12_go_287 rfl (lv_at hl 1 rfl) ?_
    refine lv_ldc2 hx hb X.1.2.2.2.1 (m_w X in_7_195) dX12_go_288 ?_
    refine lv_aload_n hx hb dX12_go_291 rfl (lv_at hl 1 rfl) ?_
    refine r_getj X hH (k := 12) (a := a) (j := 12) hk_a (by decide) rfl m_wi12 (by decide) in_7_27 rfl rfl dX12_go_292 ?_
    refine lv_lmul hx hb dX12_go_295 ?_
    refine lv_iload hx hb dX12_go_296 (lv_at hl 3 rfl) ?_
    refine lv_i2l hx hb dX12_go_298 rfl ?_
    refine lv_ladd hx hb dX12_go_299 ?_
    refine lv_ldc2 hx hb X.1.2.2.2.1 (m_w X in_7_196) dX12_go_300 ?_
    refine lv_lsub hx hb dX12_go_303 ?_
    obtain ⟨S2, e_S2, hm⟩ := m_let_of hm
    refine n_putj X hH hS tyX12 (k := 12) (a := a) (j := 12) hk_a (by decide) rfl m_wi12 tyX12_ok nmX12 (by decide) in_7_27 rfl rfl rfl ⟨rfl, rfl⟩ e_S2 dX12_go_304 (fun H locs hH hS => ?_)
    exact k_X12_go_307 (a := a) X hr hT hk_a K_215 hK_215  S2 l2 t0 l4 _ _ _ hH hS (lv_sub hl [1, 2, 0, 3] rfl) hm
def b_X12_go_271 (a : Nat) (K_215 : m_M → Int32 → Int32 → Option m_M) (S : m_M) (l2 : Int32) (l4 : Int32) : Option m_M :=
    b_X12_go_272 a K_215 S l2 l4 (0 : Int32)
set_option maxHeartbeats 4000000 in
set_option maxRecDepth 100000 in
theorem k_X12_go_271 {p : Program} {l : Launch} {e : Env} {s : State} {m : MethodId} {args : Array Value} {below : List Frame} {meth : Method} {c : Code} {G : m_G} {nx : Nat} {κ : Nat → Nat} {res : m_M} {a : Nat} (X : m_Cx p s m args meth c cX12_go 5 RX12 G) (hr : meth.sig.returnType = none) (hT : m_Str κ) (hk_a : κ a = 13) (K_215 : m_M → Int32 → Int32 → Option m_M) (hK_215 : ∀ (S : m_M) (l2 : Int32) (l3 : Int32) (H : Heap) (locs : List Loc) (ls : Array Slot), m_H G nx κ S H → m_S G s H locs → lv_has ls 5 [(0, .ref a), (2, .int l2), (3, .int l3)] → K_215 S l2 l3 = some res → W p l e rm_X12_go s m args below meth c H locs 0 0 (m_Qv below args s G nx κ res) (F0 m 215 ls [])) : ∀ (S : m_M) (l2 : Int32) (l4 : Int32) (H : Heap) (locs : List Loc) (ls : Array Slot), m_H G nx κ S H → m_S G s H locs → lv_has ls 5 [(0, .ref a), (2, .int l2), (4, .int l4)] → b_X12_go_271 a K_215 S l2 l4 = some res → W p l e rm_X12_go s m args below meth c H locs 0 0 (m_Qv below args s G nx κ res) (F0 m 271 ls []) := by
  have hx := X.1.1
  have hb := X.1.2.1
  intro S l2 l4 H locs ls hH hS hl hm
  rw [b_X12_go_271] at hm
  refine lv_iconst (v := (0 : Int32)) hx hb dX12_go_271 (by decide) ?_
  exact k_X12_go_272 (a := a) X hr hT hk_a K_215 hK_215  S l2 l4 (0 : Int32) _ _ _ hH hS hl hm
def b_X12_go_243 (a : Nat) (K_215 : m_M → Int32 → Int32 → Option m_M) (S : m_M) (l2 : Int32) (l3 : Int32) : Option m_M :=
    (m_ldi S (a + 1) 940 (m_ri S a 5)).bind fun v1 =>
    if l3 = 0 then (
    b_X12_go_271 a K_215 S l2 v1) else (
    m_call (f_X12_isLetter S v1) fun v4 S3 =>
    if v4 = l2 then (
    b_X12_go_272 a K_215 S3 l2 v1 (1 : Int32)) else (
    b_X12_go_271 a K_215 S3 l2 v1))
set_option maxHeartbeats 4000000 in
set_option maxRecDepth 100000 in
theorem k_X12_go_243 {p : Program} {l : Launch} {e : Env} {s : State} {m : MethodId} {args : Array Value} {below : List Frame} {meth : Method} {c : Code} {G : m_G} {nx : Nat} {κ : Nat → Nat} {res : m_M} {a : Nat} (X : m_Cx p s m args meth c cX12_go 5 RX12 G) (hr : meth.sig.returnType = none) (hT : m_Str κ) (hk_a : κ a = 13) (K_215 : m_M → Int32 → Int32 → Option m_M) (hK_215 : ∀ (S : m_M) (l2 : Int32) (l3 : Int32) (H : Heap) (locs : List Loc) (ls : Array Slot), m_H G nx κ S H → m_S G s H locs → lv_has ls 5 [(0, .ref a), (2, .int l2), (3, .int l3)] → K_215 S l2 l3 = some res → W p l e rm_X12_go s m args below meth c H locs 0 0 (m_Qv below args s G nx κ res) (F0 m 215 ls [])) : ∀ (S : m_M) (l2 : Int32) (l3 : Int32) (H : Heap) (locs : List Loc) (ls : Array Slot), m_H G nx κ S H → m_S G s H locs → lv_has ls 5 [(0, .ref a), (2, .int l2), (3, .int l3)] → b_X12_go_243 a K_215 S l2 l3 = some res → W p l e rm_X12_go s m args below meth c H locs 0 0 (m_Qv below args s G nx κ res) (F0 m 243 ls []) := by
  have hx := X.1.1
  have hb := X.1.2.1
  intro S l2 l3 H locs ls hH hS hl hm
  rw [b_X12_go_243] at hm
  refine lv_aload_n hx hb dX12_go_243 rfl (lv_at hl 0 rfl) ?_
  refine r_getp X hH (k := 12) (a := a) (j := 1) (b := (a + 1)) (A := 1) (B := 0) hk_a (by decide) rfl m_wi12 (by decide) in_7_16 rfl rfl rfl dX12_go_244 ?_
  refine lv_aload_n hx hb dX12_go_247 rfl (lv_at hl 0 rfl) ?_
  refine r_geti X hH (k := 12) (a := a) (j := 5) hk_a (by decide) rfl m_wi12 (by decide) in_7_20 rfl rfl dX12_go_248 ?_
  obtain ⟨v1, h_v1, e_v1, hm⟩ := n_ldi hm
  refine n_iald X hH (n := 940) (m_lay_at hT hk_a (by decide) (i := 1) rfl) h_v1 e_v1 dX12_go_251 ?_
  refine lv_istore (lv' := [(4, .int v1), (0, .ref a), (2, .int l2), (3, .int l3)]) hx hb dX12_go_252 hl (by decide) rfl (fun ls hl => ?_)
  refine lv_iload_n hx hb dX12_go_254 rfl (lv_at hl 3 rfl) ?_
  refine lv_if_eq (tgt := 271) hx hb dX12_go_255 (by decide) (fun c2 => ?_) (fun c2 => ?_)
  · have hm := m_ite_t hm c2
    exact k_X12_go_271 (a := a) X hr hT hk_a K_215 hK_215  S l2 v1 _ _ _ hH hS (lv_sub hl [1, 2, 0] rfl) hm
  · have hm := m_ite_f hm c2
    refine lv_iload hx hb dX12_go_258 (lv_at hl 0 rfl) ?_
    obtain ⟨v4, S3, e_S3, hm⟩ := m_call_of hm
    refine n_cSi X hH hS (c_X12_isLetter  hT  e_S3) mw_X12_isLetter in_7_185 rfl ⟨rfl, rfl⟩ ⟨Nat.le_of_ble_eq_true rfl, Nat.le_of_ble_eq_true rfl⟩ ⟨Nat.zero_le _, Nat.zero_le _⟩ hl.1 (Nat.le_of_ble_eq_true rfl) dX12_go_260 (fun H locs hH hS => ?_)
    refine lv_iload_n hx hb dX12_go_263 rfl (lv_at hl 2 rfl) ?_
    refine lv_icmp_ne (tgt := 271) hx hb dX12_go_264 (by decide) (fun c5 => ?_) (fun c5 => ?_)
    · have hm := m_ite_f hm c5
      exact k_X12_go_271 (a := a) X hr hT hk_a K_215 hK_215  S3 l2 v1 _ _ _ hH hS (lv_sub hl [1, 2, 0] rfl) hm
    · have hm := m_ite_t hm c5
      refine lv_iconst (v := (1 : Int32)) hx hb dX12_go_267 (by decide) ?_
      refine lv_goto (tgt := 272) hx hb dX12_go_268 (by decide) ?_
      exact k_X12_go_272 (a := a) X hr hT hk_a K_215 hK_215  S3 l2 v1 (1 : Int32) _ _ _ hH hS (lv_sub hl [1, 2, 0] rfl) hm
def b_X12_go_390 (a : Nat)  (S : m_M) (t1 : Int32) : Option m_M :=
    m_let (m_si S a 7 t1) fun S1 =>
    some S1
set_option maxHeartbeats 4000000 in
set_option maxRecDepth 100000 in
theorem k_X12_go_390 {p : Program} {l : Launch} {e : Env} {s : State} {m : MethodId} {args : Array Value} {below : List Frame} {meth : Method} {c : Code} {G : m_G} {nx : Nat} {κ : Nat → Nat} {res : m_M} {a : Nat} (X : m_Cx p s m args meth c cX12_go 5 RX12 G) (hr : meth.sig.returnType = none) (hT : m_Str κ) (hk_a : κ a = 13)  : ∀ (S : m_M) (t1 : Int32) (H : Heap) (locs : List Loc) (ls : Array Slot), m_H G nx κ S H → m_S G s H locs → lv_has ls 5 [] → b_X12_go_390 a S t1 = some res → W p l e rm_X12_go s m args below meth c H locs 0 0 (m_Qv below args s G nx κ res) (F0 m 390 ls [.int t1, .ref a]) := by
  have hx := X.1.1
  have hb := X.1.2.1
  intro S t1 H locs ls hH hS hl hm
  rw [b_X12_go_390] at hm
  obtain ⟨S1, e_S1, hm⟩ := m_let_of hm
  refine n_puti X hH hS tyX12 (k := 12) (a := a) (j := 7) hk_a (by decide) rfl m_wi12 tyX12_ok nmX12 (by decide) in_7_22 rfl rfl rfl ⟨rfl, rfl⟩ e_S1 dX12_go_390 (fun H locs hH hS => ?_)
  exact r_vret X hr hH hS hm dX12_go_393
def b_X12_go_377 (a : Nat)  (S : m_M)  : Option m_M :=
    b_X12_go_390 a S (1 : Int32)
set_option maxHeartbeats 4000000 in
set_option maxRecDepth 100000 in
theorem k_X12_go_377 {p : Program} {l : Launch} {e : Env} {s : State} {m : MethodId} {args : Array Value} {below : List Frame} {meth : Method} {c : Code} {G : m_G} {nx : Nat} {κ : Nat → Nat} {res : m_M} {a : Nat} (X : m_Cx p s m args meth c cX12_go 5 RX12 G) (hr : meth.sig.returnType = none) (hT : m_Str κ) (hk_a : κ a = 13)  : ∀ (S : m_M)  (H : Heap) (locs : List Loc) (ls : Array Slot), m_H G nx κ S H → m_S G s H locs → lv_has ls 5 [] → b_X12_go_377 a S  = some res → W p l e rm_X12_go s m args below meth c H locs 0 0 (m_Qv below args s G nx κ res) (F0 m 377 ls [.ref a]) := by
  have hx := X.1.1
  have hb := X.1.2.1
  intro S H locs ls hH hS hl hm
  rw [b_X12_go_377] at hm
  refine lv_iconst (v := (1 : Int32)) hx hb dX12_go_377 (by decide) ?_
  refine lv_goto (tgt := 390) hx hb dX12_go_378 (by decide) ?_
  exact k_X12_go_390 (a := a) X hr hT hk_a   S (1 : Int32) _ _ _ hH hS hl hm
def b_X12_go_374 (a : Nat)  (S : m_M) (l2 : Int32) (t1 : Int32) (t2 : Int32) : Option m_M :=
    if t1 ≤ t2 then (
    if l2 = 0 then (
    b_X12_go_390 a S (3 : Int32)) else (
    b_X12_go_390 a S (2 : Int32))) else (
    b_X12_go_377 a S)
set_option maxHeartbeats 4000000 in
set_option maxRecDepth 100000 in
theorem k_X12_go_374 {p : Program} {l : Launch} {e : Env} {s : State} {m : MethodId} {args : Array Value} {below : List Frame} {meth : Method} {c : Code} {G : m_G} {nx : Nat} {κ : Nat → Nat} {res : m_M} {a : Nat} (X : m_Cx p s m args meth c cX12_go 5 RX12 G) (hr : meth.sig.returnType = none) (hT : m_Str κ) (hk_a : κ a = 13)  : ∀ (S : m_M) (l2 : Int32) (t1 : Int32) (t2 : Int32) (H : Heap) (locs : List Loc) (ls : Array Slot), m_H G nx κ S H → m_S G s H locs → lv_has ls 5 [(2, .int l2)] → b_X12_go_374 a S l2 t1 t2 = some res → W p l e rm_X12_go s m args below meth c H locs 0 0 (m_Qv below args s G nx κ res) (F0 m 374 ls [.int t2, .int t1, .ref a]) := by
  have hx := X.1.1
  have hb := X.1.2.1
  intro S l2 t1 t2 H locs ls hH hS hl hm
  rw [b_X12_go_374] at hm
  refine lv_icmp_le (tgt := 381) hx hb dX12_go_374 (by decide) (fun c1 => ?_) (fun c1 => ?_)
  · have hm := m_ite_t hm c1
    refine lv_iload_n hx hb dX12_go_381 rfl (lv_at hl 0 rfl) ?_
    refine lv_if_eq (tgt := 389) hx hb dX12_go_382 (by decide) (fun c2 => ?_) (fun c2 => ?_)
    · have hm := m_ite_t hm c2
      refine lv_iconst (v := (3 : Int32)) hx hb dX12_go_389 (by decide) ?_
      exact k_X12_go_390 (a := a) X hr hT hk_a   S (3 : Int32) _ _ _ hH hS (lv_sub hl [] rfl) hm
    · have hm := m_ite_f hm c2
      refine lv_iconst (v := (2 : Int32)) hx hb dX12_go_385 (by decide) ?_
      refine lv_goto (tgt := 390) hx hb dX12_go_386 (by decide) ?_
      exact k_X12_go_390 (a := a) X hr hT hk_a   S (2 : Int32) _ _ _ hH hS (lv_sub hl [] rfl) hm
  · have hm := m_ite_f hm c1
    exact k_X12_go_377 (a := a) X hr hT hk_a   S _ _ _ hH hS (lv_sub hl [] rfl) hm
def b_X12_go_215 (a : Nat)  : Nat → m_M → Int32 → Int32 → Option m_M
  | 0, _, _, _ => none
  | n + 1, S, l2, l3 =>
    m_call (f_X12_tapeAt a S (m_ri S a 5)) fun v2 S1 =>
    m_call (f_X12_isLetter S1 v2) fun v4 S3 =>
    if v4 = 0 then (
    m_call (f_X12_tapeAt a S3 (m_ri S3 a 5)) fun v7 S6 =>
    m_call (f_X12_isDigit S6 v7) fun v9 S8 =>
    if v9 = 0 then (
    if l3 = 0 then (
    b_X12_go_377 a S8) else (
    if l2 = 0 then (
    b_X12_go_374 a S8 l2 ((m_ri S8 a 5) - (m_ri S8 a 6)) (3 : Int32)) else (
    b_X12_go_374 a S8 l2 ((m_ri S8 a 5) - (m_ri S8 a 6)) (7 : Int32)))) else (
    b_X12_go_243 a (b_X12_go_215 a n) S8 l2 l3)) else (
    b_X12_go_243 a (b_X12_go_215 a n) S3 l2 l3)
set_option maxHeartbeats 4000000 in
set_option maxRecDepth 100000 in
theorem k_X12_go_215 {p : Program} {l : Launch} {e : Env} {s : State} {m : MethodId} {args : Array Value} {below : List Frame} {meth : Method} {c : Code} {G : m_G} {nx : Nat} {κ : Nat → Nat} {res : m_M} {a : Nat} (X : m_Cx p s m args meth c cX12_go 5 RX12 G) (hr : meth.sig.returnType = none) (hT : m_Str κ) (hk_a : κ a = 13)  (n : Nat) : ∀ (S : m_M) (l2 : Int32) (l3 : Int32) (H : Heap) (locs : List Loc) (ls : Array Slot), m_H G nx κ S H → m_S G s H locs → lv_has ls 5 [(0, .ref a), (2, .int l2), (3, .int l3)] → b_X12_go_215 a n S l2 l3 = some res → W p l e rm_X12_go s m args below meth c H locs 0 0 (m_Qv below args s G nx κ res) (F0 m 215 ls []) := by
  have hx := X.1.1
  have hb := X.1.2.1
  induction n with
  | zero => intro S l2 l3 H locs ls hH hS hl hm; have hm : (none : Option m_M) = some res := hm; cases hm
  | succ n ih =>
    intro S l2 l3 H locs ls hH hS hl hm
    rw [b_X12_go_215] at hm
    refine lv_aload_n hx hb dX12_go_215 rfl (lv_at hl 0 rfl) ?_
    refine lv_aload_n hx hb dX12_go_216 rfl (lv_at hl 0 rfl) ?_
    refine r_geti X hH (k := 12) (a := a) (j := 5) hk_a (by decide) rfl m_wi12 (by decide) in_7_20 rfl rfl dX12_go_217 ?_
    obtain ⟨v2, S1, e_S1, hm⟩ := m_call_of hm
    refine n_cVi X hH hS (k := 12) (c_X12_tapeAt (a := a) hT hk_a e_S1) mw_X12_tapeAt in_7_191 hk_a (by decide) rfl rfl rfl ⟨rfl, rfl⟩ ⟨Nat.le_of_ble_eq_true rfl, Nat.le_of_ble_eq_true rfl⟩ ⟨Nat.zero_le _, Nat.zero_le _⟩ hl.1 (Nat.le_of_ble_eq_true rfl) dX12_go_220 (fun H locs hH hS => ?_)
    obtain ⟨v4, S3, e_S3, hm⟩ := m_call_of hm
    refine n_cSi X hH hS (c_X12_isLetter  hT  e_S3) mw_X12_isLetter in_7_185 rfl ⟨rfl, rfl⟩ ⟨Nat.le_of_ble_eq_true rfl, Nat.le_of_ble_eq_true rfl⟩ ⟨Nat.zero_le _, Nat.zero_le _⟩ hl.1 (Nat.le_of_ble_eq_true rfl) dX12_go_223 (fun H locs hH hS => ?_)
    refine lv_if_ne (tgt := 243) hx hb dX12_go_226 (by decide) (fun c5 => ?_) (fun c5 => ?_)
    · have hm := m_ite_f hm c5
      exact k_X12_go_243 (a := a) X hr hT hk_a (b_X12_go_215 a n) ih  S3 l2 l3 _ _ _ hH hS hl hm
    · have hm := m_ite_t hm c5
      refine lv_aload_n hx hb dX12_go_229 rfl (lv_at hl 0 rfl) ?_
      refine lv_aload_n hx hb dX12_go_230 rfl (lv_at hl 0 rfl) ?_
      refine r_geti X hH (k := 12) (a := a) (j := 5) hk_a (by decide) rfl m_wi12 (by decide) in_7_20 rfl rfl dX12_go_231 ?_
      obtain ⟨v7, S6, e_S6, hm⟩ := m_call_of hm
      refine n_cVi X hH hS (k := 12) (c_X12_tapeAt (a := a) hT hk_a e_S6) mw_X12_tapeAt in_7_191 hk_a (by decide) rfl rfl rfl ⟨rfl, rfl⟩ ⟨Nat.le_of_ble_eq_true rfl, Nat.le_of_ble_eq_true rfl⟩ ⟨Nat.zero_le _, Nat.zero_le _⟩ hl.1 (Nat.le_of_ble_eq_true rfl) dX12_go_234 (fun H locs hH hS => ?_)
      obtain ⟨v9, S8, e_S8, hm⟩ := m_call_of hm
      refine n_cSi X hH hS (c_X12_isDigit  hT  e_S8) mw_X12_isDigit in_7_188 rfl ⟨rfl, rfl⟩ ⟨Nat.le_of_ble_eq_true rfl, Nat.le_of_ble_eq_true rfl⟩ ⟨Nat.zero_le _, Nat.zero_le _⟩ hl.1 (Nat.le_of_ble_eq_true rfl) dX12_go_237 (fun H locs hH hS => ?_)
      refine lv_if_eq (tgt := 350) hx hb dX12_go_240 (by decide) (fun c10 => ?_) (fun c10 => ?_)
      · have hm := m_ite_t hm c10
        refine lv_aload_n hx hb dX12_go_350 rfl (lv_at hl 0 rfl) ?_
        refine lv_iload_n hx hb dX12_go_351 rfl (lv_at hl 2 rfl) ?_
        refine lv_if_eq (tgt := 377) hx hb dX12_go_352 (by decide) (fun c11 => ?_) (fun c11 => ?_)
        · have hm := m_ite_t hm c11
          exact k_X12_go_377 (a := a) X hr hT hk_a   S8 _ _ _ hH hS (lv_sub hl [] rfl) hm
        · have hm := m_ite_f hm c11
          refine lv_aload_n hx hb dX12_go_355 rfl (lv_at hl 0 rfl) ?_
          refine r_geti X hH (k := 12) (a := a) (j := 5) hk_a (by decide) rfl m_wi12 (by decide) in_7_20 rfl rfl dX12_go_356 ?_
          refine lv_aload_n hx hb dX12_go_359 rfl (lv_at hl 0 rfl) ?_
          refine r_geti X hH (k := 12) (a := a) (j := 6) hk_a (by decide) rfl m_wi12 (by decide) in_7_21 rfl rfl dX12_go_360 ?_
          refine lv_isub hx hb dX12_go_363 ?_
          refine lv_iload_n hx hb dX12_go_364 rfl (lv_at hl 1 rfl) ?_
          refine lv_if_eq (tgt := 373) hx hb dX12_go_365 (by decide) (fun c12 => ?_) (fun c12 => ?_)
          · have hm := m_ite_t hm c12
            refine lv_iconst (v := (3 : Int32)) hx hb dX12_go_373 (by decide) ?_
            exact k_X12_go_374 (a := a) X hr hT hk_a   S8 l2 ((m_ri S8 a 5) - (m_ri S8 a 6)) (3 : Int32) _ _ _ hH hS (lv_sub hl [1] rfl) hm
          · have hm := m_ite_f hm c12
            refine lv_bipush (v := (7 : Int32)) hx hb dX12_go_368 (by decide) ?_
            refine lv_goto (tgt := 374) hx hb dX12_go_370 (by decide) ?_
            exact k_X12_go_374 (a := a) X hr hT hk_a   S8 l2 ((m_ri S8 a 5) - (m_ri S8 a 6)) (7 : Int32) _ _ _ hH hS (lv_sub hl [1] rfl) hm
      · have hm := m_ite_f hm c10
        exact k_X12_go_243 (a := a) X hr hT hk_a (b_X12_go_215 a n) ih  S8 l2 l3 _ _ _ hH hS hl hm
def b_X12_go_198 (a : Nat)  (S : m_M) (l1 : Int32) : Option m_M :=
    m_call (f_X12_isLetter S l1) fun v2 S1 =>
    m_let (m_sj S1 a 12 (0 : Int64)) fun S3 =>
    m_let (m_si S3 a 8 (0 : Int32)) fun S4 =>
    b_X12_go_215 a m_fu S4 v2 (1 : Int32)
set_option maxHeartbeats 4000000 in
set_option maxRecDepth 100000 in
theorem k_X12_go_198 {p : Program} {l : Launch} {e : Env} {s : State} {m : MethodId} {args : Array Value} {below : List Frame} {meth : Method} {c : Code} {G : m_G} {nx : Nat} {κ : Nat → Nat} {res : m_M} {a : Nat} (X : m_Cx p s m args meth c cX12_go 5 RX12 G) (hr : meth.sig.returnType = none) (hT : m_Str κ) (hk_a : κ a = 13)  : ∀ (S : m_M) (l1 : Int32) (H : Heap) (locs : List Loc) (ls : Array Slot), m_H G nx κ S H → m_S G s H locs → lv_has ls 5 [(0, .ref a), (1, .int l1)] → b_X12_go_198 a S l1 = some res → W p l e rm_X12_go s m args below meth c H locs 0 0 (m_Qv below args s G nx κ res) (F0 m 198 ls []) := by
  have hx := X.1.1
  have hb := X.1.2.1
  intro S l1 H locs ls hH hS hl hm
  rw [b_X12_go_198] at hm
  refine lv_iload_n hx hb dX12_go_198 rfl (lv_at hl 1 rfl) ?_
  obtain ⟨v2, S1, e_S1, hm⟩ := m_call_of hm
  refine n_cSi X hH hS (c_X12_isLetter  hT  e_S1) mw_X12_isLetter in_7_185 rfl ⟨rfl, rfl⟩ ⟨Nat.le_of_ble_eq_true rfl, Nat.le_of_ble_eq_true rfl⟩ ⟨Nat.zero_le _, Nat.zero_le _⟩ hl.1 (Nat.le_of_ble_eq_true rfl) dX12_go_199 (fun H locs hH hS => ?_)
  refine lv_istore_n (lv' := [(2, .int v2), (0, .ref a), (1, .int l1)]) hx hb dX12_go_202 rfl hl (by decide) rfl (fun ls hl => ?_)
  refine lv_iconst (v := (1 : Int32)) hx hb dX12_go_203 (by decide) ?_
  refine lv_istore_n (lv' := [(3, .int (1 : Int32)), (2, .int v2), (0, .ref a), (1, .int l1)]) hx hb dX12_go_204 rfl hl (by decide) rfl (fun ls hl => ?_)
  refine lv_aload_n hx hb dX12_go_205 rfl (lv_at hl 2 rfl) ?_
  refine lv_lconst (v := (0 : Int64)) hx hb dX12_go_206 (by decide) ?_
  obtain ⟨S3, e_S3, hm⟩ := m_let_of hm
  refine n_putj X hH hS tyX12 (k := 12) (a := a) (j := 12) hk_a (by decide) rfl m_wi12 tyX12_ok nmX12 (by decide) in_7_27 rfl rfl rfl ⟨rfl, rfl⟩ e_S3 dX12_go_207 (fun H locs hH hS => ?_)
  refine lv_aload_n hx hb dX12_go_210 rfl (lv_at hl 2 rfl) ?_
  refine lv_iconst (v := (0 : Int32)) hx hb dX12_go_211 (by decide) ?_
  obtain ⟨S4, e_S4, hm⟩ := m_let_of hm
  refine n_puti X hH hS tyX12 (k := 12) (a := a) (j := 8) hk_a (by decide) rfl m_wi12 tyX12_ok nmX12 (by decide) in_7_23 rfl rfl rfl ⟨rfl, rfl⟩ e_S4 dX12_go_212 (fun H locs hH hS => ?_)
  exact k_X12_go_215 (a := a) X hr hT hk_a  m_fu S4 v2 (1 : Int32) _ _ _ hH hS (lv_sub hl [2, 1, 0] rfl) hm
def b_X12_go_96 (a : Nat)  (S : m_M)  : Option m_M :=
    if (m_ri S a 5) < (m_ri S a 3) then (
    (m_ldi S (a + 1) 940 (m_ri S a 5)).bind fun v2 =>
    m_call (f_X12_isLetter S v2) fun v4 S3 =>
    if v4 = 0 then (
    m_call (f_X12_isDigit S3 v2) fun v7 S6 =>
    if v7 = 0 then (
    if v2 = (59 : Int32) then (
    b_X12_go_174 a S6 v2) else (
    if v2 = (60 : Int32) then (
    b_X12_go_174 a S6 v2) else (
    if v2 = (61 : Int32) then (
    b_X12_go_174 a S6 v2) else (
    if v2 = (62 : Int32) then (
    b_X12_go_174 a S6 v2) else (
    if v2 = (40 : Int32) then (
    b_X12_go_174 a S6 v2) else (
    if v2 = (41 : Int32) then (
    b_X12_go_174 a S6 v2) else (
    b_X12_go_179 a S6 v2 (1 : Int32)))))))) else (
    b_X12_go_198 a S6 v2)) else (
    b_X12_go_198 a S3 v2)) else (
    m_let (m_si S a 7 (0 : Int32)) fun S15 =>
    some S15)
set_option maxHeartbeats 4000000 in
set_option maxRecDepth 100000 in
theorem k_X12_go_96 {p : Program} {l : Launch} {e : Env} {s : State} {m : MethodId} {args : Array Value} {below : List Frame} {meth : Method} {c : Code} {G : m_G} {nx : Nat} {κ : Nat → Nat} {res : m_M} {a : Nat} (X : m_Cx p s m args meth c cX12_go 5 RX12 G) (hr : meth.sig.returnType = none) (hT : m_Str κ) (hk_a : κ a = 13)  : ∀ (S : m_M)  (H : Heap) (locs : List Loc) (ls : Array Slot), m_H G nx κ S H → m_S G s H locs → lv_has ls 5 [(0, .ref a)] → b_X12_go_96 a S  = some res → W p l e rm_X12_go s m args below meth c H locs 0 0 (m_Qv below args s G nx κ res) (F0 m 96 ls []) := by
  have hx := X.1.1
  have hb := X.1.2.1
  intro S H locs ls hH hS hl hm
  rw [b_X12_go_96] at hm
  refine lv_aload_n hx hb dX12_go_96 rfl (lv_at hl 0 rfl) ?_
  refine r_geti X hH (k := 12) (a := a) (j := 5) hk_a (by decide) rfl m_wi12 (by decide) in_7_20 rfl rfl dX12_go_97 ?_
  refine lv_aload_n hx hb dX12_go_100 rfl (lv_at hl 0 rfl) ?_
  refine r_geti X hH (k := 12) (a := a) (j := 3) hk_a (by decide) rfl m_wi12 (by decide) in_7_18 rfl rfl dX12_go_101 ?_
  refine lv_icmp_lt (tgt := 113) hx hb dX12_go_104 (by decide) (fun c1 => ?_) (fun c1 => ?_)
  · have hm := m_ite_t hm c1
    refine lv_aload_n hx hb dX12_go_113 rfl (lv_at hl 0 rfl) ?_
    refine r_getp X hH (k := 12) (a := a) (j := 1) (b := (a + 1)) (A := 1) (B := 0) hk_a (by decide) rfl m_wi12 (by decide) in_7_16 rfl rfl rfl dX12_go_114 ?_
    refine lv_aload_n hx hb dX12_go_117 rfl (lv_at hl 0 rfl) ?_
    refine r_geti X hH (k := 12) (a := a) (j := 5) hk_a (by decide) rfl m_wi12 (by decide) in_7_20 rfl rfl dX12_go_118 ?_
    obtain ⟨v2, h_v2, e_v2, hm⟩ := n_ldi hm
    refine n_iald X hH (n := 940) (m_lay_at hT hk_a (by decide) (i := 1) rfl) h_v2 e_v2 dX12_go_121 ?_
    refine lv_istore_n (lv' := [(1, .int v2), (0, .ref a)]) hx hb dX12_go_122 rfl hl (by decide) rfl (fun ls hl => ?_)
    refine lv_iload_n hx hb dX12_go_123 rfl (lv_at hl 0 rfl) ?_
    obtain ⟨v4, S3, e_S3, hm⟩ := m_call_of hm
    refine n_cSi X hH hS (c_X12_isLetter  hT  e_S3) mw_X12_isLetter in_7_185 rfl ⟨rfl, rfl⟩ ⟨Nat.le_of_ble_eq_true rfl, Nat.le_of_ble_eq_true rfl⟩ ⟨Nat.zero_le _, Nat.zero_le _⟩ hl.1 (Nat.le_of_ble_eq_true rfl) dX12_go_124 (fun H locs hH hS => ?_)
    refine lv_if_ne (tgt := 198) hx hb dX12_go_127 (by decide) (fun c5 => ?_) (fun c5 => ?_)
    · have hm := m_ite_f hm c5
      exact k_X12_go_198 (a := a) X hr hT hk_a   S3 v2 _ _ _ hH hS (lv_sub hl [1, 0] rfl) hm
    · have hm := m_ite_t hm c5
      refine lv_iload_n hx hb dX12_go_130 rfl (lv_at hl 0 rfl) ?_
      obtain ⟨v7, S6, e_S6, hm⟩ := m_call_of hm
      refine n_cSi X hH hS (c_X12_isDigit  hT  e_S6) mw_X12_isDigit in_7_188 rfl ⟨rfl, rfl⟩ ⟨Nat.le_of_ble_eq_true rfl, Nat.le_of_ble_eq_true rfl⟩ ⟨Nat.zero_le _, Nat.zero_le _⟩ hl.1 (Nat.le_of_ble_eq_true rfl) dX12_go_131 (fun H locs hH hS => ?_)
      refine lv_if_ne (tgt := 198) hx hb dX12_go_134 (by decide) (fun c8 => ?_) (fun c8 => ?_)
      · have hm := m_ite_f hm c8
        exact k_X12_go_198 (a := a) X hr hT hk_a   S6 v2 _ _ _ hH hS (lv_sub hl [1, 0] rfl) hm
      · have hm := m_ite_t hm c8
        refine lv_aload_n hx hb dX12_go_137 rfl (lv_at hl 1 rfl) ?_
        refine lv_iload_n hx hb dX12_go_138 rfl (lv_at hl 0 rfl) ?_
        refine lv_bipush (v := (59 : Int32)) hx hb dX12_go_139 (by decide) ?_
        refine lv_icmp_eq (tgt := 174) hx hb dX12_go_141 (by decide) (fun c9 => ?_) (fun c9 => ?_)
        · have hm := m_ite_t hm c9
          exact k_X12_go_174 (a := a) X hr hT hk_a   S6 v2 _ _ _ hH hS (lv_sub hl [1, 0] rfl) hm
        · have hm := m_ite_f hm c9
          refine lv_iload_n hx hb dX12_go_144 rfl (lv_at hl 0 rfl) ?_
          refine lv_bipush (v := (60 : Int32)) hx hb dX12_go_145 (by decide) ?_
          refine lv_icmp_eq (tgt := 174) hx hb dX12_go_147 (by decide) (fun c10 => ?_) (fun c10 => ?_)
          · have hm := m_ite_t hm c10
            exact k_X12_go_174 (a := a) X hr hT hk_a   S6 v2 _ _ _ hH hS (lv_sub hl [1, 0] rfl) hm
          · have hm := m_ite_f hm c10
            refine lv_iload_n hx hb dX12_go_150 rfl (lv_at hl 0 rfl) ?_
            refine lv_bipush (v := (61 : Int32)) hx hb dX12_go_151 (by decide) ?_
            refine lv_icmp_eq (tgt := 174) hx hb dX12_go_153 (by decide) (fun c11 => ?_) (fun c11 => ?_)
            · have hm := m_ite_t hm c11
              exact k_X12_go_174 (a := a) X hr hT hk_a   S6 v2 _ _ _ hH hS (lv_sub hl [1, 0] rfl) hm
            · have hm := m_ite_f hm c11
              refine lv_iload_n hx hb dX12_go_156 rfl (lv_at hl 0 rfl) ?_
              refine lv_bipush (v := (62 : Int32)) hx hb dX12_go_157 (by decide) ?_
              refine lv_icmp_eq (tgt := 174) hx hb dX12_go_159 (by decide) (fun c12 => ?_) (fun c12 => ?_)
              · have hm := m_ite_t hm c12
                exact k_X12_go_174 (a := a) X hr hT hk_a   S6 v2 _ _ _ hH hS (lv_sub hl [1, 0] rfl) hm
              · have hm := m_ite_f hm c12
                refine lv_iload_n hx hb dX12_go_162 rfl (lv_at hl 0 rfl) ?_
                refine lv_bipush (v := (40 : Int32)) hx hb dX12_go_163 (by decide) ?_
                refine lv_icmp_eq (tgt := 174) hx hb dX12_go_165 (by decide) (fun c13 => ?_) (fun c13 => ?_)
                · have hm := m_ite_t hm c13
                  exact k_X12_go_174 (a := a) X hr hT hk_a   S6 v2 _ _ _ hH hS (lv_sub hl [1, 0] rfl) hm
                · have hm := m_ite_f hm c13
                  refine lv_iload_n hx hb dX12_go_168 rfl (lv_at hl 0 rfl) ?_
                  refine lv_bipush (v := (41 : Int32)) hx hb dX12_go_169 (by decide) ?_
                  refine lv_icmp_ne (tgt := 178) hx hb dX12_go_171 (by decide) (fun c14 => ?_) (fun c14 => ?_)
                  · have hm := m_ite_f hm c14
                    refine lv_iconst (v := (1 : Int32)) hx hb dX12_go_178 (by decide) ?_
                    exact k_X12_go_179 (a := a) X hr hT hk_a   S6 v2 (1 : Int32) _ _ _ hH hS (lv_sub hl [1, 0] rfl) hm
                  · have hm := m_ite_t hm c14
                    exact k_X12_go_174 (a := a) X hr hT hk_a   S6 v2 _ _ _ hH hS (lv_sub hl [1, 0] rfl) hm
  · have hm := m_ite_f hm c1
    refine lv_aload_n hx hb dX12_go_107 rfl (lv_at hl 0 rfl) ?_
    refine lv_iconst (v := (0 : Int32)) hx hb dX12_go_108 (by decide) ?_
    obtain ⟨S15, e_S15, hm⟩ := m_let_of hm
    refine n_puti X hH hS tyX12 (k := 12) (a := a) (j := 7) hk_a (by decide) rfl m_wi12 tyX12_ok nmX12 (by decide) in_7_22 rfl rfl rfl ⟨rfl, rfl⟩ e_S15 dX12_go_109 (fun H locs hH hS => ?_)
    exact r_vret X hr hH hS hm dX12_go_112
def b_X12_go_52 (a : Nat)  (S : m_M)  : Option m_M :=
    m_let (m_si S a 6 (m_ri S a 5)) fun S1 =>
    if (m_ri S1 a 3) ≤ (m_ri S1 a 4) then (
    b_X12_go_96 a S1) else (
    if (m_ri S1 a 6) < (m_ri S1 a 4) then (
    b_X12_go_96 a S1) else (
    m_let (m_si S1 a 6 (m_ri S1 a 4)) fun S4 =>
    m_let (m_si S4 a 7 (1 : Int32)) fun S5 =>
    some S5))
set_option maxHeartbeats 4000000 in
set_option maxRecDepth 100000 in
theorem k_X12_go_52 {p : Program} {l : Launch} {e : Env} {s : State} {m : MethodId} {args : Array Value} {below : List Frame} {meth : Method} {c : Code} {G : m_G} {nx : Nat} {κ : Nat → Nat} {res : m_M} {a : Nat} (X : m_Cx p s m args meth c cX12_go 5 RX12 G) (hr : meth.sig.returnType = none) (hT : m_Str κ) (hk_a : κ a = 13)  : ∀ (S : m_M)  (H : Heap) (locs : List Loc) (ls : Array Slot), m_H G nx κ S H → m_S G s H locs → lv_has ls 5 [(0, .ref a)] → b_X12_go_52 a S  = some res → W p l e rm_X12_go s m args below meth c H locs 0 0 (m_Qv below args s G nx κ res) (F0 m 52 ls []) := by
  have hx := X.1.1
  have hb := X.1.2.1
  intro S H locs ls hH hS hl hm
  rw [b_X12_go_52] at hm
  refine lv_aload_n hx hb dX12_go_52 rfl (lv_at hl 0 rfl) ?_
  refine lv_aload_n hx hb dX12_go_53 rfl (lv_at hl 0 rfl) ?_
  refine r_geti X hH (k := 12) (a := a) (j := 5) hk_a (by decide) rfl m_wi12 (by decide) in_7_20 rfl rfl dX12_go_54 ?_
  obtain ⟨S1, e_S1, hm⟩ := m_let_of hm
  refine n_puti X hH hS tyX12 (k := 12) (a := a) (j := 6) hk_a (by decide) rfl m_wi12 tyX12_ok nmX12 (by decide) in_7_21 rfl rfl rfl ⟨rfl, rfl⟩ e_S1 dX12_go_57 (fun H locs hH hS => ?_)
  refine lv_aload_n hx hb dX12_go_60 rfl (lv_at hl 0 rfl) ?_
  refine r_geti X hH (k := 12) (a := a) (j := 3) hk_a (by decide) rfl m_wi12 (by decide) in_7_18 rfl rfl dX12_go_61 ?_
  refine lv_aload_n hx hb dX12_go_64 rfl (lv_at hl 0 rfl) ?_
  refine r_geti X hH (k := 12) (a := a) (j := 4) hk_a (by decide) rfl m_wi12 (by decide) in_7_19 rfl rfl dX12_go_65 ?_
  refine lv_icmp_le (tgt := 96) hx hb dX12_go_68 (by decide) (fun c2 => ?_) (fun c2 => ?_)
  · have hm := m_ite_t hm c2
    exact k_X12_go_96 (a := a) X hr hT hk_a   S1 _ _ _ hH hS hl hm
  · have hm := m_ite_f hm c2
    refine lv_aload_n hx hb dX12_go_71 rfl (lv_at hl 0 rfl) ?_
    refine r_geti X hH (k := 12) (a := a) (j := 6) hk_a (by decide) rfl m_wi12 (by decide) in_7_21 rfl rfl dX12_go_72 ?_
    refine lv_aload_n hx hb dX12_go_75 rfl (lv_at hl 0 rfl) ?_
    refine r_geti X hH (k := 12) (a := a) (j := 4) hk_a (by decide) rfl m_wi12 (by decide) in_7_19 rfl rfl dX12_go_76 ?_
    refine lv_icmp_lt (tgt := 96) hx hb dX12_go_79 (by decide) (fun c3 => ?_) (fun c3 => ?_)
    · have hm := m_ite_t hm c3
      exact k_X12_go_96 (a := a) X hr hT hk_a   S1 _ _ _ hH hS hl hm
    · have hm := m_ite_f hm c3
      refine lv_aload_n hx hb dX12_go_82 rfl (lv_at hl 0 rfl) ?_
      refine lv_aload_n hx hb dX12_go_83 rfl (lv_at hl 0 rfl) ?_
      refine r_geti X hH (k := 12) (a := a) (j := 4) hk_a (by decide) rfl m_wi12 (by decide) in_7_19 rfl rfl dX12_go_84 ?_
      obtain ⟨S4, e_S4, hm⟩ := m_let_of hm
      refine n_puti X hH hS tyX12 (k := 12) (a := a) (j := 6) hk_a (by decide) rfl m_wi12 tyX12_ok nmX12 (by decide) in_7_21 rfl rfl rfl ⟨rfl, rfl⟩ e_S4 dX12_go_87 (fun H locs hH hS => ?_)
      refine lv_aload_n hx hb dX12_go_90 rfl (lv_at hl 0 rfl) ?_
      refine lv_iconst (v := (1 : Int32)) hx hb dX12_go_91 (by decide) ?_
      obtain ⟨S5, e_S5, hm⟩ := m_let_of hm
      refine n_puti X hH hS tyX12 (k := 12) (a := a) (j := 7) hk_a (by decide) rfl m_wi12 tyX12_ok nmX12 (by decide) in_7_22 rfl rfl rfl ⟨rfl, rfl⟩ e_S5 dX12_go_92 (fun H locs hH hS => ?_)
      exact r_vret X hr hH hS hm dX12_go_95
def b_X12_go_0 (a : Nat)  : Nat → m_M → Option m_M
  | 0, _ => none
  | n + 1, S =>
    if (m_ri S a 3) ≤ (m_ri S a 5) then (
    b_X12_go_52 a S) else (
    (m_ldi S (a + 1) 940 (m_ri S a 5)).bind fun v2 =>
    if v2 = (32 : Int32) then (
    b_X12_go_39 a (b_X12_go_0 a n) S) else (
    (m_ldi S (a + 1) 940 (m_ri S a 5)).bind fun v4 =>
    if v4 = (10 : Int32) then (
    b_X12_go_39 a (b_X12_go_0 a n) S) else (
    b_X12_go_52 a S)))
set_option maxHeartbeats 4000000 in
set_option maxRecDepth 100000 in
theorem k_X12_go_0 {p : Program} {l : Launch} {e : Env} {s : State} {m : MethodId} {args : Array Value} {below : List Frame} {meth : Method} {c : Code} {G : m_G} {nx : Nat} {κ : Nat → Nat} {res : m_M} {a : Nat} (X : m_Cx p s m args meth c cX12_go 5 RX12 G) (hr : meth.sig.returnType = none) (hT : m_Str κ) (hk_a : κ a = 13)  (n : Nat) : ∀ (S : m_M)  (H : Heap) (locs : List Loc) (ls : Array Slot), m_H G nx κ S H → m_S G s H locs → lv_has ls 5 [(0, .ref a)] → b_X12_go_0 a n S  = some res → W p l e rm_X12_go s m args below meth c H locs 0 0 (m_Qv below args s G nx κ res) (F0 m 0 ls []) := by
  have hx := X.1.1
  have hb := X.1.2.1
  induction n with
  | zero => intro S H locs ls hH hS hl hm; have hm : (none : Option m_M) = some res := hm; cases hm
  | succ n ih =>
    intro S H locs ls hH hS hl hm
    rw [b_X12_go_0] at hm
    refine lv_aload_n hx hb dX12_go_0 rfl (lv_at hl 0 rfl) ?_
    refine r_geti X hH (k := 12) (a := a) (j := 5) hk_a (by decide) rfl m_wi12 (by decide) in_7_20 rfl rfl dX12_go_1 ?_
    refine lv_aload_n hx hb dX12_go_4 rfl (lv_at hl 0 rfl) ?_
    refine r_geti X hH (k := 12) (a := a) (j := 3) hk_a (by decide) rfl m_wi12 (by decide) in_7_18 rfl rfl dX12_go_5 ?_
    refine lv_icmp_ge (tgt := 52) hx hb dX12_go_8 (by decide) (fun c1 => ?_) (fun c1 => ?_)
    · have hm := m_ite_t hm c1
      exact k_X12_go_52 (a := a) X hr hT hk_a   S _ _ _ hH hS hl hm
    · have hm := m_ite_f hm c1
      refine lv_aload_n hx hb dX12_go_11 rfl (lv_at hl 0 rfl) ?_
      refine r_getp X hH (k := 12) (a := a) (j := 1) (b := (a + 1)) (A := 1) (B := 0) hk_a (by decide) rfl m_wi12 (by decide) in_7_16 rfl rfl rfl dX12_go_12 ?_
      refine lv_aload_n hx hb dX12_go_15 rfl (lv_at hl 0 rfl) ?_
      refine r_geti X hH (k := 12) (a := a) (j := 5) hk_a (by decide) rfl m_wi12 (by decide) in_7_20 rfl rfl dX12_go_16 ?_
      obtain ⟨v2, h_v2, e_v2, hm⟩ := n_ldi hm
      refine n_iald X hH (n := 940) (m_lay_at hT hk_a (by decide) (i := 1) rfl) h_v2 e_v2 dX12_go_19 ?_
      refine lv_bipush (v := (32 : Int32)) hx hb dX12_go_20 (by decide) ?_
      refine lv_icmp_eq (tgt := 39) hx hb dX12_go_22 (by decide) (fun c3 => ?_) (fun c3 => ?_)
      · have hm := m_ite_t hm c3
        exact k_X12_go_39 (a := a) X hr hT hk_a (b_X12_go_0 a n) ih  S _ _ _ hH hS hl hm
      · have hm := m_ite_f hm c3
        refine lv_aload_n hx hb dX12_go_25 rfl (lv_at hl 0 rfl) ?_
        refine r_getp X hH (k := 12) (a := a) (j := 1) (b := (a + 1)) (A := 1) (B := 0) hk_a (by decide) rfl m_wi12 (by decide) in_7_16 rfl rfl rfl dX12_go_26 ?_
        refine lv_aload_n hx hb dX12_go_29 rfl (lv_at hl 0 rfl) ?_
        refine r_geti X hH (k := 12) (a := a) (j := 5) hk_a (by decide) rfl m_wi12 (by decide) in_7_20 rfl rfl dX12_go_30 ?_
        obtain ⟨v4, h_v4, e_v4, hm⟩ := n_ldi hm
        refine n_iald X hH (n := 940) (m_lay_at hT hk_a (by decide) (i := 1) rfl) h_v4 e_v4 dX12_go_33 ?_
        refine lv_bipush (v := (10 : Int32)) hx hb dX12_go_34 (by decide) ?_
        refine lv_icmp_ne (tgt := 52) hx hb dX12_go_36 (by decide) (fun c5 => ?_) (fun c5 => ?_)
        · have hm := m_ite_f hm c5
          exact k_X12_go_52 (a := a) X hr hT hk_a   S _ _ _ hH hS hl hm
        · have hm := m_ite_t hm c5
          exact k_X12_go_39 (a := a) X hr hT hk_a (b_X12_go_0 a n) ih  S _ _ _ hH hS hl hm
def f_X12_go (a : Nat) (S : m_M)  : Option m_M :=
    b_X12_go_0 a m_fu S
set_option maxHeartbeats 4000000 in
set_option maxRecDepth 100000 in
theorem c_X12_go {l : Launch} {G : m_G} {nx : Nat} {κ : Nat → Nat} {a : Nat} {S : m_M}  {res : m_M} (hT : m_Str κ) (hk_a : κ a = 13) (hm : f_X12_go a S = some res) : m_Cv l yX12_go cX12_go 5 rm_X12_go G nx κ [.ref a] S res := by
  refine m_Cv.of (by decide) (Nat.le_of_ble_eq_true rfl) ?_
  intro p e s m args below meth c ls X hr hH hl
  have hx := X.1.1
  have hb := X.1.2.1
  have hS : m_S G s s.heap [] := va_S.rf
  have hl : lv_has ls 5 [(0, .ref a)] := hl
  rw [f_X12_go] at hm
  exact k_X12_go_0 (a := a) X hr hT hk_a  m_fu S _ _ _ hH hS hl hm
