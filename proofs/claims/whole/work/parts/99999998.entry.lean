/-! THE CLAIM OUT OF ONE WALK OF THE LAW'S BODY. Your part is whole_start (and what it stands on); all else here is the same for every law, but numbers. -/
def R_law : String := "RegionRoomsLaw"
def lw_P (b : Addr) (xs : List Int32) (args : Array Value) (s : State) : Prop := args = #[.ref b] ∧ s.IntsAt b xs ∧ xs.length ≤ 3072 ∧ (Jvm.Cond.and given_1 narrow_1).before args s = true
def lw_Q (_ : Array Value) (s : State) (o : Outcome) (t : State) : Prop := o = .returned (some (.int 1)) ∧ Framed s o t [] 601024 7293034
def lw_Z (below : List Frame) (a : Array Value) (s : State) : State → Prop := fun t => ∃ o, t.status = .running ∧ Ended t below o ∧ lw_Q a s o t
/-- the law's own end, with 1 on the stack, nothing written that was there before, its room as the claim has it -/
theorem lw_ret {p : Program} {l : Launch} {e : Env} {s : State} {m : MethodId} {below : List Frame} {meth : Method} {c : Code} {b : Nat} (hx : p.tables.exec = Jvm.exec) (hb : c.code = code) (hr : meth.sig.returnType = ret) (hlocks : meth.locks = false) {pc : Nat} {H : Heap} {ls : Array Slot} (hdg : decode code pc = .ok (.ireturn, 1)) : W p l e room_1 s m #[Value.ref b] below meth c H [] 601024 7293034 (lw_Z below #[Value.ref b] s) (F0 m pc ls [.int 1]) := by
  intro T hT X
  obtain ⟨fs, hret, hrun, hended, hW, hframe⟩ := X.leave (v := some (.int 1)) (hlocks := hlocks) (fun h => by rw [hr] at h; cases h)
  have hmeth' : T.vm.method? m = some meth := X.method'
  refine ⟨T.setFrames fs, ?_, .returned (some (.int 1)), hrun, hended, rfl, ⟨_, rfl⟩, hW, hframe⟩
  jvm_step X.here [X.here.top, hx, hb, hdg, hmeth', hr, ret, narrow_b1]
  (try refine ⟨rfl, ?_⟩); (try refine ⟨rfl, ?_⟩)
  first | (intro acts; rw [hret _ acts rfl rfl rfl]) | rw [hret _ _ rfl rfl rfl]
  exact Steps.refl _
/-- what holds at the law's entry: the machine, the code, the tables' words (any of lw_tbl by 'hts w (by decide +kernel)'), the script of L ints xs at the cell b, what the Statement gives of the start (any of its parts by flat_of_before) -/
def lw_At (p : Program) (s : State) (m : MethodId) (meth : Method) (c : Code) (b L : Nat) (xs : Nat → Int32) : Prop :=
  p.tables.exec = Jvm.exec ∧ c.code = code ∧ meth.sig.returnType = ret ∧ c.maxLocals = 7 ∧ s.vm.findClass R_law = some m.cls ∧ (∀ w ∈ lw_tbl, w.before #[Value.ref b] s = true) ∧ va_X b L xs s s.heap ∧ b < s.heap.size ∧ meth.locks = false ∧ (Jvm.Cond.and given_1 narrow_1).before #[Value.ref b] s = true
/-! what holds at the entry -/
def ey_tm : Term := .string "RegionRooms$Tokens" 74
def ey_fl : List Cond := flatC (Jvm.Cond.and given_1 narrow_1)
theorem ey_m1 : ∀ q ∈ m_nest, Cond.methodLinkNest q.1 q.2.1 q.2.2.1 q.2.2.2 ∈ lw_tbl := by decide +kernel
theorem ey_m2 : Cond.arrayOver (.object "RegionRooms$Machine") ∈ lw_tbl ∧ Cond.arrayOver (.object "RegionRooms$Whole") ∈ lw_tbl := by decide +kernel
theorem ey_m3 : ∀ w ∈ x_bad, w ∈ lw_tbl := by decide +kernel
theorem ey_m4 : Cond.laysStatic Bundle.tN "UNASSIGNED_STACK" Bundle.steD ∈ lw_tbl ∧ Cond.laysStatic Bundle.tN "SUPPRESSED_SENTINEL" Bundle.listD ∈ lw_tbl ∧ Cond.initialized Bundle.tN ∈ lw_tbl := by decide +kernel
theorem ey_m5 : Cond.laysStatic "java/lang/String" "COMPACT_STRINGS" "Z" ∈ lw_tbl ∧ Cond.initialized "java/lang/String" ∈ lw_tbl ∧ Cond.laysStatic "jdk/internal/util/Preconditions" "SIOOBE_FORMATTER" "Ljava/util/function/BiFunction;" ∈ lw_tbl ∧ Cond.initialized "jdk/internal/util/Preconditions" ∈ lw_tbl ∧ Cond.stringRef RX9 74 m_kwt ∈ lw_tbl := by decide +kernel
theorem ey_g1 : Cond.isRef (.static Bundle.tN "UNASSIGNED_STACK" Bundle.steD) ∈ ey_fl ∧ Cond.isRef (.static Bundle.tN "SUPPRESSED_SENTINEL" Bundle.listD) ∈ ey_fl ∧ Cond.eq (.static "java/lang/String" "COMPACT_STRINGS" "Z") (.int 1) ∈ ey_fl ∧ Cond.isRef (.static "jdk/internal/util/Preconditions" "SIOOBE_FORMATTER" "Ljava/util/function/BiFunction;") ∈ ey_fl := by decide +kernel
theorem ey_g2 : Cond.exactly ey_tm "java/lang/String" ∈ ey_fl ∧ Cond.eq (.field ey_tm "java/lang/String" "coder" "B") (.int 0) ∈ ey_fl ∧ Cond.arrayOf (.field ey_tm "java/lang/String" "value" "[B") .byte ∈ ey_fl ∧ Cond.eq (.length (.field ey_tm "java/lang/String" "value" "[B")) (.int 113) ∈ ey_fl := by decide +kernel
theorem ey_g3 : ∀ j, j < 113 → Cond.eq (.elem (.field ey_tm "java/lang/String" "value" "[B") (.int (Int32.ofNat j))) (.int (m_kw.getD j 0)) ∈ ey_fl := by decide +kernel
theorem ey_arr {s : State} {args : Array Value} {ty : FieldType} (h : (Cond.arrayClass ty).before args s = true) : ∃ cA, ArrOfT s cA ty ∧ s.vm.findClass ("[" ++ ty.toString) = some cA := by
  obtain ⟨cA, k, comp, h1, h2, h3⟩ := Cond.arrayClass_spec h
  exact ⟨cA, fun n z => ⟨fun k h => (by cases h), k, h2, comp, h3⟩, h1⟩
theorem ey_arq {s : State} {args : Array Value} {C : String} (h : (Cond.arrayOver (.object C)).before args s = true) : ∃ cA, ArrOfT s cA (.object C) ∧ va_RA s cA (.object C) := by
  obtain ⟨comp, cA, k, h1, h2, h3, h4, h5⟩ := Cond.arrayOver_spec h
  exact ⟨cA, fun n z => ⟨fun k h => (by cases h), k, h3, comp, h4⟩, k, comp, h3, h4, h1, h5⟩
theorem ey_known {p : Program} {s : State} {m : MethodId} {meth : Method} {c : Code} {b L : Nat} {xs : Nat → Int32} (C0 : lw_At p s m meth c b L xs) :
    ∃ (G : m_G) (q v : Nat), G.2.2 = s.heap.size ∧ m_Cx p s m #[Value.ref b] meth c cL_law 7 RL G ∧ m_N s ∧ m_TX G.2.2 q v s ∧ vk_R RX9 74 m_kwt q s ∧ x_Z G s s.heap ∧ ∀ S, m_H G s.heap.size (fun _ => 0) S s.heap := by
  obtain ⟨hx, hb, hr, hml, hown, hts, hX, hbl, hlocks, hgv⟩ := C0
  have htg : ∀ w ∈ m_gW, w.before #[Value.ref b] s = true := fun w h => hts w (List.mem_filter.mp h).1
  have hfl : ∀ w ∈ ey_fl, w.before #[Value.ref b] s = true := flat_of_before _ hgv
  obtain ⟨c0, i0, k0⟩ := u_known (C := RX0) (T := TX0) (N := 3) (n := 3) htg m_wi0 (htg _ in_3_55)
  obtain ⟨c1, i1, k1⟩ := u_known (C := RX1) (T := TX1) (N := 3) (n := 3) htg m_wi1 (htg _ in_3_38)
  obtain ⟨c2, i2, k2⟩ := u_known (C := RX2) (T := TX2) (N := 20) (n := 20) htg m_wi2 (htg _ in_2_168)
  obtain ⟨c3, i3, k3⟩ := u_known (C := RX3) (T := TX3) (N := 10) (n := 10) htg m_wi3 (htg _ in_1_41)
  obtain ⟨c4, i4, k4⟩ := u_known (C := RX4) (T := TX4) (N := 4) (n := 4) htg m_wi4 (htg _ in_1_35)
  obtain ⟨c5, i5, k5⟩ := u_known (C := RX5) (T := TX5) (N := 5) (n := 5) htg m_wi5 (htg _ in_2_138)
  obtain ⟨c6, i6, k6⟩ := u_known (C := RX6) (T := TX6) (N := 15) (n := 15) htg m_wi6 (htg _ in_1_47)
  obtain ⟨c7, i7, k7⟩ := u_known (C := RX7) (T := TX7) (N := 7) (n := 7) htg m_wi7 (htg _ in_2_94)
  obtain ⟨c8, i8, k8⟩ := u_known (C := RX8) (T := TX8) (N := 2) (n := 2) htg m_wi8 (htg _ in_2_88)
  obtain ⟨c9, i9, k9⟩ := u_known (C := RX9) (T := TX9) (N := 17) (n := 17) htg m_wi9 (htg _ in_1_187)
  obtain ⟨c10, i10, k10⟩ := u_known (C := RX10) (T := TX10) (N := 3) (n := 3) htg m_wi10 (htg _ in_2_160)
  obtain ⟨c11, i11, k11⟩ := u_known (C := RX11) (T := TX11) (N := 13) (n := 13) htg m_wi11 (htg _ in_1_27)
  obtain ⟨c12, i12, k12⟩ := u_known (C := RX12) (T := TX12) (N := 51) (n := 51) htg m_wi12 (htg _ in_6_173)
  obtain ⟨a0, f0, g0⟩ := ey_arr (htg _ in_1_119)
  obtain ⟨a1, f1, g1⟩ := ey_arr (htg _ in_1_121)
  obtain ⟨a2, f2, g2⟩ := ey_arr (htg _ in_1_120)
  obtain ⟨a3, f3, g3⟩ := ey_arr (htg _ in_2_125)
  obtain ⟨a4, f4, g4⟩ := ey_arq (hts _ ey_m2.1)
  obtain ⟨a5, f5, g5⟩ := ey_arq (hts _ ey_m2.2)
  obtain ⟨G, hG⟩ : ∃ G : m_G, G = ((fun k => match k with | 0 => c0 | 1 => c1 | 2 => c2 | 3 => c3 | 4 => c4 | 5 => c5 | 6 => c6 | 7 => c7 | 8 => c8 | 9 => c9 | 10 => c10 | 11 => c11 | _ => c12, fun k => match k with | 0 => i0 | 1 => i1 | 2 => i2 | 3 => i3 | 4 => i4 | 5 => i5 | 6 => i6 | 7 => i7 | 8 => i8 | 9 => i9 | 10 => i10 | 11 => i11 | _ => i12), fun t => match t with | 0 => a0 | 1 => a1 | 2 => a2 | 3 => a3 | 4 => a4 | _ => a5, s.heap.size) := ⟨_, rfl⟩
  have hA : ∀ a : Nat, a < s.heap.size → ¬ m_ge G.2.2 a := fun a ha h => by rw [hG] at h; exact absurd ha (Nat.not_lt.mpr h)
  have hK : va_K G.1 vwCl (m_tys G.2.1) s := by
    rw [hG]
    refine ⟨fun k q hq => ?_, fun k q hq => ?_⟩
    · match k, hq with
      | 0, hq => cases hq; exact k0
      | 1, hq => cases hq; exact k1
      | 2, hq => cases hq; exact k2
      | 3, hq => cases hq; exact k3
      | 4, hq => cases hq; exact k4
      | 5, hq => cases hq; exact k5
      | 6, hq => cases hq; exact k6
      | 7, hq => cases hq; exact k7
      | 8, hq => cases hq; exact k8
      | 9, hq => cases hq; exact k9
      | 10, hq => cases hq; exact k10
      | 11, hq => cases hq; exact k11
      | 12, hq => cases hq; exact k12
      | k + 13, hq => cases hq
    · match k, hq with
      | 0, hq => cases hq; exact ⟨f0, g0⟩
      | 1, hq => cases hq; exact ⟨f1, g1⟩
      | 2, hq => cases hq; exact ⟨f2, g2⟩
      | 3, hq => cases hq; exact ⟨f3, g3⟩
      | 4, hq => cases hq; exact ⟨f4, g4⟩
      | 5, hq => cases hq; exact ⟨f5, g5⟩
      | k + 6, hq => cases hq
  obtain ⟨adK, adV, hSt, hEv⟩ := vk_Sof (args := #[Value.ref b]) (s := s) (N := 1) (tm := fun _ => ey_tm) (len := [113]) (byt := [m_kw]) (A := m_ge G.2.2)
    (fun i hi => by rw [show i = 0 by omega]; decide) (fun i hi => hfl _ ey_g2.1) (fun i hi => hfl _ ey_g2.2.1) (fun i hi => hfl _ ey_g2.2.2.1)
    (fun i hi => by rw [show i = 0 by omega]; exact hfl _ ey_g2.2.2.2) (fun i hi j hj => by
      obtain rfl : i = 0 := by omega
      exact hfl _ (ey_g3 j hj)) (fun i j hi hj hij => absurd (show i = j by omega) hij) hA
  obtain ⟨t1, t2, t3, t4⟩ := hSt.1 0 (by omega)
  refine ⟨G, adK 0, adV 0, by rw [hG], ⟨⟨hx, hb, hml, hown, htg⟩, hK, hlocks, by rw [hG]; exact Nat.le_refl _⟩, ⟨fun q hq => va_Nw.of rfl (hts _ (ey_m1 q hq)), va_AO.of (hts _ ey_m2.1), va_AO.of (hts _ ey_m2.2)⟩, ⟨?_, ?_, t1, t2, t3, t4⟩, vk_R.of (A := #[Value.ref b]) (hts _ ey_m5.2.2.2.2) (hEv 0 (by omega)), ⟨?_, ?_, fun w hw => va_Nw.of (x_bad_t w hw) (hts _ (ey_m3 w hw))⟩, fun S => ⟨rfl, ⟨by rw [hG]; exact Nat.le_refl _, fun q h => absurd rfl h⟩, fun q k h => (by cases h), fun q k i h => ?_, fun q t n h => ?_, fun q n h => ?_, fun q t n h => ?_⟩⟩
  · exact va_Zof (hts _ ey_m5.1) (hts _ ey_m5.2.1) (va_eqt (hfl _ ey_g1.2.2.1)) hA
  · exact va_Zqof (hts _ ey_m5.2.2.1) (hts _ ey_m5.2.2.2.1) (hfl _ ey_g1.2.2.2) hA
  · exact vx_Zqof (hts _ ey_m4.1) (hts _ ey_m4.2.2) (hfl _ ey_g1.1) hA
  · exact vx_Zqof (hts _ ey_m4.2.1) (hts _ ey_m4.2.2) (hfl _ ey_g1.2.1) hA
  · simp only [m_ac] at h; omega
  · simp only [m_ac] at h; omega
  · simp only [m_ac] at h; omega
  · simp only [m_ac] at h; omega
