/-! THE STRING CONSTANT OF Tokens, and the JDK's methods that read it -/
def m_kw : List Int32 := [102, 117, 110, 32, 105, 115, 32, 112, 97, 105, 114, 32, 108, 101, 102, 116, 32, 114, 105, 103, 104, 116, 32, 115, 117, 109, 32, 108, 101, 115, 115, 32, 112, 105, 99, 107, 32, 99, 97, 108, 108, 32, 119, 104, 101, 110, 32, 101, 108, 115, 101, 32, 111, 114, 32, 97, 110, 100, 32, 110, 111, 116, 32, 102, 105, 110, 105, 116, 101, 32, 111, 117, 116, 101, 114, 32, 108, 105, 118, 101, 32, 111, 119, 110, 101, 100, 32, 102, 105, 108, 108, 101, 100, 32, 99, 101, 108, 108, 115, 32, 114, 111, 111, 109, 115, 32, 110, 117, 109, 98, 101, 114, 32]
def m_kwt : String := "fun is pair left right sum less pick call when else or and not finite outer live owned filled cells rooms number "
/-- the constant's String at q, its bytes at v, what the methods read of statics; all below b -/
def m_TX (b q v : Nat) (U : State) : Prop :=
  va_Z "java/lang/String" "COMPACT_STRINGS" "Z" (.int 1) (m_ge b) U U.heap ∧ va_Zq "jdk/internal/util/Preconditions" "SIOOBE_FORMATTER" "Ljava/util/function/BiFunction;" (m_ge b) U U.heap ∧
  va_O "java/lang/String" q (m_ge b) U U.heap ∧ va_OF "java/lang/String" "coder" "B" (.int 0) q (m_ge b) U U.heap ∧ va_OF "java/lang/String" "value" "[B" (.ref v) q (m_ge b) U U.heap ∧ va_T .byte v 113 (fun j => .int (m_kw.getD j 0)) (m_ge b) U U.heap
theorem m_TX.go {b q v : Nat} {s U : State} (h : m_TX b q v s) (hvm : s.vm.Alike U.vm) (hq : ∀ a : Nat, a < s.heap.size → ¬ m_ge b a → U.heap[a]? = s.heap[a]?) : m_TX b q v U :=
  ⟨va_Z.moved hvm (h.1.kept hq), va_Zq.moved hvm (h.2.1.kept hq), va_O.moved hvm (h.2.2.1.kept hq), va_OF.moved hvm (h.2.2.2.1.kept hq), va_OF.moved hvm (h.2.2.2.2.1.kept hq), va_T.moved hvm (h.2.2.2.2.2.kept hq)⟩
theorem m_TX.blind {b q v : Nat} {av : List Value} : FrameBlind (va_Pc av (m_TX b q v)) := fun a U g mk h => ⟨h.1, h.2.go (Vm.Alike.refl U.vm) (fun _ _ _ => rfl)⟩
theorem m_TX.pre {b q v : Nat} {av : List Value} {s : State} {H : Heap} {locs : List Loc} (h : m_TX b q v s) (hS : va_S (m_ge b) s.heap H locs) : ∀ U : State, U.heap = H → s.WarmedH U.vm → va_Pc av (m_TX b q v) av.toArray U := fun U hU hW =>
  ⟨rfl, h.go hW.alike (fun a h1 h2 => by rw [hU]; exact hS.2.1 a h1 h2)⟩
/-- a method that reads only: it answers r, the heap stays -/
def m_Ri (l : Launch) (y : MethodName) (b : ByteArray) (n : Nat) (rt : Option FieldType) (rm : Room) (bb q v : Nat) (av : List Value) (r : Int32) : Prop :=
  Met l y (m_ws y b n rt) rm (va_Pc av (m_TX bb q v)) (vp_Si (fun z => z = r)) 0 0 (fun _ => False)
def m_Rv (l : Launch) (y : MethodName) (b : ByteArray) (n : Nat) (rm : Room) (bb q v : Nat) (av : List Value) : Prop :=
  Met l y (m_ws y b n none) rm (va_Pc av (m_TX bb q v)) (va_Sv (fun _ => True)) 0 0 (fun _ => False)
section MStr
variable {l : Launch} {b q v : Nat}
theorem m_Sx {p : Program} {y : MethodName} {bb : ByteArray} {n : Nat} {rt : Option FieldType} {rm : Room} {e : Env} {s s₁ : State} {m : MethodId} {args : Array Value} {below : List Frame} {meth : Method} {c : Code} (B : BodyLoose p l y (headSpec (m_ws y bb n rt) rm) bb n rt e s m args below meth c s₁) (hml : c.maxLocals = n) : CallFix p m c bb n s args m_gW y.cls :=
  ⟨B.exec, B.bytes, hml, findClass_of_methodNamed B.named, fun w h => atoms_spec (ws := m_ws y bb n rt) B.pre w (List.mem_cons_of_mem _ h)⟩
def rm_s0 : Room := { frames := 0, cells := 0, slots := 0, locals := 0 }
def rm_s1 : Room := { frames := 1, cells := 0, slots := 0, locals := 30 }
def rm_s2 : Room := { frames := 2, cells := 0, slots := 0, locals := 60 }
def rm_s3 : Room := { frames := 3, cells := 0, slots := 0, locals := 90 }
def rm_s4 : Room := { frames := 4, cells := 0, slots := 0, locals := 120 }
theorem c_coder : m_Ri l yJ0_coder_7d493 cJ0_coder_7d493 1 (some .byte) rm_s0 b q v [.ref q] 0 := by
  refine Met.ofW (cc := cJ0_coder_7d493) (maxL := 1) (ret := some .byte) (by decide) rfl ?_
  intro p e s m args below meth c s₁ B hml hv
  obtain ⟨rfl, h1, h2, h3, h4, h5, h6⟩ := hv
  obtain ⟨hx, hb, hml, hown, hts⟩ := m_Sx B hml
  have hlk := B.notSynchronized
  have hS : va_S (m_ge b) s.heap s.heap [] := va_S.rf
  have hl := lv_entry ([.ref q]) (n := 1) (Nat.le_of_ble_eq_true rfl)
  rw [lg_entry_eq]
  generalize (lg_sl ([.ref q]) ++ List.replicate (1 - (lg_sl ([.ref q])).length) Slot.unset).toArray = ls at hl ⊢
  have hl : lv_has ls 1 [(0, .ref q)] := hl
  refine va_gets hx hb h1 hS hown (hts _ in_1_205) (fun _ h => h) dJ0_coder_7d493_0 ?_
  refine lv_if_eq (tgt := 13) hx hb dJ0_coder_7d493_3 (by decide) (fun c1 => absurd c1 (by decide)) (fun c1 => ?_)
  refine lv_aload_n hx hb dJ0_coder_7d493_6 rfl (lv_at hl 0 rfl) ?_
  refine vk_getf hx hb h4 hS hown (hts _ in_9_147) (fun _ h => h) dJ0_coder_7d493_7 ?_
  refine lv_goto (tgt := 14) hx hb dJ0_coder_7d493_10 (by decide) ?_
  exact W.zret hx hb B.returns (by decide) (fun t ht hW => ⟨0, rfl, rfl, ht⟩) (fun _ h => by cases h) dJ0_coder_7d493_14
theorem c_isLatin1 : m_Ri l yJ0_isLatin1_aae02 cJ0_isLatin1_aae02 1 (some .boolean) rm_s0 b q v [.ref q] 1 := by
  refine Met.ofW (cc := cJ0_isLatin1_aae02) (maxL := 1) (ret := some .boolean) (by decide) rfl ?_
  intro p e s m args below meth c s₁ B hml hv
  obtain ⟨rfl, h1, h2, h3, h4, h5, h6⟩ := hv
  obtain ⟨hx, hb, hml, hown, hts⟩ := m_Sx B hml
  have hlk := B.notSynchronized
  have hS : va_S (m_ge b) s.heap s.heap [] := va_S.rf
  have hl := lv_entry ([.ref q]) (n := 1) (Nat.le_of_ble_eq_true rfl)
  rw [lg_entry_eq]
  generalize (lg_sl ([.ref q]) ++ List.replicate (1 - (lg_sl ([.ref q])).length) Slot.unset).toArray = ls at hl ⊢
  have hl : lv_has ls 1 [(0, .ref q)] := hl
  refine va_gets hx hb h1 hS hown (hts _ in_1_205) (fun _ h => h) dJ0_isLatin1_aae02_0 ?_
  refine lv_if_eq (tgt := 17) hx hb dJ0_isLatin1_aae02_3 (by decide) (fun c1 => absurd c1 (by decide)) (fun c1 => ?_)
  refine lv_aload_n hx hb dJ0_isLatin1_aae02_6 rfl (lv_at hl 0 rfl) ?_
  refine vk_getf hx hb h4 hS hown (hts _ in_9_147) (fun _ h => h) dJ0_isLatin1_aae02_7 ?_
  refine lv_if_ne (tgt := 17) hx hb dJ0_isLatin1_aae02_10 (by decide) (fun c1 => absurd rfl c1) (fun c1 => ?_)
  refine lv_iconst (v := 1) hx hb dJ0_isLatin1_aae02_13 (by decide) ?_
  refine lv_goto (tgt := 18) hx hb dJ0_isLatin1_aae02_14 (by decide) ?_
  exact W.zret hx hb B.returns (by decide) (fun t ht hW => ⟨1, rfl, rfl, ht⟩) (fun _ h => by cases h) dJ0_isLatin1_aae02_18
theorem m_strRecv {s : State} {H : Heap} {locs : List Loc} (h : m_TX b q v s) (hS : va_S (m_ge b) s.heap H locs) : ∃ cell : Cell, H[q]? = some cell ∧ cell.vm.isStatics = false ∧ s.vm.findClass RJ0 = some cell.cls := by
  obtain ⟨cell, h1, h2, h3, -⟩ := h.2.2.1.kept hS.2.1
  exact ⟨cell, h1, h2, h3⟩
/-- such a method is called on the constant -/
theorem n_cR {p : Program} {e : Env} {R : Room} {s : State} {m : MethodId} {args : Array Value} {below : List Frame} {meth : Method} {c : Code} {H : Heap} {locs : List Loc} {cells slots : Nat} {Q : State → Prop} {cc : ByteArray} {nL : Nat} {own : String} {pc : Nat} {ls : Array Slot} {st rest As : List Value} {y : MethodName} {bb : ByteArray} {n : Nat} {rt : Option FieldType} {rm : Room} {index : Nat} {r : Int32}
    (F : CallFix p m c cc nL s args m_gW own) (hX : m_TX b q v s) (hS : va_S (m_ge b) s.heap H locs) (hM : m_Ri l y bb n rt rm b q v (.ref q :: As) r) (hw : m_CV y bb n rt As.length) (hyc : y.cls = RJ0) (hl : Cond.methodLink own index y ∈ m_gW) (hst : st = As.reverse ++ .ref q :: rest) (hrm : rm.cells = 0 ∧ rm.slots = 0) (hR : rm.frames + 1 ≤ R.frames ∧ 8 + (n + 11) + rm.locals ≤ R.locals) (hcs : cells + 0 ≤ R.cells ∧ slots + 0 ≤ R.slots) (hsz : ls.size = nL) (hrest : (rest.map fun v => v.category).sum ≤ 8) (hdg : decode cc pc = .ok (.invokevirtual index, 3))
    (kk : W p l e R s m args below meth c H locs cells slots Q (F0 m (pc + 3) ls (.int r :: rest))) : W p l e R s m args below meth c H locs cells slots Q (F0 m pc ls st) := by
  subst hst
  have hts := F.2.2.2.2
  have hcls : Cond.selects RJ0 y y ∈ m_gW := by rw [← hyc]; exact hw.2.2
  refine vp_callSi (W.runV (C := RJ0) (As := As) (rest := rest) F hM ⟨callB_of As.length hts (m_good hw.1.1) rfl hrm.1 hrm.2 (hts _ hw.1.2.1) (hts _ hl) hw.1.2.2 hR, hts _ hw.2.1, hts _ hcls⟩ ⟨m_TX.blind, m_strRecv hX hS, hX.pre hS⟩ rfl rfl hsz rfl (lv_room hrest) hdg hcs) (fun z hz => ?_)
  subst hz; exact kk
theorem n_cRS {p : Program} {e : Env} {R : Room} {s : State} {m : MethodId} {args : Array Value} {below : List Frame} {meth : Method} {c : Code} {H : Heap} {locs : List Loc} {cells slots : Nat} {Q : State → Prop} {cc : ByteArray} {nL : Nat} {own : String} {pc : Nat} {ls : Array Slot} {st rest As : List Value} {y : MethodName} {bb : ByteArray} {n : Nat} {rt : Option FieldType} {rm : Room} {index : Nat} {r : Int32}
    (F : CallFix p m c cc nL s args m_gW own) (hX : m_TX b q v s) (hS : va_S (m_ge b) s.heap H locs) (hM : m_Ri l y bb n rt rm b q v As r) (hw : m_CS y bb n rt As.length) (hl : Cond.methodLink own index y ∈ m_gW) (hst : st = As.reverse ++ rest) (hrm : rm.cells = 0 ∧ rm.slots = 0) (hR : rm.frames + 1 ≤ R.frames ∧ 8 + (n + 11) + rm.locals ≤ R.locals) (hcs : cells + 0 ≤ R.cells ∧ slots + 0 ≤ R.slots) (hsz : ls.size = nL) (hrest : (rest.map fun v => v.category).sum ≤ 8) (hdg : decode cc pc = .ok (.invokestatic index, 3))
    (kk : W p l e R s m args below meth c H locs cells slots Q (F0 m (pc + 3) ls (.int r :: rest))) : W p l e R s m args below meth c H locs cells slots Q (F0 m pc ls st) := by
  subst hst
  have hts := F.2.2.2.2
  refine vp_callSi (W.runS (As := As) (rest := rest) F hM ⟨callB_of As.length hts (m_good hw.1.1) rfl hrm.1 hrm.2 (hts _ hw.1.2.1) (hts _ hl) hw.1.2.2 hR, hts _ hw.2⟩ ⟨m_TX.blind, hX.pre hS⟩ rfl rfl hsz rfl (lv_room hrest) hdg hcs) (fun z hz => ?_)
  subst hz; exact kk
theorem c_length : m_Ri l yJ0_length_8abf5 cJ0_length_8abf5 1 (some .int) rm_s1 b q v [.ref q] 113 := by
  refine Met.ofW (cc := cJ0_length_8abf5) (maxL := 1) (ret := some .int) (by decide) rfl ?_
  intro p e s m args below meth c s₁ B hml hv
  obtain ⟨rfl, hX⟩ := hv
  obtain ⟨h1, h2, h3, h4, h5, h6⟩ := id hX
  have F := m_Sx B hml
  obtain ⟨hx, hb, hml, hown, hts⟩ := id F
  have hlk := B.notSynchronized
  have hS : va_S (m_ge b) s.heap s.heap [] := va_S.rf
  have hl := lv_entry ([.ref q]) (n := 1) (Nat.le_of_ble_eq_true rfl)
  rw [lg_entry_eq]
  generalize (lg_sl ([.ref q]) ++ List.replicate (1 - (lg_sl ([.ref q])).length) Slot.unset).toArray = ls at hl ⊢
  have hl : lv_has ls 1 [(0, .ref q)] := hl
  refine lv_aload_n hx hb dJ0_length_8abf5_0 rfl (lv_at hl 0 rfl) ?_
  refine vk_getf hx hb h5 hS hown (hts _ in_9_146) (fun _ h => h) dJ0_length_8abf5_1 ?_
  refine va_tlen hx hb h6 hS (v := 113) (by decide) dJ0_length_8abf5_4 ?_
  refine lv_aload_n hx hb dJ0_length_8abf5_5 rfl (lv_at hl 0 rfl) ?_
  refine n_cR (As := []) F hX hS c_coder mw_J0_coder_7d493 rfl in_1_201 rfl ⟨rfl, rfl⟩ ⟨Nat.le_of_ble_eq_true rfl, Nat.le_of_ble_eq_true rfl⟩ ⟨Nat.le_refl _, Nat.le_refl _⟩ hl.1 (Nat.le_of_ble_eq_true rfl) dJ0_length_8abf5_6 ?_
  refine lv_ishr hx hb dJ0_length_8abf5_9 ?_
  exact W.iret hx hb B.returns (fun t ht hW => ⟨_, rfl, by decide, ht⟩) (fun _ h => by cases h) dJ0_length_8abf5_10
theorem c_checkIndex3 {i n : Int32} {f : Option Nat} (h0 : ¬ i < 0) (h1 : i < n) : m_Ri l yJ3_checkIndex_8e157 cJ3_checkIndex_8e157 3 (some .int) rm_s0 b q v [.int i, .int n, va_rf f] i := by
  refine Met.ofW (cc := cJ3_checkIndex_8e157) (maxL := 3) (ret := some .int) (by decide) rfl ?_
  intro p e s m args below meth c s₁ B hml hv
  obtain ⟨rfl, hX⟩ := hv
  obtain ⟨hx, hb, hml, hown, hts⟩ := m_Sx B hml
  have hlk := B.notSynchronized
  have hcat : (va_rf f).category = 1 := by cases f <;> rfl
  have hl := lv_entry ([.int i, .int n, va_rf f]) (n := 3) (by cases f <;> exact Nat.le_of_ble_eq_true rfl)
  rw [lg_entry_eq]
  generalize (lg_sl ([.int i, .int n, va_rf f]) ++ List.replicate (3 - (lg_sl ([.int i, .int n, va_rf f])).length) Slot.unset).toArray = ls at hl ⊢
  have hl : lv_has ls 3 [(0, .int i), (1, .int n), (2, va_rf f)] := hl
  refine lv_iload_n hx hb dJ3_checkIndex_8e157_0 rfl (lv_at hl 0 rfl) ?_
  refine lv_if_lt (tgt := 9) hx hb dJ3_checkIndex_8e157_1 (by decide) (fun c1 => absurd c1 h0) (fun c1 => ?_)
  refine lv_iload_n hx hb dJ3_checkIndex_8e157_4 rfl (lv_at hl 0 rfl) ?_
  refine lv_iload_n hx hb dJ3_checkIndex_8e157_5 rfl (lv_at hl 1 rfl) ?_
  refine lv_icmp_lt (tgt := 16) hx hb dJ3_checkIndex_8e157_6 (by decide) (fun c2 => ?_) (fun c2 => absurd h1 c2)
  refine lv_iload_n hx hb dJ3_checkIndex_8e157_16 rfl (lv_at hl 0 rfl) ?_
  exact W.iret hx hb B.returns (fun t ht hW => ⟨_, rfl, rfl, ht⟩) (fun _ h => by cases h) dJ3_checkIndex_8e157_17
theorem c_checkIndex0 {i n : Int32} (h0 : ¬ i < 0) (h1 : i < n) : m_Rv l yJ0_checkIndex_df160 cJ0_checkIndex_df160 2 rm_s1 b q v [.int i, .int n] := by
  refine Met.ofW (cc := cJ0_checkIndex_df160) (maxL := 2) (ret := none) (by decide) rfl ?_
  intro p e s m args below meth c s₁ B hml hv
  obtain ⟨rfl, hX⟩ := hv
  have F := m_Sx B hml
  obtain ⟨hx, hb, hml, hown, hts⟩ := id F
  have hlk := B.notSynchronized
  have hS : va_S (m_ge b) s.heap s.heap [] := va_S.rf
  have hl := lv_entry ([.int i, .int n]) (n := 2) (Nat.le_of_ble_eq_true rfl)
  rw [lg_entry_eq]
  generalize (lg_sl ([.int i, .int n]) ++ List.replicate (2 - (lg_sl ([.int i, .int n])).length) Slot.unset).toArray = ls at hl ⊢
  have hl : lv_has ls 2 [(0, .int i), (1, .int n)] := hl
  refine lv_iload_n hx hb dJ0_checkIndex_df160_0 rfl (lv_at hl 0 rfl) ?_
  refine lv_iload_n hx hb dJ0_checkIndex_df160_1 rfl (lv_at hl 1 rfl) ?_
  have key : ∀ f : Option Nat, W p l e rm_s1 s m [Value.int i, Value.int n].toArray below meth c s.heap [] 0 0 (MQ below (va_Sv (fun _ => True)) [Value.int i, Value.int n].toArray s 0 0 (fun _ => False)) (F0 m 5 ls (va_rf f :: .int n :: [.int i])) := by
    intro f
    have hcat : (va_rf f).category = 1 := by cases f <;> rfl
    refine n_cRS (As := [.int i, .int n, va_rf f]) F hX hS (c_checkIndex3 h0 h1) mw_J3_checkIndex_8e157 in_1_223 rfl ⟨rfl, rfl⟩ ⟨Nat.le_of_ble_eq_true rfl, Nat.le_of_ble_eq_true rfl⟩ ⟨Nat.le_refl _, Nat.le_refl _⟩ hl.1 (Nat.le_of_ble_eq_true rfl) dJ0_checkIndex_df160_5 ?_
    refine lv_pop hx hb dJ0_checkIndex_df160_8 rfl ?_
    exact W.vret hx hb B.returns (fun t ht hW => ⟨rfl, trivial, ht⟩) (fun _ h => by cases h) dJ0_checkIndex_df160_9
  rcases hX.2.1 with hz | ⟨f, hz⟩
  · exact va_gets hx hb hz hS hown (hts _ in_1_221) (fun _ h => h) dJ0_checkIndex_df160_2 (key none)
  · exact va_gets hx hb hz hS hown (hts _ in_1_221) (fun _ h => h) dJ0_checkIndex_df160_2 (key (some f))
def m_ch (k : Nat) : Int32 := (((m_kw.getD k 0) &&& 255).toUInt32 % 65536).toInt32
theorem c_charAt1 {i : Int32} (hi : vp_in i 113) : m_Ri l yJ1_charAt_3b067 cJ1_charAt_3b067 2 (some .char) rm_s2 b q v [.ref v, .int i] (m_ch i.toNatClampNeg) := by
  have h0 : ¬ i < 0 := fun h => hi (Or.inl h)
  have h1 : i < 113 := by
    obtain ⟨j, hj, rfl⟩ := vp_in_of hi (by decide)
    exact nI_lt (b := 113) hj (by decide)
  refine Met.ofW (cc := cJ1_charAt_3b067) (maxL := 2) (ret := some .char) (by decide) rfl ?_
  intro p e s m args below meth c s₁ B hml hv
  obtain ⟨rfl, hX⟩ := hv
  have F := m_Sx B hml
  obtain ⟨hx, hb, hml, hown, hts⟩ := id F
  have hlk := B.notSynchronized
  have hS : va_S (m_ge b) s.heap s.heap [] := va_S.rf
  have hl := lv_entry ([.ref v, .int i]) (n := 2) (Nat.le_of_ble_eq_true rfl)
  rw [lg_entry_eq]
  generalize (lg_sl ([.ref v, .int i]) ++ List.replicate (2 - (lg_sl ([.ref v, .int i])).length) Slot.unset).toArray = ls at hl ⊢
  have hl : lv_has ls 2 [(0, .ref v), (1, .int i)] := hl
  refine lv_iload_n hx hb dJ1_charAt_3b067_0 rfl (lv_at hl 1 rfl) ?_
  refine lv_aload_n hx hb dJ1_charAt_3b067_1 rfl (lv_at hl 0 rfl) ?_
  refine va_tlen hx hb hX.2.2.2.2.2 hS (v := 113) (by decide) dJ1_charAt_3b067_2 ?_
  have hr := W.runS (R := rm_s2) (locs := []) (cells := 0) (slots := 0) (H := s.heap) (below := below) (meth := meth) (e := e) (g := F0 m 3 ls [.int 113, .int i]) (As := [.int i, .int 113]) (rest := []) F (c_checkIndex0 (l := l) (b := b) (q := q) (v := v) h0 h1) ⟨callB_of 2 hts (m_good mw_J0_checkIndex_df160.1.1) rfl rfl rfl (hts _ mw_J0_checkIndex_df160.1.2.1) (hts _ in_1_218) mw_J0_checkIndex_df160.1.2.2 ⟨Nat.le_of_ble_eq_true rfl, Nat.le_of_ble_eq_true rfl⟩, hts _ mw_J0_checkIndex_df160.2⟩ ⟨m_TX.blind, hX.pre hS⟩ rfl rfl hl.1 rfl (lv_room (Nat.le_of_ble_eq_true rfl)) dJ1_charAt_3b067_3 ⟨Nat.le_refl _, Nat.le_refl _⟩
  intro T hT X
  obtain ⟨v9, st₀, t, T', L, g0, X', hL, e1, ⟨hv9, -, hh⟩, st⟩ := hr T hT X
  cases hv9
  have hL0 : L = [] := by
    cases L with
    | nil => rfl
    | cons a L => exact (hL a List.mem_cons_self).elim
  subst hL0
  have goal : W p l e rm_s2 s m [Value.ref v, Value.int i].toArray below meth c s.heap [] 0 0 (MQ below (vp_Si (fun z => z = m_ch i.toNatClampNeg)) [Value.ref v, Value.int i].toArray s 0 0 (fun _ => False)) (F0 m 6 ls []) := by
    refine lv_aload_n hx hb dJ1_charAt_3b067_6 rfl (lv_at hl 0 rfl) ?_
    refine lv_iload_n hx hb dJ1_charAt_3b067_7 rfl (lv_at hl 1 rfl) ?_
    refine va_tb hx hb hX.2.2.2.2.2 hS hi (v := .int (m_kw.getD i.toNatClampNeg 0)) rfl dJ1_charAt_3b067_8 ?_
    refine lv_sipush (v := 255) hx hb dJ1_charAt_3b067_9 (by decide) ?_
    refine lv_iand hx hb dJ1_charAt_3b067_12 ?_
    refine lv_i2c hx hb dJ1_charAt_3b067_13 rfl ?_
    exact W.zret hx hb B.returns (pk_nc _) (fun t ht hW => ⟨_, rfl, rfl, ht⟩) (fun _ h => by cases h) dJ1_charAt_3b067_14
  obtain ⟨t2, a1, b1⟩ := goal T' (by rw [e1, hh, g0]) X'
  exact ⟨t2, st t2 a1, b1⟩
theorem c_charAt {i : Int32} (hi : vp_in i 113) : m_Ri l yJ0_charAt_5068e cJ0_charAt_5068e 2 (some .char) rm_s3 b q v [.ref q, .int i] (m_ch i.toNatClampNeg) := by
  refine Met.ofW (cc := cJ0_charAt_5068e) (maxL := 2) (ret := some .char) (by decide) rfl ?_
  intro p e s m args below meth c s₁ B hml hv
  obtain ⟨rfl, hX⟩ := hv
  have F := m_Sx B hml
  obtain ⟨hx, hb, hml, hown, hts⟩ := id F
  have hlk := B.notSynchronized
  have hS : va_S (m_ge b) s.heap s.heap [] := va_S.rf
  have hl := lv_entry ([.ref q, .int i]) (n := 2) (Nat.le_of_ble_eq_true rfl)
  rw [lg_entry_eq]
  generalize (lg_sl ([.ref q, .int i]) ++ List.replicate (2 - (lg_sl ([.ref q, .int i])).length) Slot.unset).toArray = ls at hl ⊢
  have hl : lv_has ls 2 [(0, .ref q), (1, .int i)] := hl
  refine lv_aload_n hx hb dJ0_charAt_5068e_0 rfl (lv_at hl 0 rfl) ?_
  refine n_cR (As := []) F hX hS c_isLatin1 mw_J0_isLatin1_aae02 rfl in_1_211 rfl ⟨rfl, rfl⟩ ⟨Nat.le_of_ble_eq_true rfl, Nat.le_of_ble_eq_true rfl⟩ ⟨Nat.le_refl _, Nat.le_refl _⟩ hl.1 (Nat.le_of_ble_eq_true rfl) dJ0_charAt_5068e_1 ?_
  refine lv_if_eq (tgt := 16) hx hb dJ0_charAt_5068e_4 (by decide) (fun c1 => absurd c1 (by decide)) (fun c1 => ?_)
  refine lv_aload_n hx hb dJ0_charAt_5068e_7 rfl (lv_at hl 0 rfl) ?_
  refine vk_getf hx hb hX.2.2.2.2.1 hS hown (hts _ in_9_146) (fun _ h => h) dJ0_charAt_5068e_8 ?_
  refine lv_iload_n hx hb dJ0_charAt_5068e_11 rfl (lv_at hl 1 rfl) ?_
  refine n_cRS (As := [.ref v, .int i]) F hX hS (c_charAt1 hi) mw_J1_charAt_3b067 in_1_215 rfl ⟨rfl, rfl⟩ ⟨Nat.le_of_ble_eq_true rfl, Nat.le_of_ble_eq_true rfl⟩ ⟨Nat.le_refl _, Nat.le_refl _⟩ hl.1 (Nat.le_of_ble_eq_true rfl) dJ0_charAt_5068e_12 ?_
  exact W.zret hx hb B.returns (pk_nc _) (fun t ht hW => ⟨_, rfl, rfl, ht⟩) (fun _ h => by cases h) dJ0_charAt_5068e_15
end MStr
