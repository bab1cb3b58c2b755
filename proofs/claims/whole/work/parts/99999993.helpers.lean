/-! the law's four methods that catch -/
def x_lm (o : Nat) (r : Option Int32 × m_M) : Int32 × m_M := match r.1 with
  | some v => ((0 : Int32), m_sj r.2 o 0 v.toInt64)
  | none => ((1 : Int32), r.2)
def x_ws (y : MethodName) (b : ByteArray) (n : Nat) (hh : List (Nat × Nat × Nat × Nat)) : List Cond := .codeWith y b n (some .int) hh :: m_gW
def x_LP (G : m_G) (nx : Nat) (κ : Nat → Nat) (S : m_M) (U : State) : Prop := m_WN G nx κ S U ∧ x_Z G U U.heap
def x_L (l : Launch) (y : MethodName) (b : ByteArray) (n : Nat) (hh : List (Nat × Nat × Nat × Nat)) (rm : Room) (G : m_G) (nx : Nat) (κ : Nat → Nat) (av : List Value) (S : m_M) (res : Int32 × m_M) : Prop :=
  Met l y (x_ws y b n hh) rm (va_Pc av (x_LP G nx κ S)) (va_Qi (fun r u => (r, u) = res) (m_AX G nx κ) (m_ge G.2.2)) 1 6 (m_ge G.2.2)
theorem x_blindL {G : m_G} {nx : Nat} {κ : Nat → Nat} {S : m_M} {av : List Value} : FrameBlind (va_Pc av (x_LP G nx κ S)) := fun a U g mk q =>
  ⟨q.1, ⟨⟨q.2.1.1.1, va_K.moved (u := U) (U := U.calling g mk a) (Vm.Alike.refl U.vm) q.2.1.1.2⟩, m_N.same (u := U) (U := U.calling g mk a) rfl q.2.1.2⟩, x_Z.same (u := U) (U := U.calling g mk a) rfl q.2.2⟩
theorem x_preL {G : m_G} {nx : Nat} {κ : Nat → Nat} {S : m_M} {av : List Value} {s : State} {H : Heap} {locs : List Loc} (hH : m_H G nx κ S H) (hS : m_S G s H locs) (hK : va_K G.1 vwCl (m_tys G.2.1) s) (hN : m_N s) (hZ : x_Z G s s.heap) : ∀ U : State, U.heap = H → s.WarmedH U.vm → va_Pc av (x_LP G nx κ S) av.toArray U := fun U hU hW =>
  ⟨rfl, ⟨⟨by rw [hU]; exact hH, va_K.moved hW.alike hK⟩, hN.warm hW⟩, by rw [hU]; exact (hZ.kept hS).warm hW⟩
section XL
variable {l : Launch} {y : MethodName} {b : ByteArray} {n : Nat} {hh : List (Nat × Nat × Nat × Nat)} {rm : Room} {G : m_G} {nx : Nat} {κ : Nat → Nat} {av : List Value} {S : m_M}
theorem x_L.of {res : Int32 × m_M} (hy : plainName y.cls = true) (hn : (lg_sl av).length ≤ n)
    (body : ∀ (p : Program) (e : Env) (s : State) (m : MethodId) (args : Array Value) (below : List Frame) (meth : Method) (c : Code) (ls : Array Slot), m_Cx p s m args meth c b n y.cls G → m_N s → x_Z G s s.heap → meth.sig.returnType = some .int → c.exceptionTable.toList = tableOf hh → m_H G nx κ S s.heap → lv_has ls n (lv_args 0 av) → W p l e rm s m args below meth c s.heap [] 0 0 (m_QAi below args s G nx κ res 1 6) (F0 m 0 ls [])) : x_L l y b n hh rm G nx κ av S res := by
  unfold x_L Met
  refine MetFree.of_bodyS (code := b) (maxLocals := n) (ret := some .int) hy ?_ ?_
  · intro args s m h hn
    obtain ⟨m9, meth, c, hn9, h1, h2, h3, h4, -, h5, h6, -⟩ := Cond.codeWith_spec (atoms_spec (ws := x_ws y b n hh) h _ List.mem_cons_self)
    cases hn.symm.trans hn9
    exact ⟨meth, c, h1, h2, h3, h4, h5, h6⟩
  · intro p e s m args below meth c s₁ B hml hP _
    have hh0 : s₁.heap = s.heap := by rw [B.state]; rfl
    have htb := vx_table (x := y) B (atoms_spec (ws := x_ws y b n hh) B.pre _ List.mem_cons_self)
    obtain ⟨rfl, hW, hZ⟩ := hP
    have hl := lv_entry av (n := n) hn
    have X : m_Cx p s m av.toArray meth c b n y.cls G := ⟨⟨B.exec, B.bytes, hml, findClass_of_methodNamed B.named, fun w h => atoms_spec (ws := x_ws y b n hh) B.pre w (List.mem_cons_of_mem _ h)⟩, hW.1.2, B.notSynchronized, by rw [hW.1.1.1]; exact hW.1.1.2.1.1⟩
    have key := body p e s m _ below meth c _ X hW.2 hZ B.returns htb hW.1.1 hl
    rw [← lg_entry_eq] at key
    obtain ⟨t, a1, o, b1, b2, b3⟩ := key s₁ hh0 (Stand.of_body B)
    exact ⟨t, o, a1, b1, b2, ⟨b3.1, b3.2⟩⟩
end XL
section XLc
variable {p : Program} {l : Launch} {e : Env} {R : Room} {s : State} {m : MethodId} {args : Array Value} {below : List Frame} {meth : Method} {c : Code} {H : Heap} {locs : List Loc} {cells slots : Nat} {Q : State → Prop}
variable {cc : ByteArray} {nL : Nat} {own : String} {pc : Nat} {ls : Array Slot} {st rest As : List Value} {G : m_G} {nx : Nat} {κ : Nat → Nat} {S S' : m_M}
variable {y : MethodName} {b : ByteArray} {n : Nat} {hh : List (Nat × Nat × Nat × Nat)} {rm : Room} {index : Nat}
/-- such a method is called -/
theorem n_cL {v : Int32} (X : m_Cx p s m args meth c cc nL own G) (hN : m_N s) (hZ : x_Z G s s.heap) (hH : m_H G nx κ S H) (hS : m_S G s H locs) (hM : x_L l y b n hh rm G nx κ As S (v, S')) (hcw : Cond.codeWith y b n (some .int) hh ∈ m_gW) (hin : Cond.initialized y.cls ∈ m_gW) (hst9 : Cond.static y ∈ m_gW) (hd : y.cls ≠ "java/lang/invoke/MethodHandle" ∧ y.cls ≠ "java/lang/invoke/VarHandle" ∧ (parseMethodDescriptor y.desc).map (fun d => d.parameters.length) = some As.length) (hl : Cond.methodLink own index y ∈ m_gW)
    (hst : st = As.reverse ++ rest) (hrm : rm.cells = 1 ∧ rm.slots = 6) (hR : rm.frames + 1 ≤ R.frames ∧ 8 + (n + 11) + rm.locals ≤ R.locals) (hcs : cells + 1 ≤ R.cells ∧ slots + 6 ≤ R.slots) (hsz : ls.size = nL) (hrest : (rest.map fun v => v.category).sum ≤ 8) (hdg : decode cc pc = .ok (.invokestatic index, 3))
    (kk : ∀ (H1 : Heap) (locs1 : List Loc) (nx' : Nat) (κ' : Nat → Nat), nx ≤ nx' → (∀ q, q < nx → κ' q = κ q) → m_Str κ' → m_H G nx' κ' S' H1 → m_S G s H1 locs1 → W p l e R s m args below meth c H1 locs1 (cells + 1) (slots + 6) Q (F0 m (pc + 3) ls (.int v :: rest))) : W p l e R s m args below meth c H locs cells slots Q (F0 m pc ls st) := by
  subst hst
  have hgood : GoodIn m_gW (va_wsS own index y (x_ws y b n hh)) := by
    intro w hw
    rcases List.mem_append.mp (by unfold va_wsS at hw; exact hw) with h | h
    · simp only [List.mem_cons, List.not_mem_nil, or_false] at h
      rcases h with rfl | rfl | rfl
      · exact ⟨hl, Or.inl rfl⟩
      · exact ⟨hst9, Or.inl rfl⟩
      · exact ⟨hin, Or.inl rfl⟩
    · rcases List.mem_cons.mp h with rfl | h
      · exact ⟨hcw, Or.inl rfl⟩
      · exact ⟨h, good_of_word (List.mem_filter.mp h).2⟩
  refine va_calli (vx_runSW (As := As) (rest := rest) X.1 hM (vx_cwSW As.length X.1.2.2.2.2 hgood rfl hrm.1 hrm.2 hd hR) ⟨x_blindL, x_preL hH hS X.2.1 hN hZ⟩ rfl rfl hsz rfl (lv_room hrest) hdg hcs) hS (fun _ _ h => h) (fun _ h => h) (fun r u t H1 locs1 ht hvm hw1 hB hz1 hk1 hS1 => ?_)
  cases hw1
  obtain ⟨nx', κ', h0, h1, h3, h4⟩ := hB
  exact kk H1 locs1 nx' κ' h0 h1 h3 (by rw [← ht]; exact h4.1.1) hS1
end XLc
def rm_L_fun : Room := { frames := 8, cells := 1, slots := 6, locals := 140 }
set_option maxHeartbeats 4000000 in
set_option maxRecDepth 100000 in
theorem c_L_fun {l : Launch} {G : m_G} {nx : Nat} {κ : Nat → Nat} {x o : Nat} {S : m_M} {i1 i2 : Int32} {r : Option Int32 × m_M} (hlt : l.stackTraces = false) (hT : m_Str κ) (hk_x : κ x = 12) (hk_o : κ o = m_ac 2 1) (hm : f_X11_fun x S i1 i2 = some r) : x_L l yL_fun cL_fun 5 [(0, 10, 13, 13)] rm_L_fun G nx κ [.ref x, .int i1, .int i2, .ref o] S (x_lm o r) := by
  refine x_L.of (by decide) (Nat.le_of_ble_eq_true rfl) ?_
  intro p e s m args below meth c ls X hN hZ hr htb hH hl
  have hx := X.1.1
  have hb := X.1.2.1
  have hS : m_S G s s.heap [] := va_S.rf
  have hl : lv_has ls 5 [(0, .ref x), (1, .int i1), (2, .int i2), (3, .ref o)] := hl
  refine lv_aload_n hx hb dL_fun_0 rfl (lv_at hl 3 rfl) ?_
  refine lv_iconst (v := (0 : Int32)) hx hb dL_fun_1 (by decide) ?_
  refine lv_aload_n hx hb dL_fun_2 rfl (lv_at hl 0 rfl) ?_
  refine lv_iload_n hx hb dL_fun_3 rfl (lv_at hl 1 rfl) ?_
  refine lv_iload_n hx hb dL_fun_4 rfl (lv_at hl 2 rfl) ?_
  refine r_xcall (k := 11) X hZ hH hS (c_X11_fun (a := x) hlt hT hk_x hm) mw_X11_fun in_6_63 hk_x (by decide) rfl rfl rfl ⟨rfl, rfl⟩ ⟨Nat.le_of_ble_eq_true rfl, Nat.le_of_ble_eq_true rfl⟩ ⟨Nat.le_of_ble_eq_true rfl, Nat.le_of_ble_eq_true rfl⟩ hl.1 (Nat.le_of_ble_eq_true rfl) dL_fun_5 (fun S' ce q9 H locs nx' e9 hle hH hS h1 h2 h3 => ?_) (fun v S' H locs e9 hH hS => ?_)
  · subst e9
    obtain ⟨c3, c4, hc3, hc4, hasg⟩ := Cond.castable_spec (va_Nw.use (A := args) rfl (hZ.2.2 (.castable x_E x_E) (by simp [x_bad])))
    cases Option.some.inj (hc3.symm.trans h3)
    refine x_catch (name := x_E) ⟨0, 10, 13, 13⟩ X.1.2.2.2.1 htb (by decide) (by decide) (m_w X x_in4) hc4 hasg h1 h2 ?_
    refine lv_astore (lv' := [(4, .ref q9), (0, .ref x), (1, .int i1), (2, .int i2), (3, .ref o)]) hx hb dL_fun_13 hl (by decide) rfl (fun ls hl => ?_)
    refine lv_iconst (v := (1 : Int32)) hx hb dL_fun_15 (by decide) ?_
    exact r_airet X hN hr hH hS rfl hT hle (fun _ _ => rfl) (Nat.le_refl _) (Nat.le_refl _) dL_fun_16
  · subst e9
    refine lv_i2l hx hb dL_fun_8 rfl ?_
    refine r_last (i := (0 : Int32)) X hH hS hk_o (show ¬ ((0 : Int32) < 0 ∨ 1 ≤ (0 : Int32).toNatClampNeg) by decide) dL_fun_9 (fun H locs hH hS => ?_)
    refine lv_goto (tgt := 17) hx hb dL_fun_10 (by decide) ?_
    refine lv_iconst (v := (0 : Int32)) hx hb dL_fun_17 (by decide) ?_
    exact r_airet X hN hr hH hS rfl hT (Nat.le_refl _) (fun _ _ => rfl) (Nat.le_refl _) (Nat.le_refl _) dL_fun_18
def rm_L_value : Room := { frames := 8, cells := 1, slots := 6, locals := 140 }
set_option maxHeartbeats 4000000 in
set_option maxRecDepth 100000 in
theorem c_L_value {l : Launch} {G : m_G} {nx : Nat} {κ : Nat → Nat} {x o : Nat} {S : m_M} {i1 i2 : Int32} {r : Option Int32 × m_M} (hlt : l.stackTraces = false) (hT : m_Str κ) (hk_x : κ x = 12) (hk_o : κ o = m_ac 2 1) (hm : f_X11_value x S i1 i2 = some r) : x_L l yL_value cL_value 5 [(0, 10, 13, 13)] rm_L_value G nx κ [.ref x, .int i1, .int i2, .ref o] S (x_lm o r) := by
  refine x_L.of (by decide) (Nat.le_of_ble_eq_true rfl) ?_
  intro p e s m args below meth c ls X hN hZ hr htb hH hl
  have hx := X.1.1
  have hb := X.1.2.1
  have hS : m_S G s s.heap [] := va_S.rf
  have hl : lv_has ls 5 [(0, .ref x), (1, .int i1), (2, .int i2), (3, .ref o)] := hl
  refine lv_aload_n hx hb dL_value_0 rfl (lv_at hl 3 rfl) ?_
  refine lv_iconst (v := (0 : Int32)) hx hb dL_value_1 (by decide) ?_
  refine lv_aload_n hx hb dL_value_2 rfl (lv_at hl 0 rfl) ?_
  refine lv_iload_n hx hb dL_value_3 rfl (lv_at hl 1 rfl) ?_
  refine lv_iload_n hx hb dL_value_4 rfl (lv_at hl 2 rfl) ?_
  refine r_xcall (k := 11) X hZ hH hS (c_X11_value (a := x) hlt hT hk_x hm) mw_X11_value in_6_144 hk_x (by decide) rfl rfl rfl ⟨rfl, rfl⟩ ⟨Nat.le_of_ble_eq_true rfl, Nat.le_of_ble_eq_true rfl⟩ ⟨Nat.le_of_ble_eq_true rfl, Nat.le_of_ble_eq_true rfl⟩ hl.1 (Nat.le_of_ble_eq_true rfl) dL_value_5 (fun S' ce q9 H locs nx' e9 hle hH hS h1 h2 h3 => ?_) (fun v S' H locs e9 hH hS => ?_)
  · subst e9
    obtain ⟨c3, c4, hc3, hc4, hasg⟩ := Cond.castable_spec (va_Nw.use (A := args) rfl (hZ.2.2 (.castable x_E x_E) (by simp [x_bad])))
    cases Option.some.inj (hc3.symm.trans h3)
    refine x_catch (name := x_E) ⟨0, 10, 13, 13⟩ X.1.2.2.2.1 htb (by decide) (by decide) (m_w X x_in4) hc4 hasg h1 h2 ?_
    refine lv_astore (lv' := [(4, .ref q9), (0, .ref x), (1, .int i1), (2, .int i2), (3, .ref o)]) hx hb dL_value_13 hl (by decide) rfl (fun ls hl => ?_)
    refine lv_iconst (v := (1 : Int32)) hx hb dL_value_15 (by decide) ?_
    exact r_airet X hN hr hH hS rfl hT hle (fun _ _ => rfl) (Nat.le_refl _) (Nat.le_refl _) dL_value_16
  · subst e9
    refine lv_i2l hx hb dL_value_8 rfl ?_
    refine r_last (i := (0 : Int32)) X hH hS hk_o (show ¬ ((0 : Int32) < 0 ∨ 1 ≤ (0 : Int32).toNatClampNeg) by decide) dL_value_9 (fun H locs hH hS => ?_)
    refine lv_goto (tgt := 17) hx hb dL_value_10 (by decide) ?_
    refine lv_iconst (v := (0 : Int32)) hx hb dL_value_17 (by decide) ?_
    exact r_airet X hN hr hH hS rfl hT (Nat.le_refl _) (fun _ _ => rfl) (Nat.le_refl _) (Nat.le_refl _) dL_value_18
def rm_L_in : Room := { frames := 8, cells := 1, slots := 6, locals := 140 }
set_option maxHeartbeats 4000000 in
set_option maxRecDepth 100000 in
theorem c_L_in {l : Launch} {G : m_G} {nx : Nat} {κ : Nat → Nat} {x o : Nat} {S : m_M} {i1 i2 : Int32} {r : Option Int32 × m_M} (hlt : l.stackTraces = false) (hT : m_Str κ) (hk_x : κ x = 12) (hk_o : κ o = m_ac 2 1) (hm : f_X11_in x S i1 i2 = some r) : x_L l yL_in cL_in 5 [(0, 10, 13, 13)] rm_L_in G nx κ [.ref x, .int i1, .int i2, .ref o] S (x_lm o r) := by
  refine x_L.of (by decide) (Nat.le_of_ble_eq_true rfl) ?_
  intro p e s m args below meth c ls X hN hZ hr htb hH hl
  have hx := X.1.1
  have hb := X.1.2.1
  have hS : m_S G s s.heap [] := va_S.rf
  have hl : lv_has ls 5 [(0, .ref x), (1, .int i1), (2, .int i2), (3, .ref o)] := hl
  refine lv_aload_n hx hb dL_in_0 rfl (lv_at hl 3 rfl) ?_
  refine lv_iconst (v := (0 : Int32)) hx hb dL_in_1 (by decide) ?_
  refine lv_aload_n hx hb dL_in_2 rfl (lv_at hl 0 rfl) ?_
  refine lv_iload_n hx hb dL_in_3 rfl (lv_at hl 1 rfl) ?_
  refine lv_iload_n hx hb dL_in_4 rfl (lv_at hl 2 rfl) ?_
  refine r_xcall (k := 11) X hZ hH hS (c_X11_in (a := x) hlt hT hk_x hm) mw_X11_in in_6_151 hk_x (by decide) rfl rfl rfl ⟨rfl, rfl⟩ ⟨Nat.le_of_ble_eq_true rfl, Nat.le_of_ble_eq_true rfl⟩ ⟨Nat.le_of_ble_eq_true rfl, Nat.le_of_ble_eq_true rfl⟩ hl.1 (Nat.le_of_ble_eq_true rfl) dL_in_5 (fun S' ce q9 H locs nx' e9 hle hH hS h1 h2 h3 => ?_) (fun v S' H locs e9 hH hS => ?_)
  · subst e9
    obtain ⟨c3, c4, hc3, hc4, hasg⟩ := Cond.castable_spec (va_Nw.use (A := args) rfl (hZ.2.2 (.castable x_E x_E) (by simp [x_bad])))
    cases Option.some.inj (hc3.symm.trans h3)
    refine x_catch (name := x_E) ⟨0, 10, 13, 13⟩ X.1.2.2.2.1 htb (by decide) (by decide) (m_w X x_in4) hc4 hasg h1 h2 ?_
    refine lv_astore (lv' := [(4, .ref q9), (0, .ref x), (1, .int i1), (2, .int i2), (3, .ref o)]) hx hb dL_in_13 hl (by decide) rfl (fun ls hl => ?_)
    refine lv_iconst (v := (1 : Int32)) hx hb dL_in_15 (by decide) ?_
    exact r_airet X hN hr hH hS rfl hT hle (fun _ _ => rfl) (Nat.le_refl _) (Nat.le_refl _) dL_in_16
  · subst e9
    refine lv_i2l hx hb dL_in_8 rfl ?_
    refine r_last (i := (0 : Int32)) X hH hS hk_o (show ¬ ((0 : Int32) < 0 ∨ 1 ≤ (0 : Int32).toNatClampNeg) by decide) dL_in_9 (fun H locs hH hS => ?_)
    refine lv_goto (tgt := 17) hx hb dL_in_10 (by decide) ?_
    refine lv_iconst (v := (0 : Int32)) hx hb dL_in_17 (by decide) ?_
    exact r_airet X hN hr hH hS rfl hT (Nat.le_refl _) (fun _ _ => rfl) (Nat.le_refl _) (Nat.le_refl _) dL_in_18
def rm_L_result : Room := { frames := 8, cells := 1, slots := 6, locals := 140 }
set_option maxHeartbeats 4000000 in
set_option maxRecDepth 100000 in
theorem c_L_result {l : Launch} {G : m_G} {nx : Nat} {κ : Nat → Nat} {x o : Nat} {S : m_M} {r : Option Int32 × m_M} (hlt : l.stackTraces = false) (hT : m_Str κ) (hk_x : κ x = 12) (hk_o : κ o = m_ac 2 1) (hm : f_X11_result x S = some r) : x_L l yL_result cL_result 3 [(0, 8, 11, 13)] rm_L_result G nx κ [.ref x, .ref o] S (x_lm o r) := by
  refine x_L.of (by decide) (Nat.le_of_ble_eq_true rfl) ?_
  intro p e s m args below meth c ls X hN hZ hr htb hH hl
  have hx := X.1.1
  have hb := X.1.2.1
  have hS : m_S G s s.heap [] := va_S.rf
  have hl : lv_has ls 3 [(0, .ref x), (1, .ref o)] := hl
  refine lv_aload_n hx hb dL_result_0 rfl (lv_at hl 1 rfl) ?_
  refine lv_iconst (v := (0 : Int32)) hx hb dL_result_1 (by decide) ?_
  refine lv_aload_n hx hb dL_result_2 rfl (lv_at hl 0 rfl) ?_
  refine r_xcall (k := 11) X hZ hH hS (c_X11_result (a := x) hlt hT hk_x hm) mw_X11_result in_6_158 hk_x (by decide) rfl rfl rfl ⟨rfl, rfl⟩ ⟨Nat.le_of_ble_eq_true rfl, Nat.le_of_ble_eq_true rfl⟩ ⟨Nat.le_of_ble_eq_true rfl, Nat.le_of_ble_eq_true rfl⟩ hl.1 (Nat.le_of_ble_eq_true rfl) dL_result_3 (fun S' ce q9 H locs nx' e9 hle hH hS h1 h2 h3 => ?_) (fun v S' H locs e9 hH hS => ?_)
  · subst e9
    obtain ⟨c3, c4, hc3, hc4, hasg⟩ := Cond.castable_spec (va_Nw.use (A := args) rfl (hZ.2.2 (.castable x_E x_E) (by simp [x_bad])))
    cases Option.some.inj (hc3.symm.trans h3)
    refine x_catch (name := x_E) ⟨0, 8, 11, 13⟩ X.1.2.2.2.1 htb (by decide) (by decide) (m_w X x_in4) hc4 hasg h1 h2 ?_
    refine lv_astore_n (lv' := [(2, .ref q9), (0, .ref x), (1, .ref o)]) hx hb dL_result_11 rfl hl (by decide) rfl (fun ls hl => ?_)
    refine lv_iconst (v := (1 : Int32)) hx hb dL_result_12 (by decide) ?_
    exact r_airet X hN hr hH hS rfl hT hle (fun _ _ => rfl) (Nat.le_refl _) (Nat.le_refl _) dL_result_13
  · subst e9
    refine lv_i2l hx hb dL_result_6 rfl ?_
    refine r_last (i := (0 : Int32)) X hH hS hk_o (show ¬ ((0 : Int32) < 0 ∨ 1 ≤ (0 : Int32).toNatClampNeg) by decide) dL_result_7 (fun H locs hH hS => ?_)
    refine lv_goto (tgt := 14) hx hb dL_result_8 (by decide) ?_
    refine lv_iconst (v := (0 : Int32)) hx hb dL_result_14 (by decide) ?_
    exact r_airet X hN hr hH hS rfl hT (Nat.le_refl _) (fun _ _ => rfl) (Nat.le_refl _) (Nat.le_refl _) dL_result_15
