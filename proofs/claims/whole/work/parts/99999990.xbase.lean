/-! methods of the class that may throw; the law's four that catch -/
abbrev x_E : String := "java/util/NoSuchElementException"
abbrev x_ns : List String := ["java/lang/RuntimeException", "java/lang/Exception"]
def x_bad : List Cond := [.declares ⟨"java/lang/RuntimeException", "<init>", "()V"⟩, .declares ⟨"java/lang/Exception", "<init>", "()V"⟩, .declares ⟨"java/lang/Throwable", "<init>", "()V"⟩, .castable x_E x_E]
def x_Z (G : m_G) (U : State) (H : Heap) : Prop := vx_Zq Bundle.tN "UNASSIGNED_STACK" Bundle.steD (m_ge G.2.2) U H ∧ vx_Zq Bundle.tN "SUPPRESSED_SENTINEL" Bundle.listD (m_ge G.2.2) U H ∧ ∀ w ∈ x_bad, va_Nw w U
theorem x_bad_t : ∀ w ∈ x_bad, w.onTables = true := by decide
theorem x_Z.same {G : m_G} {u U : State} {H : Heap} (hvm : u.vm = U.vm) (h : x_Z G u H) : x_Z G U H := ⟨vx_Zq.moved (by rw [hvm]; exact Vm.Alike.refl _) h.1, vx_Zq.moved (by rw [hvm]; exact Vm.Alike.refl _) h.2.1, fun w hw => va_Nw.same (x_bad_t w hw) hvm (h.2.2 w hw)⟩
theorem x_Z.warm {G : m_G} {s U : State} {H : Heap} (hW : s.WarmedH U.vm) (h : x_Z G s H) : x_Z G U H := by
  refine ⟨vx_Zq.moved hW.alike h.1, vx_Zq.moved hW.alike h.2.1, fun w hw => ?_⟩
  have h9 := h.2.2 w hw
  simp only [x_bad, List.mem_cons, List.not_mem_nil, or_false] at hw
  rcases hw with rfl | rfl | rfl | rfl
  · exact va_Nw.warmD hW h9
  · exact va_Nw.warmD hW h9
  · exact va_Nw.warmD hW h9
  · exact va_Nw.warmC hW h9
theorem x_Z.kept {G : m_G} {s : State} {H : Heap} {locs : List Loc} (h : x_Z G s s.heap) (hS : m_S G s H locs) : x_Z G s H := ⟨vx_Zq.kept h.1 hS.2.1, vx_Zq.kept h.2.1 hS.2.1, h.2.2⟩
theorem x_atg : ∀ w ∈ vx_at0 RX11 154 x_E x_ns, goodWord w = true ∨ w ∈ x_bad := by decide +kernel
theorem x_atl : ∀ w ∈ vx_at0 RX11 154 x_E x_ns, w ∈ lw_tbl := by decide +kernel
theorem x_at {G : m_G} {args : Array Value} {s : State} {H : Heap} (hts : ∀ w ∈ m_gW, w.before args s = true) (hZ : x_Z G s H) : ∀ w ∈ vx_at0 RX11 154 x_E x_ns, w.before args s = true := fun w h => (x_atg w h).elim (fun g => hts w (m_in (x_atl w h) g)) (fun g => va_Nw.use (x_bad_t w g) (hZ.2.2 w g))
theorem x_in1 : Cond.classLink RX11 152 x_E ∈ m_gW := m_in (by decide +kernel) rfl
theorem x_in2 : Cond.initialized x_E ∈ m_gW := m_in (by decide +kernel) rfl
theorem x_in4 : Cond.classLink RL 13 x_E ∈ m_gW := m_in (by decide +kernel) rfl
theorem m_H.grow {G : m_G} {nx : Nat} {κ : Nat → Nat} {S : m_M} {H H1 : Heap} (h : m_H G nx κ S H) (hz : H.size ≤ H1.size) (ho : ∀ q : Nat, q < H.size → H1[q]? = H[q]?) : m_H G H1.size κ S H1 := by
  obtain ⟨h0, hb, h1, h2, h3, h4, h5⟩ := h
  have hq : ∀ q, κ q ≠ 0 → H1[q]? = H[q]? := fun q hk => ho q (by rw [h0]; exact (hb.2 q hk).2)
  refine ⟨rfl, ⟨by rw [← h0] at hb; exact Nat.le_trans hb.1 hz, fun q hk => ⟨(hb.2 q hk).1, by have := (hb.2 q hk).2; omega⟩⟩, fun q k e hk => ?_, fun q k i e hk hi => ?_, fun q t n e ht => ?_, fun q n e => ?_, fun q t n e ht => ?_⟩
  · obtain ⟨r, r1, r2⟩ := h1 q k e hk
    exact ⟨r, r1, r2.kept (hq q (by rw [e]; exact Nat.succ_ne_zero k))⟩
  · obtain ⟨r, r1, r2⟩ := h2 q k i e hk hi
    exact ⟨r, r1, r2.kept (hq q (by rw [e]; simp only [m_ac]; omega))⟩
  · rw [hq q (by rw [e]; simp only [m_ac]; omega)]; exact h3 q t n e ht
  · rw [hq q (by rw [e]; simp only [m_ac]; omega)]; exact h4 q n e
  · rw [hq q (by rw [e]; simp only [m_ac]; omega)]; exact h5 q t n e ht
def x_Qc (G : m_G) (nx : Nat) (κ : Nat → Nat) (res : Option Int32 × m_M) : Array Value → State → Outcome → State → Prop := va_Qi (fun r u => (some r, u) = res) (m_Wd G nx κ) (m_ge G.2.2)
def x_XC (G : m_G) (nx : Nat) (κ : Nat → Nat) (res : Option Int32 × m_M) : String → State → State → Prop := vx_X (fun u : m_M => (none, u) = res) (fun E u t => E = x_E ∧ ∃ nx', nx ≤ nx' ∧ m_Wd G nx' κ u t) (m_ge G.2.2)
def x_Q (below : List Frame) (args : Array Value) (s : State) (G : m_G) (nx : Nat) (κ : Nat → Nat) (res : Option Int32 × m_M) : State → Prop := vx_MQ below (x_Qc G nx κ res) (x_XC G nx κ res) args s 1 6 (m_ge G.2.2)
def x_P (G : m_G) (nx : Nat) (κ : Nat → Nat) (S : m_M) (U : State) : Prop := m_Wd G nx κ S U ∧ x_Z G U U.heap
def x_C (l : Launch) (y : MethodName) (b : ByteArray) (n : Nat) (rt : Option FieldType) (rm : Room) (G : m_G) (nx : Nat) (κ : Nat → Nat) (av : List Value) (S : m_M) (res : Option Int32 × m_M) : Prop :=
  vx_Met l y (m_ws y b n rt) rm (va_Pc av (x_P G nx κ S)) (x_Qc G nx κ res) (x_XC G nx κ res) 1 6 (m_ge G.2.2)
def x_hr (G : m_G) (l : Launch) (s : State) (meth : Method) (c : Code) : Prop := meth.sig.returnType = some .int ∧ l.stackTraces = false ∧ x_Z G s s.heap ∧ ∀ x ∈ c.exceptionTable.toList, False
theorem x_blind {G : m_G} {nx : Nat} {κ : Nat → Nat} {S : m_M} {av : List Value} : FrameBlind (va_Pc av (x_P G nx κ S)) := fun a U g mk q =>
  ⟨q.1, ⟨q.2.1.1, va_K.moved (u := U) (U := U.calling g mk a) (Vm.Alike.refl U.vm) q.2.1.2⟩, x_Z.same (u := U) (U := U.calling g mk a) rfl q.2.2⟩
theorem x_pre {G : m_G} {nx : Nat} {κ : Nat → Nat} {S : m_M} {av : List Value} {s : State} {H : Heap} {locs : List Loc} (hH : m_H G nx κ S H) (hS : m_S G s H locs) (hK : va_K G.1 vwCl (m_tys G.2.1) s) (hZ : x_Z G s s.heap) : ∀ U : State, U.heap = H → s.WarmedH U.vm → va_Pc av (x_P G nx κ S) av.toArray U := fun U hU hW =>
  ⟨rfl, ⟨by rw [hU]; exact hH, va_K.moved hW.alike hK⟩, by rw [hU]; exact (hZ.kept hS).warm hW⟩
section XRows
variable {p : Program} {l : Launch} {e : Env} {R : Room} {s : State} {m : MethodId} {args : Array Value} {below : List Frame} {meth : Method} {c : Code} {H : Heap} {locs : List Loc} {cells slots : Nat} {Q : State → Prop}
variable {cc : ByteArray} {nL : Nat} {own : String} {pc : Nat} {ls : Array Slot} {st rest As : List Value} {G : m_G} {nx : Nat} {κ : Nat → Nat} {S : m_M}
variable {y : MethodName} {b : ByteArray} {n : Nat} {rt : Option FieldType} {rm : Room} {index : Nat}
theorem r_xret {v : Int32} {res : Option Int32 × m_M} (X : m_Cx p s m args meth c cc nL own G) (hr : x_hr G l s meth c) (hH : m_H G nx κ S H) (hS : m_S G s H locs) (hm : some (some v, S) = some res) (hdg : decode cc pc = .ok (.ireturn, 1)) : W p l e R s m args below meth c H locs 0 0 (x_Q below args s G nx κ res) (F0 m pc ls [.int v]) := by
  cases Option.some.inj hm
  refine W.widen (k := 1) (n := 6) (Nat.zero_le _) (Nat.zero_le _) ?_
  exact vx_ret (W.iret X.1.1 X.1.2.1 hr.1 (fun t ht hW => ⟨⟨v, S, rfl, rfl, by rw [m_Wd, ht]; exact ⟨hH, va_K.moved hW.alike X.2.1⟩⟩, hS.F ht⟩) hS.2.2 hdg X.2.2.1)
theorem r_xthrow {res : Option Int32 × m_M} (X : m_Cx p s m args meth c cc nL RX11 G) (hr : x_hr G l s meth c) (hH : m_H G nx κ S H) (hS : m_S G s H locs) (hm : some ((none : Option Int32), S) = some res) (hsz : ls.size = nL) (hR : 6 ≤ R.frames ∧ 90 ≤ R.locals ∧ 1 ≤ R.cells ∧ 6 ≤ R.slots)
    (d0 : decode cc pc = .ok (.new 152, 3)) (d3 : decode cc (pc + 3) = .ok (.dup, 1)) (d4 : decode cc (pc + 4) = .ok (.invokespecial 154, 3)) (d7 : decode cc (pc + 7) = .ok (.athrow, 1)) : W p l e R s m args below meth c H locs 0 0 (x_Q below args s G nx κ res) (F0 m pc ls []) := by
  cases Option.some.inj hm
  refine vx_throw0 (A := m_ge G.2.2) (own := RX11) (cls := x_E) (names := x_ns) (ik := 152) (ic := 154) X.1.1 X.1.2.1 hr.2.1 X.1.2.2.2.1 (by decide) (by decide) (m_w X x_in1) (m_w X x_in2) (x_at X.1.2.2.2.2 hr.2.2.1) ?_ hr.2.2.1.1 hr.2.2.1.2.1 hS (hsz.trans X.1.2.2.1.symm) d0 d3 d4 d7 (fun x hx => (hr.2.2.2 x hx).elim) (by show 2 + 3 < R.frames; omega) (by show 0 + (13 * (2 + 1) + 42) ≤ R.locals; omega) (by omega) (by omega) X.2.2.1 ?_ hS.2.2 (Nat.le_refl _) (Nat.le_refl _)
  · intro w hw
    rcases List.mem_cons.mp hw with rfl | hw
    · rfl
    rcases List.mem_cons.mp hw with rfl | hw
    · rfl
    rcases x_atg w hw with hg | hg
    · simp only [vx_ot, hg, Bool.or_true]
    · simp only [vx_ot, x_bad_t w hg, Bool.true_or]
  · intro t hvm hz hk
    exact ⟨S, rfl, ⟨rfl, t.heap.size, by rw [← hH.1]; exact hz, hH.grow hz hk, va_K.moved hvm X.2.1⟩, Nat.le_trans hS.1 hz, fun q h1 h2 => (hk q (Nat.lt_of_lt_of_le h1 hS.1)).trans (hS.2.1 q h1 h2)⟩
theorem x_C.of {av : List Value} {res : Option Int32 × m_M} (hlt : l.stackTraces = false) (hy : plainName y.cls = true) (hn : (lg_sl av).length ≤ n)
    (body : ∀ (p : Program) (e : Env) (s : State) (m : MethodId) (args : Array Value) (below : List Frame) (meth : Method) (c : Code) (ls : Array Slot), m_Cx p s m args meth c b n y.cls G → x_hr G l s meth c → m_H G nx κ S s.heap → lv_has ls n (lv_args 0 av) → W p l e rm s m args below meth c s.heap [] 0 0 (x_Q below args s G nx κ res) (F0 m 0 ls [])) : x_C l y b n (some .int) rm G nx κ av S res := by
  refine vx_ofW (cc := b) (maxL := n) (ret := some .int) hy rfl ?_
  intro p e s m args below meth c s₁ B hml ht hv
  obtain ⟨rfl, hW, hZ⟩ := hv
  have hl := lv_entry av (n := n) hn
  rw [lg_entry_eq]
  exact body p e s m _ below meth c _ (m_Cx.of B hml hW) ⟨B.returns, hlt, hZ, ht⟩ hW.1 hl
theorem r_xcall {a k N : Nat} {C : String} {T : u_T} {res : Option Int32 × m_M} (X : m_Cx p s m args meth c cc nL own G) (hZ : x_Z G s s.heap) (hH : m_H G nx κ S H) (hS : m_S G s H locs) (hM : x_C l y b n rt rm G nx κ (.ref a :: As) S res) (hw : m_CV y b n rt As.length) (hl : Cond.methodLink own index y ∈ m_gW) (hk : κ a = k + 1) (hkl : k < 13) (hc : vwCl[k]? = some (C, T, N)) (hyC : y.cls = C)
    (hst : st = As.reverse ++ .ref a :: rest) (hrm : rm.cells = 1 ∧ rm.slots = 6) (hR : rm.frames + 1 ≤ R.frames ∧ 8 + (n + 11) + rm.locals ≤ R.locals) (hcs : cells + 1 ≤ R.cells ∧ slots + 6 ≤ R.slots) (hsz : ls.size = nL) (hrest : (rest.map fun v => v.category).sum ≤ 8) (hdg : decode cc pc = .ok (.invokevirtual index, 3))
    (kx : ∀ (S' : m_M) (ce : Cell) (q9 : Addr) (H1 : Heap) (locs1 : List Loc) (nx' : Nat), (none, S') = res → nx ≤ nx' → m_H G nx' κ S' H1 → m_S G s H1 locs1 → H1[q9]? = some ce → ce.vm = .none → s.vm.findClass x_E = some ce.cls → vx_W p l e R s m args below meth c H1 locs1 (cells + 1) (slots + 6) Q (F0 m pc ls rest) q9)
    (kk : ∀ (r : Int32) (S' : m_M) (H1 : Heap) (locs1 : List Loc), (some r, S') = res → m_H G nx κ S' H1 → m_S G s H1 locs1 → W p l e R s m args below meth c H1 locs1 (cells + 1) (slots + 6) Q (F0 m (pc + 3) ls (.int r :: rest))) : W p l e R s m args below meth c H locs cells slots Q (F0 m pc ls st) := by
  subst hst; subst hyC
  refine vx_calli (vx_runV (As := As) (rest := rest) X.1 hM ⟨m_callA X hw.1 hl hrm hR, m_w X hw.2.1, m_w X hw.2.2⟩ ⟨x_blind, m_recv X hH hk hkl hc, x_pre hH hS X.2.1 hZ⟩ rfl rfl hsz rfl (lv_room hrest) hdg hcs) hS (fun _ _ h => h) (fun _ h => h) (fun _ _ h => h) (fun E ce q9 u t H1 locs1 ht hvm hp hB hz1 hk1 hS1 h1 h2 h3 => ?_) (fun r u t H1 locs1 ht hvm hp hB hz1 hk1 hS1 => ?_)
  · obtain ⟨rfl, nx', hle, hW⟩ := hB
    exact kx u ce q9 H1 locs1 nx' hp hle (by rw [← ht]; exact hW.1) hS1 h1 h2 h3
  · exact kk r u H1 locs1 hp (by rw [← ht]; exact hB.1) hS1
end XRows
