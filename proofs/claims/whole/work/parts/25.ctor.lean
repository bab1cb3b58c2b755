/-! CONTRACTS OF CONSTRUCTORS, AND OF METHODS THAT MAKE CELLS -/
/-- behind a constructor: the object and its cells lie from a on, as lay says -/
def m_KX (G : m_G) (a : Nat) (lay : List Nat) (κ : Nat → Nat) (u : m_M) (t : State) : Prop := ∃ κ', (∀ q, q < a → κ' q = κ q) ∧ m_seg κ' a lay ∧ m_Str κ' ∧ m_WN G (a + lay.length) κ' u t
def m_K (l : Launch) (y : MethodName) (b : ByteArray) (n : Nat) (rm : Room) (G : m_G) (a : Nat) (lay : List Nat) (nx : Nat) (κ : Nat → Nat) (av : List Value) (S S' : m_M) (mc ms : Nat) : Prop :=
  Met l y (m_ws y b n none) rm (va_Pc av (m_WN G nx κ S)) (va_Qv (fun u => u = S') (m_KX G a lay κ) (m_ge G.2.2)) mc ms (m_ge G.2.2)
/-- behind a method that may make cells: what was there is there -/
def m_AX (G : m_G) (nx : Nat) (κ : Nat → Nat) (u : m_M) (t : State) : Prop := ∃ nx' κ', nx ≤ nx' ∧ (∀ q, q < nx → κ' q = κ q) ∧ m_Str κ' ∧ m_WN G nx' κ' u t
def m_Av (l : Launch) (y : MethodName) (b : ByteArray) (n : Nat) (rm : Room) (G : m_G) (nx : Nat) (κ : Nat → Nat) (av : List Value) (S S' : m_M) (mc ms : Nat) : Prop :=
  Met l y (m_ws y b n none) rm (va_Pc av (m_WN G nx κ S)) (va_Qv (fun u => u = S') (m_AX G nx κ) (m_ge G.2.2)) mc ms (m_ge G.2.2)
def m_Ai (l : Launch) (y : MethodName) (b : ByteArray) (n : Nat) (rt : Option FieldType) (rm : Room) (G : m_G) (nx : Nat) (κ : Nat → Nat) (av : List Value) (S : m_M) (res : Int32 × m_M) (mc ms : Nat) : Prop :=
  Met l y (m_ws y b n rt) rm (va_Pc av (m_WN G nx κ S)) (va_Qi (fun r u => (r, u) = res) (m_AX G nx κ) (m_ge G.2.2)) mc ms (m_ge G.2.2)
def m_QK (below : List Frame) (args : Array Value) (s : State) (G : m_G) (a : Nat) (lay : List Nat) (κ : Nat → Nat) (S' : m_M) (mc ms : Nat) : State → Prop := MQ below (va_Qv (fun u => u = S') (m_KX G a lay κ) (m_ge G.2.2)) args s mc ms (m_ge G.2.2)
def m_QAv (below : List Frame) (args : Array Value) (s : State) (G : m_G) (nx : Nat) (κ : Nat → Nat) (S' : m_M) (mc ms : Nat) : State → Prop := MQ below (va_Qv (fun u => u = S') (m_AX G nx κ) (m_ge G.2.2)) args s mc ms (m_ge G.2.2)
def m_QAi (below : List Frame) (args : Array Value) (s : State) (G : m_G) (nx : Nat) (κ : Nat → Nat) (res : Int32 × m_M) (mc ms : Nat) : State → Prop := MQ below (va_Qi (fun r u => (r, u) = res) (m_AX G nx κ) (m_ge G.2.2)) args s mc ms (m_ge G.2.2)
theorem m_blindN {G : m_G} {nx : Nat} {κ : Nat → Nat} {S : m_M} {av : List Value} : FrameBlind (va_Pc av (m_WN G nx κ S)) := fun a U g mk q =>
  ⟨q.1, ⟨q.2.1.1, va_K.moved (u := U) (U := U.calling g mk a) (Vm.Alike.refl U.vm) q.2.1.2⟩, m_N.same rfl q.2.2⟩
theorem m_preN {G : m_G} {nx : Nat} {κ : Nat → Nat} {S : m_M} {av : List Value} {s : State} {H : Heap} (hH : m_H G nx κ S H) (hK : va_K G.1 vwCl (m_tys G.2.1) s) (hN : m_N s) : ∀ U : State, U.heap = H → s.WarmedH U.vm → va_Pc av (m_WN G nx κ S) av.toArray U := fun U hU hW =>
  ⟨rfl, ⟨by rw [hU]; exact hH, va_K.moved hW.alike hK⟩, hN.warm hW⟩
theorem m_hk {G : m_G} {nx : Nat} {κ κ' : Nat → Nat} {S : m_M} {H : Heap} {a c : Nat} (hH : m_H G nx κ S H) (hk : κ a = c) (hc : c ≠ 0) (hq : ∀ q, q < nx → κ' q = κ q) : κ' a = c := by
  rw [hq a (hH.2.1.2 a (by rw [hk]; exact hc)).2]; exact hk
section MAC
variable {p : Program} {l : Launch} {e : Env} {R : Room} {s : State} {m : MethodId} {args : Array Value} {below : List Frame} {meth : Method} {c : Code} {H : Heap} {locs : List Loc} {cells slots : Nat} {Q : State → Prop}
variable {cc : ByteArray} {nL : Nat} {own : String} {pc : Nat} {ls : Array Slot} {st rest As : List Value} {G : m_G} {nx : Nat} {κ : Nat → Nat} {S S' : m_M}
variable {y : MethodName} {b : ByteArray} {n : Nat} {rt : Option FieldType} {rm : Room} {index mc ms : Nat}
theorem m_callA (X : m_Cx p s m args meth c cc nL own G) (hw : m_CW y b n rt As.length) (hl : Cond.methodLink own index y ∈ m_gW) (hrm : rm.cells = mc ∧ rm.slots = ms) (hR : rm.frames + 1 ≤ R.frames ∧ 8 + (n + 11) + rm.locals ≤ R.locals) : CallB R s args own index y b n rt (m_ws y b n rt) rm mc ms As.length :=
  callB_of As.length X.1.2.2.2.2 (m_good hw.1) rfl hrm.1 hrm.2 (m_w X hw.2.1) (m_w X hl) hw.2.2 hR
/-- a constructor is called -/
theorem n_cI {a : Nat} {lay : List Nat} (X : m_Cx p s m args meth c cc nL own G) (hN : m_N s) (hH : m_H G nx κ S H) (hS : m_S G s H locs) (hM : m_K l y b n rm G a lay nx κ (.ref a :: As) S S' mc ms) (hw : m_CW y b n none As.length) (hin : Cond.instanceMethod y ∈ m_gW) (hy : y.name = "<init>") (hl : Cond.methodLink own index y ∈ m_gW)
    (hst : st = As.reverse ++ .ref a :: rest) (hrm : rm.cells = mc ∧ rm.slots = ms) (hR : rm.frames + 1 ≤ R.frames ∧ 8 + (n + 11) + rm.locals ≤ R.locals) (hcs : cells + mc ≤ R.cells ∧ slots + ms ≤ R.slots) (hsz : ls.size = nL) (hrest : (rest.map fun v => v.category).sum ≤ 8) (hdg : decode cc pc = .ok (.invokespecial index, 3))
    (kk : ∀ (H1 : Heap) (locs1 : List Loc) (κ' : Nat → Nat), (∀ q, q < a → κ' q = κ q) → m_seg κ' a lay → m_Str κ' → m_H G (a + lay.length) κ' S' H1 → m_S G s H1 locs1 → W p l e R s m args below meth c H1 locs1 (cells + mc) (slots + ms) Q (F0 m (pc + 3) ls rest)) : W p l e R s m args below meth c H locs cells slots Q (F0 m pc ls st) := by
  subst hst
  refine va_callv (va_runI (As := As) (rest := rest) X.1 hM ⟨m_callA X hw hl hrm hR, hy, m_w X hin⟩ ⟨m_blindN, m_preN hH X.2.1 hN⟩ rfl rfl hsz rfl (lv_room hrest) hdg hcs) hS (fun _ _ h => h) (fun _ h => h) (fun u t H1 locs1 ht hvm hw1 hB hz1 hk1 hS1 => ?_)
  subst hw1
  obtain ⟨κ', h1, h2, h3, h4⟩ := hB
  exact kk H1 locs1 κ' h1 h2 h3 (by rw [← ht]; exact h4.1.1) hS1
theorem n_cIN {a : Nat} {lay : List Nat} {host : String} (X : m_Cx p s m args meth c cc nL own G) (hN : m_N s) (hH : m_H G nx κ S H) (hS : m_S G s H locs) (hM : m_K l y b n rm G a lay nx κ (.ref a :: As) S S' mc ms) (hw : m_CW y b n none As.length) (hin : Cond.instanceMethod y ∈ m_gW) (hy : y.name = "<init>") (hl : (own, index, y, host) ∈ m_nest)
    (hst : st = As.reverse ++ .ref a :: rest) (hrm : rm.cells = mc ∧ rm.slots = ms) (hR : rm.frames + 1 ≤ R.frames ∧ 8 + (n + 11) + rm.locals ≤ R.locals) (hcs : cells + mc ≤ R.cells ∧ slots + ms ≤ R.slots) (hsz : ls.size = nL) (hrest : (rest.map fun v => v.category).sum ≤ 8) (hdg : decode cc pc = .ok (.invokespecial index, 3))
    (kk : ∀ (H1 : Heap) (locs1 : List Loc) (κ' : Nat → Nat), (∀ q, q < a → κ' q = κ q) → m_seg κ' a lay → m_Str κ' → m_H G (a + lay.length) κ' S' H1 → m_S G s H1 locs1 → W p l e R s m args below meth c H1 locs1 (cells + mc) (slots + ms) Q (F0 m (pc + 3) ls rest)) : W p l e R s m args below meth c H locs cells slots Q (F0 m pc ls st) := by
  subst hst
  refine va_callv (va_runIN (As := As) (rest := rest) (host := host) X.1 hM ⟨va_cnB As.length X.1.2.2.2.2 (m_good hw.1) rfl hrm.1 hrm.2 (hN.1 _ hl) (m_w X hw.2.1) hw.2.2 hR, hy, m_w X hin⟩ ⟨m_blindN, m_preN hH X.2.1 hN⟩ rfl rfl hsz rfl (lv_room hrest) hdg hcs) hS (fun _ _ h => h) (fun _ h => h) (fun u t H1 locs1 ht hvm hw1 hB hz1 hk1 hS1 => ?_)
  subst hw1
  obtain ⟨κ', h1, h2, h3, h4⟩ := hB
  exact kk H1 locs1 κ' h1 h2 h3 (by rw [← ht]; exact h4.1.1) hS1
/-- a method that may make cells is called -/
theorem n_cAv {a k N : Nat} {C : String} {T : u_T} (X : m_Cx p s m args meth c cc nL own G) (hN : m_N s) (hH : m_H G nx κ S H) (hS : m_S G s H locs) (hM : m_Av l y b n rm G nx κ (.ref a :: As) S S' mc ms) (hw : m_CV y b n none As.length) (hl : Cond.methodLink own index y ∈ m_gW) (hk : κ a = k + 1) (hkl : k < 13) (hc : vwCl[k]? = some (C, T, N)) (hyC : y.cls = C)
    (hst : st = As.reverse ++ .ref a :: rest) (hrm : rm.cells = mc ∧ rm.slots = ms) (hR : rm.frames + 1 ≤ R.frames ∧ 8 + (n + 11) + rm.locals ≤ R.locals) (hcs : cells + mc ≤ R.cells ∧ slots + ms ≤ R.slots) (hsz : ls.size = nL) (hrest : (rest.map fun v => v.category).sum ≤ 8) (hdg : decode cc pc = .ok (.invokevirtual index, 3))
    (kk : ∀ (H1 : Heap) (locs1 : List Loc) (nx' : Nat) (κ' : Nat → Nat), nx ≤ nx' → (∀ q, q < nx → κ' q = κ q) → m_Str κ' → m_H G nx' κ' S' H1 → m_S G s H1 locs1 → W p l e R s m args below meth c H1 locs1 (cells + mc) (slots + ms) Q (F0 m (pc + 3) ls rest)) : W p l e R s m args below meth c H locs cells slots Q (F0 m pc ls st) := by
  subst hst; subst hyC
  refine va_callv (va_runV (As := As) (rest := rest) X.1 hM ⟨m_callA X hw.1 hl hrm hR, m_w X hw.2.1, m_w X hw.2.2⟩ ⟨m_blindN, m_recv X hH hk hkl hc, m_preN hH X.2.1 hN⟩ rfl rfl hsz rfl (lv_room hrest) hdg hcs) hS (fun _ _ h => h) (fun _ h => h) (fun u t H1 locs1 ht hvm hw1 hB hz1 hk1 hS1 => ?_)
  subst hw1
  obtain ⟨nx', κ', h0, h1, h3, h4⟩ := hB
  exact kk H1 locs1 nx' κ' h0 h1 h3 (by rw [← ht]; exact h4.1.1) hS1
theorem n_cAi {a k N : Nat} {C : String} {T : u_T} {v : Int32} (X : m_Cx p s m args meth c cc nL own G) (hN : m_N s) (hH : m_H G nx κ S H) (hS : m_S G s H locs) (hM : m_Ai l y b n rt rm G nx κ (.ref a :: As) S (v, S') mc ms) (hw : m_CV y b n rt As.length) (hl : Cond.methodLink own index y ∈ m_gW) (hk : κ a = k + 1) (hkl : k < 13) (hc : vwCl[k]? = some (C, T, N)) (hyC : y.cls = C)
    (hst : st = As.reverse ++ .ref a :: rest) (hrm : rm.cells = mc ∧ rm.slots = ms) (hR : rm.frames + 1 ≤ R.frames ∧ 8 + (n + 11) + rm.locals ≤ R.locals) (hcs : cells + mc ≤ R.cells ∧ slots + ms ≤ R.slots) (hsz : ls.size = nL) (hrest : (rest.map fun v => v.category).sum ≤ 8) (hdg : decode cc pc = .ok (.invokevirtual index, 3))
    (kk : ∀ (H1 : Heap) (locs1 : List Loc) (nx' : Nat) (κ' : Nat → Nat), nx ≤ nx' → (∀ q, q < nx → κ' q = κ q) → m_Str κ' → m_H G nx' κ' S' H1 → m_S G s H1 locs1 → W p l e R s m args below meth c H1 locs1 (cells + mc) (slots + ms) Q (F0 m (pc + 3) ls (.int v :: rest))) : W p l e R s m args below meth c H locs cells slots Q (F0 m pc ls st) := by
  subst hst; subst hyC
  refine va_calli (va_runV (As := As) (rest := rest) X.1 hM ⟨m_callA X hw.1 hl hrm hR, m_w X hw.2.1, m_w X hw.2.2⟩ ⟨m_blindN, m_recv X hH hk hkl hc, m_preN hH X.2.1 hN⟩ rfl rfl hsz rfl (lv_room hrest) hdg hcs) hS (fun _ _ h => h) (fun _ h => h) (fun r u t H1 locs1 ht hvm hw1 hB hz1 hk1 hS1 => ?_)
  cases hw1
  obtain ⟨nx', κ', h0, h1, h3, h4⟩ := hB
  exact kk H1 locs1 nx' κ' h0 h1 h3 (by rw [← ht]; exact h4.1.1) hS1
/-! ends -/
theorem r_kret {a : Nat} {lay : List Nat} {κ0 : Nat → Nat} (X : m_Cx p s m args meth c cc nL own G) (hN : m_N s) (hr : meth.sig.returnType = none) (hH : m_H G nx κ S H) (hS : m_S G s H locs) (hm : some S = some S') (hT : m_Str κ) (hq : ∀ q, q < a → κ q = κ0 q) (hg : m_seg κ a lay) (hnx : a + lay.length = nx) (hcc : cells ≤ mc) (hss : slots ≤ ms) (hdg : decode cc pc = .ok (.return_, 1)) : W p l e R s m args below meth c H locs cells slots (m_QK below args s G a lay κ0 S' mc ms) (F0 m pc ls []) := by
  cases Option.some.inj hm
  subst hnx
  refine W.widen (k := mc) (n := ms) hcc hss ?_
  exact W.vret X.1.1 X.1.2.1 hr (fun t ht hW => ⟨⟨S, rfl, rfl, κ, hq, hg, hT, by rw [m_WN, m_Wd, ht]; exact ⟨⟨hH, va_K.moved hW.alike X.2.1⟩, hN.warm hW⟩⟩, hS.F ht⟩) hS.2.2 hdg X.2.2.1
theorem r_avret {nx0 : Nat} {κ0 : Nat → Nat} (X : m_Cx p s m args meth c cc nL own G) (hN : m_N s) (hr : meth.sig.returnType = none) (hH : m_H G nx κ S H) (hS : m_S G s H locs) (hm : some S = some S') (hT : m_Str κ) (hle : nx0 ≤ nx) (hq : ∀ q, q < nx0 → κ q = κ0 q) (hcc : cells ≤ mc) (hss : slots ≤ ms) (hdg : decode cc pc = .ok (.return_, 1)) : W p l e R s m args below meth c H locs cells slots (m_QAv below args s G nx0 κ0 S' mc ms) (F0 m pc ls []) := by
  cases Option.some.inj hm
  refine W.widen (k := mc) (n := ms) hcc hss ?_
  exact W.vret X.1.1 X.1.2.1 hr (fun t ht hW => ⟨⟨S, rfl, rfl, nx, κ, hle, hq, hT, by rw [m_WN, m_Wd, ht]; exact ⟨⟨hH, va_K.moved hW.alike X.2.1⟩, hN.warm hW⟩⟩, hS.F ht⟩) hS.2.2 hdg X.2.2.1
theorem r_airet {nx0 : Nat} {κ0 : Nat → Nat} {v : Int32} {res : Int32 × m_M} (X : m_Cx p s m args meth c cc nL own G) (hN : m_N s) (hr : meth.sig.returnType = some .int) (hH : m_H G nx κ S H) (hS : m_S G s H locs) (hm : some (v, S) = some res) (hT : m_Str κ) (hle : nx0 ≤ nx) (hq : ∀ q, q < nx0 → κ q = κ0 q) (hcc : cells ≤ mc) (hss : slots ≤ ms) (hdg : decode cc pc = .ok (.ireturn, 1)) : W p l e R s m args below meth c H locs cells slots (m_QAi below args s G nx0 κ0 res mc ms) (F0 m pc ls [.int v]) := by
  cases Option.some.inj hm
  refine W.widen (k := mc) (n := ms) hcc hss ?_
  exact W.iret X.1.1 X.1.2.1 hr (fun t ht hW => ⟨⟨v, S, rfl, rfl, nx, κ, hle, hq, hT, by rw [m_WN, m_Wd, ht]; exact ⟨⟨hH, va_K.moved hW.alike X.2.1⟩, hN.warm hW⟩⟩, hS.F ht⟩) hS.2.2 hdg X.2.2.1
theorem r_azret {nx0 : Nat} {κ0 : Nat → Nat} {v : Int32} {res : Int32 × m_M} (X : m_Cx p s m args meth c cc nL own G) (hN : m_N s) (hr : meth.sig.returnType = some .boolean) (hH : m_H G nx κ S H) (hS : m_S G s H locs) (hm : (if v = 0 ∨ v = 1 then some (v, S) else none) = some res) (hT : m_Str κ) (hle : nx0 ≤ nx) (hq : ∀ q, q < nx0 → κ q = κ0 q) (hcc : cells ≤ mc) (hss : slots ≤ ms) (hdg : decode cc pc = .ok (.ireturn, 1)) : W p l e R s m args below meth c H locs cells slots (m_QAi below args s G nx0 κ0 res mc ms) (F0 m pc ls [.int v]) := by
  obtain ⟨hv, hm⟩ := m_if_of hm
  cases Option.some.inj hm
  refine W.widen (k := mc) (n := ms) hcc hss ?_
  exact W.zret X.1.1 X.1.2.1 hr (m_nz hv).1 (fun t ht hW => ⟨⟨v, S, rfl, rfl, nx, κ, hle, hq, hT, by rw [m_WN, m_Wd, ht]; exact ⟨⟨hH, va_K.moved hW.alike X.2.1⟩, hN.warm hW⟩⟩, hS.F ht⟩) hS.2.2 hdg X.2.2.1
/-! arrays of references -/
theorem n_aald (X : m_Cx p s m args meth c cc nL own G) (hH : m_H G nx κ S H) {a t n : Nat} {v : Option Nat} (hk : κ a = m_ac t n) (ht : t = 4 ∨ t = 5) {i : Int32} (hin : vp_in i n) (hv : m_rr S a i.toNatClampNeg = v) (hdg : decode cc pc = .ok (.aaload, 1))
    (kk : W p l e R s m args below meth c H locs cells slots Q (F0 m (pc + 1) ls (va_rf v :: rest))) : W p l e R s m args below meth c H locs cells slots Q (F0 m pc ls (.int i :: .ref a :: rest)) := by
  subst hv
  have hlt : i.toNatClampNeg < n := Nat.not_le.mp fun q => hin (Or.inr q)
  have key : ∀ C : String, ArrOfT s (G.2.1 t) (.object C) → W p l e R s m args below meth c H locs cells slots Q (F0 m pc ls (.int i :: .ref a :: rest)) := fun C hA =>
    W.aald (v := va_rf (m_rr S a i.toNatClampNeg)) (ty := .object C) X.1.1 X.1.2.1 (hH.2.2.2.2.2.2 a t n hk ht).1 (hA n (fun j => va_rf (m_rr S a j))) rfl (fun q => by cases q) (by show ¬ (i < 0 ∨ (arrV _ _ _).slots.size ≤ _); rw [arrV_size]; exact hin) (by rw [arrV_read _ _ hlt]) rfl rfl hdg kk
  rcases ht with rfl | rfl
  · exact key _ (X.2.1.2 4 (G.2.1 4, .object "RegionRooms$Machine") rfl).1
  · exact key _ (X.2.1.2 5 (G.2.1 5, .object "RegionRooms$Whole") rfl).1
theorem m_kel (hH : m_H G nx κ S H) {a t n i b : Nat} (hk : κ a = m_ac t n) (ht : t = 4 ∨ t = 5) (hv : m_rr S a i = some b) : κ b = m_ek t := (hH.2.2.2.2.2.2 a t n hk ht).2 i b hv
theorem n_aast (X : m_Cx p s m args meth c cc nL own G) (hH : m_H G nx κ S H) (hS0 : m_S G s H locs) {a t n b k N : Nat} {C : String} {T : u_T} (hk : κ a = m_ac t n) (ht : t = 4 ∨ t = 5) (hek : m_ek t = k + 1) (hkl : k < 13) (hc : vwCl[k]? = some (C, T, N)) (htt : (m_tys G.2.1)[t]? = some (G.2.1 t, .object C)) (hkb : κ b = k + 1) {i : Int32} (hin : vp_in i n) (hv : m_sr S a i.toNatClampNeg (some b) = S') (hdg : decode cc pc = .ok (.aastore, 1))
    (kk : ∀ (H1 : Heap) (locs1 : List Loc), m_H G nx κ S' H1 → m_S G s H1 locs1 → W p l e R s m args below meth c H1 locs1 cells slots Q (F0 m (pc + 1) ls rest)) : W p l e R s m args below meth c H locs cells slots Q (F0 m pc ls (.ref b :: .int i :: .ref a :: rest)) := by
  subst hv
  have hlt : i.toNatClampNeg < n := Nat.not_le.mp fun q => hin (Or.inr q)
  have h0 : ¬ i < 0 := fun q => hin (Or.inl q)
  obtain ⟨r', hr', cellV, g1, g2, g3, -⟩ := hH.2.2.1 b k hkb hkl
  have hcls := (X.2.1.1 k _ hc).2
  obtain ⟨kA, comp, k1, k2, k3, -⟩ := (X.2.1.2 t _ htt).2
  have hcomp : comp = G.1.1 k := Option.some.inj (k3.symm.trans hcls.1)
  subst hcomp
  obtain ⟨kC, hkC, -⟩ := hcls.2
  refine W.aast X.1.1 X.1.2.1 (hH.2.2.2.2.2.2 a t n hk ht).1 (fun q h => by cases h) (fun h => by cases h) k1 k2 rfl hkC ⟨h0, by show _ < (arrV _ _ _).slots.size; rw [arrV_size]; exact hlt⟩ g1 (fun q h => by rw [g3] at h; cases h) (by rw [g2]; exact hkC) (by rw [g2]; exact va_assign hcls) rfl rfl hdg fun H1 e z oq => ?_
  refine kk H1 _ ?_ (hS0.put z oq (hH.2.1.2 a (by rw [hk]; simp only [m_ac]; omega)).1)
  refine hH.one z oq (fun _ _ => rfl) (fun _ _ => rfl) (fun q h => m_sr_ne h) (fun k hk' _ => ?_) (fun k i' hk' _ _ => ?_) (fun t' n' hk' ht' => ?_) (fun n' hk' => ?_) (fun t' n' hk' ht' => ?_)
  · rw [hk] at hk'; simp only [m_ac] at hk'; omega
  · have := m_ac_inj (by omega) (by omega) (hk.symm.trans hk'); omega
  · have := m_ac_inj (by omega) (by omega) (hk.symm.trans hk'); omega
  · have := m_ac_inj (by omega) (by omega) (hk.symm.trans hk'); omega
  · obtain ⟨rfl, rfl⟩ := m_ac_inj (by omega) (by omega) (hk.symm.trans hk')
    refine ⟨?_, fun j b' hj => ?_⟩
    · rw [e, arrV_store, m_sr_eq]
      congr 2
      funext q
      by_cases hq : q = i.toNatClampNeg
      · subst hq; simp [updV, va_up, va_rf]
      · simp [updV, va_up, hq]
    · rw [m_sr_eq] at hj
      by_cases hq : j = i.toNatClampNeg
      · subst hq; rw [m_up_eq] at hj; cases hj; rw [hkb, hek]
      · rw [m_up_ne hq] at hj; exact (hH.2.2.2.2.2.2 a t n hk ht).2 j b' hj
theorem n_ifnn {v : Option Nat} {off : Int} {tgt : Nat} (hexec : p.tables.exec = Jvm.exec) (hb : c.code = cc) (hdg : decode cc pc = .ok (.ifnonnull off, 3)) (ht : (pc : Int) + off = (tgt : Int))
    (kt : ¬ v = none → W p l e R s m args below meth c H locs cells slots Q (F0 m tgt ls rest)) (kf : v = none → W p l e R s m args below meth c H locs cells slots Q (F0 m (pc + 3) ls rest)) : W p l e R s m args below meth c H locs cells slots Q (F0 m pc ls (va_rf v :: rest)) := by
  cases v with
  | none => exact lv_ifnonnullN hexec hb hdg (kf rfl)
  | some x => exact lv_ifnonnull hexec hb hdg ht (kt (by simp))
end MAC
section MAOf
variable {l : Launch} {y : MethodName} {b : ByteArray} {n : Nat} {rt : Option FieldType} {rm : Room} {G : m_G} {nx : Nat} {κ : Nat → Nat} {av : List Value} {S : m_M} {mc ms : Nat}
theorem m_K.of {a : Nat} {lay : List Nat} {S' : m_M} (hy : plainName y.cls = true) (hyn : y.name = "<init>") (hn : (lg_sl av).length ≤ n)
    (body : ∀ (p : Program) (e : Env) (s : State) (m : MethodId) (args : Array Value) (below : List Frame) (meth : Method) (c : Code) (ls : Array Slot), m_Cx p s m args meth c b n y.cls G → m_N s → meth.name = "<init>" → meth.sig.returnType = none → m_H G nx κ S s.heap → lv_has ls n (lv_args 0 av) → W p l e rm s m args below meth c s.heap [] 0 0 (m_QK below args s G a lay κ S' mc ms) (F0 m 0 ls [])) : m_K l y b n rm G a lay nx κ av S S' mc ms := by
  refine Met.ofW (cc := b) (maxL := n) (ret := none) hy rfl ?_
  intro p e s m args below meth c s₁ B hml hv
  obtain ⟨rfl, hW⟩ := hv
  have hl := lv_entry av (n := n) hn
  rw [lg_entry_eq]
  exact body p e s m _ below meth c _ (m_Cx.of B hml hW.1) hW.2 (by rw [← hyn]; exact (name_of_methodNamed B.named B.method).1) B.returns hW.1.1 hl
theorem m_Av.of {S' : m_M} (hy : plainName y.cls = true) (hn : (lg_sl av).length ≤ n)
    (body : ∀ (p : Program) (e : Env) (s : State) (m : MethodId) (args : Array Value) (below : List Frame) (meth : Method) (c : Code) (ls : Array Slot), m_Cx p s m args meth c b n y.cls G → m_N s → meth.sig.returnType = none → m_H G nx κ S s.heap → lv_has ls n (lv_args 0 av) → W p l e rm s m args below meth c s.heap [] 0 0 (m_QAv below args s G nx κ S' mc ms) (F0 m 0 ls [])) : m_Av l y b n rm G nx κ av S S' mc ms := by
  refine Met.ofW (cc := b) (maxL := n) (ret := none) hy rfl ?_
  intro p e s m args below meth c s₁ B hml hv
  obtain ⟨rfl, hW⟩ := hv
  have hl := lv_entry av (n := n) hn
  rw [lg_entry_eq]
  exact body p e s m _ below meth c _ (m_Cx.of B hml hW.1) hW.2 B.returns hW.1.1 hl
theorem m_Ai.of {res : Int32 × m_M} (hy : plainName y.cls = true) (hn : (lg_sl av).length ≤ n)
    (body : ∀ (p : Program) (e : Env) (s : State) (m : MethodId) (args : Array Value) (below : List Frame) (meth : Method) (c : Code) (ls : Array Slot), m_Cx p s m args meth c b n y.cls G → m_N s → meth.sig.returnType = rt → m_H G nx κ S s.heap → lv_has ls n (lv_args 0 av) → W p l e rm s m args below meth c s.heap [] 0 0 (m_QAi below args s G nx κ res mc ms) (F0 m 0 ls [])) : m_Ai l y b n rt rm G nx κ av S res mc ms := by
  refine Met.ofW (cc := b) (maxL := n) (ret := rt) hy rfl ?_
  intro p e s m args below meth c s₁ B hml hv
  obtain ⟨rfl, hW⟩ := hv
  have hl := lv_entry av (n := n) hn
  rw [lg_entry_eq]
  exact body p e s m _ below meth c _ (m_Cx.of B hml hW.1) hW.2 B.returns hW.1.1 hl
end MAOf
