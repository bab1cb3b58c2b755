/-! Tokens(): the words that are told are spelt out of the constant -/
def m_WT (G : m_G) (nx : Nat) (κ : Nat → Nat) (S : m_M) (q v : Nat) (U : State) : Prop := m_WN G nx κ S U ∧ m_TX G.2.2 q v U ∧ vk_R RX9 69 m_kwt q U
def m_KT (l : Launch) (y : MethodName) (b : ByteArray) (n : Nat) (rm : Room) (G : m_G) (a : Nat) (lay : List Nat) (nx : Nat) (κ : Nat → Nat) (q v : Nat) (av : List Value) (S S' : m_M) (mc ms : Nat) : Prop :=
  Met l y (m_ws y b n none) rm (va_Pc av (m_WT G nx κ S q v)) (va_Qv (fun u => u = S') (m_KX G a lay κ) (m_ge G.2.2)) mc ms (m_ge G.2.2)
theorem m_KT.of {l : Launch} {y : MethodName} {b : ByteArray} {n : Nat} {rm : Room} {G : m_G} {nx : Nat} {κ : Nat → Nat} {av : List Value} {S : m_M} {mc ms a q v : Nat} {lay : List Nat} {S' : m_M} (hy : plainName y.cls = true) (hyn : y.name = "<init>") (hn : (lg_sl av).length ≤ n)
    (body : ∀ (p : Program) (e : Env) (s : State) (m : MethodId) (args : Array Value) (below : List Frame) (meth : Method) (c : Code) (ls : Array Slot), m_Cx p s m args meth c b n y.cls G → m_N s → m_TX G.2.2 q v s → vk_R RX9 69 m_kwt q s → meth.name = "<init>" → meth.sig.returnType = none → m_H G nx κ S s.heap → lv_has ls n (lv_args 0 av) → W p l e rm s m args below meth c s.heap [] 0 0 (m_QK below args s G a lay κ S' mc ms) (F0 m 0 ls [])) : m_KT l y b n rm G a lay nx κ q v av S S' mc ms := by
  refine Met.ofW (cc := b) (maxL := n) (ret := none) hy rfl ?_
  intro p e s m args below meth c s₁ B hml hv
  obtain ⟨rfl, hW, hX, hZ⟩ := hv
  have hl := lv_entry av (n := n) hn
  rw [lg_entry_eq]
  exact body p e s m _ below meth c _ (m_Cx.of B hml hW.1) hW.2 hX hZ (by rw [← hyn]; exact (name_of_methodNamed B.named B.method).1) B.returns hW.1.1 hl
theorem n_cIT {p : Program} {l : Launch} {e : Env} {R : Room} {s : State} {m : MethodId} {args : Array Value} {below : List Frame} {meth : Method} {c : Code} {H : Heap} {locs : List Loc} {cells slots : Nat} {Q : State → Prop} {cc : ByteArray} {nL : Nat} {own : String} {pc : Nat} {ls : Array Slot} {st rest As : List Value} {G : m_G} {nx : Nat} {κ : Nat → Nat} {S S' : m_M} {y : MethodName} {b : ByteArray} {n : Nat} {rm : Room} {index mc ms : Nat} {a q v : Nat} {lay : List Nat} (X : m_Cx p s m args meth c cc nL own G) (hN : m_N s) (hX : m_TX G.2.2 q v s) (hZ : vk_R RX9 69 m_kwt q s) (hH : m_H G nx κ S H) (hS : m_S G s H locs) (hM : m_KT l y b n rm G a lay nx κ q v (.ref a :: As) S S' mc ms) (hw : m_CW y b n none As.length) (hin : Cond.instanceMethod y ∈ m_gW) (hy : y.name = "<init>") (hl : Cond.methodLink own index y ∈ m_gW)
    (hst : st = As.reverse ++ .ref a :: rest) (hrm : rm.cells = mc ∧ rm.slots = ms) (hR : rm.frames + 1 ≤ R.frames ∧ 8 + (n + 11) + rm.locals ≤ R.locals) (hcs : cells + mc ≤ R.cells ∧ slots + ms ≤ R.slots) (hsz : ls.size = nL) (hrest : (rest.map fun v => v.category).sum ≤ 8) (hdg : decode cc pc = .ok (.invokespecial index, 3))
    (kk : ∀ (H1 : Heap) (locs1 : List Loc) (κ' : Nat → Nat), (∀ q, q < a → κ' q = κ q) → m_seg κ' a lay → m_Str κ' → m_H G (a + lay.length) κ' S' H1 → m_S G s H1 locs1 → W p l e R s m args below meth c H1 locs1 (cells + mc) (slots + ms) Q (F0 m (pc + 3) ls rest)) : W p l e R s m args below meth c H locs cells slots Q (F0 m pc ls st) := by
  subst hst
  refine va_callv (va_runI (As := As) (rest := rest) X.1 hM ⟨m_callA X hw hl hrm hR, hy, m_w X hin⟩ ⟨fun a9 U g mk h => ⟨h.1, (m_blindN (av := .ref a :: As) a9 U g mk ⟨h.1, h.2.1⟩).2, h.2.2.1.go (Vm.Alike.refl U.vm) (fun _ _ _ => rfl), vk_R.same rfl h.2.2.2⟩, fun U hU hW => ⟨rfl, (m_preN (av := .ref a :: As) hH X.2.1 hN U hU hW).2, (hX.pre (av := .ref a :: As) hS U hU hW).2, hZ.warm hW⟩⟩ rfl rfl hsz rfl (lv_room hrest) hdg hcs) hS (fun _ _ h => h) (fun _ h => h) (fun u t H1 locs1 ht hvm hw1 hB hz1 hk1 hS1 => ?_)
  subst hw1
  obtain ⟨κ', h1, h2, h3, h4⟩ := hB
  exact kk H1 locs1 κ' h1 h2 h3 (by rw [← ht]; exact h4.1.1) hS1
