/-! an exception is caught by the one row of the table -/
theorem x_step {e : Env} {s : State} {a : Addr} {f : JFrame} {r : List Frame} {pc : Nat} {vm' : Vm} (hfind : ∀ (Q : Handler → Pre) (E : CtlPost) (d : Bool) (acts : List Action), wp (findHandler f a) Q E e d acts s ↔ Q (.found pc) d acts (s.setVm vm')) :
    (stepThrowing e s a (.java f :: r)).Is ((s.setVm vm').setFrames (.java { f with pc := pc, stack := [.ref a] } :: r)) [] := by
  simp only [stepThrowing, searchFrame, vmDo]
  generalize hr : Sem.go _ e false [] s = res
  obtain ⟨as, rfl, ha⟩ := Sem.eq_ok_of hr (a := Handler.found pc) (s' := s.setVm vm') (acts' := []) (by simp [hfind _ _ _ _])
  exact ⟨rfl, ha⟩
section XCatch
variable {p : Program} {l : Launch} {e : Env} {R : Room} {s : State} {m : MethodId} {args : Array Value} {below : List Frame} {meth : Method} {c : Code} {H : Heap} {locs : List Loc} {cells slots : Nat} {Q : State → Prop} {ls : Array Slot} {rest : List Value} {pc : Nat}
theorem x_catch {own name : String} {ce : Cell} {q : Addr} {cT : ClassId} (x : ExceptionTableEntry) (hown : s.vm.findClass own = some m.cls) (htab : c.exceptionTable.toList = [x]) (hx : covers x pc = true) (h0 : x.catchType ≠ 0) (hlink : (Cond.classLink own x.catchType name).before args s = true)
    (hcT : s.vm.findClass name = some cT) (hfit : s.vm.assignable ce.cls cT = true) (hcell : H[q]? = some ce) (hv : ce.vm = .none) (kk : W p l e R s m args below meth c H locs cells slots Q (F0 m x.handlerPc ls [.ref q])) : vx_W p l e R s m args below meth c H locs cells slots Q (F0 m pc ls rest) q := by
  intro T hT X
  have hpl : e.platform.magicAccessors = ({} : Platform).magicAccessors := by rw [X.admits.platform]
  obtain ⟨c5, hc5, hl5⟩ := Cond.classLink_spec hown hlink e.platform hpl
  cases Option.some.inj (hcT.symm.trans hc5)
  obtain ⟨dk, _, _, kt, hd, _, _, _, _, hkt, _, hopen⟩ := hl5.here
  have hl0 := X.warmed.classLinks hl5
  have hW' : s.WarmedH (T.vm.noted m.cls x.catchType (.cls cT)) := X.warmed.noted hd hopen (State.rightAt_cls hl5)
  have hal := X.warmed.alike
  obtain ⟨kt', hkt', -⟩ := hal.2.2 _ _ hkt
  have hfit' : T.vm.assignable ce.cls cT = true := by rw [hal.assignable]; exact hfit
  obtain ⟨kc, hkc⟩ := Vm.classAt_of_assignable hfit' ⟨kt', hkt'⟩
  obtain ⟨t, a1, b1⟩ := kk (T.setVm (T.vm.noted m.cls x.catchType (.cls cT))) hT (X.noted hW')
  refine ⟨t, ?_, b1⟩
  have hnal : T.vm.Alike (T.vm.noted m.cls x.catchType (.cls cT)) := (Vm.Alike.refl T.vm).noted _ _ _
  obtain ⟨kc', hkc', -⟩ := hnal.2.2 _ _ hkc
  obtain ⟨kt2, hkt2, -⟩ := hnal.2.2 _ _ hkt'
  have hfit2 : (T.vm.noted m.cls x.catchType (.cls cT)).assignable ce.cls cT = true := by rw [hnal.assignable]; exact hfit'
  have hcT' : T.heap[q]? = some ce := by rw [hT]; exact hcell
  have hobj : ∀ k, ce.vm ≠ .statics k := fun k h => by rw [hv] at h; cases h
  generalize hg : F0 m pc ls rest = g at *
  have hgm : g.method = m := by rw [← hg]
  have hgp : g.pc = pc := by rw [← hg]
  subst hgm
  subst hgp
  generalize hS0 : (T.setTop g).pushFrame (.throwing q) = S0
  have e1 : S0.vm = T.vm := by rw [← hS0]; rfl
  have e2 : S0.heap = T.heap := by rw [← hS0]; rfl
  have hmeth : S0.vm.method? g.method = some meth := by rw [e1]; exact X.method'
  have hfind : ∀ (Q : Handler → Pre) (E : CtlPost) (d : Bool) (acts : List Action), wp (findHandler g q) Q E e d acts S0 ↔ Q (.found x.handlerPc) d acts (S0.setVm (T.vm.noted g.method.cls x.catchType (.cls cT))) := by
    intro Q E d acts
    rw [W.findHandler_eq hmeth X.code, htab]
    have hl1 : S0.vm.ClassLinks e.platform g.method.cls x.catchType cT := by rw [e1]; exact hl0
    obtain ⟨ha, ht⟩ := (resolveClass_links e.toSetting hl1).op (op := VmOp.resolveClass g.method.cls x.catchType) rfl
    rw [e1] at ha ht
    have hx' := hx
    simp only [covers] at hx'
    have hcS : S0.heap[q]? = some ce := by rw [e2]; exact hcT'
    simp [findHandler.go, hx', h0, ha, ht, hcS, hobj, hkc', hkt2, hfit2, VmOp.dirties, VmOp.acts, e1]
  obtain ⟨hgo, hw⟩ := X.here.throwing (g := g) q
  rw [hS0] at hgo hw
  refine Steps.head hgo hw ?_
  rw [← hS0, stepThread_throwing (frames_entered X.here.top _), hS0, (x_step hfind).1, ← hS0]
  obtain ⟨g₀, hg0⟩ := Option.isSome_iff_exists.mp X.here.top
  obtain ⟨r, hr⟩ := State.topJava?_eq_some.mp hg0
  have hr' : (T.setVm (T.vm.noted g.method.cls x.catchType (.cls cT))).frames = .java g₀ :: r := hr
  rw [State.setTop_of_frames _ hr'] at a1
  have key : ∀ (F F' : List Frame), (((T.setFrames F).setVm (T.vm.noted g.method.cls x.catchType (.cls cT))).setFrames F') = (T.setVm (T.vm.noted g.method.cls x.catchType (.cls cT))).setFrames F' := fun F F' => by
    have h1 : (T.setFrames F).setVm (T.vm.noted g.method.cls x.catchType (.cls cT)) = (T.setVm (T.vm.noted g.method.cls x.catchType (.cls cT))).setFrames F := rfl
    rw [h1, State.setFrames_setFrames]
  rw [hr, List.tail_cons, State.setTop_of_frames _ hr, State.pushFrame, State.setFrames_setFrames, key]
  rw [← hg] at a1 ⊢
  exact a1
end XCatch
