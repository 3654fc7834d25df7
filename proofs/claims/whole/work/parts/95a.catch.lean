/-! A throw caught by the FIRST row of this method's table. The row's class may be linked on the way, here for the first time. -/
section RowsC
/-- the step of the unwinding: found in the first row -/
theorem pv_found {e : Env} {S : State} {f : JFrame} {q : Addr} {x : ExceptionTableEntry} {suf : List ExceptionTableEntry} {meth : Method} {c : Code} {k0 : ClassId} {ce : Cell}
    (hm : S.vm.method? f.method = some meth) (hc : meth.code = some c) (htab : c.exceptionTable.toList = x :: suf) (hx : covers x f.pc = true) (h0 : x.catchType ≠ 0)
    (hl : S.vm.ClassLinks e.platform f.method.cls x.catchType k0) (hq : S.heap[q]? = some ce) (hv : ce.vm = .none) (h1 : ∃ k, S.vm.classes[ce.cls]? = some k) (h2 : ∃ k, S.vm.classes[k0]? = some k)
    (hfit : S.vm.assignable ce.cls k0 = true) (r : List Frame) :
    (stepThrowing e S q (.java f :: r)).1 = (S.setVm (S.vm.noted f.method.cls x.catchType (.cls k0))).setFrames (.java { f with pc := x.handlerPc, stack := [.ref q] } :: r) := by
  have hal : S.vm.Alike (S.vm.noted f.method.cls x.catchType (.cls k0)) := (Vm.Alike.refl S.vm).noted _ _ _
  have hw : ∀ (Q : Handler → Pre) (E : CtlPost) (d : Bool) (acts : List Action), Sem.wp (findHandler f q) Q E e d acts S ↔ Q (.found x.handlerPc) d acts (S.setVm (S.vm.noted f.method.cls x.catchType (.cls k0))) := by
    intro Q E d acts
    obtain ⟨j1, j2⟩ := (resolveClass_links e.toSetting hl).op (op := VmOp.resolveClass f.method.cls x.catchType) rfl
    obtain ⟨ka, ha⟩ := h1
    obtain ⟨kb, hb⟩ := h2
    obtain ⟨ka', ha', -⟩ := hal.2.2 _ _ ha
    obtain ⟨kb', hb', -⟩ := hal.2.2 _ _ hb
    have hf : (S.vm.noted f.method.cls x.catchType (.cls k0)).assignable ce.cls k0 = true := by rw [hal.assignable]; exact hfit
    have hn : ∀ k, ce.vm ≠ .statics k := fun k hk => by rw [hv] at hk; cases hk
    have hx' := hx
    simp only [covers] at hx'
    rw [W.findHandler_eq hm hc, htab]
    simp [findHandler.go, hx', h0, j1, j2, hq, hn, ha', hb', hf, VmOp.dirties, VmOp.acts]
  simp only [stepThrowing, searchFrame, vmDo]
  generalize hr : Sem.go _ e false [] S = res
  obtain ⟨as, rfl, -⟩ := Sem.eq_ok_of hr (a := Handler.found x.handlerPc) (s' := S.setVm (S.vm.noted f.method.cls x.catchType (.cls k0))) (acts' := []) (by simp [hw _ _ _ _])
  rfl
variable {p : Program} {l : Launch} {e : Env} {R : Room} {s : State} {m : MethodId} {args : Array Value} {below : List Frame} {meth : Method} {c : Code} {H : Heap} {locs : List Loc} {cells slots : Nat} {Q : State → Prop}
variable {pc : Nat} {ls : Array Slot} {rest : List Value}
theorem pv_catch {own name : String} {E : String} {ce : Cell} {q : Addr} (hown : s.vm.findClass own = some m.cls) (x : ExceptionTableEntry) (suf : List ExceptionTableEntry) (htab : c.exceptionTable.toList = x :: suf)
    (hx : covers x pc = true) (h0 : x.catchType ≠ 0) (hlink : (Cond.classLink own x.catchType name).before args s = true) (hcast : (Cond.castable E name).before args s = true)
    (hcell : H[q]? = some ce) (hv : ce.vm = .none) (hcl : s.vm.findClass E = some ce.cls)
    (kk : W p l e R s m args below meth c H locs cells slots Q (F0 m x.handlerPc ls [.ref q])) : vx_W p l e R s m args below meth c H locs cells slots Q (F0 m pc ls rest) q := by
  intro T hT X
  obtain ⟨k1, k0, e1, e0, hasg⟩ := Cond.castable_spec hcast
  cases Option.some.inj (e1.symm.trans hcl)
  obtain ⟨k2, e2, hlk⟩ := Cond.classLink_spec hown hlink e.platform (by rw [X.admits.platform])
  cases Option.some.inj (e0.symm.trans e2)
  obtain ⟨dk, _, _, kt, hd, _, _, _, _, hkt, _, hopen⟩ := hlk.here
  have hal := X.warmed.alike
  have hW : s.WarmedH (T.vm.noted m.cls x.catchType (.cls k0)) := X.warmed.noted hd hopen (State.rightAt_cls hlk)
  obtain ⟨t, a1, b1⟩ := kk (T.setVm (T.vm.noted m.cls x.catchType (.cls k0))) hT (X.noted hW)
  refine ⟨t, ?_, b1⟩
  obtain ⟨hgo, hwi⟩ := X.here.throwing (g := F0 m pc ls rest) q
  refine Steps.head hgo hwi ?_
  obtain ⟨g0, hfr⟩ := X.frames_eq
  have hfr' : (T.setVm (T.vm.noted m.cls x.catchType (.cls k0))).frames = .java g0 :: below := hfr
  have hs : ((T.setTop (F0 m pc ls rest)).pushFrame (.throwing q)).frames = .throwing q :: .java (F0 m pc ls rest) :: below := by rw [frames_entered X.here.top, hfr, List.tail_cons]
  obtain ⟨ke, he, -⟩ := Vm.findClass_spec hcl
  obtain ⟨ke', he', -⟩ := hal.2.2 _ _ he
  obtain ⟨kt', hkt', -⟩ := hal.2.2 _ _ hkt
  rw [stepThread_throwing hs, pv_found (S := (T.setTop (F0 m pc ls rest)).pushFrame (.throwing q)) (f := F0 m pc ls rest) (meth := meth) (c := c) (k0 := k0) (ce := ce) X.method' X.code htab hx h0 (X.warmed.classLinks hlk) (by rw [← hT] at hcell; exact hcell) hv ⟨ke', he'⟩ ⟨kt', hkt'⟩ (by rw [← hasg]; exact hal.assignable ..)]
  rw [State.setTop_of_frames _ hfr'] at a1
  rw [State.pushFrame, State.setTop_of_frames _ hfr, State.setFrames_setFrames]
  have hj : ∀ F G : List Frame, ((T.setFrames F).setVm (T.vm.noted m.cls x.catchType (.cls k0))).setFrames G = (T.setVm (T.vm.noted m.cls x.catchType (.cls k0))).setFrames G := fun F G => by
    rw [show (T.setFrames F).setVm (T.vm.noted m.cls x.catchType (.cls k0)) = (T.setVm (T.vm.noted m.cls x.catchType (.cls k0))).setFrames F from rfl, State.setFrames_setFrames]
  exact (hj _ _).symm ▸ a1
end RowsC
