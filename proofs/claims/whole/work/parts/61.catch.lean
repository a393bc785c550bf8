/-! a thrown object is caught by a row of the method's own table: the first row takes it, or lets it pass and the second takes it -/
theorem c_row {Q : Handler → Pre} {Ec : CtlPost} {e : Env} {d : Bool} {acts : List Action} {s : State} {f : JFrame} {a : Addr} {x : ExceptionTableEntry} {t : List ExceptionTableEntry} {c : ClassId} {cell : Cell} (hx : covers x f.pc = true) (h0 : x.catchType ≠ 0) (hl : s.vm.ClassLinks e.platform f.method.cls x.catchType c) (hcell : s.heap[a]? = some cell) (hobj : ∀ k, cell.vm ≠ .statics k) (hk : ∃ k, s.vm.classes[cell.cls]? = some k) (hc : ∃ k, s.vm.classes[c]? = some k) :
    wp (findHandler.go f a (x :: t)) Q Ec e d acts s ↔ if s.vm.assignable cell.cls c = true then Q (.found x.handlerPc) d acts (s.setVm (s.vm.noted f.method.cls x.catchType (.cls c))) else wp (findHandler.go f a t) Q Ec e d acts (s.setVm (s.vm.noted f.method.cls x.catchType (.cls c))) := by
  have hx' : (decide (x.startPc ≤ f.pc) && decide (f.pc < x.endPc)) = true := hx
  have hal : s.vm.Alike (s.vm.noted f.method.cls x.catchType (.cls c)) := (Vm.Alike.refl s.vm).noted _ _ _
  obtain ⟨ha, ht⟩ := (resolveClass_links e.toSetting hl).op (op := VmOp.resolveClass f.method.cls x.catchType) rfl
  obtain ⟨k1, h1⟩ := hk
  obtain ⟨k2, h2⟩ := hc
  obtain ⟨j1, g1, -⟩ := hal.2.2 _ _ h1
  obtain ⟨j2, g2, -⟩ := hal.2.2 _ _ h2
  have q : (s.vm.noted f.method.cls x.catchType (.cls c)).assignable cell.cls c = s.vm.assignable cell.cls c := hal.assignable _ _
  cases hfit : s.vm.assignable cell.cls c <;> rw [hfit] at q <;> simp [findHandler.go, hx', h0, ha, ht, hcell, hobj, g1, g2, q, VmOp.dirties, VmOp.acts]
def c_Fd (e : Env) (s : State) (f : JFrame) (a : Addr) (pc : Nat) (vm' : Vm) : Prop := ∀ (Q : Handler → Pre) (Ec : CtlPost) (d : Bool) (acts : List Action), wp (findHandler f a) Q Ec e d acts s ↔ Q (.found pc) d acts (s.setVm vm')
section
variable {p : Program} {l : Launch} {e : Env} {R : Room} {s : State} {m : MethodId} {args : Array Value} {below : List Frame} {meth : Method} {c : Code} {T : State} {H : Heap} {locs : List Loc} {cells slots : Nat} {Q : State → Prop}
theorem c_go (X : Stand p l e R s m args below meth c T locs cells slots) {g : JFrame} (hg : g.method = m) {a : Addr} {pc : Nat} {vm' : Vm} (hf : c_Fd e ((T.setTop g).pushFrame (.throwing a)) g a pc vm') : Steps p.tables e below ((T.setTop g).pushFrame (.throwing a)) ((T.setVm vm').setTop { g with pc := pc, stack := [.ref a] }) := by
  subst hg
  have h := X.here
  obtain ⟨hgo, hw⟩ := h.throwing (g := g) a
  refine Steps.head hgo hw ?_
  have h1 : ∀ r, (stepThrowing e ((T.setTop g).pushFrame (.throwing a)) a (.java g :: r)).1 = (((T.setTop g).pushFrame (.throwing a)).setVm vm').setFrames (.java { g with pc := pc, stack := [.ref a] } :: r) := by
    intro r
    simp only [stepThrowing, searchFrame, vmDo]
    generalize hr : Sem.go _ e false [] ((T.setTop g).pushFrame (.throwing a)) = res
    obtain ⟨as, rfl, ha⟩ := Sem.eq_ok_of hr (a := Handler.found pc) (s' := ((T.setTop g).pushFrame (.throwing a)).setVm vm') (acts' := []) (by simp [hf _ _ _ _])
    rfl
  rw [stepThread_throwing (frames_entered h.top _), h1]
  obtain ⟨g₀, hfr⟩ := X.frames_eq
  have e1 : (T.setTop g).pushFrame (.throwing a) = T.setFrames (.throwing a :: .java g :: below) := by
    rw [State.pushFrame, State.frames_setTop _ hfr, State.setTop_of_frames _ hfr, State.setFrames_setFrames]
  have e2 : (T.setVm vm').setTop { g with pc := pc, stack := [.ref a] } = (T.setVm vm').setFrames (.java { g with pc := pc, stack := [.ref a] } :: below) := State.setTop_of_frames _ (s := T.setVm vm') hfr
  have e3 : ((T.setFrames (.throwing a :: .java g :: below)).setVm vm').setFrames (.java { g with pc := pc, stack := [.ref a] } :: below) = (T.setVm vm').setFrames (.java { g with pc := pc, stack := [.ref a] } :: below) := by
    show ((T.setVm vm').setFrames (.throwing a :: .java g :: below)).setFrames _ = _
    rw [State.setFrames_setFrames]
  rw [X.tail, e1, e3, e2]
  exact Steps.refl _
/-- two rows: what is thrown is of the first one's class, or not of it but of the second one's -/
theorem c_two {own n1 n2 En : String} {g : JFrame} {a : Addr} {cell : Cell} {x1 x2 : ExceptionTableEntry} (X : Stand p l e R s m args below meth c T locs cells slots) (hg : g.method = m) (hown : s.vm.findClass own = some m.cls) (htab : c.exceptionTable.toList = [x1, x2]) (hx1 : covers x1 g.pc = true) (hx2 : covers x2 g.pc = true) (h1 : x1.catchType ≠ 0) (h2 : x2.catchType ≠ 0)
    (hl1 : (Cond.classLink own x1.catchType n1).before args s = true) (hl2 : (Cond.classLink own x2.catchType n2).before args s = true) (hcell : T.heap[a]? = some cell) (hv : cell.vm = .none) (hE : s.vm.findClass En = some cell.cls)
    {pc : Nat} (hwhich : ((Cond.castable En n1).before args s = true ∧ pc = x1.handlerPc) ∨ (va_Nc En n1 s ∧ (Cond.castable En n2).before args s = true ∧ pc = x2.handlerPc)) :
    ∃ vm', Stand p l e R s m args below meth c (T.setVm vm') locs cells slots ∧ Steps p.tables e below ((T.setTop g).pushFrame (.throwing a)) ((T.setVm vm').setTop { g with pc := pc, stack := [.ref a] }) := by
  subst hg
  have hpl : e.platform.magicAccessors = ({} : Platform).magicAccessors := by rw [X.admits.platform]
  have hobj : ∀ k, cell.vm ≠ .statics k := fun k q => by rw [hv] at q; cases q
  have hkE : ∃ k, T.vm.classes[cell.cls]? = some k := by
    obtain ⟨k9, h9, -⟩ := Vm.findClass_spec hE
    obtain ⟨k8, h8, -⟩ := X.warmed.alike.2.2 _ _ h9
    exact ⟨k8, h8⟩
  obtain ⟨c1, hc1, k1⟩ := Cond.classLink_spec hown hl1 e.platform hpl
  obtain ⟨d1, _, _, t1, hd1, _, _, _, _, ht1, _, ho1⟩ := k1.here
  have hW1 : s.WarmedH (T.vm.noted g.method.cls x1.catchType (.cls c1)) := X.warmed.noted hd1 ho1 (State.rightAt_cls k1)
  obtain ⟨t1', ht1', -⟩ := X.warmed.alike.2.2 _ _ ht1
  have r1 : ∀ (Q : Handler → Pre) (Ec : CtlPost) (d : Bool) (acts : List Action), wp (findHandler g a) Q Ec e d acts ((T.setTop g).pushFrame (.throwing a)) ↔ if T.vm.assignable cell.cls c1 = true then Q (.found x1.handlerPc) d acts (((T.setTop g).pushFrame (.throwing a)).setVm (T.vm.noted g.method.cls x1.catchType (.cls c1))) else wp (findHandler.go g a [x2]) Q Ec e d acts (((T.setTop g).pushFrame (.throwing a)).setVm (T.vm.noted g.method.cls x1.catchType (.cls c1))) := by
    intro Q Ec d acts
    rw [W.findHandler_eq (s := (T.setTop g).pushFrame (.throwing a)) (meth := meth) (code := c) X.method' X.code, htab]
    exact c_row (s := (T.setTop g).pushFrame (.throwing a)) hx1 h1 (X.warmed.classLinks k1) hcell hobj hkE ⟨t1', ht1'⟩
  rcases hwhich with ⟨hcast, rfl⟩ | ⟨hnc, hcast, rfl⟩
  · obtain ⟨c3, c4, hc3, hc4, hasg⟩ := Cond.castable_spec hcast
    cases Option.some.inj (hc3.symm.trans hE)
    cases Option.some.inj (hc4.symm.trans hc1)
    have ha : T.vm.assignable cell.cls c1 = true := by rw [X.warmed.alike.assignable]; exact hasg
    refine ⟨_, X.noted hW1, c_go X rfl (fun Q Ec d acts => ?_)⟩
    rw [r1, if_pos ha]
  · obtain ⟨a8, b8, q1, q2, q3⟩ := hnc
    cases Option.some.inj (q1.symm.trans hE)
    cases Option.some.inj (q2.symm.trans hc1)
    have ha : ¬ T.vm.assignable cell.cls c1 = true := by rw [X.warmed.alike.assignable, q3]; decide
    obtain ⟨c3, c4, hc3, hc4, hasg⟩ := Cond.castable_spec hcast
    cases Option.some.inj (hc3.symm.trans hE)
    obtain ⟨c2, hc2, k2⟩ := Cond.classLink_spec hown hl2 e.platform hpl
    cases Option.some.inj (hc4.symm.trans hc2)
    obtain ⟨d2, _, _, t2, hd2, _, _, _, _, ht2, _, ho2⟩ := k2.here
    have hW2 : s.WarmedH ((T.vm.noted g.method.cls x1.catchType (.cls c1)).noted g.method.cls x2.catchType (.cls c4)) := hW1.noted hd2 ho2 (State.rightAt_cls k2)
    obtain ⟨t2', ht2', -⟩ := hW1.alike.2.2 _ _ ht2
    have hkE1 : ∃ k, (T.vm.noted g.method.cls x1.catchType (.cls c1)).classes[cell.cls]? = some k := by
      obtain ⟨k9, h9, -⟩ := Vm.findClass_spec hE
      obtain ⟨k8, h8, -⟩ := hW1.alike.2.2 _ _ h9
      exact ⟨k8, h8⟩
    have ha2 : (T.vm.noted g.method.cls x1.catchType (.cls c1)).assignable cell.cls c4 = true := by rw [hW1.alike.assignable]; exact hasg
    refine ⟨_, X.noted hW2, c_go X rfl (fun Q Ec d acts => ?_)⟩
    rw [r1, if_neg ha, c_row (s := ((T.setTop g).pushFrame (.throwing a)).setVm (T.vm.noted g.method.cls x1.catchType (.cls c1))) hx2 h2 (hW1.classLinks k2) hcell hobj hkE1 ⟨t2', ht2'⟩]
    exact (iff_of_eq (if_pos ha2)).trans Iff.rfl
theorem c_catch {own n1 n2 En : String} {q : Addr} {cell : Cell} {x1 x2 : ExceptionTableEntry} {pc pc' : Nat} {ls : Array Slot} {rest : List Value} (hown : s.vm.findClass own = some m.cls) (htab : c.exceptionTable.toList = [x1, x2]) (hx1 : covers x1 pc = true) (hx2 : covers x2 pc = true) (h1 : x1.catchType ≠ 0) (h2 : x2.catchType ≠ 0)
    (hl1 : (Cond.classLink own x1.catchType n1).before args s = true) (hl2 : (Cond.classLink own x2.catchType n2).before args s = true) (hcell : H[q]? = some cell) (hv : cell.vm = .none) (hE : s.vm.findClass En = some cell.cls)
    (hwhich : ((Cond.castable En n1).before args s = true ∧ pc' = x1.handlerPc) ∨ (va_Nc En n1 s ∧ (Cond.castable En n2).before args s = true ∧ pc' = x2.handlerPc))
    (kk : W p l e R s m args below meth c H locs cells slots Q (F0 m pc' ls [.ref q])) : vx_W p l e R s m args below meth c H locs cells slots Q (F0 m pc ls rest) q := by
  intro T hT X
  obtain ⟨vm', X', st⟩ := c_two X (g := F0 m pc ls rest) rfl hown htab hx1 hx2 h1 h2 hl1 hl2 (by rw [hT]; exact hcell) hv hE hwhich
  obtain ⟨t, a1, b1⟩ := kk (T.setVm vm') hT X'
  exact ⟨t, st.trans a1, b1⟩
end
