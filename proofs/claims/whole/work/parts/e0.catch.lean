/-! A thrown object that a row of this method's own table catches: the search over the table, where the rows' classes are linked on the way. -/
section
variable {e : Env} {s : State} {f : JFrame} {a : Addr} {Q : Handler → Pre} {E : CtlPost} {d : Bool} {acts : List Action}
theorem ct_look {x : ExceptionTableEntry} {t : List ExceptionTableEntry} {c : ClassId} {cell : Cell} (hx : covers x f.pc = true) (h0 : x.catchType ≠ 0) (hl : s.vm.ClassLinks e.platform f.method.cls x.catchType c) (hcell : s.heap[a]? = some cell) (hobj : ∀ k, cell.vm ≠ .statics k) (hk : ∃ k, s.vm.classes[cell.cls]? = some k) (hc : ∃ k, s.vm.classes[c]? = some k) :
    wp (findHandler.go f a (x :: t)) Q E e d acts s ↔ (if s.vm.assignable cell.cls c = true then Q (.found x.handlerPc) d acts (s.setVm (s.vm.noted f.method.cls x.catchType (.cls c))) else wp (findHandler.go f a t) Q E e d acts (s.setVm (s.vm.noted f.method.cls x.catchType (.cls c)))) := by
  have hcov := hx
  simp only [covers] at hcov
  obtain ⟨ha, ht⟩ := (resolveClass_links e.toSetting hl).op (op := VmOp.resolveClass f.method.cls x.catchType) rfl
  have hal : s.vm.Alike (s.vm.noted f.method.cls x.catchType (.cls c)) := (Vm.Alike.refl s.vm).noted _ _ _
  obtain ⟨k1, hk1⟩ := hk
  obtain ⟨k2, hk2⟩ := hc
  obtain ⟨k3, hk3, -⟩ := hal.2.2 _ _ hk1
  obtain ⟨k4, hk4, -⟩ := hal.2.2 _ _ hk2
  have he : (s.vm.noted f.method.cls x.catchType (.cls c)).assignable cell.cls c = s.vm.assignable cell.cls c := by rw [hal.assignable]
  cases hf : s.vm.assignable cell.cls c
  · rw [hf] at he
    simp [findHandler.go, hcov, h0, ha, ht, hcell, hobj, hk3, hk4, he, VmOp.dirties, VmOp.acts]
  · rw [hf] at he
    simp [findHandler.go, hcov, h0, ha, ht, hcell, hobj, hk3, hk4, he, VmOp.dirties, VmOp.acts]
end
section
variable {tb : Tables} {e : Env} {s target : State} {g : JFrame} {c : Code} {below : List Frame} {a : Addr} {pc : Nat} {vm1 : Vm}
theorem ct_step {f : JFrame} {r : List Frame} (hf : ∀ (Q : Handler → Pre) (E : CtlPost) (d : Bool) (acts : List Action), wp (findHandler f a) Q E e d acts s ↔ Q (.found pc) d acts (s.setVm vm1)) : (stepThrowing e s a (.java f :: r)).Is ((s.setVm vm1).setFrames (.java { f with pc := pc, stack := [.ref a] } :: r)) [] := by
  simp only [stepThrowing, searchFrame, vmDo]
  generalize hr : Sem.go _ e false [] s = res
  obtain ⟨as, rfl, ha⟩ := Sem.eq_ok_of hr (a := Handler.found pc) (s' := s.setVm vm1) (acts' := []) (by simp [hf _ _ _ _])
  exact ⟨rfl, ha⟩
theorem ct_steps (h : At s g.method c below) (hf : ∀ (Q : Handler → Pre) (E : CtlPost) (d : Bool) (acts : List Action), wp (findHandler g a) Q E e d acts ((s.setTop g).pushFrame (.throwing a)) ↔ Q (.found pc) d acts (((s.setTop g).pushFrame (.throwing a)).setVm vm1))
    (hr : Steps tb e below ((s.setVm vm1).setTop { g with pc := pc, stack := [.ref a] }) target) : Steps tb e below ((s.setTop g).pushFrame (.throwing a)) target := by
  obtain ⟨hgo, hw⟩ := h.throwing a
  refine Steps.head hgo hw ?_
  rw [stepThread_throwing (frames_entered h.top _), (ct_step (s := (s.setTop g).pushFrame (.throwing a)) hf).1]
  obtain ⟨g0, hg⟩ := Option.isSome_iff_exists.mp h.top
  obtain ⟨r, hfr⟩ := State.topJava?_eq_some.mp hg
  have hfr2 : (s.setVm vm1).frames = .java g0 :: r := hfr
  have mv : ∀ (u : State) (F G : List Frame), ((u.setFrames F).setVm vm1).setFrames G = (u.setVm vm1).setFrames G := fun u F G => by
    rw [show (u.setFrames F).setVm vm1 = (u.setVm vm1).setFrames F from rfl, State.setFrames_setFrames]
  rw [State.setTop_of_frames _ hfr2] at hr
  rw [hfr, List.tail_cons, State.pushFrame, mv, State.setTop_of_frames _ hfr, mv]
  exact hr
end
section
variable {p : Program} {l : Launch} {e : Env} {R : Room} {s : State} {m : MethodId} {args : Array Value} {below : List Frame} {meth : Method} {c : Code} {H : Heap} {locs : List Loc} {cells slots : Nat} {Q : State → Prop} {own : String} {E : String} {ce : Cell} {q : Addr} {pc : Nat} {ls : Array Slot} {rest : List Value} {x z : ExceptionTableEntry} {suf : List ExceptionTableEntry} {name nm : String}
/-- the first row takes it -/
theorem ct_1 (hown : s.vm.findClass own = some m.cls) (hsplit : c.exceptionTable.toList = x :: suf) (hx : covers x pc = true) (h0 : x.catchType ≠ 0) (hlink : (Cond.classLink own x.catchType name).before args s = true) (hcast : (Cond.castable E name).before args s = true) (hcell : H[q]? = some ce) (hv : ce.vm = .none) (hcl : s.vm.findClass E = some ce.cls)
    (kk : W p l e R s m args below meth c H locs cells slots Q (F0 m x.handlerPc ls [.ref q])) : vx_W p l e R s m args below meth c H locs cells slots Q (F0 m pc ls rest) q := by
  intro T hT X
  have hpl : e.platform.magicAccessors = ({} : Platform).magicAccessors := by rw [X.admits.platform]
  obtain ⟨c3, c4, hc3, hc4, hasg⟩ := Cond.castable_spec hcast
  cases Option.some.inj (hc3.symm.trans hcl)
  obtain ⟨c5, hc5, hl⟩ := Cond.classLink_spec hown hlink e.platform hpl
  cases Option.some.inj (hc4.symm.trans hc5)
  obtain ⟨k9, hk9, -⟩ := Vm.findClass_spec hcl
  obtain ⟨k8, hk8, -⟩ := Vm.findClass_spec hc4
  have hSv := Stand.throwing_vm T (F0 m pc ls rest) q
  have hSh := Stand.throwing_heap T (F0 m pc ls rest) q
  obtain ⟨dk, _, _, kt, hd, _, _, _, _, hkt, _, hopen⟩ := hl.here
  obtain ⟨k7, hk7, -⟩ := X.warmed.alike.2.2 _ _ hk9
  obtain ⟨k6, hk6, -⟩ := X.warmed.alike.2.2 _ _ hk8
  have hW1 := X.warmed.noted hd hopen (State.rightAt_cls hl)
  obtain ⟨t, a1, b1⟩ := kk (T.setVm (T.vm.noted m.cls x.catchType (.cls c4))) hT (X.noted hW1)
  refine ⟨t, ct_steps (g := F0 m pc ls rest) X.here (pc := x.handlerPc) (vm1 := T.vm.noted m.cls x.catchType (.cls c4)) (fun Q2 E2 d2 acts2 => ?_) a1, b1⟩
  rw [W.findHandler_eq (f := F0 m pc ls rest) (meth := meth) (code := c) (by rw [hSv]; exact X.method') X.code, hsplit]
  have h9 := ct_look (s := (T.setTop (F0 m pc ls rest)).pushFrame (.throwing q)) (f := F0 m pc ls rest) (a := q) (x := x) (t := suf) (c := c4) (cell := ce) (e := e) (Q := Q2) (E := E2) (d := d2) (acts := acts2) hx h0 (by rw [hSv]; exact X.warmed.classLinks hl) (by rw [hSh, hT]; exact hcell) (VmData.ne_statics_of (by rw [hv]; rfl)) (by rw [hSv]; exact ⟨k7, hk7⟩) (by rw [hSv]; exact ⟨k6, hk6⟩)
  rw [h9, hSv, if_pos (by rw [X.warmed.alike.assignable]; exact hasg)]
/-- the first row doesn't, the second does -/
theorem ct_2 (hown : s.vm.findClass own = some m.cls) (hsplit : c.exceptionTable.toList = z :: x :: suf) (hz : covers z pc = true) (hz0 : z.catchType ≠ 0) (hzl : (Cond.classLink own z.catchType nm).before args s = true) (hno : va_Nc E nm s) (hx : covers x pc = true) (h0 : x.catchType ≠ 0) (hlink : (Cond.classLink own x.catchType name).before args s = true) (hcast : (Cond.castable E name).before args s = true) (hcell : H[q]? = some ce) (hv : ce.vm = .none) (hcl : s.vm.findClass E = some ce.cls)
    (kk : W p l e R s m args below meth c H locs cells slots Q (F0 m x.handlerPc ls [.ref q])) : vx_W p l e R s m args below meth c H locs cells slots Q (F0 m pc ls rest) q := by
  intro T hT X
  have hpl : e.platform.magicAccessors = ({} : Platform).magicAccessors := by rw [X.admits.platform]
  obtain ⟨c3, c4, hc3, hc4, hasg⟩ := Cond.castable_spec hcast
  cases Option.some.inj (hc3.symm.trans hcl)
  obtain ⟨c5, hc5, hl⟩ := Cond.classLink_spec hown hlink e.platform hpl
  cases Option.some.inj (hc4.symm.trans hc5)
  obtain ⟨c6, hc6, hlz⟩ := Cond.classLink_spec hown hzl e.platform hpl
  obtain ⟨a8, b8, n1, n2, n3⟩ := hno
  cases Option.some.inj (n1.symm.trans hcl)
  cases Option.some.inj (n2.symm.trans hc6)
  obtain ⟨k9, hk9, -⟩ := Vm.findClass_spec hcl
  obtain ⟨k8, hk8, -⟩ := Vm.findClass_spec hc4
  obtain ⟨kz, hkz, -⟩ := Vm.findClass_spec hc6
  have hSv := Stand.throwing_vm T (F0 m pc ls rest) q
  have hSh := Stand.throwing_heap T (F0 m pc ls rest) q
  obtain ⟨_, _, _, _, hd, _, _, _, _, _, _, hopen⟩ := hl.here
  obtain ⟨_, _, _, _, hdz, _, _, _, _, _, _, hopz⟩ := hlz.here
  have hW0 := X.warmed.noted hdz hopz (State.rightAt_cls hlz)
  have hW1 := hW0.noted hd hopen (State.rightAt_cls hl)
  obtain ⟨k7, hk7, -⟩ := X.warmed.alike.2.2 _ _ hk9
  obtain ⟨k5, hk5, -⟩ := X.warmed.alike.2.2 _ _ hkz
  obtain ⟨j7, hj7, -⟩ := hW0.alike.2.2 _ _ hk9
  obtain ⟨j6, hj6, -⟩ := hW0.alike.2.2 _ _ hk8
  obtain ⟨t, a1, b1⟩ := kk (T.setVm ((T.vm.noted m.cls z.catchType (.cls c6)).noted m.cls x.catchType (.cls c4))) hT (X.noted hW1)
  refine ⟨t, ct_steps (g := F0 m pc ls rest) X.here (pc := x.handlerPc) (vm1 := (T.vm.noted m.cls z.catchType (.cls c6)).noted m.cls x.catchType (.cls c4)) (fun Q2 E2 d2 acts2 => ?_) a1, b1⟩
  rw [W.findHandler_eq (f := F0 m pc ls rest) (meth := meth) (code := c) (by rw [hSv]; exact X.method') X.code, hsplit]
  have h9 := ct_look (s := (T.setTop (F0 m pc ls rest)).pushFrame (.throwing q)) (f := F0 m pc ls rest) (a := q) (x := z) (t := x :: suf) (c := c6) (cell := ce) (e := e) (Q := Q2) (E := E2) (d := d2) (acts := acts2) hz hz0 (by rw [hSv]; exact X.warmed.classLinks hlz) (by rw [hSh, hT]; exact hcell) (VmData.ne_statics_of (by rw [hv]; rfl)) (by rw [hSv]; exact ⟨k7, hk7⟩) (by rw [hSv]; exact ⟨k5, hk5⟩)
  rw [h9, hSv, if_neg (by rw [X.warmed.alike.assignable, n3]; decide)]
  have h8 := ct_look (s := ((T.setTop (F0 m pc ls rest)).pushFrame (.throwing q)).setVm (T.vm.noted m.cls z.catchType (.cls c6))) (f := F0 m pc ls rest) (a := q) (x := x) (t := suf) (c := c4) (cell := ce) (e := e) (Q := Q2) (E := E2) (d := d2) (acts := acts2) hx h0 (hW0.classLinks hl) (by show ((T.setTop (F0 m pc ls rest)).pushFrame (.throwing q)).heap[q]? = some ce; rw [hSh, hT]; exact hcell) (VmData.ne_statics_of (by rw [hv]; rfl)) ⟨j7, hj7⟩ ⟨j6, hj6⟩
  refine h8.trans ?_
  rw [if_pos (by show (T.vm.noted m.cls z.catchType (.cls c6)).assignable _ _ = true; rw [hW0.alike.assignable]; exact hasg)]
  exact Iff.rfl
end
