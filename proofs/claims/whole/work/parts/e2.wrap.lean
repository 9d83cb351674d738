/-! The law's own methods that catch: their contract, and what they have in common. -/
/-- what a catching method of the law answers: 0 and the number laid into out, or the exception's code -/
noncomputable def wrQ (cv : Int32 → Int64) (ec : Nat → Int32) (Q : Option Value → sw_M → Prop) (QX : Nat → sw_M → Prop) (r : Option Value) (τ : sw_M) : Prop := (r = some (.int 0) ∧ ∃ v τ', Q (some (.int v)) τ' ∧ τ = sw_sL τ' 111 (vp_updL (τ'.2 111) 0 (cv v))) ∨ ∃ i, QX i τ ∧ r = some (.int (ec i))
noncomputable def cvI (v : Int32) : Int64 := v.toInt64
noncomputable def cvB (v : Int32) : Int64 := if v = 0 then 0 else 1
noncomputable def sw_xi1 : String := "java/lang/IllegalArgumentException"
noncomputable def sw_xi0 : String := "java/util/NoSuchElementException"
noncomputable def wr_H (E : sw_E) (σ : sw_M) (sz : Nat) (U : State) : Prop := sw_H E σ sz U ∧ va_Nc sw_xi1 sw_xi0 U
noncomputable def sw_ConW (l : Launch) (E : sw_E) (d : Nat) (y : MethodName) (cc : ByteArray) (nL : Nat) (hh : List (Nat × Nat × Nat × Nat)) (av : List Value) (σ : sw_M) (Q : Option Value → sw_M → Prop) : Prop :=
  Cond.codeWith y cc nL (some .int) hh ∈ sw_T ∧ ∀ sz, Met l y (Cond.codeWith y cc nL (some .int) hh :: sw_T) (sw_rm d 4) (va_Pc (av.map (sw_c E)) (wr_H E σ sz)) (sw_Q E (sw_A E sz) Q) 4 24 (sw_A E sz)
section
variable {l : Launch} {E : sw_E} {d nL : Nat} {cc : ByteArray} {σ : sw_M} {y : MethodName} {hh : List (Nat × Nat × Nat × Nat)} {av : List Value} {QW : Option Value → sw_M → Prop}
theorem wr_open (hpl : plainName y.cls = true) (hcl : y.cls = sw_R 12) (hw : Cond.codeWith y cc nL (some .int) hh ∈ sw_T) (hc : ∀ w ∈ av, w.category = 1) (hlen : av.length ≤ nL)
    (body : ∀ (p : Program) (e : Env) (s : State) (m : MethodId) (args : Array Value) (below : List Frame) (meth : Method) (c : Code) (A : Nat → Prop), sw_C E 12 cc nL p s m args c A → meth.sig.returnType = some .int → meth.locks = false → c.exceptionTable.toList = tableOf hh → va_Nc sw_xi1 sw_xi0 s → sw_G l E nL p e (sw_rm d 4) s m args below meth c A 0 0 (MQ below (sw_Q E A QW) args s 4 24 A) 0 (av.map some) [] σ) : sw_ConW l E d y cc nL hh av σ QW := by
  refine ⟨hw, fun sz => ?_⟩
  refine va_MetW (cc := cc) (maxL := nL) (ret := some .int) (hh := hh) (ws' := sw_T) hpl rfl ?_
  intro p e s m args below meth c s₁ B hml hv
  obtain ⟨rfl, ⟨hsz, hP, hK, hD0, hN⟩, hNc⟩ := hv
  subst hsz
  have hts : ∀ w ∈ (Cond.codeWith y cc nL (some .int) hh :: sw_T), w.before (av.map (sw_c E)).toArray s = true := atoms_spec (ws := Cond.codeWith y cc nL (some .int) hh :: sw_T) B.pre
  have hown : s.vm.findClass y.cls = some m.cls := findClass_of_methodNamed B.named
  rw [hcl] at hown
  have C : sw_C E 12 cc nL p s m (av.map (sw_c E)).toArray c (sw_A E s.heap.size) := ⟨B.exec, B.bytes, hml, hown, fun w hw => hts w (List.mem_cons_of_mem _ hw), hK, hN, fun q hq => Or.inr hq, fun k hk => Or.inl ⟨k, hk, rfl⟩⟩
  have htab : c.exceptionTable.toList = tableOf hh := vx_table (x := y) B (hts _ List.mem_cons_self)
  have hg := body p e s m _ below meth c _ C B.returns B.notSynchronized htab hNc
  have hl2 := sw_lh_entry (E := E) hc hlen
  rw [lg_entry_eq]
  exact hg s.heap [] _ hP (sw_D_A hD0 (fun _ _ => trivial) _ (fun k hk => Or.inl ⟨k, hk, rfl⟩)) va_S.rf hl2
end
theorem vin0 : vp_in 0 (sw_kd 111).2 := show ¬ ((0 : Int32) < 0 ∨ 1 ≤ (0 : Int32).toNatClampNeg) by decide
section
variable {l : Launch} {E : sw_E} {nL : Nat} {cc : ByteArray} {p : Program} {e : Env} {R : Room} {s : State} {m : MethodId} {args : Array Value} {below : List Frame} {meth : Method} {c : Code} {A : Nat → Prop} {pc t z : Nat} {ls : List (Option Value)} {σ : sw_M} {kr : Option Value → sw_M → Prop} {v : Int32}
/-- behind the call: the answer into out, 0 -/
theorem wr_tZ (C : sw_C E 12 cc nL p s m args c A) (hr : meth.sig.returnType = some .int) (hlocks : meth.locks = false) (d4 : decode cc z = .ok (.iconst 0, 1)) (d5 : decode cc (z + 1) = .ok (.ireturn, 1)) (h : kr (some (.int 0)) σ) : sw_G l E nL p e R s m args below meth c A 4 24 (MQ below (sw_Q E A kr) args s 4 24 A) z ls [] σ :=
  gg_ic C d4 rfl (gg_iret C hr hlocks d5 h)
theorem wr_tI {o : Int} (C : sw_C E 12 cc nL p s m args c A) (hr : meth.sig.returnType = some .int) (hlocks : meth.locks = false) (d1 : decode cc pc = .ok (.i2l, 1)) (d2 : decode cc (pc + 1) = .ok (.lastore, 1)) (d3 : decode cc (pc + 1 + 1) = .ok (.goto o, 3)) (ht : ((pc + 1 + 1 : Nat) : Int) + o = (z : Int)) (d4 : decode cc z = .ok (.iconst 0, 1)) (d5 : decode cc (z + 1) = .ok (.ireturn, 1))
    (h : kr (some (.int 0)) (sw_sL σ 111 (vp_updL (σ.2 111) 0 (cvI v)))) : sw_G l E nL p e R s m args below meth c A 4 24 (MQ below (sw_Q E A kr) args s 4 24 A) pc ls [.int v, .int 0, .ref 111] σ :=
  gg_i2l C d1 (gg_last C rfl vin0 d2 (gg_goto C d3 ht (wr_tZ C hr hlocks d4 d5 h)))
theorem wr_tB {o1 o2 o : Int} (C : sw_C E 12 cc nL p s m args c A) (hr : meth.sig.returnType = some .int) (hlocks : meth.locks = false) (d1 : decode cc pc = .ok (.ifCond .eq o1, 3)) (h1 : (pc : Int) + o1 = ((pc + 7 : Nat) : Int)) (d2 : decode cc (pc + 3) = .ok (.lconst 1, 1)) (d3 : decode cc (pc + 3 + 1) = .ok (.goto o2, 3)) (h2 : ((pc + 3 + 1 : Nat) : Int) + o2 = ((pc + 7 + 1 : Nat) : Int)) (d4 : decode cc (pc + 7) = .ok (.lconst 0, 1)) (d5 : decode cc (pc + 7 + 1) = .ok (.lastore, 1)) (d6 : decode cc (pc + 7 + 1 + 1) = .ok (.goto o, 3)) (ht : ((pc + 7 + 1 + 1 : Nat) : Int) + o = (z : Int)) (d7 : decode cc z = .ok (.iconst 0, 1)) (d8 : decode cc (z + 1) = .ok (.ireturn, 1))
    (h : kr (some (.int 0)) (sw_sL σ 111 (vp_updL (σ.2 111) 0 (cvB v)))) : sw_G l E nL p e R s m args below meth c A 4 24 (MQ below (sw_Q E A kr) args s 4 24 A) pc ls [.int v, .int 0, .ref 111] σ := by
  refine gg_eq C d1 h1 (fun q => ?_) (fun q => ?_)
  · refine gg_lc C d4 (gg_last C rfl vin0 d5 (gg_goto C d6 ht (wr_tZ C hr hlocks d7 d8 ?_)))
    rw [cvB, if_pos q] at h
    exact h
  · refine gg_lc C d2 (gg_goto C d3 h2 (gg_last C rfl vin0 d5 (gg_goto C d6 ht (wr_tZ C hr hlocks d7 d8 ?_))))
    rw [cvB, if_neg q] at h
    exact h
/-- a handler -/
theorem wr_h1 {j : Fin 4} {i : Int} {q : Nat} {H : Heap} {locs : List Loc} {la : Array Slot} (C : sw_C E 12 cc nL p s m args c A) (hr : meth.sig.returnType = some .int) (hlocks : meth.locks = false) (d1 : decode cc pc = .ok (.astore_n j, 1)) (hj : j.val < nL) (d2 : decode cc (pc + 1) = .ok (.iconst i, 1)) (hv : Int32.ofInt i = v) (d3 : decode cc (pc + 1 + 1) = .ok (.ireturn, 1)) (hP : va_P E.1 vwCl (sw_W E σ) H) (hD : va_D A (sw_W E σ)) (hS : va_S A s.heap H locs) (hl : sw_lh E la nL ls) (h : kr (some (.int v)) σ) : W p l e R s m args below meth c H locs 4 24 (MQ below (sw_Q E A kr) args s 4 24 A) (F0 m pc la [.ref q]) :=
  lv_astore_n C.1 C.2.1 d1 rfl (sw_lh_lv hl) hj rfl (fun la1 _ => lv_iconst C.1 C.2.1 d2 hv (W.iret C.1 C.2.1 hr (fun t ht hW => ⟨⟨some (.int v), σ, rfl, h, by rw [ht]; exact hP, hD⟩, hS.F ht⟩) hS.2.2 d3 hlocks))
theorem wr_h2 {j : Nat} {i : Int} {q : Nat} {H : Heap} {locs : List Loc} {la : Array Slot} (C : sw_C E 12 cc nL p s m args c A) (hr : meth.sig.returnType = some .int) (hlocks : meth.locks = false) (d1 : decode cc pc = .ok (.astore j, 2)) (hj : j < nL) (d2 : decode cc (pc + 2) = .ok (.iconst i, 1)) (hv : Int32.ofInt i = v) (d3 : decode cc (pc + 2 + 1) = .ok (.ireturn, 1)) (hP : va_P E.1 vwCl (sw_W E σ) H) (hD : va_D A (sw_W E σ)) (hS : va_S A s.heap H locs) (hl : sw_lh E la nL ls) (h : kr (some (.int v)) σ) : W p l e R s m args below meth c H locs 4 24 (MQ below (sw_Q E A kr) args s 4 24 A) (F0 m pc la [.ref q]) :=
  lv_astore C.1 C.2.1 d1 (sw_lh_lv hl) hj rfl (fun la1 _ => lv_iconst C.1 C.2.1 d2 hv (W.iret C.1 C.2.1 hr (fun t ht hW => ⟨⟨some (.int v), σ, rfl, h, by rw [ht]; exact hP, hD⟩, hS.F ht⟩) hS.2.2 d3 hlocks))
theorem wr_c0 (C : sw_C E 12 cc nL p s m args c A) : (Cond.castable sw_xi0 sw_xi0).before args s = true := va_Nw.use rfl C.2.2.2.2.2.2.1.2.2.2.2.2.2.2.1
theorem wr_c1 (C : sw_C E 12 cc nL p s m args c A) : (Cond.castable sw_xi1 sw_xi1).before args s = true := va_Nw.use rfl C.2.2.2.2.2.2.1.2.2.2.2.2.2.1
theorem rsh_el {r : Option Value} (h : rsh 0 r) : ∃ v : Int32, r = some (.int v) := by
  unfold rsh at h
  split at h
  · exact ⟨_, rfl⟩
  · rename_i h1; cases h1
  · rename_i h1; cases h1
  · exact h.elim
end
theorem rec0 {mn : Nat} {as : List Value} (h : mn < 292) (h2 : (sw_mo mn).1 = 10) : sw_recv mn (.ref 0 :: as) := by
  show (if mn < 292 then sw_kd 0 = (0, (sw_mo mn).1) else sw_str 0)
  rw [if_pos h, h2]
  rfl
theorem rec75 {mn : Nat} {as : List Value} (h : mn < 292) (h2 : (sw_mo mn).1 = 11) : sw_recv mn (.ref 75 :: as) := by
  show (if mn < 292 then sw_kd 75 = (0, (sw_mo mn).1) else sw_str 75)
  rw [if_pos h, h2]
  rfl
theorem ec1 {i : Nat} (h : ¬ i = 0) : some (Value.int (Int32.ofInt 1)) = some (Value.int (if i = 0 then 0 else 1)) := by rw [if_neg h]; rfl
theorem ec2 {i : Nat} (h : ¬ i = 0) : some (Value.int (Int32.ofInt 2)) = some (Value.int (if i = 0 then 1 else 2)) := by rw [if_neg h]; rfl
