/-! The throw law. -/
def sw_isd (w : Cond) : Bool := match w with
  | .declares x => decide (x = Bundle.initS "java/lang/RuntimeException") || decide (x = Bundle.initS "java/lang/Exception") || decide (x = Bundle.initS Bundle.tN)
  | _ => false
def sw_inT (w : Cond) : Bool := decide (w ∈ lw_tbl) && goodWord w
theorem sw_inT_in {w : Cond} (h : sw_inT w = true) : w ∈ sw_T := by
  simp only [sw_inT, Bool.and_eq_true, decide_eq_true_eq] at h
  exact List.mem_filter.mpr h
def sw_dws : List Cond := [.instanceMethod (Bundle.initS "java/lang/RuntimeException"), .code (Bundle.initS "java/lang/RuntimeException") Bundle.six 2 none, .instanceMethod (Bundle.initS "java/lang/Exception"), .code (Bundle.initS "java/lang/Exception") Bundle.six 2 none, .instanceMethod (Bundle.initS Bundle.tN), .code (Bundle.initS Bundle.tN) LibCode.Throwable.InitS.code 2 none]
def sw_xc (x : Nat) : String × Nat × Nat × Nat × ByteArray := if x = 0 then ("java/util/NoSuchElementException", 168, 172, 13, sw_nse) else ("java/lang/IllegalArgumentException", 95, 99, 7, Bundle.six)
def sw_xws (x : Nat) : List Cond := sw_xat RX10 (sw_xc x).2.2.1 (sw_xc x).1 "java/lang/RuntimeException" ["java/lang/Exception"] (sw_xc x).2.2.2.1 (sw_xc x).2.2.2.2
set_option maxRecDepth 100000 in
theorem sw_dws_all : sw_dws.all sw_inT = true := by decide +kernel
set_option maxRecDepth 100000 in
theorem sw_xws_0 : ((sw_xws 0).filter vx_no).all (fun w => sw_inT w || sw_isd w) = true := by decide +kernel
set_option maxRecDepth 100000 in
theorem sw_xws_1 : ((sw_xws 1).filter vx_no).all (fun w => sw_inT w || sw_isd w) = true := by decide +kernel
set_option maxRecDepth 100000 in
theorem sw_xkl : (List.range 2).all (fun x => sw_inT (.classLink RX10 (sw_xc x).2.1 (sw_xc x).1) && sw_inT (.initialized (sw_xc x).1)) = true := by decide +kernel
theorem sw_xws_ok {x : Nat} (hx : x < 2) : ∀ w ∈ (sw_xws x).filter vx_no, w ∈ sw_T ∨ sw_isd w = true := by
  intro w hw
  have h : ((sw_xws x).filter vx_no).all (fun w => sw_inT w || sw_isd w) = true := by
    match x, hx with
    | 0, _ => exact sw_xws_0
    | 1, _ => exact sw_xws_1
    | k + 2, h => omega
  have h1 := List.all_eq_true.mp h w hw
  rcases (Bool.or_eq_true _ _).mp h1 with h2 | h2
  · exact Or.inl (sw_inT_in h2)
  · exact Or.inr h2
theorem sw_isd_ok {w : Cond} {args : Array Value} {s : State} (h : sw_isd w = true) (hts : ∀ w ∈ sw_T, w.before args s = true) : w.before args s = true := by
  have hd : ∀ w ∈ sw_dws, w.before args s = true := fun w hw => hts w (sw_inT_in (List.all_eq_true.mp sw_dws_all w hw))
  unfold sw_isd at h
  split at h
  · simp only [Bool.or_eq_true, decide_eq_true_eq] at h
    rcases h with (rfl | rfl) | rfl
    · exact sw_decl (hd _ (by simp [sw_dws])) (hd (.code (Bundle.initS "java/lang/RuntimeException") Bundle.six 2 none) (by simp [sw_dws]))
    · exact sw_decl (hd _ (by simp [sw_dws])) (hd (.code (Bundle.initS "java/lang/Exception") Bundle.six 2 none) (by simp [sw_dws]))
    · exact sw_decl (hd _ (by simp [sw_dws])) (hd (.code (Bundle.initS Bundle.tN) LibCode.Throwable.InitS.code 2 none) (by simp [sw_dws]))
  · cases h
theorem sw_xl_el {own ik x : Nat} (h : sw_xl own ik = some x) : own = 10 ∧ x < 2 ∧ ik = (sw_xc x).2.1 ∧ sw_xi x = (sw_xc x).2.2.1 ∧ sw_xn x = (sw_xc x).1 := by
  unfold sw_xl at h
  split at h
  · rename_i ho
    split at h
    · rename_i hk; cases h; exact ⟨ho, by decide, hk, rfl, rfl⟩
    · split at h
      · rename_i hk; cases h; exact ⟨ho, by decide, hk, rfl, rfl⟩
      · cases h
  · cases h
theorem sw_xd {x : Nat} (hx : x < 2) : decode (sw_xc x).2.2.2.2 0 = .ok (.aload_n 0, 1) ∧ decode (sw_xc x).2.2.2.2 1 = .ok (.aload_n 1, 1) ∧ decode (sw_xc x).2.2.2.2 2 = .ok (.invokespecial (sw_xc x).2.2.2.1, 3) ∧ decode (sw_xc x).2.2.2.2 5 = .ok (.return_, 1) ∧ Bundle.fit (sw_xc x).1 = true := by
  match x, hx with
  | 0, _ => exact ⟨by decide +kernel, by decide +kernel, by decide +kernel, by decide +kernel, by decide +kernel⟩
  | 1, _ => exact ⟨by decide +kernel, by decide +kernel, by decide +kernel, by decide +kernel, by decide +kernel⟩
  | k + 2, h => omega
set_option maxHeartbeats 1000000 in
theorem sw_TL_ok {l : Launch} (hl : l.stackTraces = false) : sw_TL l := by
  intro E own nL cc p e R s m args below meth c A H locs la rest k n mc ms pc ik x Qc XC C hno hlocks hS hsize d0 hxl hthr hRf hRl hsum hkc hkn hk hn hx
  obtain ⟨ho, hx2, rfl, exi, exn⟩ := sw_xl_el hxl
  subst ho
  obtain ⟨z0, z1, z2, z5, hfit⟩ := sw_xd hx2
  obtain ⟨hexec, hb, hml, hown, hts, hK, hN, hA1, hA2⟩ := C
  obtain ⟨d3, is, j, hstr, hdec⟩ := hthr
  rw [exi] at hdec
  rw [exn] at hx
  obtain ⟨j1, j2, j3⟩ := sw_str_ok hstr
  have hZ := hN.2.2.1 j j1
  rw [j2, j3] at hZ
  have hkl := List.all_eq_true.mp sw_xkl x (List.mem_range.mpr hx2)
  simp only [Bool.and_eq_true] at hkl
  intro T hT X
  have htr : e.platform.stackTraces = false := (show e.platform.stackTraces = l.stackTraces by rw [X.admits.platform]).trans hl
  have Y := vx_rebase X (R' := { frames := R.frames, locals := R.locals, cells := 1, slots := 6 }) (Nat.le_refl _) (Nat.le_refl _) hkc hkn
  obtain ⟨s', hA⟩ : ∃ z, z = (T.setVm s.vm).setFrames (.invoking m args :: below) := ⟨_, rfl⟩
  rw [← hA] at Y
  have hvm : s'.vm = s.vm := by rw [hA]; rfl
  have hhp : s'.heap = H := by rw [hA]; exact hT
  have hW0 : s.WarmedH s'.vm := by rw [hvm]; exact State.WarmedH.refl s
  have hts' : ∀ w ∈ sw_T, w.before args s' = true := fun w hw => vx_ot_at hW0 hvm.symm (by unfold vx_ot; rw [sw_T_good hw, Bool.or_true]) (hts w hw)
  have hU' : vx_Zq Bundle.tN "UNASSIGNED_STACK" Bundle.steD A s' s'.heap := by rw [hhp]; exact vx_Zq.moved hW0.alike (hN.2.2.2.2.1.kept hS.2.1)
  have hN' : vx_Zq Bundle.tN "SUPPRESSED_SENTINEL" Bundle.listD A s' s'.heap := by rw [hhp]; exact vx_Zq.moved hW0.alike (hN.2.2.2.2.2.1.kept hS.2.1)
  have h : ∀ w ∈ sw_xws x, w.before args s' = true := vx_own (fun w hw => (sw_xws_ok hx2 w hw).elim (hts' w) (fun h => sw_isd_ok h hts')) (vx_isRefq hU'.1) (vx_isRefq hN'.1) hU'.2.word hN'.2.word
  have hown' : s'.vm.findClass RX10 = some m.cls := by rw [hvm]; exact hown
  have hins : (Cond.instantiable (sw_xc x).1 6).before args s' = true := h _ (by simp [sw_xws, sw_xat])
  obtain ⟨vm₁, cX, kX, hfX, hkX, -, -, X₁, st1⟩ := Y.newCold hexec (own := RX10) (C := (sw_xc x).1) (index := (sw_xc x).2.1) (n := 6) hown' (hts' _ (sw_inT_in hkl.1)) hins (hts' _ (sw_inT_in hkl.2))
    (g := F0 m pc la rest) rfl (by rw [hb]; exact d0) (Nat.le_refl _) (Nat.le_refl _)
  generalize hT1 : (T.setVm vm₁).pushCell { cls := cX, slots := kX.instanceTypes.map defaultValue, vm := .none } = T1 at X₁ st1
  have hcat : (Value.ref T.heap.size).category = 1 := rfl
  have hcellA : T1.heap[T.heap.size]? = some (freshCell cX kX) := by rw [← hT1]; exact State.heap_pushCell_size _ _
  have d3' : decode c.code (pc + 3) = .ok (.dup, 1) := by rw [hb]; exact d3
  have hstr' : vk_R RX10 is (sw_strs.getD j ("", 0, "")).2.2 (E.2.1 (1000 + j)) s' := vk_R.warm hW0 hZ
  have fin : ∀ pc6, decode cc pc6 = .ok (.invokespecial (sw_xc x).2.2.1, 3) → decode cc (pc6 + 3) = .ok (.athrow, 1) → (∀ t, Steps p.tables e below (T1.setTop { method := m, pc := pc6, locals := la, stack := .ref (E.2.1 (1000 + j)) :: .ref T.heap.size :: .ref T.heap.size :: rest, locked := none }) t → Steps p.tables e below (T1.setTop { method := m, pc := pc + 4, locals := la, stack := .ref T.heap.size :: .ref T.heap.size :: rest, locked := none }) t) → ∃ t, Steps p.tables e below (T.setTop (F0 m pc la rest)) t ∧ vx_MQ below Qc XC args s mc ms A t := by
    intro pc6 d6 d9 hld
    obtain ⟨U, hsteps, hrun, hend, hW, hsame, ce, hce, hcv, hcl⟩ := sw_ctorT X₁ hexec htr (own := RX10) (cls := (sw_xc x).1) (Y0 := "java/lang/RuntimeException") (names := ["java/lang/Exception"]) (ic := (sw_xc x).2.2.1) hown' hfit (by decide +kernel) (fun n hn => by simp only [List.mem_cons, List.not_mem_nil, or_false] at hn; subst hn; decide +kernel) z0 z1 z2 z5 h (fun x hx => nomatch hx) hfX hkX hcellA (by rw [hhp, hT]; exact Nat.le_refl _) (msg := .ref (E.2.1 (1000 + j))) rfl
      (g := { method := m, pc := pc6, locals := la, stack := .ref (E.2.1 (1000 + j)) :: .ref T.heap.size :: .ref T.heap.size :: rest, locked := none }) rfl (hsize.trans hml.symm) rfl rfl (rest := rest) rfl
      (by rw [hb]; exact d6) (by rw [hb]; exact d9) (fun z hz => (hno z hz).elim) (by simp only [List.length_cons, List.length_nil]; omega) (by simp only [List.map_cons, List.sum_cons, hcat, List.length_cons, List.length_nil]; show 2 * 0 + _ + _ ≤ _; omega) hlocks
    obtain ⟨f1, f2⟩ := vx_frame hsame
    rw [hhp] at f1 f2
    have hWs : s.WarmedH U.vm := State.WarmedH.trans hW0 hW
    have hcl : s.vm.findClass (sw_xc x).1 = some ce.cls := by
      rw [hvm] at hcl
      exact hcl
    have hall : s.sameButNew ({ U with vm := s.vm } : State) locs mc ms := by
      subst hA
      obtain ⟨e1, e2⟩ := hsame
      rw [State.setFrames_setFrames] at e1
      have h2 : (T.setVm s.vm).sameButNew ({ U with vm := s.vm } : State) [] (0 + 1) (0 + 6) := ⟨e1, e2⟩
      have h3 := X.same.trans h2
      rw [List.append_nil] at h3
      exact h3.mono hk hn
    refine ⟨U, ?_, .threw T.heap.size, hrun, hend, Or.inr ⟨T.heap.size, rfl, (sw_xc x).1, ce, locs, hx U hWs.alike f1 (fun q hq => f2 q hq (fun z hz => nomatch hz)), hce, hcv, hcl, hWs, hall, hS.2.2⟩⟩
    refine st1 _ ?_
    show Steps p.tables e below (T1.setTop { method := m, pc := pc + 3, locals := la, stack := .ref T.heap.size :: rest, locked := none }) _
    jvm_step X₁.here [X₁.here.top, hexec, d3', Value.category]
    exact hld _ hsteps
  rcases hdec with ⟨d4, d6, d9⟩ | ⟨d4, d7, d10⟩
  · refine fin (pc + 6) d6 d9 (fun t ht => ?_)
    exact X₁.ldcString hexec (own := RX10) (text := (sw_strs.getD j ("", 0, "")).2.2) (index := is) (a := E.2.1 (1000 + j)) hown' hstr'.1 hstr'.2
      (g := { method := m, pc := pc + 4, locals := la, stack := .ref T.heap.size :: .ref T.heap.size :: rest, locked := none }) rfl (by rw [hb]; exact d4) _ ht
  · refine fin (pc + 7) d7 d10 (fun t ht => ?_)
    exact X₁.ldcStringW hexec (own := RX10) (text := (sw_strs.getD j ("", 0, "")).2.2) (index := is) (a := E.2.1 (1000 + j)) hown' hstr'.1 hstr'.2
      (g := { method := m, pc := pc + 4, locals := la, stack := .ref T.heap.size :: .ref T.heap.size :: rest, locked := none }) rfl (by rw [hb]; exact d4) _ ht
