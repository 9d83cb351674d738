/-! What a constructor does, step by step. -/
section GB
variable {l : Launch} {E : sw_E} {nL : Nat} {cc : ByteArray} {p : Program} {e : Env} {R : Room} {s : State} {m : MethodId} {args : Array Value} {below : List Frame} {meth : Method} {c : Code} {F : State → Prop} {n pc k0 i ci : Nat} {ls : List (Option Value)} {σ : sw_M} {fs : List Value}
/-- a number into a field -/
theorem gb_opI (C : gb_C E ci cc nL k0 p s m args meth c) (hk : k0 + 1 + i ≤ 112) {ins : Instr} {v : Int32} {len idx j : Nat} (h0 : sw_nth ls 0 = some (.ref k0)) (d0 : decode cc pc = .ok (.aload_n 0, 1)) (hp : pushv ins = some v) (d1 : decode cc (pc + 1) = .ok (ins, len)) (hl : len = sw_len ins) (hf : sw_fl ci idx = some (ci, j)) (hns : sw_nest ci idx = false) (hn : narrow (sw_tyf ci j) (.int v) = .int v) (hfit : fits (sw_tyf ci j) (.int v) = true) (hj : j < fs.length) (d2 : decode cc (pc + 1 + len) = .ok (.putfield idx, 3)) (g : gb_G l E nL p e R s m args below meth c F n (pc + 1 + len + 3) ls σ k0 i ci (fs.set j (.int v))) : gb_G l E nL p e R s m args below meth c F n pc ls σ k0 i ci fs :=
  fun H locs la hP hS hla => lv_aload_n C.1 C.2.1 d0 rfl (hla.2.2 _ _ h0) (gb_push C.1 C.2.1 hp d1 hl (gb_put C hk hf hns hn hfit hj d2 hP hS hla g))
/-- a new cell's address -/
theorem gb_new_at (C : gb_C E ci cc nL k0 p s m args meth c) (hk : k0 + 1 + (i + 1) ≤ 112) {q : Nat} {x : va_E} {H1 : Heap} (hP1 : va_P E.1 vwCl (gbW E σ k0 i ci fs ++ [(q, x)]) H1) (hD1 : va_D (gb_A E k0) (gbW E σ k0 i ci fs ++ [(q, x)])) (hsz : H1.size ≤ s.heap.size + (i + 1)) : q = E.2.1 (k0 + 1 + i) ∧ H1.size = E.2.1 (k0 + 1 + i) + 1 := by
  obtain ⟨hx, hb, hml, hown, hts, hK, hN, hnm, hs, hE⟩ := C
  have hlast : (gbW E σ k0 i ci fs ++ [(q, x)])[i + 1]? = some (q, x) := by rw [List.getElem?_append_right (by rw [gbW_len]; omega), gbW_len]; simp
  have h1 : q < H1.size := (hP1 _ _ hlast).lt
  have h2 : E.2.1 k0 ≤ q := by
    rcases hD1.2 _ _ hlast with h | h
    · have h : q = E.2.1 k0 := h
      omega
    · have h : E.2.1 k0 + 1 ≤ q := h
      omega
  have h3 := gb_pin hD1 (gbW_at hE (by omega)) (gbW_len E σ k0 i ci fs) h2 (by omega)
  have e1 := hE k0 (by omega)
  have e2 := hE (k0 + 1 + i) (by omega)
  exact ⟨by omega, by omega⟩
/-- a new array into a field -/
theorem gb_opA (C : gb_C E ci cc nL k0 p s m args meth c) (hk : k0 + 1 + (i + 1) ≤ 112) {ins : Instr} {v : Int32} {len idx j N t0 : Nat} {aty : ArrayType} {ty : FieldType} {cA0 : ClassId} {a0 : vp_A} (h0 : sw_nth ls 0 = some (.ref k0)) (d0 : decode cc pc = .ok (.aload_n 0, 1)) (hp : pushv ins = some v) (d1 : decode cc (pc + 1) = .ok (ins, len)) (hl : len = sw_len ins) (d2 : decode cc (pc + 1 + len) = .ok (.newarray aty, 2)) (harr : Cond.arrayClass (newarray.typeOf aty) ∈ sw_T) (hty : newarray.typeOf aty = ty) (ht0 : (sw_ty E)[t0]? = some (cA0, ty)) (hRA : ∀ cA, va_RA s cA ty → s.vm.findClass ("[" ++ ty.toString) = some cA) (hce : sw_ce E σ (k0 + 1 + i) = .inl (cA0, a0)) (ha : ∀ cA : ClassId, vp_cell cA a0 = arrV cA N (fun _ => defaultValue ty)) (hn0 : ¬ v < 0) (hN : v.toNatClampNeg = N) (hby : N * componentBytes ty ≤ 536870912) (hcells : i + 1 ≤ R.cells) (hslots : n + N ≤ R.slots)
    (hf : sw_fl ci idx = some (ci, j)) (hns : sw_nest ci idx = false) (hn : ∀ a, narrow (sw_tyf ci j) (.ref a) = .ref a) (hfit : ∀ a, fits (sw_tyf ci j) (.ref a) = true) (hj : j < fs.length) (d3 : decode cc (pc + 1 + len + 2) = .ok (.putfield idx, 3)) (g : gb_G l E nL p e R s m args below meth c F (n + N) (pc + 1 + len + 2 + 3) ls σ k0 (i + 1) ci (fs.set j (.ref (E.2.1 (k0 + 1 + i))))) : gb_G l E nL p e R s m args below meth c F n pc ls σ k0 i ci fs := by
  intro H locs la hP hS hla
  refine lv_aload_n C.1 C.2.1 d0 rfl (hla.2.2 _ _ h0) (gb_push C.1 C.2.1 hp d1 hl ?_)
  have hD := gb_Dw (σ := σ) (ci := ci) (fs := fs) (i := i) C.2.2.2.2.2.2.2.2.2 (show k0 + 1 + i ≤ 112 by omega)
  refine va_newa C.1 C.2.1 (C.2.2.2.2.1 _ harr) hty C.2.2.2.2.2.1 hP hD hS (fun q hq => Or.inr (by have := C.2.2.2.2.2.2.2.2.1; omega)) ha hn0 hN hby hcells hslots d2 (fun q cA H1 hK1 hP1 hD1 hS1 => ?_)
  refine gb_sz (fun hsz => ?_)
  obtain ⟨hq, -⟩ := gb_new_at C hk hP1 hD1 hsz
  have hc : cA = cA0 := by
    have h1 := hRA _ (hK1.2 3 (cA, ty) rfl).2
    have h2 := hRA _ (C.2.2.2.2.2.1.2 t0 _ ht0).2
    exact Option.some.inj (h1.symm.trans h2)
  subst hq hc
  rw [← hce, ← gbS_1, ← gbW_app] at hP1
  exact gb_put C hk hf hns (hn _) (hfit _) hj d3 hP1 hS1 hla g
theorem gb_end (C : gb_C E ci cc nL k0 p s m args meth c) (hr : meth.sig.returnType = none) (hlocks : meth.locks = false) (hd : decode cc pc = .ok (.return_, 1)) (hce : sw_ce E σ k0 = .inr (ci, fs)) : gb_G l E nL p e R s m args below meth c (MQ below (gb_Q E σ k0 i) args s i n (gb_A E k0)) n pc ls σ k0 i ci fs := by
  intro H locs la hP hS hla
  have e1 : gbW E σ k0 i ci fs = gbS E σ k0 (i + 1) := by
    rw [Nat.add_comm i 1, gbS_app, gbS_1, hce]
    rfl
  rw [e1] at hP
  exact W.vret C.1 C.2.1 hr (fun t ht hW => ⟨rfl, by rw [ht]; exact hP, hS.F ht⟩) hS.2.2 hd hlocks
/-- a new object into a field -/
theorem gb_opO (C : gb_C E ci cc nL k0 p s m args meth c) {idn idi idp j mn cj nj ms d mL : Nat} {dfl : List Value} {y : MethodName} {cb : ByteArray} {qc : vw_C} (hk : k0 + 1 + (i + 1 + nj) ≤ 112) (h0 : sw_nth ls 0 = some (.ref k0)) (d0 : decode cc pc = .ok (.aload_n 0, 1)) (d1 : decode cc (pc + 1) = .ok (.new idn, 3)) (d2 : decode cc (pc + 1 + 3) = .ok (.dup, 1)) (d3 : decode cc (pc + 1 + 3 + 1) = .ok (.invokespecial idi, 3)) (d4 : decode cc (pc + 1 + 3 + 1 + 3) = .ok (.putfield idp, 3))
    (hq : vwCl[cj]? = some qc) (hcl : Cond.classLink (sw_R ci) idn qc.1 ∈ sw_T) (hinst : Cond.instantiable qc.1 qc.2.2 ∈ sw_T) (hini : Cond.initialized qc.1 ∈ sw_T) (hfs : ∀ j, j < qc.2.2 → defaultValue (sw_tyf cj j) = vp_V dfl j) (hcon : gb_Con l E σ d mn (k0 + 1 + i) cj nj ms dfl) (hm : sw_mt mn = (y, cb, mL, none)) (hnest : (sw_R ci, idi, y) ∈ gb_ns) (hyn : y.name = "<init>") (hyc : y.cls = qc.1) (hyd : y.cls ≠ "java/lang/invoke/MethodHandle" ∧ y.cls ≠ "java/lang/invoke/VarHandle" ∧ (parseMethodDescriptor y.desc).map (fun d => d.parameters.length) = some 0) (hinM : Cond.instanceMethod y ∈ sw_T) (hRf : d + 1 ≤ R.frames) (hRl : 8 + (mL + 11) + 64 * d ≤ R.locals) (hcells : i + 1 + nj ≤ R.cells) (hslots : n + qc.2.2 + ms ≤ R.slots)
    (hf : sw_fl ci idp = some (ci, j)) (hns : sw_nest ci idp = false) (hn : ∀ a, narrow (sw_tyf ci j) (.ref a) = .ref a) (hfit : ∀ a, fits (sw_tyf ci j) (.ref a) = true) (hj : j < fs.length) (g : gb_G l E nL p e R s m args below meth c F (n + qc.2.2 + ms) (pc + 1 + 3 + 1 + 3 + 3) ls σ k0 (i + 1 + nj) ci (fs.set j (.ref (E.2.1 (k0 + 1 + i))))) : gb_G l E nL p e R s m args below meth c F n pc ls σ k0 i ci fs := by
  intro H locs la hP hS hla
  obtain ⟨hx, hb, hml, hown, hts, hK, hN, hnm, hs, hE⟩ := id C
  refine lv_aload_n hx hb d0 rfl (hla.2.2 _ _ h0) ?_
  have hD := gb_Dw (σ := σ) (ci := ci) (fs := fs) (i := i) hE (show k0 + 1 + i ≤ 112 by omega)
  have hty := (sw_cl_ty hq).2
  refine va_new (ci := cj) (fs := dfl) (C := qc.1) (T := qc.2.1) (N := qc.2.2) hx hb hts (sw_cl_in hq) (sw_tyf cj) (fun j hj => (hty j hj).1) hown (hts _ hcl) (hts _ hinst) (hts _ hini) hK hP hD hS (fun q hq => Or.inr (by omega)) hq hfs (by omega) (by omega) d1 (fun q H1 hP1 hD1 hS1 => ?_)
  refine gb_sz (fun hsz => ?_)
  obtain ⟨hq1, hz1⟩ := gb_new_at C (by omega) hP1 hD1 hsz
  subst hq1
  refine lv_dup hx hb d2 rfl ?_
  obtain ⟨hcode, hM⟩ := hcon
  have hlast : (gbW E σ k0 i ci fs ++ [(E.2.1 (k0 + 1 + i), Sum.inr (cj, dfl))])[i + 1]? = some (E.2.1 (k0 + 1 + i), Sum.inr (cj, dfl)) := by rw [List.getElem?_append_right (by rw [gbW_len]; omega), gbW_len]; simp
  have hPc : va_P E.1 vwCl [(E.2.1 (k0 + 1 + i), .inr (cj, dfl))] H1 := by
    intro k x hx1
    have hz : k < 1 := (List.getElem?_eq_some_iff.mp hx1).1
    rw [show k = 0 by omega] at hx1
    cases hx1
    exact hP1 _ _ hlast
  unfold sw_ws at hM
  rw [hm] at hM hcode
  have hG : GoodIn sw_T (Cond.code y cb mL none :: sw_T) := sw_good (y := 0) hcode
  have hcw := va_cnB (R := R) (s := s) (args := args) (own := sw_R ci) (host := RX10) (index := idi) (y := y) (bytes := cb) (maxL := mL) (ret := none) (ws := Cond.code y cb mL none :: sw_T) (ws' := sw_T) (rm := gb_rm d nj ms) (mc := nj) (ms := ms) 0 hts hG rfl rfl rfl (hN _ hnest) (by rw [hyc]; exact hts _ hini) hyd ⟨hRf, hRl⟩
  have hrun := va_runIN (e := e) (below := below) (meth := meth) (cells := i + 1) (slots := n + qc.2.2) (locs := locs) (g := F0 m (pc + 1 + 3 + 1) la [.ref (E.2.1 (k0 + 1 + i)), .ref (E.2.1 (k0 + 1 + i)), .ref (E.2.1 k0)]) (H := H1) (As := []) (rest := [.ref (E.2.1 (k0 + 1 + i)), .ref (E.2.1 k0)]) (b := E.2.1 (k0 + 1 + i)) ⟨hx, hb, hml, hown, hts⟩ hM ⟨hcw, hyn, hts _ hinM⟩ ⟨gb_blind _, fun U hU hW => ⟨rfl, by rw [hU]; exact hz1, by rw [hU]; exact hPc, va_K.moved hW.alike hK, fun q hq => va_Nw.warmM hW (hN q hq)⟩⟩ rfl rfl hla.1 rfl (lv_room (Nat.le_of_ble_eq_true rfl)) d3 ⟨hcells, hslots⟩
  intro T hT X
  obtain ⟨v, st₀, t, T', L, h0', X', hL, e1, e2, ⟨hv, hP2, hF⟩, st⟩ := hrun T hT X
  cases hv
  obtain ⟨hz, hkp⟩ := hF
  rw [h0'] at hz hkp
  have hE1 := hE (k0 + 1 + i) (by omega)
  have hE0 := hE k0 (by omega)
  have up : ∀ q, gb_A E (k0 + 1 + i) q → gb_A E k0 q := by
    intro q h
    rcases h with h | h <;> exact Or.inr (by omega)
  have hS2 : va_S (gb_A E k0) s.heap T'.heap (locs ++ L) := by
    refine ⟨by rw [e1]; exact Nat.le_trans hS1.1 hz, fun q h1 h2 => ?_, fun z hz => ?_⟩
    · rw [e1, hkp q (Nat.lt_of_lt_of_le h1 hS1.1) (fun h => h2 (up q h))]
      exact hS1.2.1 q h1 h2
    · rcases List.mem_append.mp hz with h | h
      · exact hS1.2.2 z h
      · exact up _ (hL z h)
  have hP3 : va_P E.1 vwCl (gbW E σ k0 i ci fs) T'.heap := by
    intro k x hx1
    have hkl : k < i + 1 := by
      have := (List.getElem?_eq_some_iff.mp hx1).1
      rw [gbW_len] at this
      exact this
    obtain ⟨x1, h9⟩ := gbW_at (σ := σ) (ci := ci) (fs := fs) hE (show k0 + 1 + i ≤ 112 by omega) k hkl
    have hxa : x.1 = E.2.1 k0 + k := by rw [h9] at hx1; cases hx1; rfl
    have hin : (gbW E σ k0 i ci fs ++ [(E.2.1 (k0 + 1 + i), Sum.inr (cj, dfl))])[k]? = some x := by rw [List.getElem?_append_left (by rw [gbW_len]; exact hkl)]; exact hx1
    refine (hP1 k x hin).kept ?_
    rw [e1]
    refine hkp x.1 (hP1 k x hin).lt (fun h => ?_)
    rcases h with h | h <;> omega
  have hP4 : va_P E.1 vwCl (gbW E σ k0 (i + 1 + nj) ci fs) T'.heap := by
    rw [show i + 1 + nj = i + (nj + 1) by omega, gbW_app]
    exact hP3.app (by rw [e1]; exact hP2)
  have g9 := gb_put (idx := idp) (pc := pc + 1 + 3 + 1 + 3) C hk hf hns (hn _) (hfit _) hj d4 hP4 hS2 hla g
  obtain ⟨t2, a1, b1⟩ := g9 T' rfl X'
  exact ⟨t2, st t2 a1, b1⟩
end GB
section GBC
variable {l : Launch} {E : sw_E} {σ : sw_M} {d mn k0 ci n ms nL io : Nat} {dfl : List Value} {y : MethodName} {cb : ByteArray}
theorem gb_ctor (hm : sw_mt mn = (y, cb, nL, none)) (hw : Cond.code (sw_mt mn).1 (sw_mt mn).2.1 (sw_mt mn).2.2.1 (sw_mt mn).2.2.2 ∈ sw_T) (hpl : plainName y.cls = true) (hcl : y.cls = sw_R ci) (hyn : y.name = "<init>") (hE : ∀ k, k < 112 → E.2.1 k = E.2.1 0 + k) (hL : 1 ≤ nL) (hd : 1 ≤ d) (d0 : decode cb 0 = .ok (.aload_n 0, 1)) (d1 : decode cb 1 = .ok (.invokespecial io, 3)) (hlo : Cond.methodLink (sw_R ci) io objectInit ∈ sw_T) (hoi : Cond.instanceMethod objectInit ∈ sw_T) (hoc : Cond.code objectInit ⟨#[0xb1]⟩ 1 none ∈ sw_T)
    (body : ∀ (p : Program) (e : Env) (s : State) (m : MethodId) (args : Array Value) (below : List Frame) (meth : Method) (c : Code), gb_C E ci cb nL k0 p s m args meth c → meth.sig.returnType = none → meth.locks = false → gb_G l E nL p e (gb_rm d n ms) s m args below meth c (MQ below (gb_Q E σ k0 n) args s n ms (gb_A E k0)) 0 4 [some (.ref k0)] σ k0 0 ci dfl) : gb_Con l E σ d mn k0 ci n ms dfl := by
  refine ⟨hw, ?_⟩
  unfold sw_ws
  rw [hm]
  refine Met.ofW (cc := cb) (maxL := nL) (ret := none) (ws' := sw_T) hpl rfl ?_
  intro p e s m args below meth c s₁ B hml hv
  obtain ⟨rfl, hsz, hP, hK, hN⟩ := hv
  have hts : ∀ w ∈ (Cond.code y cb nL none :: sw_T), w.before ([Value.ref (E.2.1 k0)] : List Value).toArray s = true := atoms_spec (ws := Cond.code y cb nL none :: sw_T) B.pre
  have hts2 : ∀ w ∈ sw_T, w.before ([Value.ref (E.2.1 k0)] : List Value).toArray s = true := fun w hw => hts w (List.mem_cons_of_mem _ hw)
  have hown : s.vm.findClass y.cls = some m.cls := findClass_of_methodNamed B.named
  rw [hcl] at hown
  have hin : meth.name = y.name := (name_of_methodNamed B.named B.method).1
  have C : gb_C E ci cb nL k0 p s m ([Value.ref (E.2.1 k0)] : List Value).toArray meth c := ⟨B.exec, B.bytes, hml, hown, hts2, hK, hN, by rw [hin]; exact hyn, hsz, hE⟩
  have hl2 := sw_lh_entry (E := E) (av := [.ref k0]) (nL := nL) (by intro w hw; simp only [List.mem_cons, List.not_mem_nil, or_false] at hw; rw [hw]; rfl) hL
  rw [lg_entry_eq]
  have hg := body p e s m _ below meth c C B.returns B.notSynchronized
  refine lv_aload_n B.exec B.bytes d0 rfl (hl2.2.2 0 (.ref k0) rfl) ?_
  refine W.objInit B.exec B.bytes hown (hts2 _ hlo) (hts2 _ hoi) (hts2 _ hoc) rfl (by rw [hml]; exact hl2.1) rfl d1 hd (show 2 * 0 + 0 + 12 ≤ 64 * d by omega) ?_
  exact hg s.heap [] _ hP va_S.rf hl2
end GBC
