/-! The law's first instructions: both objects are made. -/
noncomputable def st_C (E : sw_E) (p : Program) (s : State) (m : MethodId) (args : Array Value) (c : Code) : Prop :=
  p.tables.exec = Jvm.exec ∧ c.code = cL_law ∧ c.maxLocals = 7 ∧ s.vm.findClass (sw_R 12) = some m.cls ∧ (∀ w ∈ sw_T, w.before args s = true) ∧ va_K E.1 vwCl (sw_ty E) s ∧ gb_N s ∧ ∀ k, k < 112 → E.2.1 k = s.heap.size + k
theorem st_at {E : sw_E} {s : State} {σ : sw_M} {n : Nat} (hE : ∀ k, k < 112 → E.2.1 k = s.heap.size + k) (hn : n ≤ 112) : ∀ j, j < n → ∃ e1, (gbS E σ 0 n)[j]? = some (s.heap.size + j, e1) := fun j hj => ⟨sw_ce E σ (0 + j), by
  rw [gbS_at E σ hj, hE (0 + j) (by omega), Nat.zero_add]⟩
theorem st_D {E : sw_E} {s : State} {σ : sw_M} {n : Nat} (hE : ∀ k, k < 112 → E.2.1 k = s.heap.size + k) (hn : n ≤ 112) : va_D (fun q => s.heap.size ≤ q) (gbS E σ 0 n) := gb_D (st_at hE hn) (gbS_len E σ 0 n) (fun j _ => Nat.le_add_right _ _)
/-- where a new cell lies -/
theorem st_new_at {E : sw_E} {s : State} {σ : sw_M} {n q : Nat} {x : va_E} {H1 : Heap} (hE : ∀ k, k < 112 → E.2.1 k = s.heap.size + k) (hn : n < 112) (hP1 : va_P E.1 vwCl (gbS E σ 0 n ++ [(q, x)]) H1) (hD1 : va_D (fun q => s.heap.size ≤ q) (gbS E σ 0 n ++ [(q, x)])) (hsz : H1.size ≤ s.heap.size + (n + 1)) : q = E.2.1 n ∧ H1.size = E.2.1 n + 1 := by
  have hl : (gbS E σ 0 n ++ [(q, x)])[n]? = some (q, x) := by rw [List.getElem?_append_right (by rw [gbS_len]; exact Nat.le_refl _), gbS_len]; simp
  have h1 : s.heap.size ≤ q := hD1.2 n _ hl
  have h2 : q < H1.size := (hP1 n _ hl).lt
  have h3 := gb_pin (b := s.heap.size) (n := n) hD1 (st_at hE (by omega)) (gbS_len E σ 0 n) h1 (by omega)
  rw [hE n hn]
  omega
section
variable {l : Launch} {E : sw_E} {p : Program} {e : Env} {R : Room} {s : State} {m : MethodId} {args : Array Value} {below : List Frame} {meth : Method} {c : Code} {F : State → Prop} {n pc k0 : Nat} {ls : List (Option Value)} {σ : sw_M}
theorem st_O (C : st_C E p s m args c) {idn idi mn cj nj ms d mL : Nat} {dfl : List Value} {y : MethodName} {cb : ByteArray} {qc : vw_C} (hk : k0 + 1 + nj ≤ 112) (d1 : decode cL_law pc = .ok (.new idn, 3)) (d2 : decode cL_law (pc + 3) = .ok (.dup, 1)) (d3 : decode cL_law (pc + 3 + 1) = .ok (.invokespecial idi, 3))
    (hq : vwCl[cj]? = some qc) (hcl : Cond.classLink (sw_R 12) idn qc.1 ∈ sw_T) (hinst : Cond.instantiable qc.1 qc.2.2 ∈ sw_T) (hini : Cond.initialized qc.1 ∈ sw_T) (hfs : ∀ j, j < qc.2.2 → defaultValue (sw_tyf cj j) = vp_V dfl j) (hcon : gb_Con l E σ d mn k0 cj nj ms dfl) (hm : sw_mt mn = (y, cb, mL, none)) (hlink : Cond.methodLink (sw_R 12) idi y ∈ sw_T) (hyn : y.name = "<init>") (hyc : y.cls = qc.1) (hyd : y.cls ≠ "java/lang/invoke/MethodHandle" ∧ y.cls ≠ "java/lang/invoke/VarHandle" ∧ (parseMethodDescriptor y.desc).map (fun d => d.parameters.length) = some 0) (hinM : Cond.instanceMethod y ∈ sw_T) (hRf : d + 1 ≤ R.frames) (hRl : 8 + (mL + 11) + 64 * d ≤ R.locals) (hcells : k0 + 1 + nj ≤ R.cells) (hslots : n + qc.2.2 + ms ≤ R.slots)
    (g : ∀ (H : Heap) (locs : List Loc) (la : Array Slot), va_P E.1 vwCl (gbS E σ 0 (k0 + 1 + nj)) H → va_S (fun q => s.heap.size ≤ q) s.heap H locs → sw_lh E la 7 ls → W p l e R s m args below meth c H locs (k0 + 1 + nj) (n + qc.2.2 + ms) F (F0 m (pc + 3 + 1 + 3) la [.ref (E.2.1 k0)])) :
    ∀ (H : Heap) (locs : List Loc) (la : Array Slot), va_P E.1 vwCl (gbS E σ 0 k0) H → va_S (fun q => s.heap.size ≤ q) s.heap H locs → sw_lh E la 7 ls → W p l e R s m args below meth c H locs k0 n F (F0 m pc la []) := by
  intro H locs la hP hS hla
  obtain ⟨hx, hb, hml, hown, hts, hK, hN, hE⟩ := id C
  have hD := st_D (σ := σ) (n := k0) hE (by omega)
  have hty := (sw_cl_ty hq).2
  refine va_new (ci := cj) (fs := dfl) (C := qc.1) (T := qc.2.1) (N := qc.2.2) hx hb hts (sw_cl_in hq) (sw_tyf cj) (fun j hj => (hty j hj).1) hown (hts _ hcl) (hts _ hinst) (hts _ hini) hK hP hD hS (fun q hq => hq) hq hfs (by omega) (by omega) d1 (fun q H1 hP1 hD1 hS1 => ?_)
  refine gb_sz (fun hsz => ?_)
  obtain ⟨hq1, hz1⟩ := st_new_at hE (by omega) hP1 hD1 hsz
  subst hq1
  refine lv_dup hx hb d2 rfl ?_
  obtain ⟨hcode, hM⟩ := hcon
  have hlast : (gbS E σ 0 k0 ++ [(E.2.1 k0, Sum.inr (cj, dfl))])[k0]? = some (E.2.1 k0, Sum.inr (cj, dfl)) := by rw [List.getElem?_append_right (by rw [gbS_len]; exact Nat.le_refl _), gbS_len]; simp
  have hPc : va_P E.1 vwCl [(E.2.1 k0, .inr (cj, dfl))] H1 := by
    intro k x hx1
    have hz : k < 1 := (List.getElem?_eq_some_iff.mp hx1).1
    rw [show k = 0 by omega] at hx1
    cases hx1
    exact hP1 _ _ hlast
  unfold sw_ws at hM
  rw [hm] at hM hcode
  have hG : GoodIn sw_T (Cond.code y cb mL none :: sw_T) := sw_good (y := 0) hcode
  have hcw := callB_of (R := R) (s := s) (args := args) (own := sw_R 12) (index := idi) (y := y) (bytes := cb) (maxL := mL) (ret := none) (ws := Cond.code y cb mL none :: sw_T) (ws' := sw_T) (rm := gb_rm d nj ms) (mc := nj) (ms := ms) 0 hts hG rfl rfl rfl (by rw [hyc]; exact hts _ hini) (hts _ hlink) hyd ⟨hRf, hRl⟩
  have hrun := va_runI (e := e) (below := below) (meth := meth) (cells := k0 + 1) (slots := n + qc.2.2) (locs := locs) (g := F0 m (pc + 3 + 1) la [.ref (E.2.1 k0), .ref (E.2.1 k0)]) (H := H1) (As := []) (rest := [.ref (E.2.1 k0)]) (b := E.2.1 k0) ⟨hx, hb, hml, hown, hts⟩ hM ⟨hcw, hyn, hts _ hinM⟩ ⟨gb_blind _, fun U hU hW => ⟨rfl, by rw [hU]; exact hz1, by rw [hU]; exact hPc, va_K.moved hW.alike hK, fun q hq => va_Nw.warmM hW (hN q hq)⟩⟩ rfl rfl hla.1 rfl (lv_room (Nat.le_of_ble_eq_true rfl)) d3 ⟨hcells, hslots⟩
  intro T hT X
  obtain ⟨v, st₀, t, T', L, h0', X', hL, e1, e2, ⟨hv, hP2, hF⟩, st⟩ := hrun T hT X
  cases hv
  obtain ⟨hz, hkp⟩ := hF
  rw [h0'] at hz hkp
  have hE0 := hE k0 (by omega)
  have up : ∀ q, gb_A E k0 q → s.heap.size ≤ q := by
    intro q h
    rcases h with h | h <;> omega
  have hS2 : va_S (fun q => s.heap.size ≤ q) s.heap T'.heap (locs ++ L) := by
    refine ⟨by rw [e1]; exact Nat.le_trans hS1.1 hz, fun q h1 h2 => ?_, fun z hz => ?_⟩
    · rw [e1, hkp q (Nat.lt_of_lt_of_le h1 hS1.1) (fun h => h2 (up q h))]
      exact hS1.2.1 q h1 h2
    · rcases List.mem_append.mp hz with h | h
      · exact hS1.2.2 z h
      · exact up _ (hL z h)
  have hP3 : va_P E.1 vwCl (gbS E σ 0 k0) T'.heap := by
    intro k x hx1
    have hkl : k < k0 := by
      have := (List.getElem?_eq_some_iff.mp hx1).1
      rw [gbS_len] at this
      exact this
    obtain ⟨x1, h9⟩ := st_at (σ := σ) (n := k0) hE (by omega) k hkl
    have hxa : x.1 = s.heap.size + k := by rw [h9] at hx1; cases hx1; rfl
    have hin : (gbS E σ 0 k0 ++ [(E.2.1 k0, Sum.inr (cj, dfl))])[k]? = some x := by rw [List.getElem?_append_left (by rw [gbS_len]; exact hkl)]; exact hx1
    refine (hP1 k x hin).kept ?_
    rw [e1]
    refine hkp x.1 (hP1 k x hin).lt (fun h => ?_)
    rcases h with h | h <;> omega
  have hP4 : va_P E.1 vwCl (gbS E σ 0 (k0 + 1 + nj)) T'.heap := by
    rw [show k0 + 1 + nj = k0 + (nj + 1) by omega, gbS_app, Nat.zero_add]
    exact hP3.app (by rw [e1]; exact hP2)
  obtain ⟨t2, a1, b1⟩ := g T'.heap (locs ++ L) la hP4 hS2 hla T' rfl X'
  exact ⟨t2, st t2 a1, b1⟩
theorem st_75 (E : sw_E) (i : Nat) : gbS E (sgm i) 0 75 = gbS E sg 0 75 := by
  unfold gbS
  refine List.map_congr_left (fun j hj => ?_)
  have hj := List.mem_range.mp hj
  rw [sgm, sw_ce_I E sg 80 _ (by omega)]
theorem st_W (E : sw_E) (σ : sw_M) : gbS E σ 0 112 = sw_W E σ := by
  unfold gbS sw_W
  refine List.map_congr_left (fun j _ => ?_)
  rw [Nat.zero_add]
/-- a reference goes into a local -/
theorem st_as (C : st_C E p s m args c) {k : Fin 4} {i x kc : Nat} {H : Heap} {locs : List Loc} {la : Array Slot} (hd : decode cL_law pc = .ok (.astore_n k, 1)) (hi : (k : Nat) = i) (h7 : i < 7) (hla : sw_lh E la 7 ls) (hn : sw_nl ls i) (g : ∀ la1, sw_lh E la1 7 (sw_put ls i (some (.ref x))) → W p l e R s m args below meth c H locs kc n F (F0 m (pc + 1) la1 [])) : W p l e R s m args below meth c H locs kc n F (F0 m pc la [.ref (E.2.1 x)]) :=
  lv_astore_n C.1 C.2.1 hd hi (sw_lh_lv hla) h7 rfl (fun la1 h1 => g la1 (sw_lh_put1 (x := .ref x) hla hn h1))
set_option maxRecDepth 100000 in
set_option maxHeartbeats 4000000 in
theorem st_walk (C : st_C E p s m args c) (hRf : 72 ≤ R.frames) (hRl : 64 * 72 ≤ R.locals) (hcells : 112 ≤ R.cells) (hslots : 39718 ≤ R.slots) (g : sw_G l E 7 p e R s m args below meth c (fun q => s.heap.size ≤ q) 112 39718 F 23 (lwLS 0) [] (sgm 4096)) : ∀ (H : Heap) (locs : List Loc) (la : Array Slot), va_P E.1 vwCl (gbS E sg 0 0) H → va_S (fun q => s.heap.size ≤ q) s.heap H locs → sw_lh E la 7 [some (.ref 4000)] → W p l e R s m args below meth c H locs 0 0 F (F0 m 0 la []) := by
  obtain ⟨hx, hb, hml, hown, hts, hK, hN, hE⟩ := id C
  have hE' : ∀ k, k < 112 → E.2.1 k = E.2.1 0 + k := fun k hk => by rw [hE k hk, hE 0 (by decide)]; rfl
  refine st_O (idn := 8) (idi := 99) (mn := 0) (cj := 10) (nj := 74) (ms := 11222) (d := 4) (mL := 1) (y := yX10_init) (cb := cX10_init) (qc := (RX10, TX10, 17)) C (Nat.le_of_ble_eq_true rfl) (show decode cL_law 0 = .ok (.new 8, 3) from by decide +kernel) (show decode cL_law 3 = .ok (.dup, 1) from by decide +kernel) (show decode cL_law 4 = .ok (.invokespecial 99, 3) from by decide +kernel) rfl (sw_in (i := 148) (by decide +kernel) rfl) (sw_in (i := 149) (by decide +kernel) rfl) (sw_in (i := 123) (by decide +kernel) rfl) (by decide +kernel) (cX10_0 hE') rfl (sw_in (i := 150) (by decide +kernel) rfl) rfl rfl ⟨by decide, by decide, by decide +kernel⟩ (sw_in (i := 151) (by decide +kernel) rfl) (by omega) (by omega) (by omega) (by show 0 + 17 + 11222 ≤ _; omega) ?_
  intro H1 locs1 la1 hP1 hS1 hla1
  refine st_as C (k := 1) (i := 1) (x := 0) (show decode cL_law 7 = .ok (.astore_n 1, 1) from by decide +kernel) rfl (by decide) hla1 (by exact rfl) (fun la2 hla2 => ?_)
  have hP1 : va_P E.1 vwCl (gbS E (sgm 4096) 0 75) H1 := by rw [st_75]; exact hP1
  refine st_O (σ := sgm 4096) (k0 := 75) (n := 11239) (pc := 8) (idn := 100) (idi := 102) (mn := 176) (cj := 11) (nj := 35) (ms := 28408) (d := 2) (mL := 2) (dfl := DFM) (y := yX11_init) (cb := cX11_init) (qc := (RX11, TX11, 70)) C (Nat.le_of_ble_eq_true rfl) (show decode cL_law 8 = .ok (.new 100, 3) from by decide +kernel) (show decode cL_law 11 = .ok (.dup, 1) from by decide +kernel) (show decode cL_law 12 = .ok (.invokespecial 102, 3) from by decide +kernel) rfl (sw_in (i := 1526) (by decide +kernel) rfl) (sw_in (i := 1527) (by decide +kernel) rfl) (sw_in (i := 134) (by decide +kernel) rfl) (by decide +kernel) (cX11_75 hE') rfl (sw_in (i := 1528) (by decide +kernel) rfl) rfl rfl ⟨by decide, by decide, by decide +kernel⟩ (sw_in (i := 1529) (by decide +kernel) rfl) (by omega) (by omega) (by omega) (by show 11239 + 70 + 28408 ≤ _; omega) ?_ H1 locs1 la2 hP1 hS1 hla2
  intro H3 locs3 la3 hP3 hS3 hla3
  refine st_as C (k := 2) (i := 2) (x := 75) (show decode cL_law 15 = .ok (.astore_n 2, 1) from by decide +kernel) rfl (by decide) hla3 (by exact rfl) (fun la4 hla4 => ?_)
  refine lv_iconst (v := 1) hx hb (show decode cL_law 16 = .ok (.iconst 1, 1) from by decide +kernel) (by decide) ?_
  have hP3 : va_P E.1 vwCl (gbS E (sgm 4096) 0 111) H3 := hP3
  have hD3 := st_D (σ := sgm 4096) (n := 111) hE (by decide)
  refine va_newa (pc := 17) (a0 := (1, .inr (.inl (fun _ => 0)))) (N' := 1) hx hb (atype := .long) (hts _ (sw_in (i := 455) (by decide +kernel) rfl)) rfl hK hP3 hD3 hS3 (fun q hq => hq) (fun _ => rfl) (by decide) rfl (by decide) (by show 111 + 1 ≤ _; omega) (by show 39717 + 1 ≤ _; omega) (show decode cL_law 17 = .ok (.newarray .long, 2) from by decide +kernel) (fun q cA H5 hK5 hP5 hD5 hS5 => ?_)
  refine gb_sz (fun hsz => ?_)
  obtain ⟨hq1, -⟩ := st_new_at hE (by decide) hP5 hD5 hsz
  subst hq1
  have hcA : cA = E.2.2.2.1 := by
    have h1 := (hK5.2 3 (cA, .long) rfl).2
    have h2 := (hK5.2 1 (E.2.2.2.1, .long) rfl).2
    exact Option.some.inj (h1.symm.trans h2)
  subst hcA
  have hP6 : va_P E.1 vwCl (sw_W E (sgm 4096)) H5 := by
    rw [← st_W]
    exact hP5
  have hD6 : va_D (fun q => s.heap.size ≤ q) (sw_W E (sgm 4096)) := by
    rw [← st_W]
    exact st_D hE (by decide)
  refine st_as C (k := 3) (i := 3) (x := 111) (show decode cL_law 19 = .ok (.astore_n 3, 1) from by decide +kernel) rfl (by decide) hla4 (by exact rfl) (fun la6 hla6 => ?_)
  refine lv_iconst (v := 0) hx hb (show decode cL_law 20 = .ok (.iconst 0, 1) from by decide +kernel) (by decide) ?_
  refine lv_istore hx hb (show decode cL_law 21 = .ok (.istore 4, 2) from by decide +kernel) (sw_lh_lv hla6) (by decide) rfl (fun la7 h7 => ?_)
  have hla7 := sw_lh_put1 (i := 4) (x := .int 0) hla6 rfl h7
  exact g H5 locs3 la7 hP6 hD6 hS5 hla7
end
