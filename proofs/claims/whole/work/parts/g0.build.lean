/-! How the world comes to be: cells one behind another, an object's constructor fills it. -/
theorem gb_sz {p : Program} {l : Launch} {e : Env} {R : Room} {s : State} {m : MethodId} {args : Array Value} {below : List Frame} {meth : Method} {c : Code} {H : Heap} {locs : List Loc} {k n : Nat} {Q : State → Prop} {g : JFrame} (kk : H.size ≤ s.heap.size + k → W p l e R s m args below meth c H locs k n Q g) : W p l e R s m args below meth c H locs k n Q g := fun T hT X => kk (by rw [← hT]; exact X.same.2.2.1) T hT X
theorem gb_pin {A : Nat → Prop} {w : va_W} {q b n : Nat} {e : va_E} (hD : va_D A (w ++ [(q, e)])) (hw : ∀ j, j < n → ∃ e1, w[j]? = some (b + j, e1)) (hlen : w.length = n) (h1 : b ≤ q) (h2 : q < b + n + 1) : q = b + n := by
  rcases Nat.lt_or_ge q (b + n) with h | h
  · exfalso
    obtain ⟨e1, h3⟩ := hw (q - b) (by omega)
    have h4 : (w ++ [(q, e)])[q - b]? = some (b + (q - b), e1) := by rw [List.getElem?_append_left (by omega)]; exact h3
    have h5 : (w ++ [(q, e)])[n]? = some (q, e) := by rw [List.getElem?_append_right (by omega), hlen]; simp
    have := hD.1 (q - b) n _ _ h4 h5 (by show b + (q - b) = q; omega)
    omega
  · omega
/-- the memory at the start -/
noncomputable def sg : sw_M := (fun k j => if k = 0 then (if j = 1 then nI 4 else if j = 2 then nI 16 else if j = 13 then -1 else 0) else if k = 4 then (if j = 12 then 12 else 0) else if k = 16 then (if j = 12 then 12 else 0) else if k = 75 then (if j = 4 then 12 else if j = 5 then -1 else if j = 14 then -1 else if j = 51 then -1 else if j = 52 then -1 else 0) else 0, fun _ _ => 0)
noncomputable def gbS (E : sw_E) (σ : sw_M) (k n : Nat) : va_W := (List.range n).map (fun j => (E.2.1 (k + j), sw_ce E σ (k + j)))
noncomputable def gbW (E : sw_E) (σ : sw_M) (k0 i ci : Nat) (fs : List Value) : va_W := (E.2.1 k0, .inr (ci, fs)) :: gbS E σ (k0 + 1) i
theorem gbS_app (E : sw_E) (σ : sw_M) (k a b : Nat) : gbS E σ k (a + b) = gbS E σ k a ++ gbS E σ (k + a) b := by
  unfold gbS
  rw [List.range_add, List.map_append, List.map_map]
  congr 1
  refine List.map_congr_left (fun j _ => ?_)
  show (E.2.1 (k + (a + j)), sw_ce E σ (k + (a + j))) = _
  rw [Nat.add_assoc]
theorem gbS_1 (E : sw_E) (σ : sw_M) (k : Nat) : gbS E σ k 1 = [(E.2.1 k, sw_ce E σ k)] := rfl
theorem gbW_app (E : sw_E) (σ : sw_M) (k0 i n ci : Nat) (fs : List Value) : gbW E σ k0 (i + n) ci fs = gbW E σ k0 i ci fs ++ gbS E σ (k0 + 1 + i) n := by
  unfold gbW
  rw [gbS_app]
  rfl
theorem gbS_len (E : sw_E) (σ : sw_M) (k n : Nat) : (gbS E σ k n).length = n := by simp [gbS]
theorem gbS_at (E : sw_E) (σ : sw_M) {k n j : Nat} (hj : j < n) : (gbS E σ k n)[j]? = some (E.2.1 (k + j), sw_ce E σ (k + j)) := by
  simp [gbS, hj]
theorem gbW_len (E : sw_E) (σ : sw_M) (k0 i ci : Nat) (fs : List Value) : (gbW E σ k0 i ci fs).length = i + 1 := by simp [gbW, gbS_len]
theorem gbW_at {E : sw_E} {σ : sw_M} {k0 i ci : Nat} {fs : List Value} (hE : ∀ k, k < 112 → E.2.1 k = E.2.1 0 + k) (hk : k0 + 1 + i ≤ 112) : ∀ j, j < i + 1 → ∃ e1, (gbW E σ k0 i ci fs)[j]? = some (E.2.1 k0 + j, e1)
  | 0, _ => ⟨_, rfl⟩
  | j + 1, h => ⟨sw_ce E σ (k0 + 1 + j), by
    show (gbS E σ (k0 + 1) i)[j]? = _
    rw [gbS_at E σ (by omega), hE (k0 + 1 + j) (by omega), hE k0 (by omega)]
    congr 2
    omega⟩
/-- cells at addresses one behind another are apart -/
theorem gb_D {A : Nat → Prop} {w : va_W} {b n : Nat} (hw : ∀ j, j < n → ∃ e1, w[j]? = some (b + j, e1)) (hlen : w.length = n) (hA : ∀ j, j < n → A (b + j)) : va_D A w := by
  have key : ∀ (i : Nat) (q : Nat × va_E), w[i]? = some q → i < n ∧ q.1 = b + i := by
    intro i q hi
    have hl : i < n := by
      have := (List.getElem?_eq_some_iff.mp hi).1
      omega
    obtain ⟨e1, h⟩ := hw i hl
    rw [h] at hi
    cases hi
    exact ⟨hl, rfl⟩
  refine ⟨fun i j p q hi hj e => ?_, fun i q hi => ?_⟩
  · have h1 := (key i p hi).2
    have h2 := (key j q hj).2
    omega
  · rw [(key i q hi).2]
    exact hA i (key i q hi).1
noncomputable def gb_A (E : sw_E) (k0 : Nat) : Nat → Prop := fun q => q = E.2.1 k0 ∨ E.2.1 k0 + 1 ≤ q
noncomputable def gb_ns : List (String × Nat × MethodName) := [(RX10, 11, yX4_init), (RX4, 11, yX9_init), (RX10, 18, yX3_init), (RX3, 45, yX5_init), (RX10, 28, yX8_init), (RX10, 41, yX6_init), (RX10, 48, yX2_init), (RX10, 55, yX7_init), (RX10, 62, yX1_init), (RX10, 69, yX0_init)]
noncomputable def gb_N (U : State) : Prop := ∀ q ∈ gb_ns, va_Nw (.methodLinkNest q.1 q.2.1 q.2.2 RX10) U
noncomputable def gb_H (E : sw_E) (k0 ci : Nat) (dfl : List Value) (U : State) : Prop := U.heap.size = E.2.1 k0 + 1 ∧ va_P E.1 vwCl [(E.2.1 k0, .inr (ci, dfl))] U.heap ∧ va_K E.1 vwCl (sw_ty E) U ∧ gb_N U
noncomputable def gb_Q (E : sw_E) (σ : sw_M) (k0 n : Nat) : Array Value → State → Outcome → State → Prop := fun _ st oc t => oc = .returned none ∧ va_P E.1 vwCl (gbS E σ k0 (n + 1)) t.heap ∧ va_F (gb_A E k0) st t
noncomputable def gb_rm (d mc ms : Nat) : Room := { frames := d, cells := mc, slots := ms, locals := 64 * d }
/-- a constructor's contract: object k0 of class ci gets its n cells -/
noncomputable def gb_Con (l : Launch) (E : sw_E) (σ : sw_M) (d mn k0 ci n ms : Nat) (dfl : List Value) : Prop :=
  Cond.code (sw_mt mn).1 (sw_mt mn).2.1 (sw_mt mn).2.2.1 (sw_mt mn).2.2.2 ∈ sw_T ∧ Met l (sw_mt mn).1 (sw_ws mn) (gb_rm d n ms) (va_Pc [.ref (E.2.1 k0)] (gb_H E k0 ci dfl)) (gb_Q E σ k0 n) n ms (gb_A E k0)
theorem gb_blind {E : sw_E} {k0 ci : Nat} {dfl : List Value} (av : List Value) : FrameBlind (va_Pc av (gb_H E k0 ci dfl)) := by
  intro a U g mk h
  obtain ⟨h0, h1, h2, h3, h4⟩ := h
  exact ⟨h0, h1, h2, va_K.moved (u := U) (U := U.calling g mk a) (Vm.Alike.refl U.vm) h3, fun q hq => va_Nw.same (u := U) (U := U.calling g mk a) rfl rfl (h4 q hq)⟩
/-- the frame in which a constructor is walked -/
noncomputable def gb_C (E : sw_E) (ci : Nat) (cc : ByteArray) (nL k0 : Nat) (p : Program) (s : State) (m : MethodId) (args : Array Value) (meth : Method) (c : Code) : Prop :=
  p.tables.exec = Jvm.exec ∧ c.code = cc ∧ c.maxLocals = nL ∧ s.vm.findClass (sw_R ci) = some m.cls ∧ (∀ w ∈ sw_T, w.before args s = true) ∧ va_K E.1 vwCl (sw_ty E) s ∧ gb_N s ∧ meth.name = "<init>" ∧ s.heap.size = E.2.1 k0 + 1 ∧ ∀ k, k < 112 → E.2.1 k = E.2.1 0 + k
noncomputable def gb_G (l : Launch) (E : sw_E) (nL : Nat) (p : Program) (e : Env) (R : Room) (s : State) (m : MethodId) (args : Array Value) (below : List Frame) (meth : Method) (c : Code) (F : State → Prop) (n pc : Nat) (ls : List (Option Value)) (σ : sw_M) (k0 i ci : Nat) (fs : List Value) : Prop :=
  ∀ (H : Heap) (locs : List Loc) (la : Array Slot), va_P E.1 vwCl (gbW E σ k0 i ci fs) H → va_S (gb_A E k0) s.heap H locs → sw_lh E la nL ls → W p l e R s m args below meth c H locs i n F (F0 m pc la [])
noncomputable def pushv : Instr → Option Int32
  | .iconst n => some (Int32.ofInt n)
  | .bipush n => some (Int8.ofInt n).toInt32
  | .sipush n => some (Int16.ofInt n).toInt32
  | _ => none
theorem sw_decl_all : (List.range 12).all (fun ci => match vwCl[ci]? with | some q => (List.range q.2.2).all (fun j => decide ((q.2.1 j).1 = sw_R ci)) | none => false) = true := by decide +kernel
theorem sw_decl9 {ci j : Nat} {q : vw_C} (h : vwCl[ci]? = some q) (hj : j < q.2.2) : (q.2.1 j).1 = sw_R ci := by
  have h1 := List.all_eq_true.mp sw_decl_all ci (List.mem_range.mpr (sw_cl_lt h))
  rw [h] at h1
  exact of_decide_eq_true (List.all_eq_true.mp h1 j (List.mem_range.mpr hj))
section GB
variable {l : Launch} {E : sw_E} {nL : Nat} {cc : ByteArray} {p : Program} {e : Env} {R : Room} {s : State} {m : MethodId} {args : Array Value} {below : List Frame} {meth : Method} {c : Code} {F : State → Prop} {n pc k0 i ci : Nat} {ls : List (Option Value)} {σ : sw_M} {fs : List Value}
theorem gb_push {H : Heap} {locs : List Loc} {k : Nat} {la : Array Slot} {st : List Value} {ins : Instr} {v : Int32} {len : Nat} (hx : p.tables.exec = Jvm.exec) (hb : c.code = cc) (hp : pushv ins = some v) (hd : decode cc pc = .ok (ins, len)) (hl : len = sw_len ins) (g : W p l e R s m args below meth c H locs k n F (F0 m (pc + len) la (.int v :: st))) : W p l e R s m args below meth c H locs k n F (F0 m pc la st) := by
  unfold pushv at hp
  split at hp
  · cases hp; subst hl; exact lv_iconst hx hb hd rfl g
  · cases hp; subst hl; exact lv_bipush hx hb hd rfl g
  · cases hp; subst hl; exact lv_sipush hx hb hd rfl g
  · cases hp
theorem gb_Dw (hE : ∀ k, k < 112 → E.2.1 k = E.2.1 0 + k) (hk : k0 + 1 + i ≤ 112) : va_D (gb_A E k0) (gbW E σ k0 i ci fs) := gb_D (gbW_at hE hk) (gbW_len E σ k0 i ci fs) (fun j _ => by
  rcases Nat.eq_zero_or_pos j with h | h
  · exact Or.inl (by omega)
  · exact Or.inr (by omega))
/-- putfield into the object -/
theorem gb_put (C : gb_C E ci cc nL k0 p s m args meth c) (hk : k0 + 1 + i ≤ 112) {idx j : Nat} {v : Value} {H : Heap} {locs : List Loc} {la : Array Slot} (hf : sw_fl ci idx = some (ci, j)) (hns : sw_nest ci idx = false) (hn : narrow (sw_tyf ci j) v = v) (hfit : fits (sw_tyf ci j) v = true) (hj : j < fs.length) (hd : decode cc pc = .ok (.putfield idx, 3)) (hP : va_P E.1 vwCl (gbW E σ k0 i ci fs) H) (hS : va_S (gb_A E k0) s.heap H locs) (hl : sw_lh E la nL ls) (g : gb_G l E nL p e R s m args below meth c F n (pc + 3) ls σ k0 i ci (fs.set j v)) : W p l e R s m args below meth c H locs i n F (F0 m pc la [v, .ref (E.2.1 k0)]) := by
  obtain ⟨hx, hb, hml, hown, hts, hK, hN, hnm, hsz, hE⟩ := C
  obtain ⟨q, hq, hjq, hj2, hlink⟩ := sw_fl_ok hf
  have hlink : Cond.fieldLink (sw_R ci) idx (q.2.1 j).1 (q.2.1 j).2.1 (q.2.1 j).2.2.1 ∈ sw_T := hlink.elim (fun h => by rw [h] at hns; cases hns) id
  have hty := (sw_cl_ty hq).2
  have hat : (gbW E σ k0 i ci fs)[0]? = some (E.2.1 k0, .inr (ci, fs)) := rfl
  have hD := gb_Dw (σ := σ) (ci := ci) (fs := fs) hE hk
  cases hfin : (q.2.1 j).2.2.2 with
  | false => exact va_put (D := E.1) (ci := ci) (C := q.1) (T := q.2.1) (N := q.2.2) (ref := (q.2.1 j).1) (v := v) hx hb hts (sw_cl_in hq) (sw_tyf ci) (fun j hj => (hty j hj).1) (sw_cl_nm hq) hown hK hP hD hS 0 hat hq j hjq (hts _ hlink) (fun _ h => h) hfin (hty j hjq).1 hn hfit hj hd (fun H1 locs1 hP1 _ hS1 => g H1 locs1 la hP1 hS1 hl)
  | true =>
    have hdecl : (q.2.1 j).1 = sw_R ci := sw_decl9 hq hjq
    exact va_putF (D := E.1) (ci := ci) (C := q.1) (T := q.2.1) (N := q.2.2) (ref := (q.2.1 j).1) (v := v) hx hb hts (sw_cl_in hq) (sw_tyf ci) (fun j hj => (hty j hj).1) (sw_cl_nm hq) hown hK hP hD hS 0 hat hq j hjq (hts _ hlink) (fun _ h => h) hfin hnm hdecl (hty j hjq).1 hn hfit hj hd (fun H1 locs1 hP1 _ hS1 => g H1 locs1 la hP1 hS1 hl)
end GB
