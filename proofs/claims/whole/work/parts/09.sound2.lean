/-- the frame in which a method's code is walked -/
def sw_C (E : sw_E) (own : Nat) (cc : ByteArray) (nL : Nat) (p : Program) (s : State) (m : MethodId) (args : Array Value) (c : Code) (A : Nat → Prop) : Prop :=
  p.tables.exec = Jvm.exec ∧ c.code = cc ∧ c.maxLocals = nL ∧ s.vm.findClass (sw_R own) = some m.cls ∧ (∀ w ∈ sw_T, w.before args s = true) ∧ va_K E.1 vwCl (sw_ty E) s ∧ sw_N E A s ∧ (∀ q, s.heap.size ≤ q → A q) ∧ ∀ k, k < 112 → A (E.2.1 k)
def sw_G (l : Launch) (E : sw_E) (nL : Nat) (p : Program) (e : Env) (R : Room) (s : State) (m : MethodId) (args : Array Value) (below : List Frame) (meth : Method) (c : Code) (A : Nat → Prop) (k n : Nat) (F : State → Prop) (pc : Nat) (ls : List (Option Value)) (st : List Value) (σ : sw_M) : Prop :=
  ∀ (H : Heap) (locs : List Loc) (la : Array Slot), va_P E.1 vwCl (sw_W E σ) H → va_D A (sw_W E σ) → va_S A s.heap H locs → sw_lh E la nL ls → W p l e R s m args below meth c H locs k n F (F0 m pc la (st.map (sw_c E)))
theorem sw_cl_R {ci : Nat} {q : vw_C} (h : vwCl[ci]? = some q) : q.1 = sw_R ci := by
  match ci, h with
  | 0, h => cases h; rfl
  | 1, h => cases h; rfl
  | 2, h => cases h; rfl
  | 3, h => cases h; rfl
  | 4, h => cases h; rfl
  | 5, h => cases h; rfl
  | 6, h => cases h; rfl
  | 7, h => cases h; rfl
  | 8, h => cases h; rfl
  | 9, h => cases h; rfl
  | 10, h => cases h; rfl
  | 11, h => cases h; rfl
  | n + 12, h => exact absurd (sw_cl_lt h) (by omega)
theorem sw_kd_cl_all : (List.range 112).all (fun k => decide ((sw_kd k).1 ≠ 0) || decide ((sw_kd k).2 < 12)) = true := by decide +kernel
theorem sw_kd_cl {a c : Nat} (h : sw_kd a = (0, c)) : ∃ q : vw_C, vwCl[c]? = some q := by
  have h1 := List.all_eq_true.mp sw_kd_cl_all a (List.mem_range.mpr (sw_kd_lt h (by decide)))
  rw [h] at h1
  simp at h1
  exact ⟨vwCl[c]'(by simpa using h1), List.getElem?_eq_getElem _⟩
theorem sw_str_all : (List.range 18).all (fun o => (sw_cSL.getD o []).all (fun q => decide (q.2 < 34) && decide ((sw_strs.getD q.2 ("", 0, "")).1 = sw_R o) && decide ((sw_strs.getD q.2 ("", 0, "")).2.1 = q.1))) = true := by decide +kernel
theorem sw_str_ok {o i j : Nat} (h : sw_cS o i = some j) : j < 34 ∧ (sw_strs.getD j ("", 0, "")).1 = sw_R o ∧ (sw_strs.getD j ("", 0, "")).2.1 = i := by
  have hm := sw_lookup h
  have ho : o < 18 := by
    rcases Nat.lt_or_ge o 18 with g | g
    · exact g
    · rw [sw_getD_big (by rw [show sw_cSL.length = 18 from rfl]; exact g)] at hm; simp at hm
  have h1 := List.all_eq_true.mp (List.all_eq_true.mp sw_str_all o (List.mem_range.mpr ho)) _ hm
  simp only [Bool.and_eq_true, decide_eq_true_eq] at h1
  exact ⟨h1.1.1, h1.1.2, h1.2⟩
theorem sw_nest_ok {o i ci j : Nat} (h : sw_fl o i = some (ci, j)) (hn : sw_nest o i = true) : (o = 2 ∧ i = 77 ∧ ci = 5 ∧ j = 1) ∨ (o = 7 ∧ i = 35 ∧ ci = 6 ∧ j = 1) := by
  simp only [sw_nest, Bool.or_eq_true, Bool.and_eq_true, beq_iff_eq] at hn
  rcases hn with ⟨rfl, rfl⟩ | ⟨rfl, rfl⟩
  · rw [show sw_fl 2 77 = some (5, 1) from rfl] at h; cases h; exact Or.inl ⟨rfl, rfl, rfl, rfl⟩
  · rw [show sw_fl 7 35 = some (6, 1) from rfl] at h; cases h; exact Or.inr ⟨rfl, rfl, rfl, rfl⟩
set_option maxRecDepth 100000 in
theorem sw_sv9 : Cond.fieldLink (sw_R 15) 9 "java/lang/String" "value" "[B" ∈ sw_T := sw_in (i := 2218) (by decide +kernel) rfl
set_option maxRecDepth 100000 in
theorem sw_sv15 : Cond.fieldLink (sw_R 15) 15 "java/lang/String" "coder" "B" ∈ sw_T := sw_in (i := 2217) (by decide +kernel) rfl
set_option maxRecDepth 100000 in
theorem sw_sv38 : Cond.fieldLink (sw_R 15) 38 "java/lang/String" "COMPACT_STRINGS" "Z" ∈ sw_T := sw_in (i := 932) (by decide +kernel) rfl
set_option maxRecDepth 100000 in
theorem sw_sv1053 : Cond.fieldLink (sw_R 15) 1053 "jdk/internal/util/Preconditions" "SIOOBE_FORMATTER" "Ljava/util/function/BiFunction;" ∈ sw_T := sw_in (i := 973) (by decide +kernel) rfl
section SWG
variable {l : Launch} {E : sw_E} {d B own nL : Nat} {cc : ByteArray} {rt : Option FieldType} {kr : Option Value → sw_M → Prop} {kx : Nat → sw_M → Prop} {p : Program} {e : Env} {R : Room} {s : State} {m : MethodId} {args : Array Value} {below : List Frame} {meth : Method} {c : Code} {A : Nat → Prop} {F : State → Prop} {k n : Nat} {pc : Nat} {ls : List (Option Value)} {st : List Value} {σ : sw_M}
theorem sw_g_get (C : sw_C E own cc nL p s m args c A) {idx ci j a : Nat} {r : List Value} (hf : sw_fl own idx = some (ci, j)) (ha : sw_kd a = (0, ci)) (hd : decode cc pc = .ok (.getfield idx, 3)) (g : sw_G l E nL p e R s m args below meth c A k n F (pc + 3) ls (sw_fv σ a ci j :: r) σ) : sw_G l E nL p e R s m args below meth c A k n F pc ls (.ref a :: r) σ := by
  intro H locs la hP hD hS hl
  obtain ⟨hx, hb, hml, hown, hts, hK, hN, -, -⟩ := C
  obtain ⟨q, hq, hj, hj2, hlink⟩ := sw_fl_ok hf
  have hal : a < 112 := sw_kd_lt ha (by decide)
  have hat : (sw_W E σ)[a]? = some (E.2.1 a, .inr (ci, sw_fs E σ a ci)) := by rw [sw_W_at E σ hal]; simp [sw_ce, ha]
  rcases hlink with hn | hlink
  · rcases sw_nest_ok hf hn with ⟨rfl, rfl, rfl, rfl⟩ | ⟨rfl, rfl, rfl, rfl⟩
    · cases hq
      exact va_getN (D := E.1) (ci := 5) (C := RX5) (T := TX5) (N := 2) (host := RX10) (ref := RX5) hx hb hts (sw_cl_in (ci := 5) rfl) hown hK hP a hat rfl 1 (by decide) (va_Nw.use rfl hN.1) (fun _ h => h) (sw_fs_at E σ a 5 hj2) hd (g H locs la hP hD hS hl)
    · cases hq
      exact va_getN (D := E.1) (ci := 6) (C := RX6) (T := TX6) (N := 9) (host := RX10) (ref := RX6) hx hb hts (sw_cl_in (ci := 6) rfl) hown hK hP a hat rfl 1 (by decide) (va_Nw.use rfl hN.2.1) (fun _ h => h) (sw_fs_at E σ a 6 hj2) hd (g H locs la hP hD hS hl)
  · exact va_get (D := E.1) (ci := ci) (C := q.1) (T := q.2.1) (N := q.2.2) (ref := (q.2.1 j).1) hx hb hts (sw_cl_in hq) hown hK hP a hat hq j hj (hts _ hlink) (fun _ h => h) (sw_fs_at E σ a ci hj2) hd (g H locs la hP hD hS hl)
theorem sw_g_put (C : sw_C E own cc nL p s m args c A) {idx ci j a : Nat} {v : Value} {r : List Value} {σ' : sw_M} (hf : sw_fl own idx = some (ci, j)) (hnest : sw_nest own idx = false) (ha : sw_kd a = (0, ci)) (hk : sw_fk ci j < 3) (hn : narrow (sw_tyf ci j) (sw_c E v) = sw_c E v) (hfit : fits (sw_tyf ci j) (sw_c E v) = true) (hw : (sw_W E σ).set a (E.2.1 a, .inr (ci, (sw_fs E σ a ci).set j (sw_c E v))) = sw_W E σ') (hd : decode cc pc = .ok (.putfield idx, 3)) (g : sw_G l E nL p e R s m args below meth c A k n F (pc + 3) ls r σ') : sw_G l E nL p e R s m args below meth c A k n F pc ls (v :: .ref a :: r) σ := by
  intro H locs la hP hD hS hl
  obtain ⟨hx, hb, hml, hown, hts, hK, hN, -, -⟩ := C
  obtain ⟨q, hq, hj, hj2, hlink⟩ := sw_fl_ok hf
  have hal : a < 112 := sw_kd_lt ha (by decide)
  have hat : (sw_W E σ)[a]? = some (E.2.1 a, .inr (ci, sw_fs E σ a ci)) := by rw [sw_W_at E σ hal]; simp [sw_ce, ha]
  have hty := (sw_cl_ty hq).2
  have hlink : Cond.fieldLink (sw_R own) idx (q.2.1 j).1 (q.2.1 j).2.1 (q.2.1 j).2.2.1 ∈ sw_T := hlink.elim (fun h => by rw [h] at hnest; cases hnest) id
  refine va_put (D := E.1) (ci := ci) (C := q.1) (T := q.2.1) (N := q.2.2) (ref := (q.2.1 j).1) (v := sw_c E v) hx hb hts (sw_cl_in hq) (sw_tyf ci) (fun j hj => (hty j hj).1) (sw_cl_nm hq) hown hK hP hD hS a hat hq j hj (hts _ hlink) (fun _ h => h) ((hty j hj).2.1.elim (fun h => absurd h (by omega)) id) (hty j hj).1 hn hfit (by rw [sw_fs_len]; exact hj2) hd (fun H1 locs1 hP1 hD1 hS1 => ?_)
  rw [hw] at hP1 hD1
  exact g H1 locs1 la hP1 hD1 hS1 hl
theorem sw_A_le {E : sw_E} {H : Heap} {locs : List Loc} (C : sw_C E own cc nL p s m args c A) (hS : va_S A s.heap H locs) : ∀ q, sw_A E H.size q → A q := by
  intro q h
  rcases h with ⟨k, hk, rfl⟩ | h
  · exact C.2.2.2.2.2.2.2.2 k hk
  · exact C.2.2.2.2.2.2.2.1 q (Nat.le_trans hS.1 h)
theorem sw_D_A {E : sw_E} {A : Nat → Prop} {σ : sw_M} (h : va_D A (sw_W E σ)) (hA : ∀ k, k < 112 → A (E.2.1 k)) (B : Nat → Prop) (hB : ∀ k, k < 112 → B (E.2.1 k)) : va_D B (sw_W E σ) := by
  refine ⟨h.1, fun i q hi => ?_⟩
  have hl := (List.getElem?_eq_some_iff.mp hi).1
  have : i < 112 := by simpa [sw_W] using hl
  rw [sw_W_at E σ this] at hi
  cases hi
  exact hB i this
theorem sw_pre (C : sw_C E own cc nL p s m args c A) {H : Heap} {locs : List Loc} (hP : va_P E.1 vwCl (sw_W E σ) H) (hD : va_D A (sw_W E σ)) (hS : va_S A s.heap H locs) {U : State} (hU : U.heap = H) (hW : s.WarmedH U.vm) : sw_H E σ H.size U := by
  refine ⟨by rw [hU], by rw [hU]; exact hP, va_K.moved hW.alike C.2.2.2.2.2.1, sw_D_A hD C.2.2.2.2.2.2.2.2 _ (fun _ _ => trivial), ?_⟩
  exact sw_N_call C.2.2.2.2.2.2.1 (by rw [hU]; exact hS.2.1) hW (sw_A_le C hS)
theorem sw_blind (av : List Value) (σ : sw_M) (sz : Nat) : FrameBlind (va_Pc av (sw_H E σ sz)) := by
  intro a U g mk h
  obtain ⟨h0, h1, h2, h3, h4, h5⟩ := h
  exact ⟨h0, h1, h2, va_K.moved (u := U) (U := U.calling g mk a) (Vm.Alike.refl U.vm) h3, h4, sw_N_same rfl rfl h5⟩
theorem sw_call (C : sw_C E own cc nL p s m args c A) {H : Heap} {locs : List Loc} {la : Array Slot} {st0 rest : List Value} {a : Array Value} {Q : Option Value → sw_M → Prop} (hr : va_Run p l e R s m args below meth c H locs k n 0 0 (F0 m pc la st0) rest (sw_Q E (sw_A E H.size) Q a) (sw_A E H.size)) (hS : va_S A s.heap H locs)
    (kk : ∀ (v : Option Value) (σ' : sw_M) (H1 : Heap) (locs1 : List Loc), Q v σ' → va_P E.1 vwCl (sw_W E σ') H1 → va_D A (sw_W E σ') → va_S A s.heap H1 locs1 → W p l e R s m args below meth c H1 locs1 k n F (F0 m (pc + 3) la ((v.map (sw_c E)).toList ++ rest))) : W p l e R s m args below meth c H locs k n F (F0 m pc la st0) := by
  intro T hT X
  obtain ⟨v, st₀, t, T', L, h0, X', hL, e1, e2, ⟨⟨r, σ', hv, hq, hP1, hD1⟩, hz, hk⟩, st⟩ := hr T hT X
  have hAle := sw_A_le C hS
  cases hv
  rw [h0] at hz hk
  have hS1 : va_S A s.heap T'.heap (locs ++ L) := by
    refine ⟨by rw [e1]; exact Nat.le_trans hS.1 hz, fun q h1 h2 => ?_, fun z hz => ?_⟩
    · rw [e1, hk q (Nat.lt_of_lt_of_le h1 hS.1) (fun h => h2 (hAle q h))]
      exact hS.2.1 q h1 h2
    · rcases List.mem_append.mp hz with h | h
      · exact hS.2.2 z h
      · exact hAle _ (hL z h)
  obtain ⟨t2, a1, b1⟩ := kk r σ' T'.heap (locs ++ L) hq (by rw [e1]; exact hP1) (sw_D_A hD1 (fun k hk => Or.inl ⟨k, hk, rfl⟩) _ C.2.2.2.2.2.2.2.2) hS1 T' rfl X'
  exact ⟨t2, st t2 a1, b1⟩
theorem sw_good {y : Nat} {w0 : Cond} (h : w0 ∈ sw_T) : GoodIn sw_T (w0 :: sw_T) := by
  intro w hw
  rcases List.mem_cons.mp hw with rfl | hw
  · exact ⟨h, good_of_word (sw_T_good h)⟩
  · exact ⟨hw, good_of_word (sw_T_good hw)⟩
theorem sw_sum {r : List Value} (h : r.length ≤ 4) : ((r.map (sw_c E)).map fun v => v.category).sum ≤ 8 := by
  have h2 : ∀ v : Value, v.category ≤ 2 := by intro v; cases v <;> simp [Value.category]
  have : ∀ l : List Value, ((l.map (sw_c E)).map fun v => v.category).sum ≤ 2 * l.length := by
    intro l
    induction l with
    | nil => simp
    | cons v l ih => simp only [List.map_cons, List.sum_cons, List.length_cons]; have := h2 (sw_c E v); omega
  have := this r
  omega
theorem sw_js_all : (List.range 12).all (fun i => (sw_mo (292 + i)).2.1 || decide ((sw_mt (292 + i)).1.cls = "java/lang/String")) = true := by decide +kernel
theorem sw_js {mn : Nat} (h1 : ¬ mn < 292) (h2 : mn < 304) (hst : (sw_mo mn).2.1 = false) : (sw_mt mn).1.cls = "java/lang/String" := by
  have h := List.all_eq_true.mp sw_js_all (mn - 292) (List.mem_range.mpr (by omega))
  rw [show 292 + (mn - 292) = mn by omega, hst] at h
  simpa using h
theorem sw_rv (C : sw_C E own cc nL p s m args c A) {H : Heap} {locs : List Loc} (hP : va_P E.1 vwCl (sw_W E σ) H) (hS : va_S A s.heap H locs) {mn a : Nat} {as : List Value} (hmn : mn < 304) (hst : (sw_mo mn).2.1 = false) (hrec : sw_recv mn (.ref a :: as)) : ∃ cell : Cell, H[E.2.1 a]? = some cell ∧ cell.vm.isStatics = false ∧ s.vm.findClass (sw_mt mn).1.cls = some cell.cls := by
  have w4 := (sw_mok hmn).2.2.2.1
  have hrec : if mn < 292 then sw_kd a = (0, (sw_mo mn).1) else sw_str a := hrec
  split at hrec
  · have hka : sw_kd a = (0, (sw_mo mn).1) := hrec
    have hal : a < 112 := sw_kd_lt hka (by decide)
    obtain ⟨q, hq⟩ := sw_kd_cl hka
    have hat : (sw_W E σ)[a]? = some (E.2.1 a, .inr ((sw_mo mn).1, sw_fs E σ a (sw_mo mn).1)) := by rw [sw_W_at E σ hal]; simp [sw_ce, hka]
    have hC : q.1 = (sw_mt mn).1.cls := by rw [sw_cl_R hq]; exact w4
    have hrv := va_recv C.2.2.2.2.2.1 hP hq hat
    rw [hC] at hrv
    exact hrv
  · rename_i hge
    rw [sw_js hge hmn hst]
    obtain ⟨h1, h2⟩ := hrec
    have h9 := vk_recv (i := a - 1000) C.2.2.2.2.2.2.1.2.2.2.1 (by omega) hS
    rw [show 1000 + (a - 1000) = a by omega] at h9
    exact h9
theorem sw_g_sget (C : sw_C E own cc nL p s m args c A) {idx a : Nat} {r : List Value} (h : sw_sget own idx a (fun v => sw_G l E nL p e R s m args below meth c A k n F (pc + 3) ls (v :: r) σ)) (hd : decode cc pc = .ok (.getfield idx, 3)) : sw_G l E nL p e R s m args below meth c A k n F pc ls (.ref a :: r) σ := by
  obtain ⟨ho, ⟨h1, h2⟩, h3⟩ := cond_yes h
  have ho := Nat.eq_of_beq_eq_true ho
  subst ho
  have hS9 := C.2.2.2.2.2.2.1.2.2.2.1.1 (a - 1000) (by omega)
  dsimp only at hS9
  rw [show 1000 + (a - 1000) = a by omega, show 2000 + (a - 1000) = a + 1000 by omega] at hS9
  intro H locs la hP hD hS hl
  cases hk : Nat.beq idx 9 with
  | true =>
    rw [hk] at h3
    have hk := Nat.eq_of_beq_eq_true hk
    subst hk
    exact vk_getf C.1 C.2.1 (ref := "java/lang/String") hS9.2.2.1 hS C.2.2.2.1 (C.2.2.2.2.1 _ sw_sv9) (fun _ h => h) hd (h3 H locs la hP hD hS hl)
  | false =>
    rw [hk] at h3
    obtain ⟨hk2, h3⟩ := cond_yes h3
    have hk2 := Nat.eq_of_beq_eq_true hk2
    subst hk2
    exact vk_getf C.1 C.2.1 (ref := "java/lang/String") hS9.2.1 hS C.2.2.2.1 (C.2.2.2.2.1 _ sw_sv15) (fun _ h => h) hd (h3 H locs la hP hD hS hl)
theorem sw_g_gets (C : sw_C E own cc nL p s m args c A) {idx : Nat} (h : cond (Nat.beq own 15) (cond (Nat.beq idx 38) (sw_G l E nL p e R s m args below meth c A k n F (pc + 3) ls (.int 1 :: st) σ) (cond (Nat.beq idx 1053) (sw_G l E nL p e R s m args below meth c A k n F (pc + 3) ls (.null :: st) σ ∧ sw_G l E nL p e R s m args below meth c A k n F (pc + 3) ls (.ref 3000 :: st) σ) False)) False) (hd : decode cc pc = .ok (.getstatic idx, 3)) : sw_G l E nL p e R s m args below meth c A k n F pc ls st σ := by
  obtain ⟨ho, h3⟩ := cond_yes h
  have ho := Nat.eq_of_beq_eq_true ho
  subst ho
  obtain ⟨-, -, -, -, -, -, -, -, hZ1, hZ2⟩ := C.2.2.2.2.2.2.1
  intro H locs la hP hD hS hl
  cases hk : Nat.beq idx 38 with
  | true =>
    rw [hk] at h3
    have hk := Nat.eq_of_beq_eq_true hk
    subst hk
    exact va_gets C.1 C.2.1 (ref := "java/lang/String") hZ1 hS C.2.2.2.1 (C.2.2.2.2.1 _ sw_sv38) (fun _ h => h) hd (h3 H locs la hP hD hS hl)
  | false =>
    rw [hk] at h3
    obtain ⟨hk2, h3⟩ := cond_yes h3
    have hk2 := Nat.eq_of_beq_eq_true hk2
    subst hk2
    rcases hZ2 with hZ2 | hZ2
    · exact va_gets C.1 C.2.1 (ref := "jdk/internal/util/Preconditions") hZ2 hS C.2.2.2.1 (C.2.2.2.2.1 _ sw_sv1053) (fun _ h => h) hd (h3.1 H locs la hP hD hS hl)
    · exact va_gets C.1 C.2.1 (ref := "jdk/internal/util/Preconditions") hZ2 hS C.2.2.2.1 (C.2.2.2.2.1 _ sw_sv1053) (fun _ h => h) hd (h3.2 H locs la hP hD hS hl)
theorem sw_g_callV (C : sw_C E own cc nL p s m args c A) (hRf : d + 1 ≤ R.frames) (hRl : 64 * (d + 1) ≤ R.locals) (hkc : k ≤ R.cells) (hkn : n ≤ R.slots) {idx mn : Nat} {av r : List Value} {Q : Option Value → sw_M → Prop} (hml : sw_ml own idx = some mn) (hmn : mn < 304) (hst : (sw_mo mn).2.1 = false) (hic : sw_isc mn = false) (hlen : av.length = (sw_mo mn).2.2 + 1) (hrec : sw_recv mn av) (hr : r.length ≤ 4) (hc : sw_Con l E d mn av σ Q) (hd : decode cc pc = .ok (.invokevirtual idx, 3)) (g : ∀ v σ', Q v σ' → sw_G l E nL p e R s m args below meth c A k n F (pc + 3) ls (v.toList ++ r) σ') : sw_G l E nL p e R s m args below meth c A k n F pc ls (av.reverse ++ r) σ := by
  intro H locs la hP hD hS hl
  obtain ⟨hcode, Q0, hQ, hM⟩ := hc
  obtain ⟨w1, w2, w3, w4, w5, w6, w7, w8, w9⟩ := sw_mok hmn
  have hlk : Cond.methodLink (sw_R own) idx (sw_mt mn).1 ∈ sw_T := (sw_ml_ok hml).elim (fun h => h.2) (fun h => absurd h.1 (by omega))
  rw [hst] at w1
  have w2 : Cond.selects (sw_mt mn).1.cls (sw_mt mn).1 (sw_mt mn).1 ∈ sw_T := w2.elim (fun h => by rw [hst] at h; cases h) (fun h => h.elim (fun h => by rw [hic] at h; cases h) id)
  match av, hrec, hlen with
  | .ref a :: as, hrec, hlen =>
    have hrv := sw_rv C hP hS hmn hst hrec
    have hG : GoodIn sw_T (wsV (sw_R own) idx (sw_mt mn).1.cls (sw_mt mn).1 (sw_ws mn)) := by
      intro w hw
      unfold wsV sw_ws at hw
      simp only [List.cons_append, List.nil_append, List.mem_cons] at hw
      have : w ∈ sw_T := by rcases hw with rfl | rfl | rfl | rfl | rfl | h <;> assumption
      exact ⟨this, good_of_word (sw_T_good this)⟩
    have hcw : CallW R s args (sw_R own) (sw_mt mn).1.cls idx (sw_mt mn).1 (sw_mt mn).2.1 (sw_mt mn).2.2.1 (sw_mt mn).2.2.2 (sw_ws mn) (sw_rm d 0) 0 0 (sw_mo mn).2.2 :=
      cwV (sw_mo mn).2.2 C.2.2.2.2.1 hG rfl rfl rfl ⟨rfl, w7, w8, w5⟩ ⟨hRf, by show 8 + ((sw_mt mn).2.2.1 + 11) + 64 * d ≤ R.locals; omega⟩
    have hrun := va_runV (e := e) (below := below) (meth := meth) (cells := k) (slots := n) (locs := locs) (g := F0 m pc la (((Value.ref a :: as).reverse ++ r).map (sw_c E))) (As := as.map (sw_c E)) (rest := r.map (sw_c E)) (b := E.2.1 a) ⟨C.1, C.2.1, C.2.2.1, C.2.2.2.1, C.2.2.2.2.1⟩ (hM H.size) hcw ⟨sw_blind _ σ H.size, hrv, fun U hU hW => ⟨by simp [sw_c], sw_pre C hP hD hS hU hW⟩⟩ rfl (by simpa using hlen) hl.1 (by simp [sw_c]) (lv_room (sw_sum hr)) hd ⟨by simpa using hkc, by simpa using hkn⟩
    refine sw_call C hrun hS (fun v σ' H1 locs1 hq1 hP1 hD1 hS1 => ?_)
    have := g v σ' (hQ v σ' hq1) H1 locs1 la hP1 hD1 hS1 hl
    have e9 : (v.map (sw_c E)).toList ++ r.map (sw_c E) = (v.toList ++ r).map (sw_c E) := by cases v <;> simp
    rw [e9]
    exact this
theorem sw_g_callS (C : sw_C E own cc nL p s m args c A) (hRf : d + 1 ≤ R.frames) (hRl : 64 * (d + 1) ≤ R.locals) (hkc : k ≤ R.cells) (hkn : n ≤ R.slots) {idx mn : Nat} {av r : List Value} {Q : Option Value → sw_M → Prop} (hml : sw_ml own idx = some mn) (hmn : mn < 304) (hst : (sw_mo mn).2.1 = true) (hlen : av.length = (sw_mo mn).2.2) (hr : r.length ≤ 4) (hc : sw_Con l E d mn av σ Q) (hd : decode cc pc = .ok (.invokestatic idx, 3)) (g : ∀ v σ', Q v σ' → sw_G l E nL p e R s m args below meth c A k n F (pc + 3) ls (v.toList ++ r) σ') : sw_G l E nL p e R s m args below meth c A k n F pc ls (av.reverse ++ r) σ := by
  intro H locs la hP hD hS hl
  obtain ⟨hcode, Q0, hQ, hM⟩ := hc
  obtain ⟨w1, w2, w3, w4, w5, w6, w7, w8, w9⟩ := sw_mok hmn
  have hlk : Cond.methodLink (sw_R own) idx (sw_mt mn).1 ∈ sw_T := (sw_ml_ok hml).elim (fun h => h.2) (fun h => absurd h.1 (by omega))
  rw [hst] at w1
  have hG : GoodIn sw_T (va_wsS (sw_R own) idx (sw_mt mn).1 (sw_ws mn)) := by
    intro w hw
    unfold va_wsS sw_ws at hw
    simp only [List.cons_append, List.nil_append, List.mem_cons] at hw
    have : w ∈ sw_T := by rcases hw with rfl | rfl | rfl | rfl | h <;> assumption
    exact ⟨this, good_of_word (sw_T_good this)⟩
  have hcw := va_cwS (R := R) (s := s) (args := args) (own := sw_R own) (index := idx) (y := (sw_mt mn).1) (bytes := (sw_mt mn).2.1) (maxL := (sw_mt mn).2.2.1) (ret := (sw_mt mn).2.2.2) (ws := sw_ws mn) (ws' := sw_T) (rm := sw_rm d 0) (mc := 0) (ms := 0) (sw_mo mn).2.2 C.2.2.2.2.1 hG rfl rfl rfl ⟨w7, w8, w5⟩ ⟨hRf, by show 8 + ((sw_mt mn).2.2.1 + 11) + 64 * d ≤ R.locals; omega⟩
  have hrun := va_runS (e := e) (below := below) (meth := meth) (cells := k) (slots := n) (locs := locs) (g := F0 m pc la ((av.reverse ++ r).map (sw_c E))) (As := av.map (sw_c E)) (rest := r.map (sw_c E)) ⟨C.1, C.2.1, C.2.2.1, C.2.2.2.1, C.2.2.2.2.1⟩ (hM H.size) hcw ⟨sw_blind _ σ H.size, fun U hU hW => ⟨rfl, sw_pre C hP hD hS hU hW⟩⟩ rfl (by simpa using hlen) hl.1 (by simp) (lv_room (sw_sum hr)) hd ⟨by simpa using hkc, by simpa using hkn⟩
  refine sw_call C hrun hS (fun v σ' H1 locs1 hq1 hP1 hD1 hS1 => ?_)
  have := g v σ' (hQ v σ' hq1) H1 locs1 la hP1 hD1 hS1 hl
  have e9 : (v.map (sw_c E)).toList ++ r.map (sw_c E) = (v.toList ++ r).map (sw_c E) := by cases v <;> simp
  rw [e9]
  exact this
end SWG
