/-! A contract out of the code's walk. -/
theorem sw_args_in {E : sw_E} : ∀ (av : List Value) (k j : Nat) (v : Value), (∀ w ∈ av, w.category = 1) → sw_nth (av.map some) j = some v → (k + j, sw_c E v) ∈ lv_args k (av.map (sw_c E))
  | [], k, j, v, _, h => by simp [sw_nth] at h
  | a :: av, k, 0, v, hc, h => by
    simp only [List.map_cons, sw_nth, Option.some.injEq] at h
    subst h
    simp [lv_args]
  | a :: av, k, j + 1, v, hc, h => by
    simp only [List.map_cons, sw_nth] at h
    have h1 := sw_args_in (E := E) av (k + 1) j v (fun w hw => hc w (List.mem_cons_of_mem _ hw)) h
    have hca : (sw_c E a).category = 1 := by rw [sw_c_cat]; exact hc a List.mem_cons_self
    simp only [List.map_cons, lv_args, hca]
    rw [if_neg (by decide)]
    refine List.mem_cons_of_mem _ ?_
    have : k + (j + 1) = k + 1 + j := by omega
    rw [this]
    exact h1
theorem sw_sl_len {E : sw_E} : ∀ (av : List Value), (∀ w ∈ av, w.category = 1) → (lg_sl (av.map (sw_c E))).length = av.length
  | [], _ => rfl
  | a :: av, hc => by
    have h1 := sw_sl_len (E := E) av (fun w hw => hc w (List.mem_cons_of_mem _ hw))
    have hca : (sw_c E a).category = 1 := by rw [sw_c_cat]; exact hc a List.mem_cons_self
    unfold lg_sl at h1 ⊢
    simp only [List.map_cons, List.flatMap_cons, hca, List.length_append, h1]
    rw [if_neg (by decide)]
    simp
    omega
theorem sw_lh_entry {E : sw_E} {av : List Value} {nL : Nat} (hc : ∀ w ∈ av, w.category = 1) (hl : av.length ≤ nL) : sw_lh E ((lg_sl (av.map (sw_c E)) ++ List.replicate (nL - (lg_sl (av.map (sw_c E))).length) Slot.unset).toArray) nL (av.map some) := by
  have h := lv_entry (av.map (sw_c E)) (n := nL) (by rw [sw_sl_len av hc]; exact hl)
  refine ⟨h.1, h.2.1, fun j v hv => ?_⟩
  have := h.2.2 (j, sw_c E v) (by have := sw_args_in (E := E) av 0 j v hc hv; rwa [Nat.zero_add] at this)
  exact this
theorem sw_con {l : Launch} {E : sw_E} {d n i : Nat} {av : List Value} {σ : sw_M} {Q : Option Value → sw_M → Prop} {y : MethodName} {cc : ByteArray} {nL own : Nat} {rt : Option FieldType} (hn : n < 304) (hm : sw_mt n = (y, cc, nL, rt)) (ho : (sw_mo n).1 = own) (hw : lw_tbl[i]? = some (.code (sw_mt n).1 (sw_mt n).2.1 (sw_mt n).2.2.1 (sw_mt n).2.2.2)) (hc : ∀ w ∈ av, w.category = 1) (hl : av.length ≤ nL)
    (h : sw_V l E d own cc nL rt Q (fun _ _ => False) 0 0 (av.map some) [] σ) : sw_Con l E (d + 1) n av σ Q := by
  obtain ⟨w1, w2, w3, w4, w5, w6, w7, w8, w9⟩ := sw_mok hn
  refine ⟨sw_in hw rfl, Q, fun _ _ h => h, fun sz => ?_⟩
  refine va_MetF (cc := (sw_mt n).2.1) (maxL := (sw_mt n).2.2.1) (ret := (sw_mt n).2.2.2) (ws' := sw_T) w6 rfl ?_
  intro p e s m args below meth c s₁ B hml hv
  obtain ⟨rfl, hsz, hP, hK, hD0, hN⟩ := hv
  subst hsz
  have hts : ∀ w ∈ sw_ws n, w.before (av.map (sw_c E)).toArray s = true := atoms_spec (ws := sw_ws n) B.pre
  have hown : s.vm.findClass (sw_mt n).1.cls = some m.cls := findClass_of_methodNamed B.named
  rw [← w4, ho] at hown
  rw [hm] at hml B ⊢
  have C : sw_C E own cc nL p s m (av.map (sw_c E)).toArray c (sw_A E s.heap.size) := ⟨B.exec, B.bytes, hml, hown, fun w hw => hts w (List.mem_cons_of_mem _ hw), hK, hN, fun q hq => Or.inr hq, fun k hk => Or.inl ⟨k, hk, rfl⟩⟩
  have hg := sw_sound (l := l) (d := d) (B := 0) (e := e) (R := (headSpec (sw_ws n) (sw_rm (d + 1) 0)).room) (below := below) (meth := meth) (F := MQ below (sw_Q E (sw_A E s.heap.size) Q) (av.map (sw_c E)).toArray s 0 0 (sw_A E s.heap.size)) C (Nat.le_refl _) (Nat.le_refl _) (Nat.zero_le _) (Nat.zero_le _) B.returns B.notSynchronized (fun _ _ _ k => k) (fun b pc k x ls st σ hb => absurd hb (by omega)) (fun b pc idx mn av r ls σ Q hb => absurd hb (by omega)) h (Nat.le_refl 0)
  have hl2 := sw_lh_entry (E := E) hc hl
  rw [lg_entry_eq]
  exact hg s.heap [] _ hP (sw_D_A hD0 (fun _ _ => trivial) _ (fun k hk => Or.inl ⟨k, hk, rfl⟩)) va_S.rf hl2
theorem sw_j_eq {pc t : Nat} {off : Int} {k : Nat → Prop} (h : (pc : Int) + off = (t : Int)) : sw_j pc off k ↔ k t := by
  unfold sw_j
  rw [h]
-- rows by which the walk is worked out
theorem wI {x : Int32} {r : List Value} {f : Int32 → List Value → Prop} : tI (.int x :: r) f = f x r := rfl
theorem wL {x : Int64} {r : List Value} {f : Int64 → List Value → Prop} : tL (.long x :: r) f = f x r := rfl
theorem wR {x : Nat} {r : List Value} {f : Nat → List Value → Prop} : tR (.ref x :: r) f = f x r := rfl
theorem w1i {x : Int32} {r : List Value} {f : Value → List Value → Prop} : t1 (.int x :: r) f = f (.int x) r := rfl
theorem w1r {x : Nat} {r : List Value} {f : Value → List Value → Prop} : t1 (.ref x :: r) f = f (.ref x) r := rfl
theorem woI {x : Int32} {f : Int32 → Prop} : oI (some (.int x)) f = f x := rfl
theorem woL {x : Int64} {f : Int64 → Prop} : oL (some (.long x)) f = f x := rfl
theorem woR {x : Nat} {f : Nat → Prop} : oR (some (.ref x)) f = f x := rfl
theorem wn0 {a : Option Value} {l : List (Option Value)} : sw_nth (a :: l) 0 = a := rfl
theorem wnS {a : Option Value} {l : List (Option Value)} {j : Nat} : sw_nth (a :: l) (j + 1) = sw_nth l j := rfl
theorem wp00 {v : Option Value} : sw_put [] 0 v = [v] := rfl
theorem wp0S {v : Option Value} {j : Nat} : sw_put [] (j + 1) v = none :: sw_put [] j v := rfl
theorem wp0 {a v : Option Value} {l : List (Option Value)} : sw_put (a :: l) 0 v = v :: l := rfl
theorem wpS {a v : Option Value} {l : List (Option Value)} {j : Nat} : sw_put (a :: l) (j + 1) v = a :: sw_put l j v := rfl
theorem wl0 {l : List (Option Value)} : sw_nl l 0 = True := rfl
theorem wlS {l : List (Option Value)} {j : Nat} : sw_nl l (j + 1) = sw_n1 (sw_nth l j) := rfl
theorem w1I {x : Int32} : sw_n1 (some (.int x)) = True := eq_true rfl
theorem w1R {x : Nat} : sw_n1 (some (.ref x)) = True := eq_true rfl
theorem w1N : sw_n1 none = True := rfl
theorem wA0 {acc st : List Value} {f : List Value → List Value → Prop} : tA 0 acc st f = f acc st := rfl
theorem wAS {k : Nat} {acc st : List Value} {v : Value} {f : List Value → List Value → Prop} : tA (k + 1) acc (v :: st) f = tA k (v :: acc) st f := rfl
theorem wrv {n a : Nat} {r : List Value} : sw_recv n (.ref a :: r) = (if n < 292 then sw_kd a = (0, (sw_mo n).1) else sw_str a) := rfl
theorem wmI {σ : sw_M} {k i : Nat} {f : Nat → Int32} : (sw_sI σ k f).1 i = if i = k then f else σ.1 i := rfl
theorem wmI2 {σ : sw_M} {k : Nat} {f : Nat → Int32} : (sw_sI σ k f).2 = σ.2 := rfl
theorem wmL {σ : sw_M} {k i : Nat} {f : Nat → Int64} : (sw_sL σ k f).2 i = if i = k then f else σ.2 i := rfl
theorem wmL1 {σ : sw_M} {k : Nat} {f : Nat → Int64} : (sw_sL σ k f).1 = σ.1 := rfl
section SWN
variable {l : Launch} {E : sw_E} {d own nL : Nat} {cc : ByteArray} {rt : Option FieldType} {kr : Option Value → sw_M → Prop} {kx : Nat → sw_M → Prop} {b pc : Nat} {ls : List (Option Value)} {st : List Value} {σ : sw_M}
theorem sw_V_ic {n : Int} {v : Int32} (hd : decode cc pc = .ok (.iconst n, 1)) (hv : Int32.ofInt n = v) : sw_V l E d own cc nL rt kr kx b pc ls st σ ↔ sw_V l E d own cc nL rt kr kx b (pc + 1) ls (.int v :: st) σ := by
  subst hv
  exact sw_V_iff hd
theorem sw_V_bp {n : Int} {v : Int32} (hd : decode cc pc = .ok (.bipush n, 2)) (hv : (Int8.ofInt n).toInt32 = v) : sw_V l E d own cc nL rt kr kx b pc ls st σ ↔ sw_V l E d own cc nL rt kr kx b (pc + 2) ls (.int v :: st) σ := by
  subst hv
  exact sw_V_iff hd
theorem sw_V_sp {n : Int} {v : Int32} (hd : decode cc pc = .ok (.sipush n, 3)) (hv : (Int16.ofInt n).toInt32 = v) : sw_V l E d own cc nL rt kr kx b pc ls st σ ↔ sw_V l E d own cc nL rt kr kx b (pc + 3) ls (.int v :: st) σ := by
  subst hv
  exact sw_V_iff hd
theorem sw_V_ii {k : Nat} {n : Int} {v : Int32} (hd : decode cc pc = .ok (.iinc k n, 3)) (hv : Int32.ofInt n = v) : sw_V l E d own cc nL rt kr kx b pc ls st σ ↔ oI (sw_nth ls k) fun x => sw_nl ls k ∧ sw_V l E d own cc nL rt kr kx b (pc + 3) (sw_put ls k (some (.int (x + v)))) st σ := by
  subst hv
  exact sw_V_iff hd
end SWN
