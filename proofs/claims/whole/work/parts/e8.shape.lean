/-! The shapes of the law's cases (written by gen_law.py). -/
abbrev lwLS (i : Nat) : List (Option Value) := [some (.ref 4000), some (.ref 0), some (.ref 75), some (.ref 111), some (.int (nI i))]
noncomputable def LX (E : sw_E) (d : Nat) (p : Program) (R : Room) (s : State) (m : MethodId) (args : Array Value) (c : Code) (A : Nat → Prop) (k n L : Nat) (xs : Nat → Int32) : Prop := sw_C E 12 cL_law 7 p s m args c A ∧ va_X (E.2.1 4000) L xs s s.heap ∧ E.2.1 4000 < s.heap.size ∧ ¬ A (E.2.1 4000) ∧ va_Nc sw_xi1 sw_xi0 s ∧ L ≤ 3072 ∧ d + 2 ≤ R.frames ∧ 64 * (d + 2) ≤ R.locals ∧ k + 4 ≤ R.cells ∧ n + 24 ≤ R.slots
/-- a method of a side: its owner, how many arguments -/
noncomputable def MO (mn o na : Nat) : Prop := mn < 292 ∧ (sw_mo mn).1 = o ∧ (sw_mo mn).2.1 = false ∧ (sw_mo mn).2.2 = na ∧ sw_isc mn = false
abbrev QNo (l : Launch) (E : sw_E) (d mm : Nat) (av : List Value) (c : Nat) : Option Value → sw_M → Prop := fun r τ => rsh 0 r ∧ ∀ f : Nat → Int64, sw_Con l E d mm (.ref 75 :: av) (sw_sL τ 111 f) (fun r2 υ => r2 = r ∧ υ.1 75 0 = 0 ∧ υ.2 111 = f ∧ INV υ (c + 1))
abbrev QEx (l : Launch) (E : sw_E) (d mm : Nat) (ec : Nat → Int32) (av : List Value) (c : Nat) : Nat → sw_M → Prop := fun i τ => ec i ≠ 0 ∧ sw_Con l E d mm (.ref 75 :: av) τ (fun r2 υ => rsh 0 r2 ∧ υ.1 75 0 = ec i ∧ INV υ (c + 1))
/-- what the law needs of a catching method -/
noncomputable def WO (idx nY na : Nat) (y : MethodName) : Prop := Cond.methodLink (sw_R 12) idx y ∈ sw_T ∧ Cond.static y ∈ sw_T ∧ Cond.initialized y.cls ∈ sw_T ∧ (y.cls ≠ "java/lang/invoke/MethodHandle" ∧ y.cls ≠ "java/lang/invoke/VarHandle") ∧ (parseMethodDescriptor y.desc).map (fun d => d.parameters.length) = some na ∧ nY ≤ 30
theorem vpu0 {g : Nat → Int64} {u : Int64} : vp_updL g 0 u (Int32.toNatClampNeg 0) = u := if_pos rfl
theorem rsh_l {r : Option Value} (h : rsh 1 r) : ∃ v : Int64, r = some (.long v) := by
  unfold rsh at h
  split at h
  · rename_i h1; cases h1
  · exact ⟨_, rfl⟩
  · rename_i h1; cases h1
  · exact h.elim
theorem rsh_v {r : Option Value} (h : rsh 2 r) : r = none := by
  unfold rsh at h
  split at h
  · rename_i h1; cases h1
  · rename_i h1; cases h1
  · rfl
  · exact h.elim
section
variable {l : Launch} {E : sw_E} {d : Nat} {p : Program} {e : Env} {R : Room} {s : State} {m : MethodId} {args : Array Value} {below : List Frame} {meth : Method} {c : Code} {A : Nat → Prop} {F : State → Prop} {k n : Nat} {L : Nat} {xs : Nat → Int32} {i cN : Nat} {σ : sw_M}

set_option maxHeartbeats 2000000 in
theorem law_A0_0 {q ix im xm mm : Nat} {o : Int} (X : LX E d p R s m args c A k n L xs) (hi : i + 6 ≤ L) (hk : lw_ck q [(.aload_n 1, 1), (.invokevirtual ix, 3), (.aload_n 2, 1), (.invokevirtual im, 3), (.if_icmp .eq o, 3)] = true) (ho : ((q + 1 + 3 + 1 + 3 : Nat) : Int) + o = ((2201 : Nat) : Int)) (h1 : sw_ml 12 ix = some xm) (h2 : sw_ml 12 im = some mm) (hx : MO xm 10 0) (hm : MO mm 11 0) (hp : PAIR l E 0 d xm mm [] σ cN) (K : ∀ υ, INV υ (cN + 1) → sw_G l E 7 p e R s m args below meth c A (k + 4) (n + 24) F 2201 (lwLS i) [] υ) : sw_G l E 7 p e R s m args below meth c A k n F q (lwLS i) [] σ := by
  obtain ⟨C, hX, hbl, hbA, hNc, hL, hRf, hRl, hkc, hkn⟩ := X
  simp only [lw_ck, Bool.and_eq_true, decide_eq_true_eq, and_true] at hk
  obtain ⟨d0, d1, d2, d3, d4⟩ := hk
  refine gg_al C d0 rfl ?_
  refine sw_g_callV (d := d) (av := [.ref 0]) (r := []) C (by omega) (by omega) (by omega) (by omega) h1 (by have := hx.1; omega) hx.2.2.1 hx.2.2.2.2 (by rw [hx.2.2.2.1]; rfl) (rec0 hx.1 hx.2.1) (Nat.le_of_ble_eq_true rfl) (hp) d1 (fun r τ hq => ?_)
  obtain ⟨hs, hc2⟩ := hq
  obtain ⟨v, rfl⟩ := rsh_el hs
  refine gg_al C d2 rfl ?_
  refine sw_g_callV (d := d) (av := [.ref 75]) (r := [.int v]) C (by omega) (by omega) (by omega) (by omega) h2 (by have := hm.1; omega) hm.2.2.1 hm.2.2.2.2 (by rw [hm.2.2.2.1]; rfl) (rec75 hm.1 hm.2.1) (Nat.le_of_ble_eq_true rfl) (hc2) d3 (fun r2 υ hq => ?_)
  obtain ⟨rfl, hI⟩ := hq
  exact gg_ieq (x := v) (y := v) (r := []) C d4 ho (fun _ => gg_wide (Nat.le_add_right k 4) (Nat.le_add_right n 24) (K υ hI)) (fun w => absurd rfl w)

set_option maxHeartbeats 2000000 in
theorem law_A0_1 {q ix im xm mm : Nat} {o : Int} (X : LX E d p R s m args c A k n L xs) (hi : i + 6 ≤ L) (hk : lw_ck q [(.aload_n 1, 1), (.invokevirtual ix, 3), (.aload_n 2, 1), (.invokevirtual im, 3), (.lcmp, 1), (.ifCond .eq o, 3)] = true) (ho : ((q + 1 + 3 + 1 + 3 + 1 : Nat) : Int) + o = ((2201 : Nat) : Int)) (h1 : sw_ml 12 ix = some xm) (h2 : sw_ml 12 im = some mm) (hx : MO xm 10 0) (hm : MO mm 11 0) (hp : PAIR l E 1 d xm mm [] σ cN) (K : ∀ υ, INV υ (cN + 1) → sw_G l E 7 p e R s m args below meth c A (k + 4) (n + 24) F 2201 (lwLS i) [] υ) : sw_G l E 7 p e R s m args below meth c A k n F q (lwLS i) [] σ := by
  obtain ⟨C, hX, hbl, hbA, hNc, hL, hRf, hRl, hkc, hkn⟩ := X
  simp only [lw_ck, Bool.and_eq_true, decide_eq_true_eq, and_true] at hk
  obtain ⟨d0, d1, d2, d3, d4, d5⟩ := hk
  refine gg_al C d0 rfl ?_
  refine sw_g_callV (d := d) (av := [.ref 0]) (r := []) C (by omega) (by omega) (by omega) (by omega) h1 (by have := hx.1; omega) hx.2.2.1 hx.2.2.2.2 (by rw [hx.2.2.2.1]; rfl) (rec0 hx.1 hx.2.1) (Nat.le_of_ble_eq_true rfl) (hp) d1 (fun r τ hq => ?_)
  obtain ⟨hs, hc2⟩ := hq
  obtain ⟨v, rfl⟩ := rsh_l hs
  refine gg_al C d2 rfl ?_
  refine sw_g_callV (d := d) (av := [.ref 75]) (r := [.long v]) C (by omega) (by omega) (by omega) (by omega) h2 (by have := hm.1; omega) hm.2.2.1 hm.2.2.2.2 (by rw [hm.2.2.2.1]; rfl) (rec75 hm.1 hm.2.1) (Nat.le_of_ble_eq_true rfl) (hc2) d3 (fun r2 υ hq => ?_)
  obtain ⟨rfl, hI⟩ := hq
  exact gg_lcmp (u := v) (v := v) (r := []) C d4 (gg_eq C d5 ho (fun _ => gg_wide (Nat.le_add_right k 4) (Nat.le_add_right n 24) (K υ hI)) (fun w => absurd (lc_self v) w))

set_option maxHeartbeats 2000000 in
theorem law_A0_2 {q ix im xm mm : Nat} {o : Int} (X : LX E d p R s m args c A k n L xs) (hi : i + 6 ≤ L) (hk : lw_ck q [(.aload_n 1, 1), (.invokevirtual ix, 3), (.aload_n 2, 1), (.invokevirtual im, 3), (.goto o, 3)] = true) (ho : ((q + 1 + 3 + 1 + 3 : Nat) : Int) + o = ((2201 : Nat) : Int)) (h1 : sw_ml 12 ix = some xm) (h2 : sw_ml 12 im = some mm) (hx : MO xm 10 0) (hm : MO mm 11 0) (hp : PAIR l E 2 d xm mm [] σ cN) (K : ∀ υ, INV υ (cN + 1) → sw_G l E 7 p e R s m args below meth c A (k + 4) (n + 24) F 2201 (lwLS i) [] υ) : sw_G l E 7 p e R s m args below meth c A k n F q (lwLS i) [] σ := by
  obtain ⟨C, hX, hbl, hbA, hNc, hL, hRf, hRl, hkc, hkn⟩ := X
  simp only [lw_ck, Bool.and_eq_true, decide_eq_true_eq, and_true] at hk
  obtain ⟨d0, d1, d2, d3, d4⟩ := hk
  refine gg_al C d0 rfl ?_
  refine sw_g_callV (d := d) (av := [.ref 0]) (r := []) C (by omega) (by omega) (by omega) (by omega) h1 (by have := hx.1; omega) hx.2.2.1 hx.2.2.2.2 (by rw [hx.2.2.2.1]; rfl) (rec0 hx.1 hx.2.1) (Nat.le_of_ble_eq_true rfl) (hp) d1 (fun r τ hq => ?_)
  obtain ⟨hs, hc2⟩ := hq
  obtain rfl := rsh_v hs
  refine gg_al C d2 rfl ?_
  refine sw_g_callV (d := d) (av := [.ref 75]) (r := []) C (by omega) (by omega) (by omega) (by omega) h2 (by have := hm.1; omega) hm.2.2.1 hm.2.2.2.2 (by rw [hm.2.2.2.1]; rfl) (rec75 hm.1 hm.2.1) (Nat.le_of_ble_eq_true rfl) (hc2) d3 (fun r2 υ hq => ?_)
  obtain ⟨rfl, hI⟩ := hq
  exact gg_goto C d4 ho (gg_wide (Nat.le_add_right k 4) (Nat.le_add_right n 24) (K υ hI))

set_option maxHeartbeats 2000000 in
theorem law_A1_0 {q ix im xm mm : Nat} {o : Int} (X : LX E d p R s m args c A k n L xs) (hi : i + 6 ≤ L) (hk : lw_ck q [(.aload_n 1, 1), (.aload_n 0, 1), (.iload 4, 2), (.iconst 1, 1), (.iadd, 1), (.iaload, 1), (.invokevirtual ix, 3), (.aload_n 2, 1), (.aload_n 0, 1), (.iload 4, 2), (.iconst 1, 1), (.iadd, 1), (.iaload, 1), (.invokevirtual im, 3), (.if_icmp .eq o, 3)] = true) (ho : ((q + 1 + 1 + 2 + 1 + 1 + 1 + 3 + 1 + 1 + 2 + 1 + 1 + 1 + 3 : Nat) : Int) + o = ((2201 : Nat) : Int)) (h1 : sw_ml 12 ix = some xm) (h2 : sw_ml 12 im = some mm) (hx : MO xm 10 1) (hm : MO mm 11 1) (hp : PAIR l E 0 d xm mm [.int (xs (i + 1))] σ cN) (K : ∀ υ, INV υ (cN + 1) → sw_G l E 7 p e R s m args below meth c A (k + 4) (n + 24) F 2201 (lwLS i) [] υ) : sw_G l E 7 p e R s m args below meth c A k n F q (lwLS i) [] σ := by
  obtain ⟨C, hX, hbl, hbA, hNc, hL, hRf, hRl, hkc, hkn⟩ := X
  simp only [lw_ck, Bool.and_eq_true, decide_eq_true_eq, and_true] at hk
  obtain ⟨d0, d1, d2, d3, d4, d5, d6, d7, d8, d9, d10, d11, d12, d13, d14⟩ := hk
  refine gg_al C d0 rfl ?_
  refine gg_arg C hX hbl hbA (i := i) (j := 1) (by omega) hL rfl rfl d1 d2 d3 rfl d4 d5 ?_
  refine sw_g_callV (d := d) (av := [.ref 0, .int (xs (i + 1))]) (r := []) C (by omega) (by omega) (by omega) (by omega) h1 (by have := hx.1; omega) hx.2.2.1 hx.2.2.2.2 (by rw [hx.2.2.2.1]; rfl) (rec0 hx.1 hx.2.1) (Nat.le_of_ble_eq_true rfl) (hp) d6 (fun r τ hq => ?_)
  obtain ⟨hs, hc2⟩ := hq
  obtain ⟨v, rfl⟩ := rsh_el hs
  refine gg_al C d7 rfl ?_
  refine gg_arg C hX hbl hbA (i := i) (j := 1) (by omega) hL rfl rfl d8 d9 d10 rfl d11 d12 ?_
  refine sw_g_callV (d := d) (av := [.ref 75, .int (xs (i + 1))]) (r := [.int v]) C (by omega) (by omega) (by omega) (by omega) h2 (by have := hm.1; omega) hm.2.2.1 hm.2.2.2.2 (by rw [hm.2.2.2.1]; rfl) (rec75 hm.1 hm.2.1) (Nat.le_of_ble_eq_true rfl) (hc2) d13 (fun r2 υ hq => ?_)
  obtain ⟨rfl, hI⟩ := hq
  exact gg_ieq (x := v) (y := v) (r := []) C d14 ho (fun _ => gg_wide (Nat.le_add_right k 4) (Nat.le_add_right n 24) (K υ hI)) (fun w => absurd rfl w)

set_option maxHeartbeats 2000000 in
theorem law_A5_0 {q ix im xm mm : Nat} {o : Int} (X : LX E d p R s m args c A k n L xs) (hi : i + 6 ≤ L) (hk : lw_ck q [(.aload_n 1, 1), (.aload_n 0, 1), (.iload 4, 2), (.iconst 1, 1), (.iadd, 1), (.iaload, 1), (.aload_n 0, 1), (.iload 4, 2), (.iconst 2, 1), (.iadd, 1), (.iaload, 1), (.aload_n 0, 1), (.iload 4, 2), (.iconst 3, 1), (.iadd, 1), (.iaload, 1), (.aload_n 0, 1), (.iload 4, 2), (.iconst 4, 1), (.iadd, 1), (.iaload, 1), (.aload_n 0, 1), (.iload 4, 2), (.iconst 5, 1), (.iadd, 1), (.iaload, 1), (.invokevirtual ix, 3), (.aload_n 2, 1), (.aload_n 0, 1), (.iload 4, 2), (.iconst 1, 1), (.iadd, 1), (.iaload, 1), (.aload_n 0, 1), (.iload 4, 2), (.iconst 2, 1), (.iadd, 1), (.iaload, 1), (.aload_n 0, 1), (.iload 4, 2), (.iconst 3, 1), (.iadd, 1), (.iaload, 1), (.aload_n 0, 1), (.iload 4, 2), (.iconst 4, 1), (.iadd, 1), (.iaload, 1), (.aload_n 0, 1), (.iload 4, 2), (.iconst 5, 1), (.iadd, 1), (.iaload, 1), (.invokevirtual im, 3), (.if_icmp .eq o, 3)] = true) (ho : ((q + 1 + 1 + 2 + 1 + 1 + 1 + 1 + 2 + 1 + 1 + 1 + 1 + 2 + 1 + 1 + 1 + 1 + 2 + 1 + 1 + 1 + 1 + 2 + 1 + 1 + 1 + 3 + 1 + 1 + 2 + 1 + 1 + 1 + 1 + 2 + 1 + 1 + 1 + 1 + 2 + 1 + 1 + 1 + 1 + 2 + 1 + 1 + 1 + 1 + 2 + 1 + 1 + 1 + 3 : Nat) : Int) + o = ((2201 : Nat) : Int)) (h1 : sw_ml 12 ix = some xm) (h2 : sw_ml 12 im = some mm) (hx : MO xm 10 5) (hm : MO mm 11 5) (hp : PAIR l E 0 d xm mm [.int (xs (i + 1)), .int (xs (i + 2)), .int (xs (i + 3)), .int (xs (i + 4)), .int (xs (i + 5))] σ cN) (K : ∀ υ, INV υ (cN + 1) → sw_G l E 7 p e R s m args below meth c A (k + 4) (n + 24) F 2201 (lwLS i) [] υ) : sw_G l E 7 p e R s m args below meth c A k n F q (lwLS i) [] σ := by
  obtain ⟨C, hX, hbl, hbA, hNc, hL, hRf, hRl, hkc, hkn⟩ := X
  simp only [lw_ck, Bool.and_eq_true, decide_eq_true_eq, and_true] at hk
  obtain ⟨d0, d1, d2, d3, d4, d5, d6, d7, d8, d9, d10, d11, d12, d13, d14, d15, d16, d17, d18, d19, d20, d21, d22, d23, d24, d25, d26, d27, d28, d29, d30, d31, d32, d33, d34, d35, d36, d37, d38, d39, d40, d41, d42, d43, d44, d45, d46, d47, d48, d49, d50, d51, d52, d53, d54⟩ := hk
  refine gg_al C d0 rfl ?_
  refine gg_arg C hX hbl hbA (i := i) (j := 1) (by omega) hL rfl rfl d1 d2 d3 rfl d4 d5 ?_
  refine gg_arg C hX hbl hbA (i := i) (j := 2) (by omega) hL rfl rfl d6 d7 d8 rfl d9 d10 ?_
  refine gg_arg C hX hbl hbA (i := i) (j := 3) (by omega) hL rfl rfl d11 d12 d13 rfl d14 d15 ?_
  refine gg_arg C hX hbl hbA (i := i) (j := 4) (by omega) hL rfl rfl d16 d17 d18 rfl d19 d20 ?_
  refine gg_arg C hX hbl hbA (i := i) (j := 5) (by omega) hL rfl rfl d21 d22 d23 rfl d24 d25 ?_
  refine sw_g_callV (d := d) (av := [.ref 0, .int (xs (i + 1)), .int (xs (i + 2)), .int (xs (i + 3)), .int (xs (i + 4)), .int (xs (i + 5))]) (r := []) C (by omega) (by omega) (by omega) (by omega) h1 (by have := hx.1; omega) hx.2.2.1 hx.2.2.2.2 (by rw [hx.2.2.2.1]; rfl) (rec0 hx.1 hx.2.1) (Nat.le_of_ble_eq_true rfl) (hp) d26 (fun r τ hq => ?_)
  obtain ⟨hs, hc2⟩ := hq
  obtain ⟨v, rfl⟩ := rsh_el hs
  refine gg_al C d27 rfl ?_
  refine gg_arg C hX hbl hbA (i := i) (j := 1) (by omega) hL rfl rfl d28 d29 d30 rfl d31 d32 ?_
  refine gg_arg C hX hbl hbA (i := i) (j := 2) (by omega) hL rfl rfl d33 d34 d35 rfl d36 d37 ?_
  refine gg_arg C hX hbl hbA (i := i) (j := 3) (by omega) hL rfl rfl d38 d39 d40 rfl d41 d42 ?_
  refine gg_arg C hX hbl hbA (i := i) (j := 4) (by omega) hL rfl rfl d43 d44 d45 rfl d46 d47 ?_
  refine gg_arg C hX hbl hbA (i := i) (j := 5) (by omega) hL rfl rfl d48 d49 d50 rfl d51 d52 ?_
  refine sw_g_callV (d := d) (av := [.ref 75, .int (xs (i + 1)), .int (xs (i + 2)), .int (xs (i + 3)), .int (xs (i + 4)), .int (xs (i + 5))]) (r := [.int v]) C (by omega) (by omega) (by omega) (by omega) h2 (by have := hm.1; omega) hm.2.2.1 hm.2.2.2.2 (by rw [hm.2.2.2.1]; rfl) (rec75 hm.1 hm.2.1) (Nat.le_of_ble_eq_true rfl) (hc2) d53 (fun r2 υ hq => ?_)
  obtain ⟨rfl, hI⟩ := hq
  exact gg_ieq (x := v) (y := v) (r := []) C d54 ho (fun _ => gg_wide (Nat.le_add_right k 4) (Nat.le_add_right n 24) (K υ hI)) (fun w => absurd rfl w)

end
