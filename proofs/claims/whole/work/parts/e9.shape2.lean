/-! The shapes of the law's cases with a catching method (written by gen_law.py). -/
section
variable {l : Launch} {E : sw_E} {d : Nat} {p : Program} {e : Env} {R : Room} {s : State} {m : MethodId} {args : Array Value} {below : List Frame} {meth : Method} {c : Code} {A : Nat → Prop} {F : State → Prop} {k n : Nat} {L : Nat} {xs : Nat → Int32} {i cN : Nat} {σ : sw_M}

set_option maxHeartbeats 2000000 in
theorem law_B1 {q iw im mm nY : Nat} {o : Int} {y : MethodName} {cy : ByteArray} {hh : List (Nat × Nat × Nat × Nat)} {ec : Nat → Int32} (X : LX E d p R s m args c A k n L xs) (hi : i + 6 ≤ L) (h64 : 64 < d) (hk : lw_ck q [(.aload_n 1, 1), (.aload_n 0, 1), (.iload 4, 2), (.iconst 1, 1), (.iadd, 1), (.iaload, 1), (.aload_n 3, 1), (.invokestatic iw, 3), (.istore 5, 2), (.aload_n 2, 1), (.aload_n 0, 1), (.iload 4, 2), (.iconst 1, 1), (.iadd, 1), (.iaload, 1), (.invokevirtual im, 3), (.istore 6, 2), (.aload_n 2, 1), (.invokevirtual 114, 3), (.iload 5, 2), (.if_icmp .eq 5, 3), (.iconst 0, 1), (.ireturn, 1), (.iload 5, 2), (.ifCond .ne 15, 3), (.aload_n 3, 1), (.iconst 0, 1), (.laload, 1), (.iload 6, 2), (.i2l, 1), (.lcmp, 1), (.ifCond .eq 5, 3), (.iconst 0, 1), (.ireturn, 1), (.goto o, 3)] = true) (ho : ((q + 1 + 1 + 2 + 1 + 1 + 1 + 1 + 3 + 2 + 1 + 1 + 2 + 1 + 1 + 1 + 3 + 2 + 1 + 3 + 2 + 3 + 1 + 1 + 2 + 3 + 1 + 1 + 1 + 2 + 1 + 1 + 3 + 1 + 1 : Nat) : Int) + o = ((2201 : Nat) : Int)) (hw0 : WO iw nY 3 y) (h2 : sw_ml 12 im = some mm) (hm : MO mm 11 1) (hw : sw_ConW l E (d + 1) y cy nY hh [.ref 0, .int (xs (i + 1)), .ref 111] σ (wrQ cvI ec (QNo l E d mm [.int (xs (i + 1))] cN) (QEx l E d mm ec [.int (xs (i + 1))] cN))) (K : ∀ υ, INV υ (cN + 1) → sw_G l E 7 p e R s m args below meth c A (k + 4) (n + 24) F 2201 (lwLS i) [] υ) : sw_G l E 7 p e R s m args below meth c A k n F q (lwLS i) [] σ := by
  obtain ⟨C, hX, hbl, hbA, hNc, hL, hRf, hRl, hkc, hkn⟩ := X
  simp only [lw_ck, Bool.and_eq_true, decide_eq_true_eq, and_true] at hk
  obtain ⟨d0, d1, d2, d3, d4, d5, d6, d7, d8, d9, d10, d11, d12, d13, d14, d15, d16, d17, d18, d19, d20, d21, d22, d23, d24, d25, d26, d27, d28, d29, d30, d31, d32, d33, d34⟩ := hk
  refine gg_al C d0 rfl ?_
  refine gg_arg C hX hbl hbA (i := i) (j := 1) (by omega) hL rfl rfl d1 d2 d3 rfl d4 d5 ?_
  refine gg_al C d6 rfl ?_
  refine gg_w (d := d + 1) (av := [.ref 0, .int (xs (i + 1)), .ref 111]) (r := []) C hNc (by omega) (by omega) hkc hkn hw0.1 hw0.2.1 hw0.2.2.1 hw0.2.2.2.1 hw0.2.2.2.2.1 hw0.2.2.2.2.2 (by decide) hw d7 (fun r τ hq => ?_)
  rcases hq with ⟨rfl, v, τ1, ⟨-, hm2⟩, rfl⟩ | ⟨z, ⟨hz0, hm2⟩, rfl⟩
  · refine gg_is2 C d8 rfl (by decide) ?_
    refine gg_al C d9 rfl ?_
    refine gg_arg C hX hbl hbA (i := i) (j := 1) (by omega) hL rfl rfl d10 d11 d12 rfl d13 d14 ?_
    refine sw_g_callV (d := d) (av := [.ref 75, .int (xs (i + 1))]) (r := []) C (by omega) (by omega) (by omega) (by omega) h2 (by have := hm.1; omega) hm.2.2.1 hm.2.2.2.2 (by rw [hm.2.2.2.1]; rfl) (rec75 hm.1 hm.2.1) (Nat.le_of_ble_eq_true rfl) (hm2 _) d15 (fun r2 υ hq => ?_)
    obtain ⟨rfl, z0, z1, hI⟩ := hq
    refine gg_is2 C d16 rfl (by decide) ?_
    refine gg_al C d17 rfl ?_
    refine sw_g_callV (d := d) (av := [.ref 75]) (r := []) (idx := 114) (mn := 177) (Q := fun r3 υ3 => r3 = some (.int (υ.1 75 0)) ∧ υ3 = υ) C (by omega) (by omega) (by omega) (by omega) rfl (by decide) rfl rfl rfl (rec75 (by decide) rfl) (by decide) (thrown_ok (by omega) ⟨rfl, rfl⟩) d18 (fun r3 υ3 hq => ?_)
    obtain ⟨rfl, rfl⟩ := hq
    refine gg_il2 C d19 rfl ?_
    refine gg_ieq C d20 (t := q + 1 + 1 + 2 + 1 + 1 + 1 + 1 + 3 + 2 + 1 + 1 + 2 + 1 + 1 + 1 + 3 + 2 + 1 + 3 + 2 + 3 + 1 + 1) (by omega) (fun _ => ?_) (fun w => absurd z0 w)
    refine gg_il2 C d23 rfl ?_
    refine gg_ne C d24 (t := q + 1 + 1 + 2 + 1 + 1 + 1 + 1 + 3 + 2 + 1 + 1 + 2 + 1 + 1 + 1 + 3 + 2 + 1 + 3 + 2 + 3 + 1 + 1 + 2 + 3 + 1 + 1 + 1 + 2 + 1 + 1 + 3 + 1 + 1) (by omega) (fun w => absurd rfl w) (fun _ => ?_)
    refine gg_al C d25 rfl (gg_ic C (x := 0) d26 rfl (gg_lald C rfl vin0 d27 ?_))
    refine gg_il2 C d28 rfl ?_
    refine gg_i2l C d29 (gg_lcmp C d30 (gg_eq C d31 (t := q + 1 + 1 + 2 + 1 + 1 + 1 + 1 + 3 + 2 + 1 + 1 + 2 + 1 + 1 + 1 + 3 + 2 + 1 + 3 + 2 + 3 + 1 + 1 + 2 + 3 + 1 + 1 + 1 + 2 + 1 + 1 + 3 + 1 + 1) (by omega) (fun _ => gg_goto C d34 ho (gg_weak (ls := lwLS i) [some (.int 0), some (.int v)] (K _ hI))) (fun w => absurd ?_ w)))
    rw [z1, vpu0]
    exact lc_self _
  · refine gg_is2 C d8 rfl (by decide) ?_
    refine gg_al C d9 rfl ?_
    refine gg_arg C hX hbl hbA (i := i) (j := 1) (by omega) hL rfl rfl d10 d11 d12 rfl d13 d14 ?_
    refine sw_g_callV (d := d) (av := [.ref 75, .int (xs (i + 1))]) (r := []) C (by omega) (by omega) (by omega) (by omega) h2 (by have := hm.1; omega) hm.2.2.1 hm.2.2.2.2 (by rw [hm.2.2.2.1]; rfl) (rec75 hm.1 hm.2.1) (Nat.le_of_ble_eq_true rfl) (hm2) d15 (fun r2 υ hq => ?_)
    obtain ⟨hr2, z0, hI⟩ := hq
    obtain ⟨v, rfl⟩ := rsh_el hr2
    refine gg_is2 C d16 rfl (by decide) ?_
    refine gg_al C d17 rfl ?_
    refine sw_g_callV (d := d) (av := [.ref 75]) (r := []) (idx := 114) (mn := 177) (Q := fun r3 υ3 => r3 = some (.int (υ.1 75 0)) ∧ υ3 = υ) C (by omega) (by omega) (by omega) (by omega) rfl (by decide) rfl rfl rfl (rec75 (by decide) rfl) (by decide) (thrown_ok (by omega) ⟨rfl, rfl⟩) d18 (fun r3 υ3 hq => ?_)
    obtain ⟨rfl, rfl⟩ := hq
    refine gg_il2 C d19 rfl ?_
    refine gg_ieq C d20 (t := q + 1 + 1 + 2 + 1 + 1 + 1 + 1 + 3 + 2 + 1 + 1 + 2 + 1 + 1 + 1 + 3 + 2 + 1 + 3 + 2 + 3 + 1 + 1) (by omega) (fun _ => ?_) (fun w => absurd z0 w)
    refine gg_il2 C d23 rfl ?_
    exact gg_ne C d24 (t := q + 1 + 1 + 2 + 1 + 1 + 1 + 1 + 3 + 2 + 1 + 1 + 2 + 1 + 1 + 1 + 3 + 2 + 1 + 3 + 2 + 3 + 1 + 1 + 2 + 3 + 1 + 1 + 1 + 2 + 1 + 1 + 3 + 1 + 1) (by omega) (fun _ => gg_goto C d34 ho (gg_weak (ls := lwLS i) [some (.int (ec z)), some (.int v)] (K _ hI))) (fun w => absurd w hz0)

set_option maxHeartbeats 2000000 in
theorem law_B2 {q iw im mm nY : Nat} {o : Int} {y : MethodName} {cy : ByteArray} {hh : List (Nat × Nat × Nat × Nat)} {ec : Nat → Int32} (X : LX E d p R s m args c A k n L xs) (hi : i + 6 ≤ L) (h64 : 64 < d) (hk : lw_ck q [(.aload_n 1, 1), (.aload_n 0, 1), (.iload 4, 2), (.iconst 1, 1), (.iadd, 1), (.iaload, 1), (.aload_n 0, 1), (.iload 4, 2), (.iconst 2, 1), (.iadd, 1), (.iaload, 1), (.aload_n 3, 1), (.invokestatic iw, 3), (.istore 5, 2), (.aload_n 2, 1), (.aload_n 0, 1), (.iload 4, 2), (.iconst 1, 1), (.iadd, 1), (.iaload, 1), (.aload_n 0, 1), (.iload 4, 2), (.iconst 2, 1), (.iadd, 1), (.iaload, 1), (.invokevirtual im, 3), (.istore 6, 2), (.aload_n 2, 1), (.invokevirtual 114, 3), (.iload 5, 2), (.if_icmp .eq 5, 3), (.iconst 0, 1), (.ireturn, 1), (.iload 5, 2), (.ifCond .ne 15, 3), (.aload_n 3, 1), (.iconst 0, 1), (.laload, 1), (.iload 6, 2), (.i2l, 1), (.lcmp, 1), (.ifCond .eq 5, 3), (.iconst 0, 1), (.ireturn, 1), (.goto o, 3)] = true) (ho : ((q + 1 + 1 + 2 + 1 + 1 + 1 + 1 + 2 + 1 + 1 + 1 + 1 + 3 + 2 + 1 + 1 + 2 + 1 + 1 + 1 + 1 + 2 + 1 + 1 + 1 + 3 + 2 + 1 + 3 + 2 + 3 + 1 + 1 + 2 + 3 + 1 + 1 + 1 + 2 + 1 + 1 + 3 + 1 + 1 : Nat) : Int) + o = ((2201 : Nat) : Int)) (hw0 : WO iw nY 4 y) (h2 : sw_ml 12 im = some mm) (hm : MO mm 11 2) (hw : sw_ConW l E (d + 1) y cy nY hh [.ref 0, .int (xs (i + 1)), .int (xs (i + 2)), .ref 111] σ (wrQ cvI ec (QNo l E d mm [.int (xs (i + 1)), .int (xs (i + 2))] cN) (QEx l E d mm ec [.int (xs (i + 1)), .int (xs (i + 2))] cN))) (K : ∀ υ, INV υ (cN + 1) → sw_G l E 7 p e R s m args below meth c A (k + 4) (n + 24) F 2201 (lwLS i) [] υ) : sw_G l E 7 p e R s m args below meth c A k n F q (lwLS i) [] σ := by
  obtain ⟨C, hX, hbl, hbA, hNc, hL, hRf, hRl, hkc, hkn⟩ := X
  simp only [lw_ck, Bool.and_eq_true, decide_eq_true_eq, and_true] at hk
  obtain ⟨d0, d1, d2, d3, d4, d5, d6, d7, d8, d9, d10, d11, d12, d13, d14, d15, d16, d17, d18, d19, d20, d21, d22, d23, d24, d25, d26, d27, d28, d29, d30, d31, d32, d33, d34, d35, d36, d37, d38, d39, d40, d41, d42, d43, d44⟩ := hk
  refine gg_al C d0 rfl ?_
  refine gg_arg C hX hbl hbA (i := i) (j := 1) (by omega) hL rfl rfl d1 d2 d3 rfl d4 d5 ?_
  refine gg_arg C hX hbl hbA (i := i) (j := 2) (by omega) hL rfl rfl d6 d7 d8 rfl d9 d10 ?_
  refine gg_al C d11 rfl ?_
  refine gg_w (d := d + 1) (av := [.ref 0, .int (xs (i + 1)), .int (xs (i + 2)), .ref 111]) (r := []) C hNc (by omega) (by omega) hkc hkn hw0.1 hw0.2.1 hw0.2.2.1 hw0.2.2.2.1 hw0.2.2.2.2.1 hw0.2.2.2.2.2 (by decide) hw d12 (fun r τ hq => ?_)
  rcases hq with ⟨rfl, v, τ1, ⟨-, hm2⟩, rfl⟩ | ⟨z, ⟨hz0, hm2⟩, rfl⟩
  · refine gg_is2 C d13 rfl (by decide) ?_
    refine gg_al C d14 rfl ?_
    refine gg_arg C hX hbl hbA (i := i) (j := 1) (by omega) hL rfl rfl d15 d16 d17 rfl d18 d19 ?_
    refine gg_arg C hX hbl hbA (i := i) (j := 2) (by omega) hL rfl rfl d20 d21 d22 rfl d23 d24 ?_
    refine sw_g_callV (d := d) (av := [.ref 75, .int (xs (i + 1)), .int (xs (i + 2))]) (r := []) C (by omega) (by omega) (by omega) (by omega) h2 (by have := hm.1; omega) hm.2.2.1 hm.2.2.2.2 (by rw [hm.2.2.2.1]; rfl) (rec75 hm.1 hm.2.1) (Nat.le_of_ble_eq_true rfl) (hm2 _) d25 (fun r2 υ hq => ?_)
    obtain ⟨rfl, z0, z1, hI⟩ := hq
    refine gg_is2 C d26 rfl (by decide) ?_
    refine gg_al C d27 rfl ?_
    refine sw_g_callV (d := d) (av := [.ref 75]) (r := []) (idx := 114) (mn := 177) (Q := fun r3 υ3 => r3 = some (.int (υ.1 75 0)) ∧ υ3 = υ) C (by omega) (by omega) (by omega) (by omega) rfl (by decide) rfl rfl rfl (rec75 (by decide) rfl) (by decide) (thrown_ok (by omega) ⟨rfl, rfl⟩) d28 (fun r3 υ3 hq => ?_)
    obtain ⟨rfl, rfl⟩ := hq
    refine gg_il2 C d29 rfl ?_
    refine gg_ieq C d30 (t := q + 1 + 1 + 2 + 1 + 1 + 1 + 1 + 2 + 1 + 1 + 1 + 1 + 3 + 2 + 1 + 1 + 2 + 1 + 1 + 1 + 1 + 2 + 1 + 1 + 1 + 3 + 2 + 1 + 3 + 2 + 3 + 1 + 1) (by omega) (fun _ => ?_) (fun w => absurd z0 w)
    refine gg_il2 C d33 rfl ?_
    refine gg_ne C d34 (t := q + 1 + 1 + 2 + 1 + 1 + 1 + 1 + 2 + 1 + 1 + 1 + 1 + 3 + 2 + 1 + 1 + 2 + 1 + 1 + 1 + 1 + 2 + 1 + 1 + 1 + 3 + 2 + 1 + 3 + 2 + 3 + 1 + 1 + 2 + 3 + 1 + 1 + 1 + 2 + 1 + 1 + 3 + 1 + 1) (by omega) (fun w => absurd rfl w) (fun _ => ?_)
    refine gg_al C d35 rfl (gg_ic C (x := 0) d36 rfl (gg_lald C rfl vin0 d37 ?_))
    refine gg_il2 C d38 rfl ?_
    refine gg_i2l C d39 (gg_lcmp C d40 (gg_eq C d41 (t := q + 1 + 1 + 2 + 1 + 1 + 1 + 1 + 2 + 1 + 1 + 1 + 1 + 3 + 2 + 1 + 1 + 2 + 1 + 1 + 1 + 1 + 2 + 1 + 1 + 1 + 3 + 2 + 1 + 3 + 2 + 3 + 1 + 1 + 2 + 3 + 1 + 1 + 1 + 2 + 1 + 1 + 3 + 1 + 1) (by omega) (fun _ => gg_goto C d44 ho (gg_weak (ls := lwLS i) [some (.int 0), some (.int v)] (K _ hI))) (fun w => absurd ?_ w)))
    rw [z1, vpu0]
    exact lc_self _
  · refine gg_is2 C d13 rfl (by decide) ?_
    refine gg_al C d14 rfl ?_
    refine gg_arg C hX hbl hbA (i := i) (j := 1) (by omega) hL rfl rfl d15 d16 d17 rfl d18 d19 ?_
    refine gg_arg C hX hbl hbA (i := i) (j := 2) (by omega) hL rfl rfl d20 d21 d22 rfl d23 d24 ?_
    refine sw_g_callV (d := d) (av := [.ref 75, .int (xs (i + 1)), .int (xs (i + 2))]) (r := []) C (by omega) (by omega) (by omega) (by omega) h2 (by have := hm.1; omega) hm.2.2.1 hm.2.2.2.2 (by rw [hm.2.2.2.1]; rfl) (rec75 hm.1 hm.2.1) (Nat.le_of_ble_eq_true rfl) (hm2) d25 (fun r2 υ hq => ?_)
    obtain ⟨hr2, z0, hI⟩ := hq
    obtain ⟨v, rfl⟩ := rsh_el hr2
    refine gg_is2 C d26 rfl (by decide) ?_
    refine gg_al C d27 rfl ?_
    refine sw_g_callV (d := d) (av := [.ref 75]) (r := []) (idx := 114) (mn := 177) (Q := fun r3 υ3 => r3 = some (.int (υ.1 75 0)) ∧ υ3 = υ) C (by omega) (by omega) (by omega) (by omega) rfl (by decide) rfl rfl rfl (rec75 (by decide) rfl) (by decide) (thrown_ok (by omega) ⟨rfl, rfl⟩) d28 (fun r3 υ3 hq => ?_)
    obtain ⟨rfl, rfl⟩ := hq
    refine gg_il2 C d29 rfl ?_
    refine gg_ieq C d30 (t := q + 1 + 1 + 2 + 1 + 1 + 1 + 1 + 2 + 1 + 1 + 1 + 1 + 3 + 2 + 1 + 1 + 2 + 1 + 1 + 1 + 1 + 2 + 1 + 1 + 1 + 3 + 2 + 1 + 3 + 2 + 3 + 1 + 1) (by omega) (fun _ => ?_) (fun w => absurd z0 w)
    refine gg_il2 C d33 rfl ?_
    exact gg_ne C d34 (t := q + 1 + 1 + 2 + 1 + 1 + 1 + 1 + 2 + 1 + 1 + 1 + 1 + 3 + 2 + 1 + 1 + 2 + 1 + 1 + 1 + 1 + 2 + 1 + 1 + 1 + 3 + 2 + 1 + 3 + 2 + 3 + 1 + 1 + 2 + 3 + 1 + 1 + 1 + 2 + 1 + 1 + 3 + 1 + 1) (by omega) (fun _ => gg_goto C d44 ho (gg_weak (ls := lwLS i) [some (.int (ec z)), some (.int v)] (K _ hI))) (fun w => absurd w hz0)

set_option maxHeartbeats 2000000 in
theorem law_B3 {q iw im mm nY : Nat} {o : Int} {y : MethodName} {cy : ByteArray} {hh : List (Nat × Nat × Nat × Nat)} {ec : Nat → Int32} (X : LX E d p R s m args c A k n L xs) (hi : i + 6 ≤ L) (h64 : 64 < d) (hk : lw_ck q [(.aload_n 1, 1), (.aload_n 0, 1), (.iload 4, 2), (.iconst 1, 1), (.iadd, 1), (.iaload, 1), (.aload_n 0, 1), (.iload 4, 2), (.iconst 2, 1), (.iadd, 1), (.iaload, 1), (.aload_n 0, 1), (.iload 4, 2), (.iconst 3, 1), (.iadd, 1), (.iaload, 1), (.aload_n 3, 1), (.invokestatic iw, 3), (.istore 5, 2), (.aload_n 2, 1), (.aload_n 0, 1), (.iload 4, 2), (.iconst 1, 1), (.iadd, 1), (.iaload, 1), (.aload_n 0, 1), (.iload 4, 2), (.iconst 2, 1), (.iadd, 1), (.iaload, 1), (.aload_n 0, 1), (.iload 4, 2), (.iconst 3, 1), (.iadd, 1), (.iaload, 1), (.invokevirtual im, 3), (.istore 6, 2), (.aload_n 2, 1), (.invokevirtual 114, 3), (.iload 5, 2), (.if_icmp .eq 5, 3), (.iconst 0, 1), (.ireturn, 1), (.iload 5, 2), (.ifCond .ne 15, 3), (.aload_n 3, 1), (.iconst 0, 1), (.laload, 1), (.iload 6, 2), (.i2l, 1), (.lcmp, 1), (.ifCond .eq 5, 3), (.iconst 0, 1), (.ireturn, 1), (.goto o, 3)] = true) (ho : ((q + 1 + 1 + 2 + 1 + 1 + 1 + 1 + 2 + 1 + 1 + 1 + 1 + 2 + 1 + 1 + 1 + 1 + 3 + 2 + 1 + 1 + 2 + 1 + 1 + 1 + 1 + 2 + 1 + 1 + 1 + 1 + 2 + 1 + 1 + 1 + 3 + 2 + 1 + 3 + 2 + 3 + 1 + 1 + 2 + 3 + 1 + 1 + 1 + 2 + 1 + 1 + 3 + 1 + 1 : Nat) : Int) + o = ((2201 : Nat) : Int)) (hw0 : WO iw nY 5 y) (h2 : sw_ml 12 im = some mm) (hm : MO mm 11 3) (hw : sw_ConW l E (d + 1) y cy nY hh [.ref 0, .int (xs (i + 1)), .int (xs (i + 2)), .int (xs (i + 3)), .ref 111] σ (wrQ cvI ec (QNo l E d mm [.int (xs (i + 1)), .int (xs (i + 2)), .int (xs (i + 3))] cN) (QEx l E d mm ec [.int (xs (i + 1)), .int (xs (i + 2)), .int (xs (i + 3))] cN))) (K : ∀ υ, INV υ (cN + 1) → sw_G l E 7 p e R s m args below meth c A (k + 4) (n + 24) F 2201 (lwLS i) [] υ) : sw_G l E 7 p e R s m args below meth c A k n F q (lwLS i) [] σ := by
  obtain ⟨C, hX, hbl, hbA, hNc, hL, hRf, hRl, hkc, hkn⟩ := X
  simp only [lw_ck, Bool.and_eq_true, decide_eq_true_eq, and_true] at hk
  obtain ⟨d0, d1, d2, d3, d4, d5, d6, d7, d8, d9, d10, d11, d12, d13, d14, d15, d16, d17, d18, d19, d20, d21, d22, d23, d24, d25, d26, d27, d28, d29, d30, d31, d32, d33, d34, d35, d36, d37, d38, d39, d40, d41, d42, d43, d44, d45, d46, d47, d48, d49, d50, d51, d52, d53, d54⟩ := hk
  refine gg_al C d0 rfl ?_
  refine gg_arg C hX hbl hbA (i := i) (j := 1) (by omega) hL rfl rfl d1 d2 d3 rfl d4 d5 ?_
  refine gg_arg C hX hbl hbA (i := i) (j := 2) (by omega) hL rfl rfl d6 d7 d8 rfl d9 d10 ?_
  refine gg_arg C hX hbl hbA (i := i) (j := 3) (by omega) hL rfl rfl d11 d12 d13 rfl d14 d15 ?_
  refine gg_al C d16 rfl ?_
  refine gg_w (d := d + 1) (av := [.ref 0, .int (xs (i + 1)), .int (xs (i + 2)), .int (xs (i + 3)), .ref 111]) (r := []) C hNc (by omega) (by omega) hkc hkn hw0.1 hw0.2.1 hw0.2.2.1 hw0.2.2.2.1 hw0.2.2.2.2.1 hw0.2.2.2.2.2 (by decide) hw d17 (fun r τ hq => ?_)
  rcases hq with ⟨rfl, v, τ1, ⟨-, hm2⟩, rfl⟩ | ⟨z, ⟨hz0, hm2⟩, rfl⟩
  · refine gg_is2 C d18 rfl (by decide) ?_
    refine gg_al C d19 rfl ?_
    refine gg_arg C hX hbl hbA (i := i) (j := 1) (by omega) hL rfl rfl d20 d21 d22 rfl d23 d24 ?_
    refine gg_arg C hX hbl hbA (i := i) (j := 2) (by omega) hL rfl rfl d25 d26 d27 rfl d28 d29 ?_
    refine gg_arg C hX hbl hbA (i := i) (j := 3) (by omega) hL rfl rfl d30 d31 d32 rfl d33 d34 ?_
    refine sw_g_callV (d := d) (av := [.ref 75, .int (xs (i + 1)), .int (xs (i + 2)), .int (xs (i + 3))]) (r := []) C (by omega) (by omega) (by omega) (by omega) h2 (by have := hm.1; omega) hm.2.2.1 hm.2.2.2.2 (by rw [hm.2.2.2.1]; rfl) (rec75 hm.1 hm.2.1) (Nat.le_of_ble_eq_true rfl) (hm2 _) d35 (fun r2 υ hq => ?_)
    obtain ⟨rfl, z0, z1, hI⟩ := hq
    refine gg_is2 C d36 rfl (by decide) ?_
    refine gg_al C d37 rfl ?_
    refine sw_g_callV (d := d) (av := [.ref 75]) (r := []) (idx := 114) (mn := 177) (Q := fun r3 υ3 => r3 = some (.int (υ.1 75 0)) ∧ υ3 = υ) C (by omega) (by omega) (by omega) (by omega) rfl (by decide) rfl rfl rfl (rec75 (by decide) rfl) (by decide) (thrown_ok (by omega) ⟨rfl, rfl⟩) d38 (fun r3 υ3 hq => ?_)
    obtain ⟨rfl, rfl⟩ := hq
    refine gg_il2 C d39 rfl ?_
    refine gg_ieq C d40 (t := q + 1 + 1 + 2 + 1 + 1 + 1 + 1 + 2 + 1 + 1 + 1 + 1 + 2 + 1 + 1 + 1 + 1 + 3 + 2 + 1 + 1 + 2 + 1 + 1 + 1 + 1 + 2 + 1 + 1 + 1 + 1 + 2 + 1 + 1 + 1 + 3 + 2 + 1 + 3 + 2 + 3 + 1 + 1) (by omega) (fun _ => ?_) (fun w => absurd z0 w)
    refine gg_il2 C d43 rfl ?_
    refine gg_ne C d44 (t := q + 1 + 1 + 2 + 1 + 1 + 1 + 1 + 2 + 1 + 1 + 1 + 1 + 2 + 1 + 1 + 1 + 1 + 3 + 2 + 1 + 1 + 2 + 1 + 1 + 1 + 1 + 2 + 1 + 1 + 1 + 1 + 2 + 1 + 1 + 1 + 3 + 2 + 1 + 3 + 2 + 3 + 1 + 1 + 2 + 3 + 1 + 1 + 1 + 2 + 1 + 1 + 3 + 1 + 1) (by omega) (fun w => absurd rfl w) (fun _ => ?_)
    refine gg_al C d45 rfl (gg_ic C (x := 0) d46 rfl (gg_lald C rfl vin0 d47 ?_))
    refine gg_il2 C d48 rfl ?_
    refine gg_i2l C d49 (gg_lcmp C d50 (gg_eq C d51 (t := q + 1 + 1 + 2 + 1 + 1 + 1 + 1 + 2 + 1 + 1 + 1 + 1 + 2 + 1 + 1 + 1 + 1 + 3 + 2 + 1 + 1 + 2 + 1 + 1 + 1 + 1 + 2 + 1 + 1 + 1 + 1 + 2 + 1 + 1 + 1 + 3 + 2 + 1 + 3 + 2 + 3 + 1 + 1 + 2 + 3 + 1 + 1 + 1 + 2 + 1 + 1 + 3 + 1 + 1) (by omega) (fun _ => gg_goto C d54 ho (gg_weak (ls := lwLS i) [some (.int 0), some (.int v)] (K _ hI))) (fun w => absurd ?_ w)))
    rw [z1, vpu0]
    exact lc_self _
  · refine gg_is2 C d18 rfl (by decide) ?_
    refine gg_al C d19 rfl ?_
    refine gg_arg C hX hbl hbA (i := i) (j := 1) (by omega) hL rfl rfl d20 d21 d22 rfl d23 d24 ?_
    refine gg_arg C hX hbl hbA (i := i) (j := 2) (by omega) hL rfl rfl d25 d26 d27 rfl d28 d29 ?_
    refine gg_arg C hX hbl hbA (i := i) (j := 3) (by omega) hL rfl rfl d30 d31 d32 rfl d33 d34 ?_
    refine sw_g_callV (d := d) (av := [.ref 75, .int (xs (i + 1)), .int (xs (i + 2)), .int (xs (i + 3))]) (r := []) C (by omega) (by omega) (by omega) (by omega) h2 (by have := hm.1; omega) hm.2.2.1 hm.2.2.2.2 (by rw [hm.2.2.2.1]; rfl) (rec75 hm.1 hm.2.1) (Nat.le_of_ble_eq_true rfl) (hm2) d35 (fun r2 υ hq => ?_)
    obtain ⟨hr2, z0, hI⟩ := hq
    obtain ⟨v, rfl⟩ := rsh_el hr2
    refine gg_is2 C d36 rfl (by decide) ?_
    refine gg_al C d37 rfl ?_
    refine sw_g_callV (d := d) (av := [.ref 75]) (r := []) (idx := 114) (mn := 177) (Q := fun r3 υ3 => r3 = some (.int (υ.1 75 0)) ∧ υ3 = υ) C (by omega) (by omega) (by omega) (by omega) rfl (by decide) rfl rfl rfl (rec75 (by decide) rfl) (by decide) (thrown_ok (by omega) ⟨rfl, rfl⟩) d38 (fun r3 υ3 hq => ?_)
    obtain ⟨rfl, rfl⟩ := hq
    refine gg_il2 C d39 rfl ?_
    refine gg_ieq C d40 (t := q + 1 + 1 + 2 + 1 + 1 + 1 + 1 + 2 + 1 + 1 + 1 + 1 + 2 + 1 + 1 + 1 + 1 + 3 + 2 + 1 + 1 + 2 + 1 + 1 + 1 + 1 + 2 + 1 + 1 + 1 + 1 + 2 + 1 + 1 + 1 + 3 + 2 + 1 + 3 + 2 + 3 + 1 + 1) (by omega) (fun _ => ?_) (fun w => absurd z0 w)
    refine gg_il2 C d43 rfl ?_
    exact gg_ne C d44 (t := q + 1 + 1 + 2 + 1 + 1 + 1 + 1 + 2 + 1 + 1 + 1 + 1 + 2 + 1 + 1 + 1 + 1 + 3 + 2 + 1 + 1 + 2 + 1 + 1 + 1 + 1 + 2 + 1 + 1 + 1 + 1 + 2 + 1 + 1 + 1 + 3 + 2 + 1 + 3 + 2 + 3 + 1 + 1 + 2 + 3 + 1 + 1 + 1 + 2 + 1 + 1 + 3 + 1 + 1) (by omega) (fun _ => gg_goto C d54 ho (gg_weak (ls := lwLS i) [some (.int (ec z)), some (.int v)] (K _ hI))) (fun w => absurd w hz0)

set_option maxHeartbeats 2000000 in
theorem law_B2b {q iw im mm nY : Nat} {o : Int} {y : MethodName} {cy : ByteArray} {hh : List (Nat × Nat × Nat × Nat)} {ec : Nat → Int32} (X : LX E d p R s m args c A k n L xs) (hi : i + 6 ≤ L) (h64 : 64 < d) (hk : lw_ck q [(.aload_n 1, 1), (.aload_n 0, 1), (.iload 4, 2), (.iconst 1, 1), (.iadd, 1), (.iaload, 1), (.aload_n 0, 1), (.iload 4, 2), (.iconst 2, 1), (.iadd, 1), (.iaload, 1), (.aload_n 3, 1), (.invokestatic iw, 3), (.istore 5, 2), (.aload_n 2, 1), (.aload_n 0, 1), (.iload 4, 2), (.iconst 1, 1), (.iadd, 1), (.iaload, 1), (.aload_n 0, 1), (.iload 4, 2), (.iconst 2, 1), (.iadd, 1), (.iaload, 1), (.invokevirtual im, 3), (.istore 6, 2), (.aload_n 2, 1), (.invokevirtual 114, 3), (.iload 5, 2), (.if_icmp .eq 5, 3), (.iconst 0, 1), (.ireturn, 1), (.iload 5, 2), (.ifCond .ne 22, 3), (.aload_n 3, 1), (.iconst 0, 1), (.laload, 1), (.iload 6, 2), (.ifCond .eq 7, 3), (.lconst 1, 1), (.goto 4, 3), (.lconst 0, 1), (.lcmp, 1), (.ifCond .eq 5, 3), (.iconst 0, 1), (.ireturn, 1), (.goto o, 3)] = true) (ho : ((q + 1 + 1 + 2 + 1 + 1 + 1 + 1 + 2 + 1 + 1 + 1 + 1 + 3 + 2 + 1 + 1 + 2 + 1 + 1 + 1 + 1 + 2 + 1 + 1 + 1 + 3 + 2 + 1 + 3 + 2 + 3 + 1 + 1 + 2 + 3 + 1 + 1 + 1 + 2 + 3 + 1 + 3 + 1 + 1 + 3 + 1 + 1 : Nat) : Int) + o = ((2201 : Nat) : Int)) (hw0 : WO iw nY 4 y) (h2 : sw_ml 12 im = some mm) (hm : MO mm 11 2) (hw : sw_ConW l E (d + 1) y cy nY hh [.ref 0, .int (xs (i + 1)), .int (xs (i + 2)), .ref 111] σ (wrQ cvB ec (QNo l E d mm [.int (xs (i + 1)), .int (xs (i + 2))] cN) (QEx l E d mm ec [.int (xs (i + 1)), .int (xs (i + 2))] cN))) (K : ∀ υ, INV υ (cN + 1) → sw_G l E 7 p e R s m args below meth c A (k + 4) (n + 24) F 2201 (lwLS i) [] υ) : sw_G l E 7 p e R s m args below meth c A k n F q (lwLS i) [] σ := by
  obtain ⟨C, hX, hbl, hbA, hNc, hL, hRf, hRl, hkc, hkn⟩ := X
  simp only [lw_ck, Bool.and_eq_true, decide_eq_true_eq, and_true] at hk
  obtain ⟨d0, d1, d2, d3, d4, d5, d6, d7, d8, d9, d10, d11, d12, d13, d14, d15, d16, d17, d18, d19, d20, d21, d22, d23, d24, d25, d26, d27, d28, d29, d30, d31, d32, d33, d34, d35, d36, d37, d38, d39, d40, d41, d42, d43, d44, d45, d46, d47⟩ := hk
  refine gg_al C d0 rfl ?_
  refine gg_arg C hX hbl hbA (i := i) (j := 1) (by omega) hL rfl rfl d1 d2 d3 rfl d4 d5 ?_
  refine gg_arg C hX hbl hbA (i := i) (j := 2) (by omega) hL rfl rfl d6 d7 d8 rfl d9 d10 ?_
  refine gg_al C d11 rfl ?_
  refine gg_w (d := d + 1) (av := [.ref 0, .int (xs (i + 1)), .int (xs (i + 2)), .ref 111]) (r := []) C hNc (by omega) (by omega) hkc hkn hw0.1 hw0.2.1 hw0.2.2.1 hw0.2.2.2.1 hw0.2.2.2.2.1 hw0.2.2.2.2.2 (by decide) hw d12 (fun r τ hq => ?_)
  rcases hq with ⟨rfl, v, τ1, ⟨-, hm2⟩, rfl⟩ | ⟨z, ⟨hz0, hm2⟩, rfl⟩
  · refine gg_is2 C d13 rfl (by decide) ?_
    refine gg_al C d14 rfl ?_
    refine gg_arg C hX hbl hbA (i := i) (j := 1) (by omega) hL rfl rfl d15 d16 d17 rfl d18 d19 ?_
    refine gg_arg C hX hbl hbA (i := i) (j := 2) (by omega) hL rfl rfl d20 d21 d22 rfl d23 d24 ?_
    refine sw_g_callV (d := d) (av := [.ref 75, .int (xs (i + 1)), .int (xs (i + 2))]) (r := []) C (by omega) (by omega) (by omega) (by omega) h2 (by have := hm.1; omega) hm.2.2.1 hm.2.2.2.2 (by rw [hm.2.2.2.1]; rfl) (rec75 hm.1 hm.2.1) (Nat.le_of_ble_eq_true rfl) (hm2 _) d25 (fun r2 υ hq => ?_)
    obtain ⟨rfl, z0, z1, hI⟩ := hq
    refine gg_is2 C d26 rfl (by decide) ?_
    refine gg_al C d27 rfl ?_
    refine sw_g_callV (d := d) (av := [.ref 75]) (r := []) (idx := 114) (mn := 177) (Q := fun r3 υ3 => r3 = some (.int (υ.1 75 0)) ∧ υ3 = υ) C (by omega) (by omega) (by omega) (by omega) rfl (by decide) rfl rfl rfl (rec75 (by decide) rfl) (by decide) (thrown_ok (by omega) ⟨rfl, rfl⟩) d28 (fun r3 υ3 hq => ?_)
    obtain ⟨rfl, rfl⟩ := hq
    refine gg_il2 C d29 rfl ?_
    refine gg_ieq C d30 (t := q + 1 + 1 + 2 + 1 + 1 + 1 + 1 + 2 + 1 + 1 + 1 + 1 + 3 + 2 + 1 + 1 + 2 + 1 + 1 + 1 + 1 + 2 + 1 + 1 + 1 + 3 + 2 + 1 + 3 + 2 + 3 + 1 + 1) (by omega) (fun _ => ?_) (fun w => absurd z0 w)
    refine gg_il2 C d33 rfl ?_
    refine gg_ne C d34 (t := q + 1 + 1 + 2 + 1 + 1 + 1 + 1 + 2 + 1 + 1 + 1 + 1 + 3 + 2 + 1 + 1 + 2 + 1 + 1 + 1 + 1 + 2 + 1 + 1 + 1 + 3 + 2 + 1 + 3 + 2 + 3 + 1 + 1 + 2 + 3 + 1 + 1 + 1 + 2 + 3 + 1 + 3 + 1 + 1 + 3 + 1 + 1) (by omega) (fun w => absurd rfl w) (fun _ => ?_)
    refine gg_al C d35 rfl (gg_ic C (x := 0) d36 rfl (gg_lald C rfl vin0 d37 ?_))
    refine gg_il2 C d38 rfl ?_
    refine gg_eq C d39 (t := q + 1 + 1 + 2 + 1 + 1 + 1 + 1 + 2 + 1 + 1 + 1 + 1 + 3 + 2 + 1 + 1 + 2 + 1 + 1 + 1 + 1 + 2 + 1 + 1 + 1 + 3 + 2 + 1 + 3 + 2 + 3 + 1 + 1 + 2 + 3 + 1 + 1 + 1 + 2 + 3 + 1 + 3) (by omega) (fun w0 => ?_) (fun w0 => ?_)
    · refine gg_lc C d42 (gg_lcmp C d43 (gg_eq C d44 (t := q + 1 + 1 + 2 + 1 + 1 + 1 + 1 + 2 + 1 + 1 + 1 + 1 + 3 + 2 + 1 + 1 + 2 + 1 + 1 + 1 + 1 + 2 + 1 + 1 + 1 + 3 + 2 + 1 + 3 + 2 + 3 + 1 + 1 + 2 + 3 + 1 + 1 + 1 + 2 + 3 + 1 + 3 + 1 + 1 + 3 + 1 + 1) (by omega) (fun _ => gg_goto C d47 ho (gg_weak (ls := lwLS i) [some (.int 0), some (.int v)] (K _ hI))) (fun w => absurd ?_ w)))
      rw [z1, vpu0, cvB, if_pos w0]
      exact lc_self _
    · refine gg_lc C d40 (gg_goto C d41 (t := q + 1 + 1 + 2 + 1 + 1 + 1 + 1 + 2 + 1 + 1 + 1 + 1 + 3 + 2 + 1 + 1 + 2 + 1 + 1 + 1 + 1 + 2 + 1 + 1 + 1 + 3 + 2 + 1 + 3 + 2 + 3 + 1 + 1 + 2 + 3 + 1 + 1 + 1 + 2 + 3 + 1 + 3 + 1) (by omega) (gg_lcmp C d43 (gg_eq C d44 (t := q + 1 + 1 + 2 + 1 + 1 + 1 + 1 + 2 + 1 + 1 + 1 + 1 + 3 + 2 + 1 + 1 + 2 + 1 + 1 + 1 + 1 + 2 + 1 + 1 + 1 + 3 + 2 + 1 + 3 + 2 + 3 + 1 + 1 + 2 + 3 + 1 + 1 + 1 + 2 + 3 + 1 + 3 + 1 + 1 + 3 + 1 + 1) (by omega) (fun _ => gg_goto C d47 ho (gg_weak (ls := lwLS i) [some (.int 0), some (.int v)] (K _ hI))) (fun w => absurd ?_ w))))
      rw [z1, vpu0, cvB, if_neg w0]
      exact lc_self _
  · refine gg_is2 C d13 rfl (by decide) ?_
    refine gg_al C d14 rfl ?_
    refine gg_arg C hX hbl hbA (i := i) (j := 1) (by omega) hL rfl rfl d15 d16 d17 rfl d18 d19 ?_
    refine gg_arg C hX hbl hbA (i := i) (j := 2) (by omega) hL rfl rfl d20 d21 d22 rfl d23 d24 ?_
    refine sw_g_callV (d := d) (av := [.ref 75, .int (xs (i + 1)), .int (xs (i + 2))]) (r := []) C (by omega) (by omega) (by omega) (by omega) h2 (by have := hm.1; omega) hm.2.2.1 hm.2.2.2.2 (by rw [hm.2.2.2.1]; rfl) (rec75 hm.1 hm.2.1) (Nat.le_of_ble_eq_true rfl) (hm2) d25 (fun r2 υ hq => ?_)
    obtain ⟨hr2, z0, hI⟩ := hq
    obtain ⟨v, rfl⟩ := rsh_el hr2
    refine gg_is2 C d26 rfl (by decide) ?_
    refine gg_al C d27 rfl ?_
    refine sw_g_callV (d := d) (av := [.ref 75]) (r := []) (idx := 114) (mn := 177) (Q := fun r3 υ3 => r3 = some (.int (υ.1 75 0)) ∧ υ3 = υ) C (by omega) (by omega) (by omega) (by omega) rfl (by decide) rfl rfl rfl (rec75 (by decide) rfl) (by decide) (thrown_ok (by omega) ⟨rfl, rfl⟩) d28 (fun r3 υ3 hq => ?_)
    obtain ⟨rfl, rfl⟩ := hq
    refine gg_il2 C d29 rfl ?_
    refine gg_ieq C d30 (t := q + 1 + 1 + 2 + 1 + 1 + 1 + 1 + 2 + 1 + 1 + 1 + 1 + 3 + 2 + 1 + 1 + 2 + 1 + 1 + 1 + 1 + 2 + 1 + 1 + 1 + 3 + 2 + 1 + 3 + 2 + 3 + 1 + 1) (by omega) (fun _ => ?_) (fun w => absurd z0 w)
    refine gg_il2 C d33 rfl ?_
    exact gg_ne C d34 (t := q + 1 + 1 + 2 + 1 + 1 + 1 + 1 + 2 + 1 + 1 + 1 + 1 + 3 + 2 + 1 + 1 + 2 + 1 + 1 + 1 + 1 + 2 + 1 + 1 + 1 + 3 + 2 + 1 + 3 + 2 + 3 + 1 + 1 + 2 + 3 + 1 + 1 + 1 + 2 + 3 + 1 + 3 + 1 + 1 + 3 + 1 + 1) (by omega) (fun _ => gg_goto C d47 ho (gg_weak (ls := lwLS i) [some (.int (ec z)), some (.int v)] (K _ hI))) (fun w => absurd w hz0)

set_option maxHeartbeats 2000000 in
theorem law_B3b {q iw im mm nY : Nat} {o : Int} {y : MethodName} {cy : ByteArray} {hh : List (Nat × Nat × Nat × Nat)} {ec : Nat → Int32} (X : LX E d p R s m args c A k n L xs) (hi : i + 6 ≤ L) (h64 : 64 < d) (hk : lw_ck q [(.aload_n 1, 1), (.aload_n 0, 1), (.iload 4, 2), (.iconst 1, 1), (.iadd, 1), (.iaload, 1), (.aload_n 0, 1), (.iload 4, 2), (.iconst 2, 1), (.iadd, 1), (.iaload, 1), (.aload_n 0, 1), (.iload 4, 2), (.iconst 3, 1), (.iadd, 1), (.iaload, 1), (.aload_n 3, 1), (.invokestatic iw, 3), (.istore 5, 2), (.aload_n 2, 1), (.aload_n 0, 1), (.iload 4, 2), (.iconst 1, 1), (.iadd, 1), (.iaload, 1), (.aload_n 0, 1), (.iload 4, 2), (.iconst 2, 1), (.iadd, 1), (.iaload, 1), (.aload_n 0, 1), (.iload 4, 2), (.iconst 3, 1), (.iadd, 1), (.iaload, 1), (.invokevirtual im, 3), (.istore 6, 2), (.aload_n 2, 1), (.invokevirtual 114, 3), (.iload 5, 2), (.if_icmp .eq 5, 3), (.iconst 0, 1), (.ireturn, 1), (.iload 5, 2), (.ifCond .ne 22, 3), (.aload_n 3, 1), (.iconst 0, 1), (.laload, 1), (.iload 6, 2), (.ifCond .eq 7, 3), (.lconst 1, 1), (.goto 4, 3), (.lconst 0, 1), (.lcmp, 1), (.ifCond .eq 5, 3), (.iconst 0, 1), (.ireturn, 1), (.goto o, 3)] = true) (ho : ((q + 1 + 1 + 2 + 1 + 1 + 1 + 1 + 2 + 1 + 1 + 1 + 1 + 2 + 1 + 1 + 1 + 1 + 3 + 2 + 1 + 1 + 2 + 1 + 1 + 1 + 1 + 2 + 1 + 1 + 1 + 1 + 2 + 1 + 1 + 1 + 3 + 2 + 1 + 3 + 2 + 3 + 1 + 1 + 2 + 3 + 1 + 1 + 1 + 2 + 3 + 1 + 3 + 1 + 1 + 3 + 1 + 1 : Nat) : Int) + o = ((2201 : Nat) : Int)) (hw0 : WO iw nY 5 y) (h2 : sw_ml 12 im = some mm) (hm : MO mm 11 3) (hw : sw_ConW l E (d + 1) y cy nY hh [.ref 0, .int (xs (i + 1)), .int (xs (i + 2)), .int (xs (i + 3)), .ref 111] σ (wrQ cvB ec (QNo l E d mm [.int (xs (i + 1)), .int (xs (i + 2)), .int (xs (i + 3))] cN) (QEx l E d mm ec [.int (xs (i + 1)), .int (xs (i + 2)), .int (xs (i + 3))] cN))) (K : ∀ υ, INV υ (cN + 1) → sw_G l E 7 p e R s m args below meth c A (k + 4) (n + 24) F 2201 (lwLS i) [] υ) : sw_G l E 7 p e R s m args below meth c A k n F q (lwLS i) [] σ := by
  obtain ⟨C, hX, hbl, hbA, hNc, hL, hRf, hRl, hkc, hkn⟩ := X
  simp only [lw_ck, Bool.and_eq_true, decide_eq_true_eq, and_true] at hk
  obtain ⟨d0, d1, d2, d3, d4, d5, d6, d7, d8, d9, d10, d11, d12, d13, d14, d15, d16, d17, d18, d19, d20, d21, d22, d23, d24, d25, d26, d27, d28, d29, d30, d31, d32, d33, d34, d35, d36, d37, d38, d39, d40, d41, d42, d43, d44, d45, d46, d47, d48, d49, d50, d51, d52, d53, d54, d55, d56, d57⟩ := hk
  refine gg_al C d0 rfl ?_
  refine gg_arg C hX hbl hbA (i := i) (j := 1) (by omega) hL rfl rfl d1 d2 d3 rfl d4 d5 ?_
  refine gg_arg C hX hbl hbA (i := i) (j := 2) (by omega) hL rfl rfl d6 d7 d8 rfl d9 d10 ?_
  refine gg_arg C hX hbl hbA (i := i) (j := 3) (by omega) hL rfl rfl d11 d12 d13 rfl d14 d15 ?_
  refine gg_al C d16 rfl ?_
  refine gg_w (d := d + 1) (av := [.ref 0, .int (xs (i + 1)), .int (xs (i + 2)), .int (xs (i + 3)), .ref 111]) (r := []) C hNc (by omega) (by omega) hkc hkn hw0.1 hw0.2.1 hw0.2.2.1 hw0.2.2.2.1 hw0.2.2.2.2.1 hw0.2.2.2.2.2 (by decide) hw d17 (fun r τ hq => ?_)
  rcases hq with ⟨rfl, v, τ1, ⟨-, hm2⟩, rfl⟩ | ⟨z, ⟨hz0, hm2⟩, rfl⟩
  · refine gg_is2 C d18 rfl (by decide) ?_
    refine gg_al C d19 rfl ?_
    refine gg_arg C hX hbl hbA (i := i) (j := 1) (by omega) hL rfl rfl d20 d21 d22 rfl d23 d24 ?_
    refine gg_arg C hX hbl hbA (i := i) (j := 2) (by omega) hL rfl rfl d25 d26 d27 rfl d28 d29 ?_
    refine gg_arg C hX hbl hbA (i := i) (j := 3) (by omega) hL rfl rfl d30 d31 d32 rfl d33 d34 ?_
    refine sw_g_callV (d := d) (av := [.ref 75, .int (xs (i + 1)), .int (xs (i + 2)), .int (xs (i + 3))]) (r := []) C (by omega) (by omega) (by omega) (by omega) h2 (by have := hm.1; omega) hm.2.2.1 hm.2.2.2.2 (by rw [hm.2.2.2.1]; rfl) (rec75 hm.1 hm.2.1) (Nat.le_of_ble_eq_true rfl) (hm2 _) d35 (fun r2 υ hq => ?_)
    obtain ⟨rfl, z0, z1, hI⟩ := hq
    refine gg_is2 C d36 rfl (by decide) ?_
    refine gg_al C d37 rfl ?_
    refine sw_g_callV (d := d) (av := [.ref 75]) (r := []) (idx := 114) (mn := 177) (Q := fun r3 υ3 => r3 = some (.int (υ.1 75 0)) ∧ υ3 = υ) C (by omega) (by omega) (by omega) (by omega) rfl (by decide) rfl rfl rfl (rec75 (by decide) rfl) (by decide) (thrown_ok (by omega) ⟨rfl, rfl⟩) d38 (fun r3 υ3 hq => ?_)
    obtain ⟨rfl, rfl⟩ := hq
    refine gg_il2 C d39 rfl ?_
    refine gg_ieq C d40 (t := q + 1 + 1 + 2 + 1 + 1 + 1 + 1 + 2 + 1 + 1 + 1 + 1 + 2 + 1 + 1 + 1 + 1 + 3 + 2 + 1 + 1 + 2 + 1 + 1 + 1 + 1 + 2 + 1 + 1 + 1 + 1 + 2 + 1 + 1 + 1 + 3 + 2 + 1 + 3 + 2 + 3 + 1 + 1) (by omega) (fun _ => ?_) (fun w => absurd z0 w)
    refine gg_il2 C d43 rfl ?_
    refine gg_ne C d44 (t := q + 1 + 1 + 2 + 1 + 1 + 1 + 1 + 2 + 1 + 1 + 1 + 1 + 2 + 1 + 1 + 1 + 1 + 3 + 2 + 1 + 1 + 2 + 1 + 1 + 1 + 1 + 2 + 1 + 1 + 1 + 1 + 2 + 1 + 1 + 1 + 3 + 2 + 1 + 3 + 2 + 3 + 1 + 1 + 2 + 3 + 1 + 1 + 1 + 2 + 3 + 1 + 3 + 1 + 1 + 3 + 1 + 1) (by omega) (fun w => absurd rfl w) (fun _ => ?_)
    refine gg_al C d45 rfl (gg_ic C (x := 0) d46 rfl (gg_lald C rfl vin0 d47 ?_))
    refine gg_il2 C d48 rfl ?_
    refine gg_eq C d49 (t := q + 1 + 1 + 2 + 1 + 1 + 1 + 1 + 2 + 1 + 1 + 1 + 1 + 2 + 1 + 1 + 1 + 1 + 3 + 2 + 1 + 1 + 2 + 1 + 1 + 1 + 1 + 2 + 1 + 1 + 1 + 1 + 2 + 1 + 1 + 1 + 3 + 2 + 1 + 3 + 2 + 3 + 1 + 1 + 2 + 3 + 1 + 1 + 1 + 2 + 3 + 1 + 3) (by omega) (fun w0 => ?_) (fun w0 => ?_)
    · refine gg_lc C d52 (gg_lcmp C d53 (gg_eq C d54 (t := q + 1 + 1 + 2 + 1 + 1 + 1 + 1 + 2 + 1 + 1 + 1 + 1 + 2 + 1 + 1 + 1 + 1 + 3 + 2 + 1 + 1 + 2 + 1 + 1 + 1 + 1 + 2 + 1 + 1 + 1 + 1 + 2 + 1 + 1 + 1 + 3 + 2 + 1 + 3 + 2 + 3 + 1 + 1 + 2 + 3 + 1 + 1 + 1 + 2 + 3 + 1 + 3 + 1 + 1 + 3 + 1 + 1) (by omega) (fun _ => gg_goto C d57 ho (gg_weak (ls := lwLS i) [some (.int 0), some (.int v)] (K _ hI))) (fun w => absurd ?_ w)))
      rw [z1, vpu0, cvB, if_pos w0]
      exact lc_self _
    · refine gg_lc C d50 (gg_goto C d51 (t := q + 1 + 1 + 2 + 1 + 1 + 1 + 1 + 2 + 1 + 1 + 1 + 1 + 2 + 1 + 1 + 1 + 1 + 3 + 2 + 1 + 1 + 2 + 1 + 1 + 1 + 1 + 2 + 1 + 1 + 1 + 1 + 2 + 1 + 1 + 1 + 3 + 2 + 1 + 3 + 2 + 3 + 1 + 1 + 2 + 3 + 1 + 1 + 1 + 2 + 3 + 1 + 3 + 1) (by omega) (gg_lcmp C d53 (gg_eq C d54 (t := q + 1 + 1 + 2 + 1 + 1 + 1 + 1 + 2 + 1 + 1 + 1 + 1 + 2 + 1 + 1 + 1 + 1 + 3 + 2 + 1 + 1 + 2 + 1 + 1 + 1 + 1 + 2 + 1 + 1 + 1 + 1 + 2 + 1 + 1 + 1 + 3 + 2 + 1 + 3 + 2 + 3 + 1 + 1 + 2 + 3 + 1 + 1 + 1 + 2 + 3 + 1 + 3 + 1 + 1 + 3 + 1 + 1) (by omega) (fun _ => gg_goto C d57 ho (gg_weak (ls := lwLS i) [some (.int 0), some (.int v)] (K _ hI))) (fun w => absurd ?_ w))))
      rw [z1, vpu0, cvB, if_neg w0]
      exact lc_self _
  · refine gg_is2 C d18 rfl (by decide) ?_
    refine gg_al C d19 rfl ?_
    refine gg_arg C hX hbl hbA (i := i) (j := 1) (by omega) hL rfl rfl d20 d21 d22 rfl d23 d24 ?_
    refine gg_arg C hX hbl hbA (i := i) (j := 2) (by omega) hL rfl rfl d25 d26 d27 rfl d28 d29 ?_
    refine gg_arg C hX hbl hbA (i := i) (j := 3) (by omega) hL rfl rfl d30 d31 d32 rfl d33 d34 ?_
    refine sw_g_callV (d := d) (av := [.ref 75, .int (xs (i + 1)), .int (xs (i + 2)), .int (xs (i + 3))]) (r := []) C (by omega) (by omega) (by omega) (by omega) h2 (by have := hm.1; omega) hm.2.2.1 hm.2.2.2.2 (by rw [hm.2.2.2.1]; rfl) (rec75 hm.1 hm.2.1) (Nat.le_of_ble_eq_true rfl) (hm2) d35 (fun r2 υ hq => ?_)
    obtain ⟨hr2, z0, hI⟩ := hq
    obtain ⟨v, rfl⟩ := rsh_el hr2
    refine gg_is2 C d36 rfl (by decide) ?_
    refine gg_al C d37 rfl ?_
    refine sw_g_callV (d := d) (av := [.ref 75]) (r := []) (idx := 114) (mn := 177) (Q := fun r3 υ3 => r3 = some (.int (υ.1 75 0)) ∧ υ3 = υ) C (by omega) (by omega) (by omega) (by omega) rfl (by decide) rfl rfl rfl (rec75 (by decide) rfl) (by decide) (thrown_ok (by omega) ⟨rfl, rfl⟩) d38 (fun r3 υ3 hq => ?_)
    obtain ⟨rfl, rfl⟩ := hq
    refine gg_il2 C d39 rfl ?_
    refine gg_ieq C d40 (t := q + 1 + 1 + 2 + 1 + 1 + 1 + 1 + 2 + 1 + 1 + 1 + 1 + 2 + 1 + 1 + 1 + 1 + 3 + 2 + 1 + 1 + 2 + 1 + 1 + 1 + 1 + 2 + 1 + 1 + 1 + 1 + 2 + 1 + 1 + 1 + 3 + 2 + 1 + 3 + 2 + 3 + 1 + 1) (by omega) (fun _ => ?_) (fun w => absurd z0 w)
    refine gg_il2 C d43 rfl ?_
    exact gg_ne C d44 (t := q + 1 + 1 + 2 + 1 + 1 + 1 + 1 + 2 + 1 + 1 + 1 + 1 + 2 + 1 + 1 + 1 + 1 + 3 + 2 + 1 + 1 + 2 + 1 + 1 + 1 + 1 + 2 + 1 + 1 + 1 + 1 + 2 + 1 + 1 + 1 + 3 + 2 + 1 + 3 + 2 + 3 + 1 + 1 + 2 + 3 + 1 + 1 + 1 + 2 + 3 + 1 + 3 + 1 + 1 + 3 + 1 + 1) (by omega) (fun _ => gg_goto C d57 ho (gg_weak (ls := lwLS i) [some (.int (ec z)), some (.int v)] (K _ hI))) (fun w => absurd w hz0)

end
