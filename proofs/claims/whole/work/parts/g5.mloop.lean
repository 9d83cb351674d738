/-! The reference's constructor: its table of how many bits a number has. -/
theorem pcn_half : ∀ (n a : Nat), pcn (n + 1) a = pcn n (a / 2) + a % 2
  | 0, a => by
    simp only [pcn]
    rcases Nat.mod_two_eq_zero_or_one a with h | h
    · simp [h]
    · simp [h]
  | n + 1, a => by
    have ih := pcn_half n a
    show pcn (n + 1) a + (if a.testBit (n + 1) then 1 else 0) = (pcn n (a / 2) + (if (a / 2).testBit n then 1 else 0)) + a % 2
    rw [ih, Nat.testBit_succ]
    omega
theorem pc_half {a : Nat} (ha : a < 4096) : pc a = pc (a / 2) + a % 2 := by
  have h1 := pcn_half 11 a
  have h2 : pcn 12 (a / 2) = pcn 11 (a / 2) + (if (a / 2).testBit 11 then 1 else 0) := rfl
  have h3 : (a / 2).testBit 11 = false := Nat.testBit_lt_two_pow (by omega)
  rw [h3] at h2
  show pcn 12 a = pcn 12 (a / 2) + a % 2
  rw [h2]
  exact h1
noncomputable def gp (i : Nat) : Nat → Int32 := fun j => if j < i then nI (pc j) else 0
theorem gp_next {i : Nat} : upd (gp i) i (nI (pc i)) = gp (i + 1) := by
  funext j
  unfold upd gp
  by_cases h : j = i
  · subst h
    simp
  · simp only [h, if_false]
    by_cases h2 : j < i
    · rw [if_pos h2, if_pos (by omega)]
    · rw [if_neg h2, if_neg (by omega)]
theorem gp_1 : gp 1 = sg.1 80 := by
  funext j
  show (if j < 1 then nI (pc j) else 0) = 0
  by_cases h : j < 1
  · rw [if_pos h, show j = 0 by omega]
    rfl
  · rw [if_neg h]
noncomputable def sgm (i : Nat) : sw_M := sw_sI sg 80 (gp i)
theorem sgm_1 : sgm 1 = sg := by
  unfold sgm
  rw [gp_1]
  unfold sw_sI
  refine Prod.ext ?_ rfl
  funext k
  show (if k = 80 then sg.1 80 else sg.1 k) = sg.1 k
  by_cases h : k = 80
  · rw [if_pos h, h]
  · rw [if_neg h]
theorem gbW_80 {E : sw_E} {i : Nat} {f : Nat → Int32} {fs : List Value} : (gbW E (sgm i) 75 35 11 fs).set 5 (E.2.1 80, .inl (E.2.2.1, 4096, .inl f)) = gbW E (sw_sI sg 80 f) 75 35 11 fs := by
  refine List.ext_getElem? (fun j => ?_)
  rw [List.getElem?_set]
  by_cases h : 5 = j
  · subst h
    rw [if_pos rfl, if_pos (by rw [gbW_len]; decide)]
    rfl
  · rw [if_neg h]
    match j, h with
    | 0, _ => rfl
    | j + 1, h =>
      show (gbS E (sgm i) 76 35)[j]? = (gbS E (sw_sI sg 80 f) 76 35)[j]?
      by_cases h2 : j < 35
      · rw [gbS_at E _ h2, gbS_at E _ h2]
        have h3 : 76 + j ≠ 80 := by omega
        rw [sgm, sw_ce_I E sg 80 _ h3, sw_ce_I E sg 80 _ h3]
      · rw [List.getElem?_eq_none (by rw [gbS_len]; omega), List.getElem?_eq_none (by rw [gbS_len]; omega)]
noncomputable def DFM : List Value := [.int 0, .int 0, .int 0, .int 0, .int 0, .int 0, .null, .null, .null, .null, .null, .null, .int 0, .int 0, .int 0, .null, .int 0, .int 0, .int 0, .int 0, .int 0, .int 0, .int 0, .long 0, .int 0, .int 0, .int 0, .int 0, .int 0, .int 0, .int 0, .int 0, .null, .null, .null, .null, .null, .null, .null, .null, .null, .null, .null, .int 0, .null, .null, .int 0, .null, .null, .null, .null, .int 0, .int 0, .null, .null, .null, .null, .null, .int 0, .int 0, .null, .null, .null, .int 0, .int 0, .int 0, .int 0, .null, .null, .null]
section
variable {l : Launch} {E : sw_E} {p : Program} {e : Env} {s : State} {m : MethodId} {args : Array Value} {below : List Frame} {meth : Method} {c : Code} {F : State → Prop} {R : Room} {n : Nat}
set_option maxRecDepth 100000 in
theorem gb_mloop (C : gb_C E 11 cX11_init 2 75 p s m args meth c) (g : gb_G l E 2 p e R s m args below meth c F n 352 [some (.ref 75)] (sgm 4096) 75 35 11 (FSM E)) : ∀ (r i : Nat), 1 ≤ i → i + r = 4096 → gb_G l E 2 p e R s m args below meth c F n 321 [some (.ref 75), some (.int (nI i))] (sgm i) 75 35 11 (FSM E) := by
  intro r
  induction r with
  | zero =>
    intro i h1 h2 H locs la hP hS hla
    have e4 : i = 4096 := by omega
    subst e4
    refine lv_iload_n C.1 C.2.1 (show decode cX11_init 321 = .ok (.iload_n 1, 1) from by decide +kernel) rfl (hla.2.2 1 _ rfl) ?_
    refine lv_sipush (v := 4096) C.1 C.2.1 (show decode cX11_init 322 = .ok (.sipush 4096, 3) from by decide +kernel) (by decide) ?_
    refine lv_icmp_ge (tgt := 352) C.1 C.2.1 (show decode cX11_init 325 = .ok (.if_icmp .ge 27, 3) from by decide +kernel) (by decide) (fun _ => ?_) (fun q => absurd (by decide) q)
    exact g H locs la hP hS ⟨hla.1, hla.2.1, fun j v h => hla.2.2 j v (nth_app [some (.ref 75)] [some (.int (nI 4096))] j h)⟩
  | succ r ih =>
    intro i h1 h2 H locs la hP hS hla
    obtain ⟨hx, hb, hml, hown, hts, hK, hN, hnm, hsz, hE⟩ := id C
    have hD := gb_Dw (σ := sgm i) (ci := 11) (fs := FSM E) (i := 35) hE (show 75 + 1 + 35 ≤ 112 by decide)
    obtain ⟨qq, hq, -, -, hlink⟩ := sw_fl_ok (show sw_fl 11 29 = some (11, 10) from rfl)
    cases hq
    have hlink := hlink.elim (fun h => absurd h (by decide)) id
    have get : ∀ {pc : Nat} {rest : List Value}, decode cX11_init pc = .ok (.getfield 29, 3) → W p l e R s m args below meth c H locs 35 n F (F0 m (pc + 3) la (.ref (E.2.1 80) :: rest)) → W p l e R s m args below meth c H locs 35 n F (F0 m pc la (.ref (E.2.1 75) :: rest)) := fun hd k => va_get (D := E.1) (ci := 11) (C := RX11) (T := TX11) (N := 70) hx hb hts (sw_cl_in (ci := 11) rfl) hown hK hP 0 rfl rfl 10 (by decide) (hts _ hlink) (fun _ h => h) rfl hd k
    have a80 : (gbW E (sgm i) 75 35 11 (FSM E))[5]? = some (E.2.1 80, .inl (E.2.2.1, 4096, .inl (gp i))) := rfl
    refine lv_iload_n hx hb (show decode cX11_init 321 = .ok (.iload_n 1, 1) from by decide +kernel) rfl (hla.2.2 1 _ rfl) ?_
    refine lv_sipush (v := 4096) hx hb (show decode cX11_init 322 = .ok (.sipush 4096, 3) from by decide +kernel) (by decide) ?_
    refine lv_icmp_ge (tgt := 352) hx hb (show decode cX11_init 325 = .ok (.if_icmp .ge 27, 3) from by decide +kernel) (by decide) (fun q => absurd q (nI_ge (a := i) (b := 4096) (by omega) (by decide))) (fun _ => ?_)
    refine lv_aload_n hx hb (show decode cX11_init 328 = .ok (.aload_n 0, 1) from by decide +kernel) rfl (hla.2.2 0 _ rfl) ?_
    refine get (show decode cX11_init 329 = .ok (.getfield 29, 3) from by decide +kernel) ?_
    refine lv_iload_n hx hb (show decode cX11_init 332 = .ok (.iload_n 1, 1) from by decide +kernel) rfl (hla.2.2 1 _ rfl) ?_
    refine lv_aload_n hx hb (show decode cX11_init 333 = .ok (.aload_n 0, 1) from by decide +kernel) rfl (hla.2.2 0 _ rfl) ?_
    refine get (show decode cX11_init 334 = .ok (.getfield 29, 3) from by decide +kernel) ?_
    refine lv_iload_n hx hb (show decode cX11_init 337 = .ok (.iload_n 1, 1) from by decide +kernel) rfl (hla.2.2 1 _ rfl) ?_
    refine lv_iconst (v := 1) hx hb (show decode cX11_init 338 = .ok (.iconst 1, 1) from by decide +kernel) (by decide) ?_
    refine lv_ishr hx hb (show decode cX11_init 339 = .ok (.ishr, 1) from by decide +kernel) ?_
    have esh : nI i >>> ((1 : Int32) &&& 31) = nI (i / 2) := bz_shr (p := 1) (by omega) (by decide)
    rw [esh]
    refine va_iald hx hb hK hP 5 0 a80 rfl (vp_in_nI (by omega) (by decide)) (show decode cX11_init 340 = .ok (.iaload, 1) from by decide +kernel) ?_
    refine lv_iload_n hx hb (show decode cX11_init 341 = .ok (.iload_n 1, 1) from by decide +kernel) rfl (hla.2.2 1 _ rfl) ?_
    refine lv_iconst (v := 1) hx hb (show decode cX11_init 342 = .ok (.iconst 1, 1) from by decide +kernel) (by decide) ?_
    refine lv_iand hx hb (show decode cX11_init 343 = .ok (.iand, 1) from by decide +kernel) ?_
    refine lv_iadd hx hb (show decode cX11_init 344 = .ok (.iadd, 1) from by decide +kernel) ?_
    refine va_iast hx hb hK hP hD hS 5 0 a80 rfl (vp_in_nI (by omega) (by decide)) (show decode cX11_init 345 = .ok (.iastore, 1) from by decide +kernel) (fun H1 locs1 hP1 _ hS1 => ?_)
    have ev : gp i (nI (i / 2)).toNatClampNeg + (nI i &&& 1) = nI (pc i) := by
      rw [nI_clamp (by omega), bz_and1]
      show (if i / 2 < i then nI (pc (i / 2)) else 0) + nI (i % 2) = nI (pc i)
      rw [if_pos (by omega), nI_add, ← pc_half (by omega)]
    rw [ev, nI_clamp (by omega), gp_next, gbW_80] at hP1
    have hP1 : va_P E.1 vwCl (gbW E (sgm (i + 1)) 75 35 11 (FSM E)) H1 := hP1
    obtain ⟨q1, hq1⟩ := List.getElem?_of_mem (sw_lh_mem hla (j := 1) (v := .int (nI i)) rfl)
    refine lv_iinc hx hb (show decode cX11_init 346 = .ok (.iinc 1 1, 3) from by decide +kernel) (sw_lh_lv hla) hq1 rfl (by decide) rfl (fun la1 hl1 => ?_)
    refine lv_goto (tgt := 321) hx hb (show decode cX11_init 349 = .ok (.goto (-28), 3) from by decide +kernel) (by decide) ?_
    have hla1 := sw_lh_put1 (i := 1) (x := .int (nI i + Int32.ofInt 1)) hla rfl hl1
    have e1 : nI i + Int32.ofInt 1 = nI (i + 1) := nI_add i 1
    rw [e1] at hla1
    exact ih (i + 1) (by omega) (by omega) H1 locs1 la1 hP1 hS1 hla1
set_option maxRecDepth 100000 in
set_option maxHeartbeats 4000000 in
theorem cX11_75 (hE : ∀ k, k < 112 → E.2.1 k = E.2.1 0 + k) : gb_Con l E (sgm 4096) 2 176 75 11 35 28408 DFM := by
  refine gb_ctor (y := yX11_init) (cb := cX11_init) (nL := 2) (io := 1) rfl (sw_in (i := 1530) (by decide +kernel) rfl) (by decide +kernel) rfl rfl hE (by decide) (by decide) (show decode cX11_init 0 = .ok (.aload_n 0, 1) from by decide +kernel) (show decode cX11_init 1 = .ok (.invokespecial 1, 3) from by decide +kernel) (sw_in (i := 1531) (by decide +kernel) rfl) (sw_in (i := 154) (by decide +kernel) rfl) (sw_in (i := 155) (by decide +kernel) rfl) ?_
  intro p e s m args below meth c C hr hlocks
  have h0 : gb_G l E 2 p e (gb_rm 2 35 28408) s m args below meth c (MQ below (gb_Q E (sgm 4096) 75 35) args s 35 28408 (gb_A E 75)) 0 4 [some (.ref 75)] sg 75 0 11 DFM := by
    refine gb_model (Nat.le_refl _) (Nat.le_refl _) C (fun H locs la hP hS hla => ?_)
    refine lv_iconst (v := 1) C.1 C.2.1 (show decode cX11_init 319 = .ok (.iconst 1, 1) from by decide +kernel) (by decide) ?_
    refine lv_istore_n C.1 C.2.1 (show decode cX11_init 320 = .ok (.istore_n 1, 1) from by decide +kernel) rfl (sw_lh_lv hla) (by decide) rfl (fun la1 hl1 => ?_)
    have hla1 := sw_lh_put1 (i := 1) (x := .int 1) hla rfl hl1
    rw [← sgm_1] at hP
    refine gb_mloop C ?_ 4095 1 (by decide) (by decide) H locs la1 hP hS hla1
    exact gb_end C hr hlocks (show decode cX11_init 352 = .ok (.return_, 1) from by decide +kernel) rfl
  exact h0
end
