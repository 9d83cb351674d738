/-! Contracts of the law's catching methods (written by gen_wr.py). -/
section
variable {l : Launch} {E : sw_E} {d : Nat} {σ : sw_M} {x y z : Int32} {Q : Option Value → sw_M → Prop} {QX : Nat → sw_M → Prop}
set_option maxRecDepth 100000 in
theorem w_move (h : sw_ConX l E d 4 129 [.ref 0, .int x, .int y] σ Q QX) (hQ : ∀ r τ, Q r τ → rsh 0 r) (hX : ∀ i τ, QX i τ → ((fun i => if i = 0 then 1 else 0) : Nat → Int32) i ≠ 0) : sw_ConW l E (d + 1) yL_move cL_move 5 [(0, 10, 13, 18)] [.ref 0, .int x, .int y, .ref 111] σ (wrQ cvI (fun i => if i = 0 then 1 else 0) Q QX) := by
  refine wr_open (by decide +kernel) rfl (sw_in (i := 1262) (by decide +kernel) rfl) (by intro w hw; simp only [List.mem_cons, List.not_mem_nil, or_false] at hw; rcases hw with rfl | rfl | rfl | rfl <;> rfl) (Nat.le_of_ble_eq_true rfl) ?_
  intro p e s m args below meth c A C hr hlocks htab hNc
  refine gg_al C (show decode cL_move 0 = .ok (.aload_n 3, 1) from by decide +kernel) rfl ?_
  refine gg_ic C (x := 0) (show decode cL_move 1 = .ok (.iconst 0, 1) from by decide +kernel) rfl ?_
  refine gg_al C (show decode cL_move 2 = .ok (.aload_n 0, 1) from by decide +kernel) rfl ?_
  refine gg_il C (show decode cL_move 3 = .ok (.iload_n 1, 1) from by decide +kernel) rfl ?_
  refine gg_il C (show decode cL_move 4 = .ok (.iload_n 2, 1) from by decide +kernel) rfl ?_
  refine wr_call (av := [.ref 0, .int x, .int y]) (r := [.int 0, .ref 111]) C (Nat.le_refl _) (Nat.le_refl _) (Nat.le_refl _) (Nat.le_refl _) (idx := 37) (mn := 129) rfl (by decide) rfl rfl rfl (rec0 (by decide) rfl) (by decide) h (show decode cL_move 5 = .ok (.invokevirtual 37, 3) from by decide +kernel) (fun v τ q => ?_) (fun i τ H locs la q ce hq hP hD hS hl hce hcv hcl => ?_)
  · obtain ⟨v, rfl⟩ := rsh_el (hQ _ _ q)
    exact wr_tI (z := 17) C hr hlocks (show decode cL_move 8 = .ok (.i2l, 1) from by decide +kernel) (show decode cL_move 9 = .ok (.lastore, 1) from by decide +kernel) (show decode cL_move 10 = .ok (.goto 7, 3) from by decide +kernel) (by decide) (show decode cL_move 17 = .ok (.iconst 0, 1) from by decide +kernel) (show decode cL_move 18 = .ok (.ireturn, 1) from by decide +kernel) (Or.inl ⟨rfl, v, τ, q, rfl⟩)
  · have h0 : i = 0 := by
      rcases Nat.eq_zero_or_pos i with h0 | h0
      · exact h0
      · exact absurd (if_neg (by omega)) (hX _ _ hq)
    subst h0
    exact ct_1 (own := sw_R 12) (name := sw_xi0) C.2.2.2.1 htab (by decide) (by decide) (C.2.2.2.2.1 _ (sw_in (i := 1154) (by decide +kernel) rfl)) (wr_c0 C) hce hcv hcl (wr_h2 C hr hlocks (show decode cL_move 13 = .ok (.astore 4, 2) from by decide +kernel) (by decide) (show decode cL_move 15 = .ok (.iconst 1, 1) from by decide +kernel) rfl (show decode cL_move 16 = .ok (.ireturn, 1) from by decide +kernel) hP hD hS hl (Or.inr ⟨0, hq, rfl⟩))
set_option maxRecDepth 100000 in
theorem w_can (h : sw_ConX l E d 4 131 [.ref 0, .int x, .int y] σ Q QX) (hQ : ∀ r τ, Q r τ → rsh 0 r) (hX : ∀ i τ, QX i τ → ((fun i => if i = 0 then 0 else 1) : Nat → Int32) i ≠ 0) : sw_ConW l E (d + 1) yL_can cL_can 5 [(0, 17, 20, 13)] [.ref 0, .int x, .int y, .ref 111] σ (wrQ cvB (fun i => if i = 0 then 0 else 1) Q QX) := by
  refine wr_open (by decide +kernel) rfl (sw_in (i := 1273) (by decide +kernel) rfl) (by intro w hw; simp only [List.mem_cons, List.not_mem_nil, or_false] at hw; rcases hw with rfl | rfl | rfl | rfl <;> rfl) (Nat.le_of_ble_eq_true rfl) ?_
  intro p e s m args below meth c A C hr hlocks htab hNc
  refine gg_al C (show decode cL_can 0 = .ok (.aload_n 3, 1) from by decide +kernel) rfl ?_
  refine gg_ic C (x := 0) (show decode cL_can 1 = .ok (.iconst 0, 1) from by decide +kernel) rfl ?_
  refine gg_al C (show decode cL_can 2 = .ok (.aload_n 0, 1) from by decide +kernel) rfl ?_
  refine gg_il C (show decode cL_can 3 = .ok (.iload_n 1, 1) from by decide +kernel) rfl ?_
  refine gg_il C (show decode cL_can 4 = .ok (.iload_n 2, 1) from by decide +kernel) rfl ?_
  refine wr_call (av := [.ref 0, .int x, .int y]) (r := [.int 0, .ref 111]) C (Nat.le_refl _) (Nat.le_refl _) (Nat.le_refl _) (Nat.le_refl _) (idx := 40) (mn := 131) rfl (by decide) rfl rfl rfl (rec0 (by decide) rfl) (by decide) h (show decode cL_can 5 = .ok (.invokevirtual 40, 3) from by decide +kernel) (fun v τ q => ?_) (fun i τ H locs la q ce hq hP hD hS hl hce hcv hcl => ?_)
  · obtain ⟨v, rfl⟩ := rsh_el (hQ _ _ q)
    exact wr_tB (z := 24) C hr hlocks (show decode cL_can 8 = .ok (.ifCond .eq 7, 3) from by decide +kernel) (by decide) (show decode cL_can 11 = .ok (.lconst 1, 1) from by decide +kernel) (show decode cL_can 12 = .ok (.goto 4, 3) from by decide +kernel) (by decide) (show decode cL_can 15 = .ok (.lconst 0, 1) from by decide +kernel) (show decode cL_can 16 = .ok (.lastore, 1) from by decide +kernel) (show decode cL_can 17 = .ok (.goto 7, 3) from by decide +kernel) (by decide) (show decode cL_can 24 = .ok (.iconst 0, 1) from by decide +kernel) (show decode cL_can 25 = .ok (.ireturn, 1) from by decide +kernel) (Or.inl ⟨rfl, v, τ, q, rfl⟩)
  · have h0 : ¬ i = 0 := fun h0 => absurd (if_pos h0) (hX _ _ hq)
    have e1 : sw_xn i = sw_xi1 := by rw [sw_xn, if_neg h0]; rfl
    rw [e1] at hcl
    exact ct_1 (own := sw_R 12) (name := sw_xi1) C.2.2.2.1 htab (by decide) (by decide) (C.2.2.2.2.1 _ (sw_in (i := 814) (by decide +kernel) rfl)) (wr_c1 C) hce hcv hcl (wr_h2 C hr hlocks (show decode cL_can 20 = .ok (.astore 4, 2) from by decide +kernel) (by decide) (show decode cL_can 22 = .ok (.iconst 1, 1) from by decide +kernel) rfl (show decode cL_can 23 = .ok (.ireturn, 1) from by decide +kernel) hP hD hS hl (Or.inr ⟨i, hq, ec1 h0⟩))
set_option maxRecDepth 100000 in
theorem w_most (h : sw_ConX l E d 4 135 [.ref 0, .int x] σ Q QX) (hQ : ∀ r τ, Q r τ → rsh 0 r) (hX : ∀ i τ, QX i τ → ((fun i => if i = 0 then 1 else 0) : Nat → Int32) i ≠ 0) : sw_ConW l E (d + 1) yL_most cL_most 4 [(0, 9, 12, 18)] [.ref 0, .int x, .ref 111] σ (wrQ cvI (fun i => if i = 0 then 1 else 0) Q QX) := by
  refine wr_open (by decide +kernel) rfl (sw_in (i := 1294) (by decide +kernel) rfl) (by intro w hw; simp only [List.mem_cons, List.not_mem_nil, or_false] at hw; rcases hw with rfl | rfl | rfl <;> rfl) (Nat.le_of_ble_eq_true rfl) ?_
  intro p e s m args below meth c A C hr hlocks htab hNc
  refine gg_al C (show decode cL_most 0 = .ok (.aload_n 2, 1) from by decide +kernel) rfl ?_
  refine gg_ic C (x := 0) (show decode cL_most 1 = .ok (.iconst 0, 1) from by decide +kernel) rfl ?_
  refine gg_al C (show decode cL_most 2 = .ok (.aload_n 0, 1) from by decide +kernel) rfl ?_
  refine gg_il C (show decode cL_most 3 = .ok (.iload_n 1, 1) from by decide +kernel) rfl ?_
  refine wr_call (av := [.ref 0, .int x]) (r := [.int 0, .ref 111]) C (Nat.le_refl _) (Nat.le_refl _) (Nat.le_refl _) (Nat.le_refl _) (idx := 44) (mn := 135) rfl (by decide) rfl rfl rfl (rec0 (by decide) rfl) (by decide) h (show decode cL_most 4 = .ok (.invokevirtual 44, 3) from by decide +kernel) (fun v τ q => ?_) (fun i τ H locs la q ce hq hP hD hS hl hce hcv hcl => ?_)
  · obtain ⟨v, rfl⟩ := rsh_el (hQ _ _ q)
    exact wr_tI (z := 15) C hr hlocks (show decode cL_most 7 = .ok (.i2l, 1) from by decide +kernel) (show decode cL_most 8 = .ok (.lastore, 1) from by decide +kernel) (show decode cL_most 9 = .ok (.goto 6, 3) from by decide +kernel) (by decide) (show decode cL_most 15 = .ok (.iconst 0, 1) from by decide +kernel) (show decode cL_most 16 = .ok (.ireturn, 1) from by decide +kernel) (Or.inl ⟨rfl, v, τ, q, rfl⟩)
  · have h0 : i = 0 := by
      rcases Nat.eq_zero_or_pos i with h0 | h0
      · exact h0
      · exact absurd (if_neg (by omega)) (hX _ _ hq)
    subst h0
    exact ct_1 (own := sw_R 12) (name := sw_xi0) C.2.2.2.1 htab (by decide) (by decide) (C.2.2.2.2.1 _ (sw_in (i := 1154) (by decide +kernel) rfl)) (wr_c0 C) hce hcv hcl (wr_h1 C hr hlocks (show decode cL_most 12 = .ok (.astore_n 3, 1) from by decide +kernel) (by decide) (show decode cL_most 13 = .ok (.iconst 1, 1) from by decide +kernel) rfl (show decode cL_most 14 = .ok (.ireturn, 1) from by decide +kernel) hP hD hS hl (Or.inr ⟨0, hq, rfl⟩))
set_option maxRecDepth 100000 in
theorem w_strongest (h : sw_ConX l E d 4 139 [.ref 0, .int x, .int y, .int z] σ Q QX) (hQ : ∀ r τ, Q r τ → rsh 0 r) (hX : ∀ i τ, QX i τ → ((fun i => if i = 0 then 1 else 2) : Nat → Int32) i ≠ 0) : sw_ConW l E (d + 1) yL_strongest cL_strongest 6 [(0, 12, 15, 18), (0, 12, 19, 13)] [.ref 0, .int x, .int y, .int z, .ref 111] σ (wrQ cvI (fun i => if i = 0 then 1 else 2) Q QX) := by
  refine wr_open (by decide +kernel) rfl (sw_in (i := 1316) (by decide +kernel) rfl) (by intro w hw; simp only [List.mem_cons, List.not_mem_nil, or_false] at hw; rcases hw with rfl | rfl | rfl | rfl | rfl <;> rfl) (Nat.le_of_ble_eq_true rfl) ?_
  intro p e s m args below meth c A C hr hlocks htab hNc
  refine gg_al2 C (show decode cL_strongest 0 = .ok (.aload 4, 2) from by decide +kernel) rfl ?_
  refine gg_ic C (x := 0) (show decode cL_strongest 2 = .ok (.iconst 0, 1) from by decide +kernel) rfl ?_
  refine gg_al C (show decode cL_strongest 3 = .ok (.aload_n 0, 1) from by decide +kernel) rfl ?_
  refine gg_il C (show decode cL_strongest 4 = .ok (.iload_n 1, 1) from by decide +kernel) rfl ?_
  refine gg_il C (show decode cL_strongest 5 = .ok (.iload_n 2, 1) from by decide +kernel) rfl ?_
  refine gg_il C (show decode cL_strongest 6 = .ok (.iload_n 3, 1) from by decide +kernel) rfl ?_
  refine wr_call (av := [.ref 0, .int x, .int y, .int z]) (r := [.int 0, .ref 111]) C (Nat.le_refl _) (Nat.le_refl _) (Nat.le_refl _) (Nat.le_refl _) (idx := 47) (mn := 139) rfl (by decide) rfl rfl rfl (rec0 (by decide) rfl) (by decide) h (show decode cL_strongest 7 = .ok (.invokevirtual 47, 3) from by decide +kernel) (fun v τ q => ?_) (fun i τ H locs la q ce hq hP hD hS hl hce hcv hcl => ?_)
  · obtain ⟨v, rfl⟩ := rsh_el (hQ _ _ q)
    exact wr_tI (z := 23) C hr hlocks (show decode cL_strongest 10 = .ok (.i2l, 1) from by decide +kernel) (show decode cL_strongest 11 = .ok (.lastore, 1) from by decide +kernel) (show decode cL_strongest 12 = .ok (.goto 11, 3) from by decide +kernel) (by decide) (show decode cL_strongest 23 = .ok (.iconst 0, 1) from by decide +kernel) (show decode cL_strongest 24 = .ok (.ireturn, 1) from by decide +kernel) (Or.inl ⟨rfl, v, τ, q, rfl⟩)
  · by_cases h0 : i = 0
    · subst h0
      exact ct_1 (own := sw_R 12) (name := sw_xi0) C.2.2.2.1 htab (by decide) (by decide) (C.2.2.2.2.1 _ (sw_in (i := 1154) (by decide +kernel) rfl)) (wr_c0 C) hce hcv hcl (wr_h2 C hr hlocks (show decode cL_strongest 15 = .ok (.astore 5, 2) from by decide +kernel) (by decide) (show decode cL_strongest 17 = .ok (.iconst 1, 1) from by decide +kernel) rfl (show decode cL_strongest 18 = .ok (.ireturn, 1) from by decide +kernel) hP hD hS hl (Or.inr ⟨0, hq, rfl⟩))
    · have e1 : sw_xn i = sw_xi1 := by rw [sw_xn, if_neg h0]; rfl
      rw [e1] at hcl
      refine ct_2 (own := sw_R 12) (nm := sw_xi0) (name := sw_xi1) C.2.2.2.1 htab (by decide) (by decide) (C.2.2.2.2.1 _ (sw_in (i := 1154) (by decide +kernel) rfl)) hNc (by decide) (by decide) (C.2.2.2.2.1 _ (sw_in (i := 814) (by decide +kernel) rfl)) (wr_c1 C) hce hcv hcl ?_
      exact wr_h2 C hr hlocks (show decode cL_strongest 19 = .ok (.astore 5, 2) from by decide +kernel) (by decide) (show decode cL_strongest 21 = .ok (.iconst 2, 1) from by decide +kernel) rfl (show decode cL_strongest 22 = .ok (.ireturn, 1) from by decide +kernel) hP hD hS hl (Or.inr ⟨i, hq, ec2 h0⟩)
set_option maxRecDepth 100000 in
theorem w_last (h : sw_ConX l E d 4 144 [.ref 0, .int x] σ Q QX) (hQ : ∀ r τ, Q r τ → rsh 0 r) (hX : ∀ i τ, QX i τ → ((fun i => if i = 0 then 0 else 1) : Nat → Int32) i ≠ 0) : sw_ConW l E (d + 1) yL_last cL_last 4 [(0, 9, 12, 13)] [.ref 0, .int x, .ref 111] σ (wrQ cvI (fun i => if i = 0 then 0 else 1) Q QX) := by
  refine wr_open (by decide +kernel) rfl (sw_in (i := 1341) (by decide +kernel) rfl) (by intro w hw; simp only [List.mem_cons, List.not_mem_nil, or_false] at hw; rcases hw with rfl | rfl | rfl <;> rfl) (Nat.le_of_ble_eq_true rfl) ?_
  intro p e s m args below meth c A C hr hlocks htab hNc
  refine gg_al C (show decode cL_last 0 = .ok (.aload_n 2, 1) from by decide +kernel) rfl ?_
  refine gg_ic C (x := 0) (show decode cL_last 1 = .ok (.iconst 0, 1) from by decide +kernel) rfl ?_
  refine gg_al C (show decode cL_last 2 = .ok (.aload_n 0, 1) from by decide +kernel) rfl ?_
  refine gg_il C (show decode cL_last 3 = .ok (.iload_n 1, 1) from by decide +kernel) rfl ?_
  refine wr_call (av := [.ref 0, .int x]) (r := [.int 0, .ref 111]) C (Nat.le_refl _) (Nat.le_refl _) (Nat.le_refl _) (Nat.le_refl _) (idx := 51) (mn := 144) rfl (by decide) rfl rfl rfl (rec0 (by decide) rfl) (by decide) h (show decode cL_last 4 = .ok (.invokevirtual 51, 3) from by decide +kernel) (fun v τ q => ?_) (fun i τ H locs la q ce hq hP hD hS hl hce hcv hcl => ?_)
  · obtain ⟨v, rfl⟩ := rsh_el (hQ _ _ q)
    exact wr_tI (z := 15) C hr hlocks (show decode cL_last 7 = .ok (.i2l, 1) from by decide +kernel) (show decode cL_last 8 = .ok (.lastore, 1) from by decide +kernel) (show decode cL_last 9 = .ok (.goto 6, 3) from by decide +kernel) (by decide) (show decode cL_last 15 = .ok (.iconst 0, 1) from by decide +kernel) (show decode cL_last 16 = .ok (.ireturn, 1) from by decide +kernel) (Or.inl ⟨rfl, v, τ, q, rfl⟩)
  · have h0 : ¬ i = 0 := fun h0 => absurd (if_pos h0) (hX _ _ hq)
    have e1 : sw_xn i = sw_xi1 := by rw [sw_xn, if_neg h0]; rfl
    rw [e1] at hcl
    exact ct_1 (own := sw_R 12) (name := sw_xi1) C.2.2.2.1 htab (by decide) (by decide) (C.2.2.2.2.1 _ (sw_in (i := 814) (by decide +kernel) rfl)) (wr_c1 C) hce hcv hcl (wr_h1 C hr hlocks (show decode cL_last 12 = .ok (.astore_n 3, 1) from by decide +kernel) (by decide) (show decode cL_last 13 = .ok (.iconst 1, 1) from by decide +kernel) rfl (show decode cL_last 14 = .ok (.ireturn, 1) from by decide +kernel) hP hD hS hl (Or.inr ⟨i, hq, ec1 h0⟩))
set_option maxRecDepth 100000 in
theorem w_orders (h : sw_ConX l E d 4 145 [.ref 0, .int x] σ Q QX) (hQ : ∀ r τ, Q r τ → rsh 0 r) (hX : ∀ i τ, QX i τ → ((fun i => if i = 0 then 0 else 1) : Nat → Int32) i ≠ 0) : sw_ConW l E (d + 1) yL_orders cL_orders 4 [(0, 9, 12, 13)] [.ref 0, .int x, .ref 111] σ (wrQ cvI (fun i => if i = 0 then 0 else 1) Q QX) := by
  refine wr_open (by decide +kernel) rfl (sw_in (i := 1348) (by decide +kernel) rfl) (by intro w hw; simp only [List.mem_cons, List.not_mem_nil, or_false] at hw; rcases hw with rfl | rfl | rfl <;> rfl) (Nat.le_of_ble_eq_true rfl) ?_
  intro p e s m args below meth c A C hr hlocks htab hNc
  refine gg_al C (show decode cL_orders 0 = .ok (.aload_n 2, 1) from by decide +kernel) rfl ?_
  refine gg_ic C (x := 0) (show decode cL_orders 1 = .ok (.iconst 0, 1) from by decide +kernel) rfl ?_
  refine gg_al C (show decode cL_orders 2 = .ok (.aload_n 0, 1) from by decide +kernel) rfl ?_
  refine gg_il C (show decode cL_orders 3 = .ok (.iload_n 1, 1) from by decide +kernel) rfl ?_
  refine wr_call (av := [.ref 0, .int x]) (r := [.int 0, .ref 111]) C (Nat.le_refl _) (Nat.le_refl _) (Nat.le_refl _) (Nat.le_refl _) (idx := 54) (mn := 145) rfl (by decide) rfl rfl rfl (rec0 (by decide) rfl) (by decide) h (show decode cL_orders 4 = .ok (.invokevirtual 54, 3) from by decide +kernel) (fun v τ q => ?_) (fun i τ H locs la q ce hq hP hD hS hl hce hcv hcl => ?_)
  · obtain ⟨v, rfl⟩ := rsh_el (hQ _ _ q)
    exact wr_tI (z := 15) C hr hlocks (show decode cL_orders 7 = .ok (.i2l, 1) from by decide +kernel) (show decode cL_orders 8 = .ok (.lastore, 1) from by decide +kernel) (show decode cL_orders 9 = .ok (.goto 6, 3) from by decide +kernel) (by decide) (show decode cL_orders 15 = .ok (.iconst 0, 1) from by decide +kernel) (show decode cL_orders 16 = .ok (.ireturn, 1) from by decide +kernel) (Or.inl ⟨rfl, v, τ, q, rfl⟩)
  · have h0 : ¬ i = 0 := fun h0 => absurd (if_pos h0) (hX _ _ hq)
    have e1 : sw_xn i = sw_xi1 := by rw [sw_xn, if_neg h0]; rfl
    rw [e1] at hcl
    exact ct_1 (own := sw_R 12) (name := sw_xi1) C.2.2.2.1 htab (by decide) (by decide) (C.2.2.2.2.1 _ (sw_in (i := 814) (by decide +kernel) rfl)) (wr_c1 C) hce hcv hcl (wr_h1 C hr hlocks (show decode cL_orders 12 = .ok (.astore_n 3, 1) from by decide +kernel) (by decide) (show decode cL_orders 13 = .ok (.iconst 1, 1) from by decide +kernel) rfl (show decode cL_orders 14 = .ok (.ireturn, 1) from by decide +kernel) hP hD hS hl (Or.inr ⟨i, hq, ec1 h0⟩))
set_option maxRecDepth 100000 in
theorem w_wells (h : sw_ConX l E d 4 147 [.ref 0, .int x] σ Q QX) (hQ : ∀ r τ, Q r τ → rsh 0 r) (hX : ∀ i τ, QX i τ → ((fun i => if i = 0 then 1 else 0) : Nat → Int32) i ≠ 0) : sw_ConW l E (d + 1) yL_wells cL_wells 4 [(0, 9, 12, 18)] [.ref 0, .int x, .ref 111] σ (wrQ cvI (fun i => if i = 0 then 1 else 0) Q QX) := by
  refine wr_open (by decide +kernel) rfl (sw_in (i := 1360) (by decide +kernel) rfl) (by intro w hw; simp only [List.mem_cons, List.not_mem_nil, or_false] at hw; rcases hw with rfl | rfl | rfl <;> rfl) (Nat.le_of_ble_eq_true rfl) ?_
  intro p e s m args below meth c A C hr hlocks htab hNc
  refine gg_al C (show decode cL_wells 0 = .ok (.aload_n 2, 1) from by decide +kernel) rfl ?_
  refine gg_ic C (x := 0) (show decode cL_wells 1 = .ok (.iconst 0, 1) from by decide +kernel) rfl ?_
  refine gg_al C (show decode cL_wells 2 = .ok (.aload_n 0, 1) from by decide +kernel) rfl ?_
  refine gg_il C (show decode cL_wells 3 = .ok (.iload_n 1, 1) from by decide +kernel) rfl ?_
  refine wr_call (av := [.ref 0, .int x]) (r := [.int 0, .ref 111]) C (Nat.le_refl _) (Nat.le_refl _) (Nat.le_refl _) (Nat.le_refl _) (idx := 57) (mn := 147) rfl (by decide) rfl rfl rfl (rec0 (by decide) rfl) (by decide) h (show decode cL_wells 4 = .ok (.invokevirtual 57, 3) from by decide +kernel) (fun v τ q => ?_) (fun i τ H locs la q ce hq hP hD hS hl hce hcv hcl => ?_)
  · obtain ⟨v, rfl⟩ := rsh_el (hQ _ _ q)
    exact wr_tI (z := 15) C hr hlocks (show decode cL_wells 7 = .ok (.i2l, 1) from by decide +kernel) (show decode cL_wells 8 = .ok (.lastore, 1) from by decide +kernel) (show decode cL_wells 9 = .ok (.goto 6, 3) from by decide +kernel) (by decide) (show decode cL_wells 15 = .ok (.iconst 0, 1) from by decide +kernel) (show decode cL_wells 16 = .ok (.ireturn, 1) from by decide +kernel) (Or.inl ⟨rfl, v, τ, q, rfl⟩)
  · have h0 : i = 0 := by
      rcases Nat.eq_zero_or_pos i with h0 | h0
      · exact h0
      · exact absurd (if_neg (by omega)) (hX _ _ hq)
    subst h0
    exact ct_1 (own := sw_R 12) (name := sw_xi0) C.2.2.2.1 htab (by decide) (by decide) (C.2.2.2.2.1 _ (sw_in (i := 1154) (by decide +kernel) rfl)) (wr_c0 C) hce hcv hcl (wr_h1 C hr hlocks (show decode cL_wells 12 = .ok (.astore_n 3, 1) from by decide +kernel) (by decide) (show decode cL_wells 13 = .ok (.iconst 1, 1) from by decide +kernel) rfl (show decode cL_wells 14 = .ok (.ireturn, 1) from by decide +kernel) hP hD hS hl (Or.inr ⟨0, hq, rfl⟩))
end
