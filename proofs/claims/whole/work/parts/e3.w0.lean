/-! Contracts of the law's catching methods (written by gen_wr.py). -/
section
variable {l : Launch} {E : sw_E} {d : Nat} {σ : sw_M} {x y z : Int32} {Q : Option Value → sw_M → Prop} {QX : Nat → sw_M → Prop}
set_option maxRecDepth 100000 in
theorem w_land (h : sw_ConX l E d 4 75 [.ref 0, .int x] σ Q QX) (hQ : ∀ r τ, Q r τ → rsh 0 r) (hX : ∀ i τ, QX i τ → ((fun i => if i = 0 then 0 else 1) : Nat → Int32) i ≠ 0) : sw_ConW l E (d + 1) yL_land cL_land 4 [(0, 9, 12, 13)] [.ref 0, .int x, .ref 111] σ (wrQ cvI (fun i => if i = 0 then 0 else 1) Q QX) := by
  refine wr_open (by decide +kernel) rfl (sw_in (i := 813) (by decide +kernel) rfl) (by intro w hw; simp only [List.mem_cons, List.not_mem_nil, or_false] at hw; rcases hw with rfl | rfl | rfl <;> rfl) (Nat.le_of_ble_eq_true rfl) ?_
  intro p e s m args below meth c A C hr hlocks htab hNc
  refine gg_al C (show decode cL_land 0 = .ok (.aload_n 2, 1) from by decide +kernel) rfl ?_
  refine gg_ic C (x := 0) (show decode cL_land 1 = .ok (.iconst 0, 1) from by decide +kernel) rfl ?_
  refine gg_al C (show decode cL_land 2 = .ok (.aload_n 0, 1) from by decide +kernel) rfl ?_
  refine gg_il C (show decode cL_land 3 = .ok (.iload_n 1, 1) from by decide +kernel) rfl ?_
  refine wr_call (av := [.ref 0, .int x]) (r := [.int 0, .ref 111]) C (Nat.le_refl _) (Nat.le_refl _) (Nat.le_refl _) (Nat.le_refl _) (idx := 7) (mn := 75) rfl (by decide) rfl rfl rfl (rec0 (by decide) rfl) (by decide) h (show decode cL_land 4 = .ok (.invokevirtual 7, 3) from by decide +kernel) (fun v τ q => ?_) (fun i τ H locs la q ce hq hP hD hS hl hce hcv hcl => ?_)
  · obtain ⟨v, rfl⟩ := rsh_el (hQ _ _ q)
    exact wr_tI (z := 15) C hr hlocks (show decode cL_land 7 = .ok (.i2l, 1) from by decide +kernel) (show decode cL_land 8 = .ok (.lastore, 1) from by decide +kernel) (show decode cL_land 9 = .ok (.goto 6, 3) from by decide +kernel) (by decide) (show decode cL_land 15 = .ok (.iconst 0, 1) from by decide +kernel) (show decode cL_land 16 = .ok (.ireturn, 1) from by decide +kernel) (Or.inl ⟨rfl, v, τ, q, rfl⟩)
  · have h0 : ¬ i = 0 := fun h0 => absurd (if_pos h0) (hX _ _ hq)
    have e1 : sw_xn i = sw_xi1 := by rw [sw_xn, if_neg h0]; rfl
    rw [e1] at hcl
    exact ct_1 (own := sw_R 12) (name := sw_xi1) C.2.2.2.1 htab (by decide) (by decide) (C.2.2.2.2.1 _ (sw_in (i := 814) (by decide +kernel) rfl)) (wr_c1 C) hce hcv hcl (wr_h1 C hr hlocks (show decode cL_land 12 = .ok (.astore_n 3, 1) from by decide +kernel) (by decide) (show decode cL_land 13 = .ok (.iconst 1, 1) from by decide +kernel) rfl (show decode cL_land 14 = .ok (.ireturn, 1) from by decide +kernel) hP hD hS hl (Or.inr ⟨i, hq, ec1 h0⟩))
set_option maxRecDepth 100000 in
theorem w_count (h : sw_ConX l E d 4 113 [.ref 0, .int x] σ Q QX) (hQ : ∀ r τ, Q r τ → rsh 0 r) (hX : ∀ i τ, QX i τ → ((fun i => if i = 0 then 1 else 0) : Nat → Int32) i ≠ 0) : sw_ConW l E (d + 1) yL_count cL_count 4 [(0, 9, 12, 18)] [.ref 0, .int x, .ref 111] σ (wrQ cvI (fun i => if i = 0 then 1 else 0) Q QX) := by
  refine wr_open (by decide +kernel) rfl (sw_in (i := 1153) (by decide +kernel) rfl) (by intro w hw; simp only [List.mem_cons, List.not_mem_nil, or_false] at hw; rcases hw with rfl | rfl | rfl <;> rfl) (Nat.le_of_ble_eq_true rfl) ?_
  intro p e s m args below meth c A C hr hlocks htab hNc
  refine gg_al C (show decode cL_count 0 = .ok (.aload_n 2, 1) from by decide +kernel) rfl ?_
  refine gg_ic C (x := 0) (show decode cL_count 1 = .ok (.iconst 0, 1) from by decide +kernel) rfl ?_
  refine gg_al C (show decode cL_count 2 = .ok (.aload_n 0, 1) from by decide +kernel) rfl ?_
  refine gg_il C (show decode cL_count 3 = .ok (.iload_n 1, 1) from by decide +kernel) rfl ?_
  refine wr_call (av := [.ref 0, .int x]) (r := [.int 0, .ref 111]) C (Nat.le_refl _) (Nat.le_refl _) (Nat.le_refl _) (Nat.le_refl _) (idx := 15) (mn := 113) rfl (by decide) rfl rfl rfl (rec0 (by decide) rfl) (by decide) h (show decode cL_count 4 = .ok (.invokevirtual 15, 3) from by decide +kernel) (fun v τ q => ?_) (fun i τ H locs la q ce hq hP hD hS hl hce hcv hcl => ?_)
  · obtain ⟨v, rfl⟩ := rsh_el (hQ _ _ q)
    exact wr_tI (z := 15) C hr hlocks (show decode cL_count 7 = .ok (.i2l, 1) from by decide +kernel) (show decode cL_count 8 = .ok (.lastore, 1) from by decide +kernel) (show decode cL_count 9 = .ok (.goto 6, 3) from by decide +kernel) (by decide) (show decode cL_count 15 = .ok (.iconst 0, 1) from by decide +kernel) (show decode cL_count 16 = .ok (.ireturn, 1) from by decide +kernel) (Or.inl ⟨rfl, v, τ, q, rfl⟩)
  · have h0 : i = 0 := by
      rcases Nat.eq_zero_or_pos i with h0 | h0
      · exact h0
      · exact absurd (if_neg (by omega)) (hX _ _ hq)
    subst h0
    exact ct_1 (own := sw_R 12) (name := sw_xi0) C.2.2.2.1 htab (by decide) (by decide) (C.2.2.2.2.1 _ (sw_in (i := 1154) (by decide +kernel) rfl)) (wr_c0 C) hce hcv hcl (wr_h1 C hr hlocks (show decode cL_count 12 = .ok (.astore_n 3, 1) from by decide +kernel) (by decide) (show decode cL_count 13 = .ok (.iconst 1, 1) from by decide +kernel) rfl (show decode cL_count 14 = .ok (.ireturn, 1) from by decide +kernel) hP hD hS hl (Or.inr ⟨0, hq, rfl⟩))
set_option maxRecDepth 100000 in
theorem w_one (h : sw_ConX l E d 4 118 [.ref 0, .int x, .int y] σ Q QX) (hQ : ∀ r τ, Q r τ → rsh 0 r) (hX : ∀ i τ, QX i τ → ((fun i => if i = 0 then 1 else 0) : Nat → Int32) i ≠ 0) : sw_ConW l E (d + 1) yL_one cL_one 5 [(0, 10, 13, 18)] [.ref 0, .int x, .int y, .ref 111] σ (wrQ cvI (fun i => if i = 0 then 1 else 0) Q QX) := by
  refine wr_open (by decide +kernel) rfl (sw_in (i := 1195) (by decide +kernel) rfl) (by intro w hw; simp only [List.mem_cons, List.not_mem_nil, or_false] at hw; rcases hw with rfl | rfl | rfl | rfl <;> rfl) (Nat.le_of_ble_eq_true rfl) ?_
  intro p e s m args below meth c A C hr hlocks htab hNc
  refine gg_al C (show decode cL_one 0 = .ok (.aload_n 3, 1) from by decide +kernel) rfl ?_
  refine gg_ic C (x := 0) (show decode cL_one 1 = .ok (.iconst 0, 1) from by decide +kernel) rfl ?_
  refine gg_al C (show decode cL_one 2 = .ok (.aload_n 0, 1) from by decide +kernel) rfl ?_
  refine gg_il C (show decode cL_one 3 = .ok (.iload_n 1, 1) from by decide +kernel) rfl ?_
  refine gg_il C (show decode cL_one 4 = .ok (.iload_n 2, 1) from by decide +kernel) rfl ?_
  refine wr_call (av := [.ref 0, .int x, .int y]) (r := [.int 0, .ref 111]) C (Nat.le_refl _) (Nat.le_refl _) (Nat.le_refl _) (Nat.le_refl _) (idx := 20) (mn := 118) rfl (by decide) rfl rfl rfl (rec0 (by decide) rfl) (by decide) h (show decode cL_one 5 = .ok (.invokevirtual 20, 3) from by decide +kernel) (fun v τ q => ?_) (fun i τ H locs la q ce hq hP hD hS hl hce hcv hcl => ?_)
  · obtain ⟨v, rfl⟩ := rsh_el (hQ _ _ q)
    exact wr_tI (z := 17) C hr hlocks (show decode cL_one 8 = .ok (.i2l, 1) from by decide +kernel) (show decode cL_one 9 = .ok (.lastore, 1) from by decide +kernel) (show decode cL_one 10 = .ok (.goto 7, 3) from by decide +kernel) (by decide) (show decode cL_one 17 = .ok (.iconst 0, 1) from by decide +kernel) (show decode cL_one 18 = .ok (.ireturn, 1) from by decide +kernel) (Or.inl ⟨rfl, v, τ, q, rfl⟩)
  · have h0 : i = 0 := by
      rcases Nat.eq_zero_or_pos i with h0 | h0
      · exact h0
      · exact absurd (if_neg (by omega)) (hX _ _ hq)
    subst h0
    exact ct_1 (own := sw_R 12) (name := sw_xi0) C.2.2.2.1 htab (by decide) (by decide) (C.2.2.2.2.1 _ (sw_in (i := 1154) (by decide +kernel) rfl)) (wr_c0 C) hce hcv hcl (wr_h2 C hr hlocks (show decode cL_one 13 = .ok (.astore 4, 2) from by decide +kernel) (by decide) (show decode cL_one 15 = .ok (.iconst 1, 1) from by decide +kernel) rfl (show decode cL_one 16 = .ok (.ireturn, 1) from by decide +kernel) hP hD hS hl (Or.inr ⟨0, hq, rfl⟩))
set_option maxRecDepth 100000 in
theorem w_work (h : sw_ConX l E d 4 121 [.ref 0, .int x, .int y] σ Q QX) (hQ : ∀ r τ, Q r τ → rsh 0 r) (hX : ∀ i τ, QX i τ → ((fun i => if i = 0 then 1 else 0) : Nat → Int32) i ≠ 0) : sw_ConW l E (d + 1) yL_work cL_work 5 [(0, 10, 13, 18)] [.ref 0, .int x, .int y, .ref 111] σ (wrQ cvI (fun i => if i = 0 then 1 else 0) Q QX) := by
  refine wr_open (by decide +kernel) rfl (sw_in (i := 1212) (by decide +kernel) rfl) (by intro w hw; simp only [List.mem_cons, List.not_mem_nil, or_false] at hw; rcases hw with rfl | rfl | rfl | rfl <;> rfl) (Nat.le_of_ble_eq_true rfl) ?_
  intro p e s m args below meth c A C hr hlocks htab hNc
  refine gg_al C (show decode cL_work 0 = .ok (.aload_n 3, 1) from by decide +kernel) rfl ?_
  refine gg_ic C (x := 0) (show decode cL_work 1 = .ok (.iconst 0, 1) from by decide +kernel) rfl ?_
  refine gg_al C (show decode cL_work 2 = .ok (.aload_n 0, 1) from by decide +kernel) rfl ?_
  refine gg_il C (show decode cL_work 3 = .ok (.iload_n 1, 1) from by decide +kernel) rfl ?_
  refine gg_il C (show decode cL_work 4 = .ok (.iload_n 2, 1) from by decide +kernel) rfl ?_
  refine wr_call (av := [.ref 0, .int x, .int y]) (r := [.int 0, .ref 111]) C (Nat.le_refl _) (Nat.le_refl _) (Nat.le_refl _) (Nat.le_refl _) (idx := 24) (mn := 121) rfl (by decide) rfl rfl rfl (rec0 (by decide) rfl) (by decide) h (show decode cL_work 5 = .ok (.invokevirtual 24, 3) from by decide +kernel) (fun v τ q => ?_) (fun i τ H locs la q ce hq hP hD hS hl hce hcv hcl => ?_)
  · obtain ⟨v, rfl⟩ := rsh_el (hQ _ _ q)
    exact wr_tI (z := 17) C hr hlocks (show decode cL_work 8 = .ok (.i2l, 1) from by decide +kernel) (show decode cL_work 9 = .ok (.lastore, 1) from by decide +kernel) (show decode cL_work 10 = .ok (.goto 7, 3) from by decide +kernel) (by decide) (show decode cL_work 17 = .ok (.iconst 0, 1) from by decide +kernel) (show decode cL_work 18 = .ok (.ireturn, 1) from by decide +kernel) (Or.inl ⟨rfl, v, τ, q, rfl⟩)
  · have h0 : i = 0 := by
      rcases Nat.eq_zero_or_pos i with h0 | h0
      · exact h0
      · exact absurd (if_neg (by omega)) (hX _ _ hq)
    subst h0
    exact ct_1 (own := sw_R 12) (name := sw_xi0) C.2.2.2.1 htab (by decide) (by decide) (C.2.2.2.2.1 _ (sw_in (i := 1154) (by decide +kernel) rfl)) (wr_c0 C) hce hcv hcl (wr_h2 C hr hlocks (show decode cL_work 13 = .ok (.astore 4, 2) from by decide +kernel) (by decide) (show decode cL_work 15 = .ok (.iconst 1, 1) from by decide +kernel) rfl (show decode cL_work 16 = .ok (.ireturn, 1) from by decide +kernel) hP hD hS hl (Or.inr ⟨0, hq, rfl⟩))
set_option maxRecDepth 100000 in
theorem w_go (h : sw_ConX l E d 4 122 [.ref 0, .int x] σ Q QX) (hQ : ∀ r τ, Q r τ → rsh 0 r) (hX : ∀ i τ, QX i τ → ((fun i => if i = 0 then 1 else 0) : Nat → Int32) i ≠ 0) : sw_ConW l E (d + 1) yL_go cL_go 4 [(0, 9, 12, 18)] [.ref 0, .int x, .ref 111] σ (wrQ cvI (fun i => if i = 0 then 1 else 0) Q QX) := by
  refine wr_open (by decide +kernel) rfl (sw_in (i := 1222) (by decide +kernel) rfl) (by intro w hw; simp only [List.mem_cons, List.not_mem_nil, or_false] at hw; rcases hw with rfl | rfl | rfl <;> rfl) (Nat.le_of_ble_eq_true rfl) ?_
  intro p e s m args below meth c A C hr hlocks htab hNc
  refine gg_al C (show decode cL_go 0 = .ok (.aload_n 2, 1) from by decide +kernel) rfl ?_
  refine gg_ic C (x := 0) (show decode cL_go 1 = .ok (.iconst 0, 1) from by decide +kernel) rfl ?_
  refine gg_al C (show decode cL_go 2 = .ok (.aload_n 0, 1) from by decide +kernel) rfl ?_
  refine gg_il C (show decode cL_go 3 = .ok (.iload_n 1, 1) from by decide +kernel) rfl ?_
  refine wr_call (av := [.ref 0, .int x]) (r := [.int 0, .ref 111]) C (Nat.le_refl _) (Nat.le_refl _) (Nat.le_refl _) (Nat.le_refl _) (idx := 27) (mn := 122) rfl (by decide) rfl rfl rfl (rec0 (by decide) rfl) (by decide) h (show decode cL_go 4 = .ok (.invokevirtual 27, 3) from by decide +kernel) (fun v τ q => ?_) (fun i τ H locs la q ce hq hP hD hS hl hce hcv hcl => ?_)
  · obtain ⟨v, rfl⟩ := rsh_el (hQ _ _ q)
    exact wr_tI (z := 15) C hr hlocks (show decode cL_go 7 = .ok (.i2l, 1) from by decide +kernel) (show decode cL_go 8 = .ok (.lastore, 1) from by decide +kernel) (show decode cL_go 9 = .ok (.goto 6, 3) from by decide +kernel) (by decide) (show decode cL_go 15 = .ok (.iconst 0, 1) from by decide +kernel) (show decode cL_go 16 = .ok (.ireturn, 1) from by decide +kernel) (Or.inl ⟨rfl, v, τ, q, rfl⟩)
  · have h0 : i = 0 := by
      rcases Nat.eq_zero_or_pos i with h0 | h0
      · exact h0
      · exact absurd (if_neg (by omega)) (hX _ _ hq)
    subst h0
    exact ct_1 (own := sw_R 12) (name := sw_xi0) C.2.2.2.1 htab (by decide) (by decide) (C.2.2.2.2.1 _ (sw_in (i := 1154) (by decide +kernel) rfl)) (wr_c0 C) hce hcv hcl (wr_h1 C hr hlocks (show decode cL_go 12 = .ok (.astore_n 3, 1) from by decide +kernel) (by decide) (show decode cL_go 13 = .ok (.iconst 1, 1) from by decide +kernel) rfl (show decode cL_go 14 = .ok (.ireturn, 1) from by decide +kernel) hP hD hS hl (Or.inr ⟨0, hq, rfl⟩))
set_option maxRecDepth 100000 in
theorem w_back (h : sw_ConX l E d 4 124 [.ref 0, .int x] σ Q QX) (hQ : ∀ r τ, Q r τ → rsh 0 r) (hX : ∀ i τ, QX i τ → ((fun i => if i = 0 then 1 else 0) : Nat → Int32) i ≠ 0) : sw_ConW l E (d + 1) yL_back cL_back 4 [(0, 9, 12, 18)] [.ref 0, .int x, .ref 111] σ (wrQ cvI (fun i => if i = 0 then 1 else 0) Q QX) := by
  refine wr_open (by decide +kernel) rfl (sw_in (i := 1234) (by decide +kernel) rfl) (by intro w hw; simp only [List.mem_cons, List.not_mem_nil, or_false] at hw; rcases hw with rfl | rfl | rfl <;> rfl) (Nat.le_of_ble_eq_true rfl) ?_
  intro p e s m args below meth c A C hr hlocks htab hNc
  refine gg_al C (show decode cL_back 0 = .ok (.aload_n 2, 1) from by decide +kernel) rfl ?_
  refine gg_ic C (x := 0) (show decode cL_back 1 = .ok (.iconst 0, 1) from by decide +kernel) rfl ?_
  refine gg_al C (show decode cL_back 2 = .ok (.aload_n 0, 1) from by decide +kernel) rfl ?_
  refine gg_il C (show decode cL_back 3 = .ok (.iload_n 1, 1) from by decide +kernel) rfl ?_
  refine wr_call (av := [.ref 0, .int x]) (r := [.int 0, .ref 111]) C (Nat.le_refl _) (Nat.le_refl _) (Nat.le_refl _) (Nat.le_refl _) (idx := 30) (mn := 124) rfl (by decide) rfl rfl rfl (rec0 (by decide) rfl) (by decide) h (show decode cL_back 4 = .ok (.invokevirtual 30, 3) from by decide +kernel) (fun v τ q => ?_) (fun i τ H locs la q ce hq hP hD hS hl hce hcv hcl => ?_)
  · obtain ⟨v, rfl⟩ := rsh_el (hQ _ _ q)
    exact wr_tI (z := 15) C hr hlocks (show decode cL_back 7 = .ok (.i2l, 1) from by decide +kernel) (show decode cL_back 8 = .ok (.lastore, 1) from by decide +kernel) (show decode cL_back 9 = .ok (.goto 6, 3) from by decide +kernel) (by decide) (show decode cL_back 15 = .ok (.iconst 0, 1) from by decide +kernel) (show decode cL_back 16 = .ok (.ireturn, 1) from by decide +kernel) (Or.inl ⟨rfl, v, τ, q, rfl⟩)
  · have h0 : i = 0 := by
      rcases Nat.eq_zero_or_pos i with h0 | h0
      · exact h0
      · exact absurd (if_neg (by omega)) (hX _ _ hq)
    subst h0
    exact ct_1 (own := sw_R 12) (name := sw_xi0) C.2.2.2.1 htab (by decide) (by decide) (C.2.2.2.2.1 _ (sw_in (i := 1154) (by decide +kernel) rfl)) (wr_c0 C) hce hcv hcl (wr_h1 C hr hlocks (show decode cL_back 12 = .ok (.astore_n 3, 1) from by decide +kernel) (by decide) (show decode cL_back 13 = .ok (.iconst 1, 1) from by decide +kernel) rfl (show decode cL_back 14 = .ok (.ireturn, 1) from by decide +kernel) hP hD hS hl (Or.inr ⟨0, hq, rfl⟩))
set_option maxRecDepth 100000 in
theorem w_learn (h : sw_ConX l E d 4 126 [.ref 0, .int x, .int y, .int z] σ Q QX) (hQ : ∀ r τ, Q r τ → rsh 0 r) (hX : ∀ i τ, QX i τ → ((fun i => if i = 0 then 1 else 0) : Nat → Int32) i ≠ 0) : sw_ConW l E (d + 1) yL_learn cL_learn 6 [(0, 19, 22, 18)] [.ref 0, .int x, .int y, .int z, .ref 111] σ (wrQ cvB (fun i => if i = 0 then 1 else 0) Q QX) := by
  refine wr_open (by decide +kernel) rfl (sw_in (i := 1246) (by decide +kernel) rfl) (by intro w hw; simp only [List.mem_cons, List.not_mem_nil, or_false] at hw; rcases hw with rfl | rfl | rfl | rfl | rfl <;> rfl) (Nat.le_of_ble_eq_true rfl) ?_
  intro p e s m args below meth c A C hr hlocks htab hNc
  refine gg_al2 C (show decode cL_learn 0 = .ok (.aload 4, 2) from by decide +kernel) rfl ?_
  refine gg_ic C (x := 0) (show decode cL_learn 2 = .ok (.iconst 0, 1) from by decide +kernel) rfl ?_
  refine gg_al C (show decode cL_learn 3 = .ok (.aload_n 0, 1) from by decide +kernel) rfl ?_
  refine gg_il C (show decode cL_learn 4 = .ok (.iload_n 1, 1) from by decide +kernel) rfl ?_
  refine gg_il C (show decode cL_learn 5 = .ok (.iload_n 2, 1) from by decide +kernel) rfl ?_
  refine gg_il C (show decode cL_learn 6 = .ok (.iload_n 3, 1) from by decide +kernel) rfl ?_
  refine wr_call (av := [.ref 0, .int x, .int y, .int z]) (r := [.int 0, .ref 111]) C (Nat.le_refl _) (Nat.le_refl _) (Nat.le_refl _) (Nat.le_refl _) (idx := 33) (mn := 126) rfl (by decide) rfl rfl rfl (rec0 (by decide) rfl) (by decide) h (show decode cL_learn 7 = .ok (.invokevirtual 33, 3) from by decide +kernel) (fun v τ q => ?_) (fun i τ H locs la q ce hq hP hD hS hl hce hcv hcl => ?_)
  · obtain ⟨v, rfl⟩ := rsh_el (hQ _ _ q)
    exact wr_tB (z := 26) C hr hlocks (show decode cL_learn 10 = .ok (.ifCond .eq 7, 3) from by decide +kernel) (by decide) (show decode cL_learn 13 = .ok (.lconst 1, 1) from by decide +kernel) (show decode cL_learn 14 = .ok (.goto 4, 3) from by decide +kernel) (by decide) (show decode cL_learn 17 = .ok (.lconst 0, 1) from by decide +kernel) (show decode cL_learn 18 = .ok (.lastore, 1) from by decide +kernel) (show decode cL_learn 19 = .ok (.goto 7, 3) from by decide +kernel) (by decide) (show decode cL_learn 26 = .ok (.iconst 0, 1) from by decide +kernel) (show decode cL_learn 27 = .ok (.ireturn, 1) from by decide +kernel) (Or.inl ⟨rfl, v, τ, q, rfl⟩)
  · have h0 : i = 0 := by
      rcases Nat.eq_zero_or_pos i with h0 | h0
      · exact h0
      · exact absurd (if_neg (by omega)) (hX _ _ hq)
    subst h0
    exact ct_1 (own := sw_R 12) (name := sw_xi0) C.2.2.2.1 htab (by decide) (by decide) (C.2.2.2.2.1 _ (sw_in (i := 1154) (by decide +kernel) rfl)) (wr_c0 C) hce hcv hcl (wr_h2 C hr hlocks (show decode cL_learn 22 = .ok (.astore 5, 2) from by decide +kernel) (by decide) (show decode cL_learn 24 = .ok (.iconst 1, 1) from by decide +kernel) rfl (show decode cL_learn 25 = .ok (.ireturn, 1) from by decide +kernel) hP hD hS hl (Or.inr ⟨0, hq, rfl⟩))
end
