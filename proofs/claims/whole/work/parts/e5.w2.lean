/-! Contracts of the law's catching methods (written by gen_wr.py). -/
section
variable {l : Launch} {E : sw_E} {d : Nat} {σ : sw_M} {x y z : Int32} {Q : Option Value → sw_M → Prop} {QX : Nat → sw_M → Prop}
set_option maxRecDepth 100000 in
theorem w_piece (h : sw_ConX l E d 4 149 [.ref 0, .int x, .int y] σ Q QX) (hQ : ∀ r τ, Q r τ → rsh 0 r) (hX : ∀ i τ, QX i τ → ((fun i => if i = 0 then 1 else 0) : Nat → Int32) i ≠ 0) : sw_ConW l E (d + 1) yL_piece cL_piece 5 [(0, 10, 13, 18)] [.ref 0, .int x, .int y, .ref 111] σ (wrQ cvI (fun i => if i = 0 then 1 else 0) Q QX) := by
  refine wr_open (by decide +kernel) rfl (sw_in (i := 1372) (by decide +kernel) rfl) (by intro w hw; simp only [List.mem_cons, List.not_mem_nil, or_false] at hw; rcases hw with rfl | rfl | rfl | rfl <;> rfl) (Nat.le_of_ble_eq_true rfl) ?_
  intro p e s m args below meth c A C hr hlocks htab hNc
  refine gg_al C (show decode cL_piece 0 = .ok (.aload_n 3, 1) from by decide +kernel) rfl ?_
  refine gg_ic C (x := 0) (show decode cL_piece 1 = .ok (.iconst 0, 1) from by decide +kernel) rfl ?_
  refine gg_al C (show decode cL_piece 2 = .ok (.aload_n 0, 1) from by decide +kernel) rfl ?_
  refine gg_il C (show decode cL_piece 3 = .ok (.iload_n 1, 1) from by decide +kernel) rfl ?_
  refine gg_il C (show decode cL_piece 4 = .ok (.iload_n 2, 1) from by decide +kernel) rfl ?_
  refine wr_call (av := [.ref 0, .int x, .int y]) (r := [.int 0, .ref 111]) C (Nat.le_refl _) (Nat.le_refl _) (Nat.le_refl _) (Nat.le_refl _) (idx := 60) (mn := 149) rfl (by decide) rfl rfl rfl (rec0 (by decide) rfl) (by decide) h (show decode cL_piece 5 = .ok (.invokevirtual 60, 3) from by decide +kernel) (fun v τ q => ?_) (fun i τ H locs la q ce hq hP hD hS hl hce hcv hcl => ?_)
  · obtain ⟨v, rfl⟩ := rsh_el (hQ _ _ q)
    exact wr_tI (z := 17) C hr hlocks (show decode cL_piece 8 = .ok (.i2l, 1) from by decide +kernel) (show decode cL_piece 9 = .ok (.lastore, 1) from by decide +kernel) (show decode cL_piece 10 = .ok (.goto 7, 3) from by decide +kernel) (by decide) (show decode cL_piece 17 = .ok (.iconst 0, 1) from by decide +kernel) (show decode cL_piece 18 = .ok (.ireturn, 1) from by decide +kernel) (Or.inl ⟨rfl, v, τ, q, rfl⟩)
  · have h0 : i = 0 := by
      rcases Nat.eq_zero_or_pos i with h0 | h0
      · exact h0
      · exact absurd (if_neg (by omega)) (hX _ _ hq)
    subst h0
    exact ct_1 (own := sw_R 12) (name := sw_xi0) C.2.2.2.1 htab (by decide) (by decide) (C.2.2.2.2.1 _ (sw_in (i := 1154) (by decide +kernel) rfl)) (wr_c0 C) hce hcv hcl (wr_h2 C hr hlocks (show decode cL_piece 13 = .ok (.astore 4, 2) from by decide +kernel) (by decide) (show decode cL_piece 15 = .ok (.iconst 1, 1) from by decide +kernel) rfl (show decode cL_piece 16 = .ok (.ireturn, 1) from by decide +kernel) hP hD hS hl (Or.inr ⟨0, hq, rfl⟩))
set_option maxRecDepth 100000 in
theorem w_taught (h : sw_ConX l E d 4 151 [.ref 0, .int x, .int y] σ Q QX) (hQ : ∀ r τ, Q r τ → rsh 0 r) (hX : ∀ i τ, QX i τ → ((fun i => if i = 0 then 1 else 0) : Nat → Int32) i ≠ 0) : sw_ConW l E (d + 1) yL_taught cL_taught 5 [(0, 10, 13, 18)] [.ref 0, .int x, .int y, .ref 111] σ (wrQ cvI (fun i => if i = 0 then 1 else 0) Q QX) := by
  refine wr_open (by decide +kernel) rfl (sw_in (i := 1385) (by decide +kernel) rfl) (by intro w hw; simp only [List.mem_cons, List.not_mem_nil, or_false] at hw; rcases hw with rfl | rfl | rfl | rfl <;> rfl) (Nat.le_of_ble_eq_true rfl) ?_
  intro p e s m args below meth c A C hr hlocks htab hNc
  refine gg_al C (show decode cL_taught 0 = .ok (.aload_n 3, 1) from by decide +kernel) rfl ?_
  refine gg_ic C (x := 0) (show decode cL_taught 1 = .ok (.iconst 0, 1) from by decide +kernel) rfl ?_
  refine gg_al C (show decode cL_taught 2 = .ok (.aload_n 0, 1) from by decide +kernel) rfl ?_
  refine gg_il C (show decode cL_taught 3 = .ok (.iload_n 1, 1) from by decide +kernel) rfl ?_
  refine gg_il C (show decode cL_taught 4 = .ok (.iload_n 2, 1) from by decide +kernel) rfl ?_
  refine wr_call (av := [.ref 0, .int x, .int y]) (r := [.int 0, .ref 111]) C (Nat.le_refl _) (Nat.le_refl _) (Nat.le_refl _) (Nat.le_refl _) (idx := 63) (mn := 151) rfl (by decide) rfl rfl rfl (rec0 (by decide) rfl) (by decide) h (show decode cL_taught 5 = .ok (.invokevirtual 63, 3) from by decide +kernel) (fun v τ q => ?_) (fun i τ H locs la q ce hq hP hD hS hl hce hcv hcl => ?_)
  · obtain ⟨v, rfl⟩ := rsh_el (hQ _ _ q)
    exact wr_tI (z := 17) C hr hlocks (show decode cL_taught 8 = .ok (.i2l, 1) from by decide +kernel) (show decode cL_taught 9 = .ok (.lastore, 1) from by decide +kernel) (show decode cL_taught 10 = .ok (.goto 7, 3) from by decide +kernel) (by decide) (show decode cL_taught 17 = .ok (.iconst 0, 1) from by decide +kernel) (show decode cL_taught 18 = .ok (.ireturn, 1) from by decide +kernel) (Or.inl ⟨rfl, v, τ, q, rfl⟩)
  · have h0 : i = 0 := by
      rcases Nat.eq_zero_or_pos i with h0 | h0
      · exact h0
      · exact absurd (if_neg (by omega)) (hX _ _ hq)
    subst h0
    exact ct_1 (own := sw_R 12) (name := sw_xi0) C.2.2.2.1 htab (by decide) (by decide) (C.2.2.2.2.1 _ (sw_in (i := 1154) (by decide +kernel) rfl)) (wr_c0 C) hce hcv hcl (wr_h2 C hr hlocks (show decode cL_taught 13 = .ok (.astore 4, 2) from by decide +kernel) (by decide) (show decode cL_taught 15 = .ok (.iconst 1, 1) from by decide +kernel) rfl (show decode cL_taught 16 = .ok (.ireturn, 1) from by decide +kernel) hP hD hS hl (Or.inr ⟨0, hq, rfl⟩))
set_option maxRecDepth 100000 in
theorem w_see (h : sw_ConX l E d 4 152 [.ref 0, .int x, .int y] σ Q QX) (hQ : ∀ r τ, Q r τ → rsh 0 r) (hX : ∀ i τ, QX i τ → ((fun i => if i = 0 then 1 else 0) : Nat → Int32) i ≠ 0) : sw_ConW l E (d + 1) yL_see cL_see 5 [(0, 10, 13, 18)] [.ref 0, .int x, .int y, .ref 111] σ (wrQ cvI (fun i => if i = 0 then 1 else 0) Q QX) := by
  refine wr_open (by decide +kernel) rfl (sw_in (i := 1392) (by decide +kernel) rfl) (by intro w hw; simp only [List.mem_cons, List.not_mem_nil, or_false] at hw; rcases hw with rfl | rfl | rfl | rfl <;> rfl) (Nat.le_of_ble_eq_true rfl) ?_
  intro p e s m args below meth c A C hr hlocks htab hNc
  refine gg_al C (show decode cL_see 0 = .ok (.aload_n 3, 1) from by decide +kernel) rfl ?_
  refine gg_ic C (x := 0) (show decode cL_see 1 = .ok (.iconst 0, 1) from by decide +kernel) rfl ?_
  refine gg_al C (show decode cL_see 2 = .ok (.aload_n 0, 1) from by decide +kernel) rfl ?_
  refine gg_il C (show decode cL_see 3 = .ok (.iload_n 1, 1) from by decide +kernel) rfl ?_
  refine gg_il C (show decode cL_see 4 = .ok (.iload_n 2, 1) from by decide +kernel) rfl ?_
  refine wr_call (av := [.ref 0, .int x, .int y]) (r := [.int 0, .ref 111]) C (Nat.le_refl _) (Nat.le_refl _) (Nat.le_refl _) (Nat.le_refl _) (idx := 66) (mn := 152) rfl (by decide) rfl rfl rfl (rec0 (by decide) rfl) (by decide) h (show decode cL_see 5 = .ok (.invokevirtual 66, 3) from by decide +kernel) (fun v τ q => ?_) (fun i τ H locs la q ce hq hP hD hS hl hce hcv hcl => ?_)
  · obtain ⟨v, rfl⟩ := rsh_el (hQ _ _ q)
    exact wr_tI (z := 17) C hr hlocks (show decode cL_see 8 = .ok (.i2l, 1) from by decide +kernel) (show decode cL_see 9 = .ok (.lastore, 1) from by decide +kernel) (show decode cL_see 10 = .ok (.goto 7, 3) from by decide +kernel) (by decide) (show decode cL_see 17 = .ok (.iconst 0, 1) from by decide +kernel) (show decode cL_see 18 = .ok (.ireturn, 1) from by decide +kernel) (Or.inl ⟨rfl, v, τ, q, rfl⟩)
  · have h0 : i = 0 := by
      rcases Nat.eq_zero_or_pos i with h0 | h0
      · exact h0
      · exact absurd (if_neg (by omega)) (hX _ _ hq)
    subst h0
    exact ct_1 (own := sw_R 12) (name := sw_xi0) C.2.2.2.1 htab (by decide) (by decide) (C.2.2.2.2.1 _ (sw_in (i := 1154) (by decide +kernel) rfl)) (wr_c0 C) hce hcv hcl (wr_h2 C hr hlocks (show decode cL_see 13 = .ok (.astore 4, 2) from by decide +kernel) (by decide) (show decode cL_see 15 = .ok (.iconst 1, 1) from by decide +kernel) rfl (show decode cL_see 16 = .ok (.ireturn, 1) from by decide +kernel) hP hD hS hl (Or.inr ⟨0, hq, rfl⟩))
set_option maxRecDepth 100000 in
theorem w_secret (h : sw_ConX l E d 4 154 [.ref 0, .int x] σ Q QX) (hQ : ∀ r τ, Q r τ → rsh 0 r) (hX : ∀ i τ, QX i τ → ((fun i => if i = 0 then 1 else 0) : Nat → Int32) i ≠ 0) : sw_ConW l E (d + 1) yL_secret cL_secret 4 [(0, 9, 12, 18)] [.ref 0, .int x, .ref 111] σ (wrQ cvI (fun i => if i = 0 then 1 else 0) Q QX) := by
  refine wr_open (by decide +kernel) rfl (sw_in (i := 1403) (by decide +kernel) rfl) (by intro w hw; simp only [List.mem_cons, List.not_mem_nil, or_false] at hw; rcases hw with rfl | rfl | rfl <;> rfl) (Nat.le_of_ble_eq_true rfl) ?_
  intro p e s m args below meth c A C hr hlocks htab hNc
  refine gg_al C (show decode cL_secret 0 = .ok (.aload_n 2, 1) from by decide +kernel) rfl ?_
  refine gg_ic C (x := 0) (show decode cL_secret 1 = .ok (.iconst 0, 1) from by decide +kernel) rfl ?_
  refine gg_al C (show decode cL_secret 2 = .ok (.aload_n 0, 1) from by decide +kernel) rfl ?_
  refine gg_il C (show decode cL_secret 3 = .ok (.iload_n 1, 1) from by decide +kernel) rfl ?_
  refine wr_call (av := [.ref 0, .int x]) (r := [.int 0, .ref 111]) C (Nat.le_refl _) (Nat.le_refl _) (Nat.le_refl _) (Nat.le_refl _) (idx := 69) (mn := 154) rfl (by decide) rfl rfl rfl (rec0 (by decide) rfl) (by decide) h (show decode cL_secret 4 = .ok (.invokevirtual 69, 3) from by decide +kernel) (fun v τ q => ?_) (fun i τ H locs la q ce hq hP hD hS hl hce hcv hcl => ?_)
  · obtain ⟨v, rfl⟩ := rsh_el (hQ _ _ q)
    exact wr_tI (z := 15) C hr hlocks (show decode cL_secret 7 = .ok (.i2l, 1) from by decide +kernel) (show decode cL_secret 8 = .ok (.lastore, 1) from by decide +kernel) (show decode cL_secret 9 = .ok (.goto 6, 3) from by decide +kernel) (by decide) (show decode cL_secret 15 = .ok (.iconst 0, 1) from by decide +kernel) (show decode cL_secret 16 = .ok (.ireturn, 1) from by decide +kernel) (Or.inl ⟨rfl, v, τ, q, rfl⟩)
  · have h0 : i = 0 := by
      rcases Nat.eq_zero_or_pos i with h0 | h0
      · exact h0
      · exact absurd (if_neg (by omega)) (hX _ _ hq)
    subst h0
    exact ct_1 (own := sw_R 12) (name := sw_xi0) C.2.2.2.1 htab (by decide) (by decide) (C.2.2.2.2.1 _ (sw_in (i := 1154) (by decide +kernel) rfl)) (wr_c0 C) hce hcv hcl (wr_h1 C hr hlocks (show decode cL_secret 12 = .ok (.astore_n 3, 1) from by decide +kernel) (by decide) (show decode cL_secret 13 = .ok (.iconst 1, 1) from by decide +kernel) rfl (show decode cL_secret 14 = .ok (.ireturn, 1) from by decide +kernel) hP hD hS hl (Or.inr ⟨0, hq, rfl⟩))
set_option maxRecDepth 100000 in
theorem w_game (h : sw_ConX l E d 4 158 [.ref 0, .int x, .int y, .int z] σ Q QX) (hQ : ∀ r τ, Q r τ → rsh 0 r) (hX : ∀ i τ, QX i τ → ((fun i => if i = 0 then 1 else 2) : Nat → Int32) i ≠ 0) : sw_ConW l E (d + 1) yL_game cL_game 6 [(0, 12, 15, 18), (0, 12, 19, 13)] [.ref 0, .int x, .int y, .int z, .ref 111] σ (wrQ cvI (fun i => if i = 0 then 1 else 2) Q QX) := by
  refine wr_open (by decide +kernel) rfl (sw_in (i := 1424) (by decide +kernel) rfl) (by intro w hw; simp only [List.mem_cons, List.not_mem_nil, or_false] at hw; rcases hw with rfl | rfl | rfl | rfl | rfl <;> rfl) (Nat.le_of_ble_eq_true rfl) ?_
  intro p e s m args below meth c A C hr hlocks htab hNc
  refine gg_al2 C (show decode cL_game 0 = .ok (.aload 4, 2) from by decide +kernel) rfl ?_
  refine gg_ic C (x := 0) (show decode cL_game 2 = .ok (.iconst 0, 1) from by decide +kernel) rfl ?_
  refine gg_al C (show decode cL_game 3 = .ok (.aload_n 0, 1) from by decide +kernel) rfl ?_
  refine gg_il C (show decode cL_game 4 = .ok (.iload_n 1, 1) from by decide +kernel) rfl ?_
  refine gg_il C (show decode cL_game 5 = .ok (.iload_n 2, 1) from by decide +kernel) rfl ?_
  refine gg_il C (show decode cL_game 6 = .ok (.iload_n 3, 1) from by decide +kernel) rfl ?_
  refine wr_call (av := [.ref 0, .int x, .int y, .int z]) (r := [.int 0, .ref 111]) C (Nat.le_refl _) (Nat.le_refl _) (Nat.le_refl _) (Nat.le_refl _) (idx := 72) (mn := 158) rfl (by decide) rfl rfl rfl (rec0 (by decide) rfl) (by decide) h (show decode cL_game 7 = .ok (.invokevirtual 72, 3) from by decide +kernel) (fun v τ q => ?_) (fun i τ H locs la q ce hq hP hD hS hl hce hcv hcl => ?_)
  · obtain ⟨v, rfl⟩ := rsh_el (hQ _ _ q)
    exact wr_tI (z := 23) C hr hlocks (show decode cL_game 10 = .ok (.i2l, 1) from by decide +kernel) (show decode cL_game 11 = .ok (.lastore, 1) from by decide +kernel) (show decode cL_game 12 = .ok (.goto 11, 3) from by decide +kernel) (by decide) (show decode cL_game 23 = .ok (.iconst 0, 1) from by decide +kernel) (show decode cL_game 24 = .ok (.ireturn, 1) from by decide +kernel) (Or.inl ⟨rfl, v, τ, q, rfl⟩)
  · by_cases h0 : i = 0
    · subst h0
      exact ct_1 (own := sw_R 12) (name := sw_xi0) C.2.2.2.1 htab (by decide) (by decide) (C.2.2.2.2.1 _ (sw_in (i := 1154) (by decide +kernel) rfl)) (wr_c0 C) hce hcv hcl (wr_h2 C hr hlocks (show decode cL_game 15 = .ok (.astore 5, 2) from by decide +kernel) (by decide) (show decode cL_game 17 = .ok (.iconst 1, 1) from by decide +kernel) rfl (show decode cL_game 18 = .ok (.ireturn, 1) from by decide +kernel) hP hD hS hl (Or.inr ⟨0, hq, rfl⟩))
    · have e1 : sw_xn i = sw_xi1 := by rw [sw_xn, if_neg h0]; rfl
      rw [e1] at hcl
      refine ct_2 (own := sw_R 12) (nm := sw_xi0) (name := sw_xi1) C.2.2.2.1 htab (by decide) (by decide) (C.2.2.2.2.1 _ (sw_in (i := 1154) (by decide +kernel) rfl)) hNc (by decide) (by decide) (C.2.2.2.2.1 _ (sw_in (i := 814) (by decide +kernel) rfl)) (wr_c1 C) hce hcv hcl ?_
      exact wr_h2 C hr hlocks (show decode cL_game 19 = .ok (.astore 5, 2) from by decide +kernel) (by decide) (show decode cL_game 21 = .ok (.iconst 2, 1) from by decide +kernel) rfl (show decode cL_game 22 = .ok (.ireturn, 1) from by decide +kernel) hP hD hS hl (Or.inr ⟨i, hq, ec2 h0⟩)
set_option maxRecDepth 100000 in
theorem w_year (h : sw_ConX l E d 4 164 [.ref 0, .int x, .int y, .int z] σ Q QX) (hQ : ∀ r τ, Q r τ → rsh 0 r) (hX : ∀ i τ, QX i τ → ((fun i => if i = 0 then 1 else 2) : Nat → Int32) i ≠ 0) : sw_ConW l E (d + 1) yL_year cL_year 6 [(0, 12, 15, 18), (0, 12, 19, 13)] [.ref 0, .int x, .int y, .int z, .ref 111] σ (wrQ cvI (fun i => if i = 0 then 1 else 2) Q QX) := by
  refine wr_open (by decide +kernel) rfl (sw_in (i := 1450) (by decide +kernel) rfl) (by intro w hw; simp only [List.mem_cons, List.not_mem_nil, or_false] at hw; rcases hw with rfl | rfl | rfl | rfl | rfl <;> rfl) (Nat.le_of_ble_eq_true rfl) ?_
  intro p e s m args below meth c A C hr hlocks htab hNc
  refine gg_al2 C (show decode cL_year 0 = .ok (.aload 4, 2) from by decide +kernel) rfl ?_
  refine gg_ic C (x := 0) (show decode cL_year 2 = .ok (.iconst 0, 1) from by decide +kernel) rfl ?_
  refine gg_al C (show decode cL_year 3 = .ok (.aload_n 0, 1) from by decide +kernel) rfl ?_
  refine gg_il C (show decode cL_year 4 = .ok (.iload_n 1, 1) from by decide +kernel) rfl ?_
  refine gg_il C (show decode cL_year 5 = .ok (.iload_n 2, 1) from by decide +kernel) rfl ?_
  refine gg_il C (show decode cL_year 6 = .ok (.iload_n 3, 1) from by decide +kernel) rfl ?_
  refine wr_call (av := [.ref 0, .int x, .int y, .int z]) (r := [.int 0, .ref 111]) C (Nat.le_refl _) (Nat.le_refl _) (Nat.le_refl _) (Nat.le_refl _) (idx := 75) (mn := 164) rfl (by decide) rfl rfl rfl (rec0 (by decide) rfl) (by decide) h (show decode cL_year 7 = .ok (.invokevirtual 75, 3) from by decide +kernel) (fun v τ q => ?_) (fun i τ H locs la q ce hq hP hD hS hl hce hcv hcl => ?_)
  · obtain ⟨v, rfl⟩ := rsh_el (hQ _ _ q)
    exact wr_tI (z := 23) C hr hlocks (show decode cL_year 10 = .ok (.i2l, 1) from by decide +kernel) (show decode cL_year 11 = .ok (.lastore, 1) from by decide +kernel) (show decode cL_year 12 = .ok (.goto 11, 3) from by decide +kernel) (by decide) (show decode cL_year 23 = .ok (.iconst 0, 1) from by decide +kernel) (show decode cL_year 24 = .ok (.ireturn, 1) from by decide +kernel) (Or.inl ⟨rfl, v, τ, q, rfl⟩)
  · by_cases h0 : i = 0
    · subst h0
      exact ct_1 (own := sw_R 12) (name := sw_xi0) C.2.2.2.1 htab (by decide) (by decide) (C.2.2.2.2.1 _ (sw_in (i := 1154) (by decide +kernel) rfl)) (wr_c0 C) hce hcv hcl (wr_h2 C hr hlocks (show decode cL_year 15 = .ok (.astore 5, 2) from by decide +kernel) (by decide) (show decode cL_year 17 = .ok (.iconst 1, 1) from by decide +kernel) rfl (show decode cL_year 18 = .ok (.ireturn, 1) from by decide +kernel) hP hD hS hl (Or.inr ⟨0, hq, rfl⟩))
    · have e1 : sw_xn i = sw_xi1 := by rw [sw_xn, if_neg h0]; rfl
      rw [e1] at hcl
      refine ct_2 (own := sw_R 12) (nm := sw_xi0) (name := sw_xi1) C.2.2.2.1 htab (by decide) (by decide) (C.2.2.2.2.1 _ (sw_in (i := 1154) (by decide +kernel) rfl)) hNc (by decide) (by decide) (C.2.2.2.2.1 _ (sw_in (i := 814) (by decide +kernel) rfl)) (wr_c1 C) hce hcv hcl ?_
      exact wr_h2 C hr hlocks (show decode cL_year 19 = .ok (.astore 5, 2) from by decide +kernel) (by decide) (show decode cL_year 21 = .ok (.iconst 2, 1) from by decide +kernel) rfl (show decode cL_year 22 = .ok (.ireturn, 1) from by decide +kernel) hP hD hS hl (Or.inr ⟨i, hq, ec2 h0⟩)
set_option maxRecDepth 100000 in
theorem w_doer (h : sw_ConX l E d 4 166 [.ref 0, .int x] σ Q QX) (hQ : ∀ r τ, Q r τ → rsh 0 r) (hX : ∀ i τ, QX i τ → ((fun i => if i = 0 then 1 else 0) : Nat → Int32) i ≠ 0) : sw_ConW l E (d + 1) yL_doer cL_doer 4 [(0, 9, 12, 18)] [.ref 0, .int x, .ref 111] σ (wrQ cvI (fun i => if i = 0 then 1 else 0) Q QX) := by
  refine wr_open (by decide +kernel) rfl (sw_in (i := 1463) (by decide +kernel) rfl) (by intro w hw; simp only [List.mem_cons, List.not_mem_nil, or_false] at hw; rcases hw with rfl | rfl | rfl <;> rfl) (Nat.le_of_ble_eq_true rfl) ?_
  intro p e s m args below meth c A C hr hlocks htab hNc
  refine gg_al C (show decode cL_doer 0 = .ok (.aload_n 2, 1) from by decide +kernel) rfl ?_
  refine gg_ic C (x := 0) (show decode cL_doer 1 = .ok (.iconst 0, 1) from by decide +kernel) rfl ?_
  refine gg_al C (show decode cL_doer 2 = .ok (.aload_n 0, 1) from by decide +kernel) rfl ?_
  refine gg_il C (show decode cL_doer 3 = .ok (.iload_n 1, 1) from by decide +kernel) rfl ?_
  refine wr_call (av := [.ref 0, .int x]) (r := [.int 0, .ref 111]) C (Nat.le_refl _) (Nat.le_refl _) (Nat.le_refl _) (Nat.le_refl _) (idx := 78) (mn := 166) rfl (by decide) rfl rfl rfl (rec0 (by decide) rfl) (by decide) h (show decode cL_doer 4 = .ok (.invokevirtual 78, 3) from by decide +kernel) (fun v τ q => ?_) (fun i τ H locs la q ce hq hP hD hS hl hce hcv hcl => ?_)
  · obtain ⟨v, rfl⟩ := rsh_el (hQ _ _ q)
    exact wr_tI (z := 15) C hr hlocks (show decode cL_doer 7 = .ok (.i2l, 1) from by decide +kernel) (show decode cL_doer 8 = .ok (.lastore, 1) from by decide +kernel) (show decode cL_doer 9 = .ok (.goto 6, 3) from by decide +kernel) (by decide) (show decode cL_doer 15 = .ok (.iconst 0, 1) from by decide +kernel) (show decode cL_doer 16 = .ok (.ireturn, 1) from by decide +kernel) (Or.inl ⟨rfl, v, τ, q, rfl⟩)
  · have h0 : i = 0 := by
      rcases Nat.eq_zero_or_pos i with h0 | h0
      · exact h0
      · exact absurd (if_neg (by omega)) (hX _ _ hq)
    subst h0
    exact ct_1 (own := sw_R 12) (name := sw_xi0) C.2.2.2.1 htab (by decide) (by decide) (C.2.2.2.2.1 _ (sw_in (i := 1154) (by decide +kernel) rfl)) (wr_c0 C) hce hcv hcl (wr_h1 C hr hlocks (show decode cL_doer 12 = .ok (.astore_n 3, 1) from by decide +kernel) (by decide) (show decode cL_doer 13 = .ok (.iconst 1, 1) from by decide +kernel) rfl (show decode cL_doer 14 = .ok (.ireturn, 1) from by decide +kernel) hP hD hS hl (Or.inr ⟨0, hq, rfl⟩))
end
