/-! Contracts of the law's catching methods (written by gen_wr.py). -/
section
variable {l : Launch} {E : sw_E} {d : Nat} {σ : sw_M} {x y z : Int32} {Q : Option Value → sw_M → Prop} {QX : Nat → sw_M → Prop}
set_option maxRecDepth 100000 in
theorem w_recalled (h : sw_ConX l E d 4 169 [.ref 0, .int x] σ Q QX) (hQ : ∀ r τ, Q r τ → rsh 0 r) (hX : ∀ i τ, QX i τ → ((fun i => if i = 0 then 0 else 1) : Nat → Int32) i ≠ 0) : sw_ConW l E (d + 1) yL_recalled cL_recalled 4 [(0, 9, 12, 13)] [.ref 0, .int x, .ref 111] σ (wrQ cvI (fun i => if i = 0 then 0 else 1) Q QX) := by
  refine wr_open (by decide +kernel) rfl (sw_in (i := 1479) (by decide +kernel) rfl) (by intro w hw; simp only [List.mem_cons, List.not_mem_nil, or_false] at hw; rcases hw with rfl | rfl | rfl <;> rfl) (Nat.le_of_ble_eq_true rfl) ?_
  intro p e s m args below meth c A C hr hlocks htab hNc
  refine gg_al C (show decode cL_recalled 0 = .ok (.aload_n 2, 1) from by decide +kernel) rfl ?_
  refine gg_ic C (x := 0) (show decode cL_recalled 1 = .ok (.iconst 0, 1) from by decide +kernel) rfl ?_
  refine gg_al C (show decode cL_recalled 2 = .ok (.aload_n 0, 1) from by decide +kernel) rfl ?_
  refine gg_il C (show decode cL_recalled 3 = .ok (.iload_n 1, 1) from by decide +kernel) rfl ?_
  refine wr_call (av := [.ref 0, .int x]) (r := [.int 0, .ref 111]) C (Nat.le_refl _) (Nat.le_refl _) (Nat.le_refl _) (Nat.le_refl _) (idx := 81) (mn := 169) rfl (by decide) rfl rfl rfl (rec0 (by decide) rfl) (by decide) h (show decode cL_recalled 4 = .ok (.invokevirtual 81, 3) from by decide +kernel) (fun v τ q => ?_) (fun i τ H locs la q ce hq hP hD hS hl hce hcv hcl => ?_)
  · obtain ⟨v, rfl⟩ := rsh_el (hQ _ _ q)
    exact wr_tI (z := 15) C hr hlocks (show decode cL_recalled 7 = .ok (.i2l, 1) from by decide +kernel) (show decode cL_recalled 8 = .ok (.lastore, 1) from by decide +kernel) (show decode cL_recalled 9 = .ok (.goto 6, 3) from by decide +kernel) (by decide) (show decode cL_recalled 15 = .ok (.iconst 0, 1) from by decide +kernel) (show decode cL_recalled 16 = .ok (.ireturn, 1) from by decide +kernel) (Or.inl ⟨rfl, v, τ, q, rfl⟩)
  · have h0 : ¬ i = 0 := fun h0 => absurd (if_pos h0) (hX _ _ hq)
    have e1 : sw_xn i = sw_xi1 := by rw [sw_xn, if_neg h0]; rfl
    rw [e1] at hcl
    exact ct_1 (own := sw_R 12) (name := sw_xi1) C.2.2.2.1 htab (by decide) (by decide) (C.2.2.2.2.1 _ (sw_in (i := 814) (by decide +kernel) rfl)) (wr_c1 C) hce hcv hcl (wr_h1 C hr hlocks (show decode cL_recalled 12 = .ok (.astore_n 3, 1) from by decide +kernel) (by decide) (show decode cL_recalled 13 = .ok (.iconst 1, 1) from by decide +kernel) rfl (show decode cL_recalled 14 = .ok (.ireturn, 1) from by decide +kernel) hP hD hS hl (Or.inr ⟨i, hq, ec1 h0⟩))
set_option maxRecDepth 100000 in
theorem w_allMonths (h : sw_ConX l E d 4 170 [.ref 0, .int x] σ Q QX) (hQ : ∀ r τ, Q r τ → rsh 0 r) (hX : ∀ i τ, QX i τ → ((fun i => if i = 0 then 0 else 1) : Nat → Int32) i ≠ 0) : sw_ConW l E (d + 1) yL_allMonths cL_allMonths 4 [(0, 9, 12, 13)] [.ref 0, .int x, .ref 111] σ (wrQ cvI (fun i => if i = 0 then 0 else 1) Q QX) := by
  refine wr_open (by decide +kernel) rfl (sw_in (i := 1486) (by decide +kernel) rfl) (by intro w hw; simp only [List.mem_cons, List.not_mem_nil, or_false] at hw; rcases hw with rfl | rfl | rfl <;> rfl) (Nat.le_of_ble_eq_true rfl) ?_
  intro p e s m args below meth c A C hr hlocks htab hNc
  refine gg_al C (show decode cL_allMonths 0 = .ok (.aload_n 2, 1) from by decide +kernel) rfl ?_
  refine gg_ic C (x := 0) (show decode cL_allMonths 1 = .ok (.iconst 0, 1) from by decide +kernel) rfl ?_
  refine gg_al C (show decode cL_allMonths 2 = .ok (.aload_n 0, 1) from by decide +kernel) rfl ?_
  refine gg_il C (show decode cL_allMonths 3 = .ok (.iload_n 1, 1) from by decide +kernel) rfl ?_
  refine wr_call (av := [.ref 0, .int x]) (r := [.int 0, .ref 111]) C (Nat.le_refl _) (Nat.le_refl _) (Nat.le_refl _) (Nat.le_refl _) (idx := 84) (mn := 170) rfl (by decide) rfl rfl rfl (rec0 (by decide) rfl) (by decide) h (show decode cL_allMonths 4 = .ok (.invokevirtual 84, 3) from by decide +kernel) (fun v τ q => ?_) (fun i τ H locs la q ce hq hP hD hS hl hce hcv hcl => ?_)
  · obtain ⟨v, rfl⟩ := rsh_el (hQ _ _ q)
    exact wr_tI (z := 15) C hr hlocks (show decode cL_allMonths 7 = .ok (.i2l, 1) from by decide +kernel) (show decode cL_allMonths 8 = .ok (.lastore, 1) from by decide +kernel) (show decode cL_allMonths 9 = .ok (.goto 6, 3) from by decide +kernel) (by decide) (show decode cL_allMonths 15 = .ok (.iconst 0, 1) from by decide +kernel) (show decode cL_allMonths 16 = .ok (.ireturn, 1) from by decide +kernel) (Or.inl ⟨rfl, v, τ, q, rfl⟩)
  · have h0 : ¬ i = 0 := fun h0 => absurd (if_pos h0) (hX _ _ hq)
    have e1 : sw_xn i = sw_xi1 := by rw [sw_xn, if_neg h0]; rfl
    rw [e1] at hcl
    exact ct_1 (own := sw_R 12) (name := sw_xi1) C.2.2.2.1 htab (by decide) (by decide) (C.2.2.2.2.1 _ (sw_in (i := 814) (by decide +kernel) rfl)) (wr_c1 C) hce hcv hcl (wr_h1 C hr hlocks (show decode cL_allMonths 12 = .ok (.astore_n 3, 1) from by decide +kernel) (by decide) (show decode cL_allMonths 13 = .ok (.iconst 1, 1) from by decide +kernel) rfl (show decode cL_allMonths 14 = .ok (.ireturn, 1) from by decide +kernel) hP hD hS hl (Or.inr ⟨i, hq, ec1 h0⟩))
set_option maxRecDepth 100000 in
theorem w_clash (h : sw_ConX l E d 4 171 [.ref 0, .int x] σ Q QX) (hQ : ∀ r τ, Q r τ → rsh 0 r) (hX : ∀ i τ, QX i τ → ((fun i => if i = 0 then 1 else 0) : Nat → Int32) i ≠ 0) : sw_ConW l E (d + 1) yL_clash cL_clash 4 [(0, 9, 12, 18)] [.ref 0, .int x, .ref 111] σ (wrQ cvI (fun i => if i = 0 then 1 else 0) Q QX) := by
  refine wr_open (by decide +kernel) rfl (sw_in (i := 1494) (by decide +kernel) rfl) (by intro w hw; simp only [List.mem_cons, List.not_mem_nil, or_false] at hw; rcases hw with rfl | rfl | rfl <;> rfl) (Nat.le_of_ble_eq_true rfl) ?_
  intro p e s m args below meth c A C hr hlocks htab hNc
  refine gg_al C (show decode cL_clash 0 = .ok (.aload_n 2, 1) from by decide +kernel) rfl ?_
  refine gg_ic C (x := 0) (show decode cL_clash 1 = .ok (.iconst 0, 1) from by decide +kernel) rfl ?_
  refine gg_al C (show decode cL_clash 2 = .ok (.aload_n 0, 1) from by decide +kernel) rfl ?_
  refine gg_il C (show decode cL_clash 3 = .ok (.iload_n 1, 1) from by decide +kernel) rfl ?_
  refine wr_call (av := [.ref 0, .int x]) (r := [.int 0, .ref 111]) C (Nat.le_refl _) (Nat.le_refl _) (Nat.le_refl _) (Nat.le_refl _) (idx := 87) (mn := 171) rfl (by decide) rfl rfl rfl (rec0 (by decide) rfl) (by decide) h (show decode cL_clash 4 = .ok (.invokevirtual 87, 3) from by decide +kernel) (fun v τ q => ?_) (fun i τ H locs la q ce hq hP hD hS hl hce hcv hcl => ?_)
  · obtain ⟨v, rfl⟩ := rsh_el (hQ _ _ q)
    exact wr_tI (z := 15) C hr hlocks (show decode cL_clash 7 = .ok (.i2l, 1) from by decide +kernel) (show decode cL_clash 8 = .ok (.lastore, 1) from by decide +kernel) (show decode cL_clash 9 = .ok (.goto 6, 3) from by decide +kernel) (by decide) (show decode cL_clash 15 = .ok (.iconst 0, 1) from by decide +kernel) (show decode cL_clash 16 = .ok (.ireturn, 1) from by decide +kernel) (Or.inl ⟨rfl, v, τ, q, rfl⟩)
  · have h0 : i = 0 := by
      rcases Nat.eq_zero_or_pos i with h0 | h0
      · exact h0
      · exact absurd (if_neg (by omega)) (hX _ _ hq)
    subst h0
    exact ct_1 (own := sw_R 12) (name := sw_xi0) C.2.2.2.1 htab (by decide) (by decide) (C.2.2.2.2.1 _ (sw_in (i := 1154) (by decide +kernel) rfl)) (wr_c0 C) hce hcv hcl (wr_h1 C hr hlocks (show decode cL_clash 12 = .ok (.astore_n 3, 1) from by decide +kernel) (by decide) (show decode cL_clash 13 = .ok (.iconst 1, 1) from by decide +kernel) rfl (show decode cL_clash 14 = .ok (.ireturn, 1) from by decide +kernel) hP hD hS hl (Or.inr ⟨0, hq, rfl⟩))
set_option maxRecDepth 100000 in
theorem w_lacking (h : sw_ConX l E d 4 173 [.ref 0, .int x] σ Q QX) (hQ : ∀ r τ, Q r τ → rsh 0 r) (hX : ∀ i τ, QX i τ → ((fun i => if i = 0 then 0 else 1) : Nat → Int32) i ≠ 0) : sw_ConW l E (d + 1) yL_lacking cL_lacking 4 [(0, 9, 12, 13)] [.ref 0, .int x, .ref 111] σ (wrQ cvI (fun i => if i = 0 then 0 else 1) Q QX) := by
  refine wr_open (by decide +kernel) rfl (sw_in (i := 1506) (by decide +kernel) rfl) (by intro w hw; simp only [List.mem_cons, List.not_mem_nil, or_false] at hw; rcases hw with rfl | rfl | rfl <;> rfl) (Nat.le_of_ble_eq_true rfl) ?_
  intro p e s m args below meth c A C hr hlocks htab hNc
  refine gg_al C (show decode cL_lacking 0 = .ok (.aload_n 2, 1) from by decide +kernel) rfl ?_
  refine gg_ic C (x := 0) (show decode cL_lacking 1 = .ok (.iconst 0, 1) from by decide +kernel) rfl ?_
  refine gg_al C (show decode cL_lacking 2 = .ok (.aload_n 0, 1) from by decide +kernel) rfl ?_
  refine gg_il C (show decode cL_lacking 3 = .ok (.iload_n 1, 1) from by decide +kernel) rfl ?_
  refine wr_call (av := [.ref 0, .int x]) (r := [.int 0, .ref 111]) C (Nat.le_refl _) (Nat.le_refl _) (Nat.le_refl _) (Nat.le_refl _) (idx := 90) (mn := 173) rfl (by decide) rfl rfl rfl (rec0 (by decide) rfl) (by decide) h (show decode cL_lacking 4 = .ok (.invokevirtual 90, 3) from by decide +kernel) (fun v τ q => ?_) (fun i τ H locs la q ce hq hP hD hS hl hce hcv hcl => ?_)
  · obtain ⟨v, rfl⟩ := rsh_el (hQ _ _ q)
    exact wr_tI (z := 15) C hr hlocks (show decode cL_lacking 7 = .ok (.i2l, 1) from by decide +kernel) (show decode cL_lacking 8 = .ok (.lastore, 1) from by decide +kernel) (show decode cL_lacking 9 = .ok (.goto 6, 3) from by decide +kernel) (by decide) (show decode cL_lacking 15 = .ok (.iconst 0, 1) from by decide +kernel) (show decode cL_lacking 16 = .ok (.ireturn, 1) from by decide +kernel) (Or.inl ⟨rfl, v, τ, q, rfl⟩)
  · have h0 : ¬ i = 0 := fun h0 => absurd (if_pos h0) (hX _ _ hq)
    have e1 : sw_xn i = sw_xi1 := by rw [sw_xn, if_neg h0]; rfl
    rw [e1] at hcl
    exact ct_1 (own := sw_R 12) (name := sw_xi1) C.2.2.2.1 htab (by decide) (by decide) (C.2.2.2.2.1 _ (sw_in (i := 814) (by decide +kernel) rfl)) (wr_c1 C) hce hcv hcl (wr_h1 C hr hlocks (show decode cL_lacking 12 = .ok (.astore_n 3, 1) from by decide +kernel) (by decide) (show decode cL_lacking 13 = .ok (.iconst 1, 1) from by decide +kernel) rfl (show decode cL_lacking 14 = .ok (.ireturn, 1) from by decide +kernel) hP hD hS hl (Or.inr ⟨i, hq, ec1 h0⟩))
set_option maxRecDepth 100000 in
theorem w_worth (h : sw_ConX l E d 4 174 [.ref 0, .int x] σ Q QX) (hQ : ∀ r τ, Q r τ → rsh 0 r) (hX : ∀ i τ, QX i τ → ((fun i => if i = 0 then 1 else 0) : Nat → Int32) i ≠ 0) : sw_ConW l E (d + 1) yL_worth cL_worth 4 [(0, 9, 12, 18)] [.ref 0, .int x, .ref 111] σ (wrQ cvI (fun i => if i = 0 then 1 else 0) Q QX) := by
  refine wr_open (by decide +kernel) rfl (sw_in (i := 1513) (by decide +kernel) rfl) (by intro w hw; simp only [List.mem_cons, List.not_mem_nil, or_false] at hw; rcases hw with rfl | rfl | rfl <;> rfl) (Nat.le_of_ble_eq_true rfl) ?_
  intro p e s m args below meth c A C hr hlocks htab hNc
  refine gg_al C (show decode cL_worth 0 = .ok (.aload_n 2, 1) from by decide +kernel) rfl ?_
  refine gg_ic C (x := 0) (show decode cL_worth 1 = .ok (.iconst 0, 1) from by decide +kernel) rfl ?_
  refine gg_al C (show decode cL_worth 2 = .ok (.aload_n 0, 1) from by decide +kernel) rfl ?_
  refine gg_il C (show decode cL_worth 3 = .ok (.iload_n 1, 1) from by decide +kernel) rfl ?_
  refine wr_call (av := [.ref 0, .int x]) (r := [.int 0, .ref 111]) C (Nat.le_refl _) (Nat.le_refl _) (Nat.le_refl _) (Nat.le_refl _) (idx := 93) (mn := 174) rfl (by decide) rfl rfl rfl (rec0 (by decide) rfl) (by decide) h (show decode cL_worth 4 = .ok (.invokevirtual 93, 3) from by decide +kernel) (fun v τ q => ?_) (fun i τ H locs la q ce hq hP hD hS hl hce hcv hcl => ?_)
  · obtain ⟨v, rfl⟩ := rsh_el (hQ _ _ q)
    exact wr_tI (z := 15) C hr hlocks (show decode cL_worth 7 = .ok (.i2l, 1) from by decide +kernel) (show decode cL_worth 8 = .ok (.lastore, 1) from by decide +kernel) (show decode cL_worth 9 = .ok (.goto 6, 3) from by decide +kernel) (by decide) (show decode cL_worth 15 = .ok (.iconst 0, 1) from by decide +kernel) (show decode cL_worth 16 = .ok (.ireturn, 1) from by decide +kernel) (Or.inl ⟨rfl, v, τ, q, rfl⟩)
  · have h0 : i = 0 := by
      rcases Nat.eq_zero_or_pos i with h0 | h0
      · exact h0
      · exact absurd (if_neg (by omega)) (hX _ _ hq)
    subst h0
    exact ct_1 (own := sw_R 12) (name := sw_xi0) C.2.2.2.1 htab (by decide) (by decide) (C.2.2.2.2.1 _ (sw_in (i := 1154) (by decide +kernel) rfl)) (wr_c0 C) hce hcv hcl (wr_h1 C hr hlocks (show decode cL_worth 12 = .ok (.astore_n 3, 1) from by decide +kernel) (by decide) (show decode cL_worth 13 = .ok (.iconst 1, 1) from by decide +kernel) rfl (show decode cL_worth 14 = .ok (.ireturn, 1) from by decide +kernel) hP hD hS hl (Or.inr ⟨0, hq, rfl⟩))
set_option maxRecDepth 100000 in
theorem w_lack (h : sw_ConX l E d 4 175 [.ref 0, .int x, .int y, .int z] σ Q QX) (hQ : ∀ r τ, Q r τ → rsh 0 r) (hX : ∀ i τ, QX i τ → ((fun i => if i = 0 then 1 else 2) : Nat → Int32) i ≠ 0) : sw_ConW l E (d + 1) yL_lack cL_lack 6 [(0, 12, 15, 18), (0, 12, 19, 13)] [.ref 0, .int x, .int y, .int z, .ref 111] σ (wrQ cvI (fun i => if i = 0 then 1 else 2) Q QX) := by
  refine wr_open (by decide +kernel) rfl (sw_in (i := 1520) (by decide +kernel) rfl) (by intro w hw; simp only [List.mem_cons, List.not_mem_nil, or_false] at hw; rcases hw with rfl | rfl | rfl | rfl | rfl <;> rfl) (Nat.le_of_ble_eq_true rfl) ?_
  intro p e s m args below meth c A C hr hlocks htab hNc
  refine gg_al2 C (show decode cL_lack 0 = .ok (.aload 4, 2) from by decide +kernel) rfl ?_
  refine gg_ic C (x := 0) (show decode cL_lack 2 = .ok (.iconst 0, 1) from by decide +kernel) rfl ?_
  refine gg_al C (show decode cL_lack 3 = .ok (.aload_n 0, 1) from by decide +kernel) rfl ?_
  refine gg_il C (show decode cL_lack 4 = .ok (.iload_n 1, 1) from by decide +kernel) rfl ?_
  refine gg_il C (show decode cL_lack 5 = .ok (.iload_n 2, 1) from by decide +kernel) rfl ?_
  refine gg_il C (show decode cL_lack 6 = .ok (.iload_n 3, 1) from by decide +kernel) rfl ?_
  refine wr_call (av := [.ref 0, .int x, .int y, .int z]) (r := [.int 0, .ref 111]) C (Nat.le_refl _) (Nat.le_refl _) (Nat.le_refl _) (Nat.le_refl _) (idx := 96) (mn := 175) rfl (by decide) rfl rfl rfl (rec0 (by decide) rfl) (by decide) h (show decode cL_lack 7 = .ok (.invokevirtual 96, 3) from by decide +kernel) (fun v τ q => ?_) (fun i τ H locs la q ce hq hP hD hS hl hce hcv hcl => ?_)
  · obtain ⟨v, rfl⟩ := rsh_el (hQ _ _ q)
    exact wr_tI (z := 23) C hr hlocks (show decode cL_lack 10 = .ok (.i2l, 1) from by decide +kernel) (show decode cL_lack 11 = .ok (.lastore, 1) from by decide +kernel) (show decode cL_lack 12 = .ok (.goto 11, 3) from by decide +kernel) (by decide) (show decode cL_lack 23 = .ok (.iconst 0, 1) from by decide +kernel) (show decode cL_lack 24 = .ok (.ireturn, 1) from by decide +kernel) (Or.inl ⟨rfl, v, τ, q, rfl⟩)
  · by_cases h0 : i = 0
    · subst h0
      exact ct_1 (own := sw_R 12) (name := sw_xi0) C.2.2.2.1 htab (by decide) (by decide) (C.2.2.2.2.1 _ (sw_in (i := 1154) (by decide +kernel) rfl)) (wr_c0 C) hce hcv hcl (wr_h2 C hr hlocks (show decode cL_lack 15 = .ok (.astore 5, 2) from by decide +kernel) (by decide) (show decode cL_lack 17 = .ok (.iconst 1, 1) from by decide +kernel) rfl (show decode cL_lack 18 = .ok (.ireturn, 1) from by decide +kernel) hP hD hS hl (Or.inr ⟨0, hq, rfl⟩))
    · have e1 : sw_xn i = sw_xi1 := by rw [sw_xn, if_neg h0]; rfl
      rw [e1] at hcl
      refine ct_2 (own := sw_R 12) (nm := sw_xi0) (name := sw_xi1) C.2.2.2.1 htab (by decide) (by decide) (C.2.2.2.2.1 _ (sw_in (i := 1154) (by decide +kernel) rfl)) hNc (by decide) (by decide) (C.2.2.2.2.1 _ (sw_in (i := 814) (by decide +kernel) rfl)) (wr_c1 C) hce hcv hcl ?_
      exact wr_h2 C hr hlocks (show decode cL_lack 19 = .ok (.astore 5, 2) from by decide +kernel) (by decide) (show decode cL_lack 21 = .ok (.iconst 2, 1) from by decide +kernel) rfl (show decode cL_lack 22 = .ok (.ireturn, 1) from by decide +kernel) hP hD hS hl (Or.inr ⟨i, hq, ec2 h0⟩)
end
