/-! The reference reads a law: brackets close, operators. -/
theorem dp_mem {s : Nat} : ∀ w o, (∀ c ∈ (dp s o w).1, c ∈ o ∨ c ∈ w) ∧ ∀ c ∈ (dp s o w).2, c ∈ w
  | [], o => ⟨fun c h => Or.inl h, fun c h => h⟩
  | x :: w, o => by
    rw [dp]
    split
    · obtain ⟨h1, h2⟩ := dp_mem (s := s) w (x :: o)
      refine ⟨fun c h => ?_, fun c h => List.mem_cons_of_mem _ (h2 c h)⟩
      rcases h1 c h with h9 | h9
      · rcases List.mem_cons.mp h9 with rfl | h8
        · exact Or.inr (by simp)
        · exact Or.inl h8
      · exact Or.inr (List.mem_cons_of_mem _ h9)
    · exact ⟨fun c h => Or.inl h, fun c h => h⟩
theorem dp_cnt {s : Nat} (hs : 1 ≤ s) : ∀ w o, (dp s o w).2.count 16 = w.count 16
  | [], o => rfl
  | x :: w, o => by
    rw [dp]
    split
    · rename_i h
      rw [dp_cnt hs w, List.count_cons_of_ne]
      intro e
      have e : x = 16 := by simpa using e
      rw [e] at h
      have : strC 16 = 0 := rfl
      omega
    · rfl
theorem dp_open : ∀ w o, (∀ c ∈ w, 7 ≤ c ∧ c ≤ 16) → 16 ∈ w → ∃ r, (dp 1 o w).2 = 16 :: r
  | [], o, _, h => by cases h
  | x :: w, o, hw, h => by
    rw [dp]
    by_cases e : x = 16
    · subst e; exact ⟨w, by rw [if_neg (by decide)]⟩
    · have h1 := hw x (by simp)
      have := (wcK_all x (by omega) h1.1).2.2.2.2.1
      rw [if_pos this]
      exact dp_open w (x :: o) (fun c hc => hw c (by simp [hc])) (by
        rcases List.mem_cons.mp h with h9 | h9
        · exact absurd h9.symm e
        · exact h9)
section
variable {l : Launch} {E : sw_E} {d : Nat} {σ τ υ : sw_M} {Q : Option Value → sw_M → Prop} {f : Nat → Nat} {n s t k c : Nat} {o o' w : List Nat} {x y : Int32} {C C' C0 : KC} {T : KT} {gd : Prop}
theorem isOpened_loop (hd : 0 < d) (hn : ∀ {x : Int32}, x = nI 0 - 1 → x < 0) : ∀ w : List Nat, w.length ≤ 900 → WS (σ.1 89) w → (∀ c ∈ w, 7 ≤ c ∧ c ≤ 16) → Q (some (.int (b01 (decide (16 ∈ w))))) σ → ∀ x, x = nI w.length - 1 → vX11_isOpened l E d Q (fun _ _ => False) 0 7 [some (.ref 75), some (.int x)] [] σ := by
  intro w
  induction w with
  | nil =>
    intro _ _ _ h x hx
    have hneg := hn (x := x) hx
    rw [vX11_isOpened_7]
    simp (maxSteps := 4000000) (disch := omega) only [wI, wL, wR, w1i, w1r, woI, woL, woR, wn0, wnS, wp00, wp0S, wp0, wpS, wl0, wlS, w1I, w1R, w1N, wA0, wAS, wrv, true_and, and_true, List.length_cons, List.length_nil, Option.toList_some, Option.toList_none, List.cons_append, List.nil_append, wmI, wmI2, wmL, wmL1, Nat.reduceAdd, Nat.reduceSub, Nat.reduceMul, Nat.reduceLeDiff, Nat.reduceLT, Nat.reduceEqDiff, reduceIte, Nat.zero_le, nI_leI, nI_ltI, nI_eq, nI_clamp, vp_in_nI, nI_1, bz_and, bz_or, bz_andn, kd_0, kd_1, kd_2, kd_3, kd_4, kd_5, kd_6, kd_7, kd_8, kd_9, kd_10, kd_11, kd_12, kd_13, kd_14, kd_15, kd_16, kd_17, kd_18, kd_19, kd_20, kd_21, kd_22, kd_23, kd_24, kd_25, kd_26, kd_27, kd_28, kd_29, kd_30, kd_31, kd_32, kd_33, kd_34, kd_35, kd_36, kd_37, kd_38, kd_39, kd_40, kd_41, kd_42, kd_43, kd_44, kd_45, kd_46, kd_47, kd_48, kd_49, kd_50, kd_51, kd_52, kd_53, kd_54, kd_55, kd_56, kd_57, kd_58, kd_59, kd_60, kd_61, kd_62, kd_63, kd_64, kd_65, kd_66, kd_67, kd_68, kd_69, kd_70, kd_71, kd_72, kd_73, kd_74, kd_75, kd_76, kd_77, kd_78, kd_79, kd_80, kd_81, kd_82, kd_83, kd_84, kd_85, kd_86, kd_87, kd_88, kd_89, kd_90, kd_91, kd_92, kd_93, kd_94, kd_95, kd_96, kd_97, kd_98, kd_99, kd_100, kd_101, kd_102, kd_103, kd_104, kd_105, kd_106, kd_107, kd_108, kd_109, kd_110, kd_111, kdf_3, kdf_5, kdf_6, kdf_7, kdf_8, kdf_9, kdf_10, kdf_11, kdf_12, kdf_13, kdf_15, kdf_17, kdf_18, kdf_19, kdf_20, kdf_21, kdf_22, kdf_23, kdf_24, kdf_25, kdf_27, kdf_29, kdf_30, kdf_31, kdf_32, kdf_33, kdf_34, kdf_35, kdf_36, kdf_38, kdf_39, kdf_40, kdf_41, kdf_42, kdf_43, kdf_44, kdf_45, kdf_47, kdf_48, kdf_49, kdf_50, kdf_51, kdf_52, kdf_53, kdf_54, kdf_56, kdf_57, kdf_58, kdf_59, kdf_60, kdf_62, kdf_63, kdf_64, kdf_65, kdf_67, kdf_68, kdf_70, kdf_72, kdf_73, kdf_74, kdf_76, kdf_77, kdf_78, kdf_79, kdf_80, kdf_81, kdf_82, kdf_83, kdf_84, kdf_85, kdf_86, kdf_87, kdf_88, kdf_89, kdf_90, kdf_91, kdf_92, kdf_93, kdf_94, kdf_95, kdf_96, kdf_97, kdf_98, kdf_99, kdf_100, kdf_101, kdf_102, kdf_103, kdf_104, kdf_105, kdf_106, kdf_107, kdf_108, kdf_109, kdf_110, kdf_111, kds_3, kds_5, kds_6, kds_7, kds_8, kds_9, kds_10, kds_11, kds_12, kds_13, kds_15, kds_17, kds_18, kds_19, kds_20, kds_21, kds_22, kds_23, kds_24, kds_25, kds_27, kds_29, kds_30, kds_31, kds_32, kds_33, kds_34, kds_35, kds_36, kds_38, kds_39, kds_40, kds_41, kds_42, kds_43, kds_44, kds_45, kds_47, kds_48, kds_49, kds_50, kds_51, kds_52, kds_53, kds_54, kds_56, kds_57, kds_58, kds_59, kds_60, kds_62, kds_63, kds_64, kds_65, kds_67, kds_68, kds_70, kds_72, kds_73, kds_74, kds_76, kds_77, kds_78, kds_79, kds_80, kds_81, kds_82, kds_83, kds_84, kds_85, kds_86, kds_87, kds_88, kds_89, kds_90, kds_91, kds_92, kds_93, kds_94, kds_95, kds_96, kds_97, kds_98, kds_99, kds_100, kds_101, kds_102, kds_103, kds_104, kds_105, kds_106, kds_107, kds_108, kds_109, kds_110, kds_111, vX11_isOpened_0, vX11_isOpened_1, vX11_isOpened_4, vX11_isOpened_5, vX11_isOpened_6, vX11_isOpened_8, vX11_isOpened_11, vX11_isOpened_12, vX11_isOpened_15, vX11_isOpened_16, vX11_isOpened_17, vX11_isOpened_23, vX11_isOpened_26, vX11_isOpened_29, vX11_isOpened_30, vX11_isOpened_33, vX11_isOpened_34, vX11_isOpened_37, vX11_isOpened_38, mo_206]
    exact ⟨fun _ => ⟨fun _ => ⟨Or.inl rfl, h⟩, fun q => absurd hneg q⟩, fun q => absurd hneg q⟩
  | cons c w ih =>
    intro hl hW h7 h x hx
    rw [List.length_cons] at hx hl
    have ex : x = nI w.length := by rw [hx, show (1 : Int32) = nI 1 from rfl, pk_sub (by omega)]; rfl
    subst ex
    have e1 := hW.1
    obtain ⟨c7, c16⟩ := h7 c (by simp)
    have hneg : ¬ nI w.length < 0 := nI_pos (by omega)
    have hwk : wcK c < 2 ^ 31 := by
      rcases Nat.lt_or_ge c 16 with q | q
      · have := (wcK_all c q c7).2.2.1; omega
      · have : c = 16 := by omega
        subst this; decide
    rw [vX11_isOpened_7]
    simp (maxSteps := 4000000) (disch := omega) only [wI, wL, wR, w1i, w1r, woI, woL, woR, wn0, wnS, wp00, wp0S, wp0, wpS, wl0, wlS, w1I, w1R, w1N, wA0, wAS, wrv, true_and, and_true, List.length_cons, List.length_nil, Option.toList_some, Option.toList_none, List.cons_append, List.nil_append, wmI, wmI2, wmL, wmL1, Nat.reduceAdd, Nat.reduceSub, Nat.reduceMul, Nat.reduceLeDiff, Nat.reduceLT, Nat.reduceEqDiff, reduceIte, Nat.zero_le, nI_leI, nI_ltI, nI_eq, nI_clamp, vp_in_nI, nI_1, bz_and, bz_or, bz_andn, kd_0, kd_1, kd_2, kd_3, kd_4, kd_5, kd_6, kd_7, kd_8, kd_9, kd_10, kd_11, kd_12, kd_13, kd_14, kd_15, kd_16, kd_17, kd_18, kd_19, kd_20, kd_21, kd_22, kd_23, kd_24, kd_25, kd_26, kd_27, kd_28, kd_29, kd_30, kd_31, kd_32, kd_33, kd_34, kd_35, kd_36, kd_37, kd_38, kd_39, kd_40, kd_41, kd_42, kd_43, kd_44, kd_45, kd_46, kd_47, kd_48, kd_49, kd_50, kd_51, kd_52, kd_53, kd_54, kd_55, kd_56, kd_57, kd_58, kd_59, kd_60, kd_61, kd_62, kd_63, kd_64, kd_65, kd_66, kd_67, kd_68, kd_69, kd_70, kd_71, kd_72, kd_73, kd_74, kd_75, kd_76, kd_77, kd_78, kd_79, kd_80, kd_81, kd_82, kd_83, kd_84, kd_85, kd_86, kd_87, kd_88, kd_89, kd_90, kd_91, kd_92, kd_93, kd_94, kd_95, kd_96, kd_97, kd_98, kd_99, kd_100, kd_101, kd_102, kd_103, kd_104, kd_105, kd_106, kd_107, kd_108, kd_109, kd_110, kd_111, kdf_3, kdf_5, kdf_6, kdf_7, kdf_8, kdf_9, kdf_10, kdf_11, kdf_12, kdf_13, kdf_15, kdf_17, kdf_18, kdf_19, kdf_20, kdf_21, kdf_22, kdf_23, kdf_24, kdf_25, kdf_27, kdf_29, kdf_30, kdf_31, kdf_32, kdf_33, kdf_34, kdf_35, kdf_36, kdf_38, kdf_39, kdf_40, kdf_41, kdf_42, kdf_43, kdf_44, kdf_45, kdf_47, kdf_48, kdf_49, kdf_50, kdf_51, kdf_52, kdf_53, kdf_54, kdf_56, kdf_57, kdf_58, kdf_59, kdf_60, kdf_62, kdf_63, kdf_64, kdf_65, kdf_67, kdf_68, kdf_70, kdf_72, kdf_73, kdf_74, kdf_76, kdf_77, kdf_78, kdf_79, kdf_80, kdf_81, kdf_82, kdf_83, kdf_84, kdf_85, kdf_86, kdf_87, kdf_88, kdf_89, kdf_90, kdf_91, kdf_92, kdf_93, kdf_94, kdf_95, kdf_96, kdf_97, kdf_98, kdf_99, kdf_100, kdf_101, kdf_102, kdf_103, kdf_104, kdf_105, kdf_106, kdf_107, kdf_108, kdf_109, kdf_110, kdf_111, kds_3, kds_5, kds_6, kds_7, kds_8, kds_9, kds_10, kds_11, kds_12, kds_13, kds_15, kds_17, kds_18, kds_19, kds_20, kds_21, kds_22, kds_23, kds_24, kds_25, kds_27, kds_29, kds_30, kds_31, kds_32, kds_33, kds_34, kds_35, kds_36, kds_38, kds_39, kds_40, kds_41, kds_42, kds_43, kds_44, kds_45, kds_47, kds_48, kds_49, kds_50, kds_51, kds_52, kds_53, kds_54, kds_56, kds_57, kds_58, kds_59, kds_60, kds_62, kds_63, kds_64, kds_65, kds_67, kds_68, kds_70, kds_72, kds_73, kds_74, kds_76, kds_77, kds_78, kds_79, kds_80, kds_81, kds_82, kds_83, kds_84, kds_85, kds_86, kds_87, kds_88, kds_89, kds_90, kds_91, kds_92, kds_93, kds_94, kds_95, kds_96, kds_97, kds_98, kds_99, kds_100, kds_101, kds_102, kds_103, kds_104, kds_105, kds_106, kds_107, kds_108, kds_109, kds_110, kds_111, vX11_isOpened_0, vX11_isOpened_1, vX11_isOpened_4, vX11_isOpened_5, vX11_isOpened_6, vX11_isOpened_8, vX11_isOpened_11, vX11_isOpened_12, vX11_isOpened_15, vX11_isOpened_16, vX11_isOpened_17, vX11_isOpened_23, vX11_isOpened_26, vX11_isOpened_29, vX11_isOpened_30, vX11_isOpened_33, vX11_isOpened_34, vX11_isOpened_37, vX11_isOpened_38, mo_206, e1]
    refine ⟨fun q => absurd q hneg, fun _ => ?_⟩
    refine isOpen_ok hwk (by omega) ?_
    simp (maxSteps := 4000000) (disch := omega) only [wI, wL, wR, w1i, w1r, woI, woL, woR, wn0, wnS, wp00, wp0S, wp0, wpS, wl0, wlS, w1I, w1R, w1N, wA0, wAS, wrv, true_and, and_true, List.length_cons, List.length_nil, Option.toList_some, Option.toList_none, List.cons_append, List.nil_append, wmI, wmI2, wmL, wmL1, Nat.reduceAdd, Nat.reduceSub, Nat.reduceMul, Nat.reduceLeDiff, Nat.reduceLT, Nat.reduceEqDiff, reduceIte, Nat.zero_le, nI_leI, nI_ltI, nI_eq, nI_clamp, vp_in_nI, nI_1, bz_and, bz_or, bz_andn, kd_0, kd_1, kd_2, kd_3, kd_4, kd_5, kd_6, kd_7, kd_8, kd_9, kd_10, kd_11, kd_12, kd_13, kd_14, kd_15, kd_16, kd_17, kd_18, kd_19, kd_20, kd_21, kd_22, kd_23, kd_24, kd_25, kd_26, kd_27, kd_28, kd_29, kd_30, kd_31, kd_32, kd_33, kd_34, kd_35, kd_36, kd_37, kd_38, kd_39, kd_40, kd_41, kd_42, kd_43, kd_44, kd_45, kd_46, kd_47, kd_48, kd_49, kd_50, kd_51, kd_52, kd_53, kd_54, kd_55, kd_56, kd_57, kd_58, kd_59, kd_60, kd_61, kd_62, kd_63, kd_64, kd_65, kd_66, kd_67, kd_68, kd_69, kd_70, kd_71, kd_72, kd_73, kd_74, kd_75, kd_76, kd_77, kd_78, kd_79, kd_80, kd_81, kd_82, kd_83, kd_84, kd_85, kd_86, kd_87, kd_88, kd_89, kd_90, kd_91, kd_92, kd_93, kd_94, kd_95, kd_96, kd_97, kd_98, kd_99, kd_100, kd_101, kd_102, kd_103, kd_104, kd_105, kd_106, kd_107, kd_108, kd_109, kd_110, kd_111, kdf_3, kdf_5, kdf_6, kdf_7, kdf_8, kdf_9, kdf_10, kdf_11, kdf_12, kdf_13, kdf_15, kdf_17, kdf_18, kdf_19, kdf_20, kdf_21, kdf_22, kdf_23, kdf_24, kdf_25, kdf_27, kdf_29, kdf_30, kdf_31, kdf_32, kdf_33, kdf_34, kdf_35, kdf_36, kdf_38, kdf_39, kdf_40, kdf_41, kdf_42, kdf_43, kdf_44, kdf_45, kdf_47, kdf_48, kdf_49, kdf_50, kdf_51, kdf_52, kdf_53, kdf_54, kdf_56, kdf_57, kdf_58, kdf_59, kdf_60, kdf_62, kdf_63, kdf_64, kdf_65, kdf_67, kdf_68, kdf_70, kdf_72, kdf_73, kdf_74, kdf_76, kdf_77, kdf_78, kdf_79, kdf_80, kdf_81, kdf_82, kdf_83, kdf_84, kdf_85, kdf_86, kdf_87, kdf_88, kdf_89, kdf_90, kdf_91, kdf_92, kdf_93, kdf_94, kdf_95, kdf_96, kdf_97, kdf_98, kdf_99, kdf_100, kdf_101, kdf_102, kdf_103, kdf_104, kdf_105, kdf_106, kdf_107, kdf_108, kdf_109, kdf_110, kdf_111, kds_3, kds_5, kds_6, kds_7, kds_8, kds_9, kds_10, kds_11, kds_12, kds_13, kds_15, kds_17, kds_18, kds_19, kds_20, kds_21, kds_22, kds_23, kds_24, kds_25, kds_27, kds_29, kds_30, kds_31, kds_32, kds_33, kds_34, kds_35, kds_36, kds_38, kds_39, kds_40, kds_41, kds_42, kds_43, kds_44, kds_45, kds_47, kds_48, kds_49, kds_50, kds_51, kds_52, kds_53, kds_54, kds_56, kds_57, kds_58, kds_59, kds_60, kds_62, kds_63, kds_64, kds_65, kds_67, kds_68, kds_70, kds_72, kds_73, kds_74, kds_76, kds_77, kds_78, kds_79, kds_80, kds_81, kds_82, kds_83, kds_84, kds_85, kds_86, kds_87, kds_88, kds_89, kds_90, kds_91, kds_92, kds_93, kds_94, kds_95, kds_96, kds_97, kds_98, kds_99, kds_100, kds_101, kds_102, kds_103, kds_104, kds_105, kds_106, kds_107, kds_108, kds_109, kds_110, kds_111, vX11_isOpened_0, vX11_isOpened_1, vX11_isOpened_4, vX11_isOpened_5, vX11_isOpened_6, vX11_isOpened_8, vX11_isOpened_11, vX11_isOpened_12, vX11_isOpened_15, vX11_isOpened_16, vX11_isOpened_17, vX11_isOpened_20, vX11_isOpened_23, vX11_isOpened_26, vX11_isOpened_29, vX11_isOpened_30, vX11_isOpened_33, vX11_isOpened_34, vX11_isOpened_37, vX11_isOpened_38, mo_206, b01_0]
    refine ⟨fun q => ?_, fun q => ?_⟩
    · have q := of_decide_eq_true (by rw [Bool.not_eq_false] at q; exact q)
      have hc : c = 16 := by
        rcases Nat.lt_or_ge c 16 with z | z
        · have := (wcK_all c z c7).2.2.1; omega
        · omega
      subst hc
      rw [decide_eq_true (by simp)] at h
      exact ⟨fun q => absurd q hneg, fun _ => ⟨Or.inr rfl, h⟩⟩
    · have q := of_decide_eq_false q
      have hc : c ≠ 16 := fun e => by subst e; exact q (by decide)
      refine ih (by omega) hW.2 (fun z hz => h7 z (by simp [hz])) ?_ _ ?_
      · rw [show decide (16 ∈ w) = decide (16 ∈ c :: w) from by
          rw [Bool.eq_iff_iff, decide_eq_true_eq, decide_eq_true_eq, List.mem_cons]
          exact ⟨Or.inr, fun z => z.elim (fun z => absurd z.symm hc) id⟩]
        exact h
      · rw [Int32.sub_eq_add_neg]
theorem isOpened_ok (hK : MK σ f n C) (g : (kT C).2 = 0) (hd : 1 < d) (h : Q (some (.int (b01 (decide (1 < (kS C).length))))) σ) : sw_Con l E d 208 [.ref 75] σ Q := by
  obtain ⟨d, rfl⟩ := d_pos (by omega : 0 < d)
  refine con_X11_isOpened ?_
  obtain ⟨hT, hD, k3, k4, k5, k6, k7, k8⟩ := hK
  obtain ⟨t, d1, d2, d3, d4, d5, d6⟩ := hD
  have hmem : (16 ∈ kW C) ↔ 1 < (kS C).length := by
    rw [← k7 g, ← List.count_pos_iff]
    omega
  have hl := isOpened_loop (l := l) (E := E) (d := d) (σ := σ) (Q := Q) (by omega) (fun {x} hx => by rw [hx]; decide) (kW C) d2.2 d5 d6 (by rw [show decide (16 ∈ kW C) = decide (1 < (kS C).length) from by rw [Bool.eq_iff_iff, decide_eq_true_eq, decide_eq_true_eq]; exact hmem]; exact h) _ rfl
  simp (maxSteps := 4000000) (disch := omega) only [wI, wL, wR, w1i, w1r, woI, woL, woR, wn0, wnS, wp00, wp0S, wp0, wpS, wl0, wlS, w1I, w1R, w1N, wA0, wAS, wrv, true_and, and_true, List.length_cons, List.length_nil, Option.toList_some, Option.toList_none, List.cons_append, List.nil_append, wmI, wmI2, wmL, wmL1, Nat.reduceAdd, Nat.reduceSub, Nat.reduceMul, Nat.reduceLeDiff, Nat.reduceLT, Nat.reduceEqDiff, reduceIte, Nat.zero_le, nI_leI, nI_ltI, nI_eq, nI_clamp, vp_in_nI, nI_1, bz_and, bz_or, bz_andn, kd_0, kd_1, kd_2, kd_3, kd_4, kd_5, kd_6, kd_7, kd_8, kd_9, kd_10, kd_11, kd_12, kd_13, kd_14, kd_15, kd_16, kd_17, kd_18, kd_19, kd_20, kd_21, kd_22, kd_23, kd_24, kd_25, kd_26, kd_27, kd_28, kd_29, kd_30, kd_31, kd_32, kd_33, kd_34, kd_35, kd_36, kd_37, kd_38, kd_39, kd_40, kd_41, kd_42, kd_43, kd_44, kd_45, kd_46, kd_47, kd_48, kd_49, kd_50, kd_51, kd_52, kd_53, kd_54, kd_55, kd_56, kd_57, kd_58, kd_59, kd_60, kd_61, kd_62, kd_63, kd_64, kd_65, kd_66, kd_67, kd_68, kd_69, kd_70, kd_71, kd_72, kd_73, kd_74, kd_75, kd_76, kd_77, kd_78, kd_79, kd_80, kd_81, kd_82, kd_83, kd_84, kd_85, kd_86, kd_87, kd_88, kd_89, kd_90, kd_91, kd_92, kd_93, kd_94, kd_95, kd_96, kd_97, kd_98, kd_99, kd_100, kd_101, kd_102, kd_103, kd_104, kd_105, kd_106, kd_107, kd_108, kd_109, kd_110, kd_111, kdf_3, kdf_5, kdf_6, kdf_7, kdf_8, kdf_9, kdf_10, kdf_11, kdf_12, kdf_13, kdf_15, kdf_17, kdf_18, kdf_19, kdf_20, kdf_21, kdf_22, kdf_23, kdf_24, kdf_25, kdf_27, kdf_29, kdf_30, kdf_31, kdf_32, kdf_33, kdf_34, kdf_35, kdf_36, kdf_38, kdf_39, kdf_40, kdf_41, kdf_42, kdf_43, kdf_44, kdf_45, kdf_47, kdf_48, kdf_49, kdf_50, kdf_51, kdf_52, kdf_53, kdf_54, kdf_56, kdf_57, kdf_58, kdf_59, kdf_60, kdf_62, kdf_63, kdf_64, kdf_65, kdf_67, kdf_68, kdf_70, kdf_72, kdf_73, kdf_74, kdf_76, kdf_77, kdf_78, kdf_79, kdf_80, kdf_81, kdf_82, kdf_83, kdf_84, kdf_85, kdf_86, kdf_87, kdf_88, kdf_89, kdf_90, kdf_91, kdf_92, kdf_93, kdf_94, kdf_95, kdf_96, kdf_97, kdf_98, kdf_99, kdf_100, kdf_101, kdf_102, kdf_103, kdf_104, kdf_105, kdf_106, kdf_107, kdf_108, kdf_109, kdf_110, kdf_111, kds_3, kds_5, kds_6, kds_7, kds_8, kds_9, kds_10, kds_11, kds_12, kds_13, kds_15, kds_17, kds_18, kds_19, kds_20, kds_21, kds_22, kds_23, kds_24, kds_25, kds_27, kds_29, kds_30, kds_31, kds_32, kds_33, kds_34, kds_35, kds_36, kds_38, kds_39, kds_40, kds_41, kds_42, kds_43, kds_44, kds_45, kds_47, kds_48, kds_49, kds_50, kds_51, kds_52, kds_53, kds_54, kds_56, kds_57, kds_58, kds_59, kds_60, kds_62, kds_63, kds_64, kds_65, kds_67, kds_68, kds_70, kds_72, kds_73, kds_74, kds_76, kds_77, kds_78, kds_79, kds_80, kds_81, kds_82, kds_83, kds_84, kds_85, kds_86, kds_87, kds_88, kds_89, kds_90, kds_91, kds_92, kds_93, kds_94, kds_95, kds_96, kds_97, kds_98, kds_99, kds_100, kds_101, kds_102, kds_103, kds_104, kds_105, kds_106, kds_107, kds_108, kds_109, kds_110, kds_111, vX11_isOpened_0, vX11_isOpened_1, vX11_isOpened_4, vX11_isOpened_5, vX11_isOpened_6, vX11_isOpened_8, vX11_isOpened_11, vX11_isOpened_12, vX11_isOpened_15, vX11_isOpened_16, vX11_isOpened_17, vX11_isOpened_23, vX11_isOpened_26, vX11_isOpened_29, vX11_isOpened_30, vX11_isOpened_33, vX11_isOpened_34, vX11_isOpened_37, vX11_isOpened_38, mo_206, d4]
  exact hl
/-- what a step over an operator leaves, behind goes -/
theorem xop_MK {ψ : sw_M} (hK : MK σ f n C) (g : (kT C).2 = 0) (hm : kM C = 2) (hs : lvl f n C = s) (h0 : 0 < s) (hD : DO ψ True (dp s (kO C) (kW C)).1 (opK f n C :: (dp s (kO C) (kW C)).2)) (h31 : ψ.1 75 31 = nI (kS C).length) (h90 : TSf (ψ.1 90) (tsO s (kS C))) (hF : Fm ψ υ) (hT : TM υ f n (tE f n (kT C).1, 0)) : MK υ f n (stp f n C) ∧ kT (stp f n C) = (tE f n (kT C).1, 0) ∧ kM (stp f n C) = (if s ≤ 2 then 0 else 1) ∧ kN (stp f n C) = 0 := by
  have est : stp f n C = ((tE f n (kT C).1, 0), (if s ≤ 2 then 0 else 1), 0, (dp s (kO C) (kW C)).1, opK f n C :: (dp s (kO C) (kW C)).2, tsO s (kS C)) := by
    rw [stp_O g hm]
    unfold stpO
    rw [if_pos (by omega), hs, nxK_ok g]
  have hlt := tE_lt (lvl_kind (f := f) (n := n) (C := C) (by omega))
  obtain ⟨o1, o2, o3⟩ := opK_lvl (f := f) (n := n) (C := C) (by omega)
  obtain ⟨hT0, hD0, k3, k4, k5, k6, k7, k8⟩ := hK
  have hts : (tsO s (kS C)).length = (kS C).length := by
    have : (kS C).length ≠ 0 := fun h => k5.1 (List.length_eq_zero_iff.mp h)
    unfold tsO
    repeat' split
    · rw [List.length_cons, List.length_tail]; omega
    · rw [List.length_cons, List.length_tail]; omega
    · rfl
  have hlen := dp_len (s := s) (kW C) (kO C)
  rw [est]
  refine ⟨⟨hT, DO_g (DO_n hD (Fn_m hF)) (fun _ => trivial), ?_, by rw [hF.2.1 90 (by decide)]; exact h90, ⟨fun q => ?_, ?_⟩, ?_, fun _ => ?_, fun c hc => ?_⟩, rfl, rfl, rfl⟩
  · rw [hF.2.2 31 (by decide), h31]; show nI (kS C).length = nI (tsO s (kS C)).length; rw [hts]
  · have q : tsO s (kS C) = [] := q
    rw [q] at hts
    exact k5.1 (List.length_eq_zero_iff.mp hts.symm)
  · show (tsO s (kS C)).length ≤ 6; rw [hts]; exact k5.2
  · show (dp s (kO C) (kW C)).1.length + ((dp s (kO C) (kW C)).2.length + 1) ≤ tE f n (kT C).1; omega
  · show (opK f n C :: (dp s (kO C) (kW C)).2).count 16 + 1 = (tsO s (kS C)).length
    rw [hts, List.count_cons_of_ne (by simp; omega), dp_cnt (by omega)]
    exact k7 g
  · rcases (dp_mem (s := s) (kW C) (kO C)).1 c hc with h9 | h9
    · exact k8 c h9
    · obtain ⟨t, d1, d2, d3, d4, d5, d6⟩ := hD0
      have := (d6 c h9).2; omega
theorem closes_ok (hK : MK σ f n C) (g : (kT C).2 = 0) (hm : kM C = 2) (hl : lvl f n C = 0) (h41 : tK f n (kT C).1 = 3 ∧ f (tS f n (kT C).1) = 41 ∧ 1 < (kS C).length) (hd : 6 < d) (hQ : ∀ τ, FK σ τ → MK τ f n (stp f n C) → kT (stp f n C) = (tE f n (kT C).1, 0) → kM (stp f n C) = 2 → Q none τ) : sw_Con l E d 209 [.ref 75] σ Q := by
  obtain ⟨d, rfl⟩ := d_pos (by omega : 0 < d)
  refine con_X11_closes ?_
  have est : stp f n C = ((tE f n (kT C).1, 0), 2, 0, (dp 1 (kO C) (kW C)).1, (dp 1 (kO C) (kW C)).2.tail, (kS C).tail) := by
    rw [stp_O g hm]
    unfold stpO
    rw [if_neg (by omega), if_pos h41, nxK_ok g]
  have hlt := tE_lt (f := f) (n := n) (e := (kT C).1) (by omega)
  obtain ⟨hT, hD, k3, k4, k5, k6, k7, k8⟩ := id hK
  obtain ⟨r1, r2, r3, r4⟩ := MK_room hK g
  have hops : ∀ c ∈ kW C, 7 ≤ c ∧ c ≤ 16 := by obtain ⟨t, d1, d2, d3, d4, d5, d6⟩ := hD; exact d6
  have hmem : 16 ∈ kW C := by
    rw [← List.count_pos_iff]
    have := k7 g
    omega
  obtain ⟨r, hr⟩ := dp_open (kW C) (kO C) hops hmem
  have hlen := dp_len (s := 1) (kW C) (kO C)
  have hcnt := dp_cnt (s := 1) (Nat.le_refl _) (kW C) (kO C)
  rw [hr, List.length_cons] at hlen
  rw [hr, List.count_cons_self] at hcnt
  simp (maxSteps := 4000000) (disch := omega) only [wI, wL, wR, w1i, w1r, woI, woL, woR, wn0, wnS, wp00, wp0S, wp0, wpS, wl0, wlS, w1I, w1R, w1N, wA0, wAS, wrv, true_and, and_true, List.length_cons, List.length_nil, Option.toList_some, Option.toList_none, List.cons_append, List.nil_append, wmI, wmI2, wmL, wmL1, Nat.reduceAdd, Nat.reduceSub, Nat.reduceMul, Nat.reduceLeDiff, Nat.reduceLT, Nat.reduceEqDiff, reduceIte, Nat.zero_le, nI_leI, nI_ltI, nI_eq, nI_clamp, vp_in_nI, nI_1, bz_and, bz_or, bz_andn, kd_0, kd_1, kd_2, kd_3, kd_4, kd_5, kd_6, kd_7, kd_8, kd_9, kd_10, kd_11, kd_12, kd_13, kd_14, kd_15, kd_16, kd_17, kd_18, kd_19, kd_20, kd_21, kd_22, kd_23, kd_24, kd_25, kd_26, kd_27, kd_28, kd_29, kd_30, kd_31, kd_32, kd_33, kd_34, kd_35, kd_36, kd_37, kd_38, kd_39, kd_40, kd_41, kd_42, kd_43, kd_44, kd_45, kd_46, kd_47, kd_48, kd_49, kd_50, kd_51, kd_52, kd_53, kd_54, kd_55, kd_56, kd_57, kd_58, kd_59, kd_60, kd_61, kd_62, kd_63, kd_64, kd_65, kd_66, kd_67, kd_68, kd_69, kd_70, kd_71, kd_72, kd_73, kd_74, kd_75, kd_76, kd_77, kd_78, kd_79, kd_80, kd_81, kd_82, kd_83, kd_84, kd_85, kd_86, kd_87, kd_88, kd_89, kd_90, kd_91, kd_92, kd_93, kd_94, kd_95, kd_96, kd_97, kd_98, kd_99, kd_100, kd_101, kd_102, kd_103, kd_104, kd_105, kd_106, kd_107, kd_108, kd_109, kd_110, kd_111, kdf_3, kdf_5, kdf_6, kdf_7, kdf_8, kdf_9, kdf_10, kdf_11, kdf_12, kdf_13, kdf_15, kdf_17, kdf_18, kdf_19, kdf_20, kdf_21, kdf_22, kdf_23, kdf_24, kdf_25, kdf_27, kdf_29, kdf_30, kdf_31, kdf_32, kdf_33, kdf_34, kdf_35, kdf_36, kdf_38, kdf_39, kdf_40, kdf_41, kdf_42, kdf_43, kdf_44, kdf_45, kdf_47, kdf_48, kdf_49, kdf_50, kdf_51, kdf_52, kdf_53, kdf_54, kdf_56, kdf_57, kdf_58, kdf_59, kdf_60, kdf_62, kdf_63, kdf_64, kdf_65, kdf_67, kdf_68, kdf_70, kdf_72, kdf_73, kdf_74, kdf_76, kdf_77, kdf_78, kdf_79, kdf_80, kdf_81, kdf_82, kdf_83, kdf_84, kdf_85, kdf_86, kdf_87, kdf_88, kdf_89, kdf_90, kdf_91, kdf_92, kdf_93, kdf_94, kdf_95, kdf_96, kdf_97, kdf_98, kdf_99, kdf_100, kdf_101, kdf_102, kdf_103, kdf_104, kdf_105, kdf_106, kdf_107, kdf_108, kdf_109, kdf_110, kdf_111, kds_3, kds_5, kds_6, kds_7, kds_8, kds_9, kds_10, kds_11, kds_12, kds_13, kds_15, kds_17, kds_18, kds_19, kds_20, kds_21, kds_22, kds_23, kds_24, kds_25, kds_27, kds_29, kds_30, kds_31, kds_32, kds_33, kds_34, kds_35, kds_36, kds_38, kds_39, kds_40, kds_41, kds_42, kds_43, kds_44, kds_45, kds_47, kds_48, kds_49, kds_50, kds_51, kds_52, kds_53, kds_54, kds_56, kds_57, kds_58, kds_59, kds_60, kds_62, kds_63, kds_64, kds_65, kds_67, kds_68, kds_70, kds_72, kds_73, kds_74, kds_76, kds_77, kds_78, kds_79, kds_80, kds_81, kds_82, kds_83, kds_84, kds_85, kds_86, kds_87, kds_88, kds_89, kds_90, kds_91, kds_92, kds_93, kds_94, kds_95, kds_96, kds_97, kds_98, kds_99, kds_100, kds_101, kds_102, kds_103, kds_104, kds_105, kds_106, kds_107, kds_108, kds_109, kds_110, kds_111, vX11_closes_0, vX11_closes_1, vX11_closes_2, vX11_closes_6, vX11_closes_7, vX11_closes_10, vX11_closes_11, vX11_closes_12, vX11_closes_15, vX11_closes_16, vX11_closes_17, vX11_closes_20, vX11_closes_21, vX11_closes_22, vX11_closes_25, vX11_closes_26, mo_182, mo_205]
  refine drops_ok (Nat.le_refl _) dr_0 (by omega) r3 (fun τ t1 t2 => ?_)
  rw [hr] at t2
  obtain ⟨t, d1, d2, d3, d4, d5, d6⟩ := t2
  have d4 : τ.1 75 30 = nI (r.length + 1) := d4
  have ep : nI (r.length + 1) - 1 = nI r.length := by rw [show (1 : Int32) = nI 1 from rfl, pk_sub (by omega)]; rfl
  obtain ⟨b, ts, hts⟩ : ∃ b ts, kS C = b :: ts := by
    cases hq : kS C with
    | nil => exact absurd hq k5.1
    | cons b ts => exact ⟨b, ts, rfl⟩
  have e31 : τ.1 75 31 = nI (ts.length + 1) := by rw [t1.2 31 (by decide) (by decide), k3, hts]; rfl
  have ep2 : nI (ts.length + 1) - 1 = nI ts.length := by rw [show (1 : Int32) = nI 1 from rfl, pk_sub (by omega)]; rfl
  have hψ : ∀ ψ, ψ = sw_sI τ 75 (upd (upd (τ.1 75) 30 (nI r.length)) 31 (nI ts.length)) → FK σ ψ ∧ TM ψ f n (kT C) ∧ DO ψ True (dp 1 (kO C) (kW C)).1 r ∧ ψ.1 75 31 = nI ts.length ∧ ψ.1 90 = σ.1 90 := by
    intro ψ hψ
    subst hψ
    refine ⟨FK_tr (FK_D t1) ⟨fun _ _ => rfl, fun k a _ _ _ => by rw [sI_ne a], fun j hj => by rw [sI_at, updN (by omega), updN (by omega)]⟩, TM_x (TM_x hT (by rw [t1.1.1]) (t1.1.2 81 (by decide)) (fun j hj => t1.2 j (by omega) (by omega))) rfl (sI_ne (by decide)) (fun j hj => by rw [sI_at, updN (by omega), updN (by omega)]), ⟨t, by rw [sI_at, updN (by decide), updN (by decide)]; exact d1, ⟨by have := d2.1; rw [List.length_cons] at this; omega, by have := d2.2; rw [List.length_cons] at this; omega⟩, fun g9 => by rw [sI_ne (by decide)]; exact d3 g9, by rw [sI_at, updN (by decide), updS], by rw [sI_ne (by decide)]; exact d5.2, fun c hc => d6 c (by simp [hc])⟩, by rw [sI_at, updS], by rw [sI_ne (by decide)]; exact t1.1.2 90 (by decide)⟩
  simp (maxSteps := 4000000) (disch := omega) only [wI, wL, wR, w1i, w1r, woI, woL, woR, wn0, wnS, wp00, wp0S, wp0, wpS, wl0, wlS, w1I, w1R, w1N, wA0, wAS, wrv, true_and, and_true, List.length_cons, List.length_nil, Option.toList_some, Option.toList_none, List.cons_append, List.nil_append, wmI, wmI2, wmL, wmL1, Nat.reduceAdd, Nat.reduceSub, Nat.reduceMul, Nat.reduceLeDiff, Nat.reduceLT, Nat.reduceEqDiff, reduceIte, Nat.zero_le, nI_leI, nI_ltI, nI_eq, nI_clamp, vp_in_nI, nI_1, bz_and, bz_or, bz_andn, kd_0, kd_1, kd_2, kd_3, kd_4, kd_5, kd_6, kd_7, kd_8, kd_9, kd_10, kd_11, kd_12, kd_13, kd_14, kd_15, kd_16, kd_17, kd_18, kd_19, kd_20, kd_21, kd_22, kd_23, kd_24, kd_25, kd_26, kd_27, kd_28, kd_29, kd_30, kd_31, kd_32, kd_33, kd_34, kd_35, kd_36, kd_37, kd_38, kd_39, kd_40, kd_41, kd_42, kd_43, kd_44, kd_45, kd_46, kd_47, kd_48, kd_49, kd_50, kd_51, kd_52, kd_53, kd_54, kd_55, kd_56, kd_57, kd_58, kd_59, kd_60, kd_61, kd_62, kd_63, kd_64, kd_65, kd_66, kd_67, kd_68, kd_69, kd_70, kd_71, kd_72, kd_73, kd_74, kd_75, kd_76, kd_77, kd_78, kd_79, kd_80, kd_81, kd_82, kd_83, kd_84, kd_85, kd_86, kd_87, kd_88, kd_89, kd_90, kd_91, kd_92, kd_93, kd_94, kd_95, kd_96, kd_97, kd_98, kd_99, kd_100, kd_101, kd_102, kd_103, kd_104, kd_105, kd_106, kd_107, kd_108, kd_109, kd_110, kd_111, kdf_3, kdf_5, kdf_6, kdf_7, kdf_8, kdf_9, kdf_10, kdf_11, kdf_12, kdf_13, kdf_15, kdf_17, kdf_18, kdf_19, kdf_20, kdf_21, kdf_22, kdf_23, kdf_24, kdf_25, kdf_27, kdf_29, kdf_30, kdf_31, kdf_32, kdf_33, kdf_34, kdf_35, kdf_36, kdf_38, kdf_39, kdf_40, kdf_41, kdf_42, kdf_43, kdf_44, kdf_45, kdf_47, kdf_48, kdf_49, kdf_50, kdf_51, kdf_52, kdf_53, kdf_54, kdf_56, kdf_57, kdf_58, kdf_59, kdf_60, kdf_62, kdf_63, kdf_64, kdf_65, kdf_67, kdf_68, kdf_70, kdf_72, kdf_73, kdf_74, kdf_76, kdf_77, kdf_78, kdf_79, kdf_80, kdf_81, kdf_82, kdf_83, kdf_84, kdf_85, kdf_86, kdf_87, kdf_88, kdf_89, kdf_90, kdf_91, kdf_92, kdf_93, kdf_94, kdf_95, kdf_96, kdf_97, kdf_98, kdf_99, kdf_100, kdf_101, kdf_102, kdf_103, kdf_104, kdf_105, kdf_106, kdf_107, kdf_108, kdf_109, kdf_110, kdf_111, kds_3, kds_5, kds_6, kds_7, kds_8, kds_9, kds_10, kds_11, kds_12, kds_13, kds_15, kds_17, kds_18, kds_19, kds_20, kds_21, kds_22, kds_23, kds_24, kds_25, kds_27, kds_29, kds_30, kds_31, kds_32, kds_33, kds_34, kds_35, kds_36, kds_38, kds_39, kds_40, kds_41, kds_42, kds_43, kds_44, kds_45, kds_47, kds_48, kds_49, kds_50, kds_51, kds_52, kds_53, kds_54, kds_56, kds_57, kds_58, kds_59, kds_60, kds_62, kds_63, kds_64, kds_65, kds_67, kds_68, kds_70, kds_72, kds_73, kds_74, kds_76, kds_77, kds_78, kds_79, kds_80, kds_81, kds_82, kds_83, kds_84, kds_85, kds_86, kds_87, kds_88, kds_89, kds_90, kds_91, kds_92, kds_93, kds_94, kds_95, kds_96, kds_97, kds_98, kds_99, kds_100, kds_101, kds_102, kds_103, kds_104, kds_105, kds_106, kds_107, kds_108, kds_109, kds_110, kds_111, vX11_closes_0, vX11_closes_1, vX11_closes_2, vX11_closes_5, vX11_closes_6, vX11_closes_7, vX11_closes_10, vX11_closes_11, vX11_closes_12, vX11_closes_15, vX11_closes_16, vX11_closes_17, vX11_closes_20, vX11_closes_21, vX11_closes_22, vX11_closes_25, vX11_closes_26, mo_182, mo_205, d4, ep, e31, ep2, updN, sI2]
  obtain ⟨q1, q2, q3, q4, q5⟩ := hψ _ rfl
  generalize sw_sI τ 75 (upd (upd (τ.1 75) 30 (nI r.length)) 31 (nI ts.length)) = ψ at q1 q2 q3 q4 q5 ⊢
  refine goesM_ok q2 g (by omega) (fun υ u1 u2 => ?_)
  rw [nxK_ok g] at u2
  have hq := hQ υ (FK_tr q1 (FK_n (Fn_m u1))) ?_ (by rw [est]; rfl) (by rw [est]; rfl)
  · simp (maxSteps := 4000000) (disch := omega) only [wI, wL, wR, w1i, w1r, woI, woL, woR, wn0, wnS, wp00, wp0S, wp0, wpS, wl0, wlS, w1I, w1R, w1N, wA0, wAS, wrv, true_and, and_true, List.length_cons, List.length_nil, Option.toList_some, Option.toList_none, List.cons_append, List.nil_append, wmI, wmI2, wmL, wmL1, Nat.reduceAdd, Nat.reduceSub, Nat.reduceMul, Nat.reduceLeDiff, Nat.reduceLT, Nat.reduceEqDiff, reduceIte, Nat.zero_le, nI_leI, nI_ltI, nI_eq, nI_clamp, vp_in_nI, nI_1, bz_and, bz_or, bz_andn, kd_0, kd_1, kd_2, kd_3, kd_4, kd_5, kd_6, kd_7, kd_8, kd_9, kd_10, kd_11, kd_12, kd_13, kd_14, kd_15, kd_16, kd_17, kd_18, kd_19, kd_20, kd_21, kd_22, kd_23, kd_24, kd_25, kd_26, kd_27, kd_28, kd_29, kd_30, kd_31, kd_32, kd_33, kd_34, kd_35, kd_36, kd_37, kd_38, kd_39, kd_40, kd_41, kd_42, kd_43, kd_44, kd_45, kd_46, kd_47, kd_48, kd_49, kd_50, kd_51, kd_52, kd_53, kd_54, kd_55, kd_56, kd_57, kd_58, kd_59, kd_60, kd_61, kd_62, kd_63, kd_64, kd_65, kd_66, kd_67, kd_68, kd_69, kd_70, kd_71, kd_72, kd_73, kd_74, kd_75, kd_76, kd_77, kd_78, kd_79, kd_80, kd_81, kd_82, kd_83, kd_84, kd_85, kd_86, kd_87, kd_88, kd_89, kd_90, kd_91, kd_92, kd_93, kd_94, kd_95, kd_96, kd_97, kd_98, kd_99, kd_100, kd_101, kd_102, kd_103, kd_104, kd_105, kd_106, kd_107, kd_108, kd_109, kd_110, kd_111, kdf_3, kdf_5, kdf_6, kdf_7, kdf_8, kdf_9, kdf_10, kdf_11, kdf_12, kdf_13, kdf_15, kdf_17, kdf_18, kdf_19, kdf_20, kdf_21, kdf_22, kdf_23, kdf_24, kdf_25, kdf_27, kdf_29, kdf_30, kdf_31, kdf_32, kdf_33, kdf_34, kdf_35, kdf_36, kdf_38, kdf_39, kdf_40, kdf_41, kdf_42, kdf_43, kdf_44, kdf_45, kdf_47, kdf_48, kdf_49, kdf_50, kdf_51, kdf_52, kdf_53, kdf_54, kdf_56, kdf_57, kdf_58, kdf_59, kdf_60, kdf_62, kdf_63, kdf_64, kdf_65, kdf_67, kdf_68, kdf_70, kdf_72, kdf_73, kdf_74, kdf_76, kdf_77, kdf_78, kdf_79, kdf_80, kdf_81, kdf_82, kdf_83, kdf_84, kdf_85, kdf_86, kdf_87, kdf_88, kdf_89, kdf_90, kdf_91, kdf_92, kdf_93, kdf_94, kdf_95, kdf_96, kdf_97, kdf_98, kdf_99, kdf_100, kdf_101, kdf_102, kdf_103, kdf_104, kdf_105, kdf_106, kdf_107, kdf_108, kdf_109, kdf_110, kdf_111, kds_3, kds_5, kds_6, kds_7, kds_8, kds_9, kds_10, kds_11, kds_12, kds_13, kds_15, kds_17, kds_18, kds_19, kds_20, kds_21, kds_22, kds_23, kds_24, kds_25, kds_27, kds_29, kds_30, kds_31, kds_32, kds_33, kds_34, kds_35, kds_36, kds_38, kds_39, kds_40, kds_41, kds_42, kds_43, kds_44, kds_45, kds_47, kds_48, kds_49, kds_50, kds_51, kds_52, kds_53, kds_54, kds_56, kds_57, kds_58, kds_59, kds_60, kds_62, kds_63, kds_64, kds_65, kds_67, kds_68, kds_70, kds_72, kds_73, kds_74, kds_76, kds_77, kds_78, kds_79, kds_80, kds_81, kds_82, kds_83, kds_84, kds_85, kds_86, kds_87, kds_88, kds_89, kds_90, kds_91, kds_92, kds_93, kds_94, kds_95, kds_96, kds_97, kds_98, kds_99, kds_100, kds_101, kds_102, kds_103, kds_104, kds_105, kds_106, kds_107, kds_108, kds_109, kds_110, kds_111, vX11_closes_0, vX11_closes_1, vX11_closes_2, vX11_closes_6, vX11_closes_7, vX11_closes_10, vX11_closes_11, vX11_closes_12, vX11_closes_15, vX11_closes_16, vX11_closes_17, vX11_closes_20, vX11_closes_21, vX11_closes_22, vX11_closes_25, vX11_closes_26, vX11_closes_29, mo_182, mo_205]
    exact hq
  · rw [est, hr, hts]
    rw [hts] at k4 k7 h41
    have k7 := k7 g
    refine ⟨u2, DO_g (DO_n q3 (Fn_m u1)) (fun _ => trivial), (u1.2.2 31 (by decide)).trans q4, by rw [u1.2.1 90 (by decide), q5]; exact k4.2, ⟨fun q => ?_, ?_⟩, ?_, fun _ => ?_, fun c hc => ?_⟩
    · have q : ts = [] := q
      rw [q] at h41
      exact absurd h41.2.2 (show ¬ 1 < 1 by decide)
    · have := k5.2; rw [hts, List.length_cons] at this; show ts.length ≤ 6; omega
    · show (dp 1 (kO C) (kW C)).1.length + r.length ≤ tE f n (kT C).1; omega
    · show r.count 16 + 1 = ts.length
      rw [List.length_cons] at k7
      omega
    · rcases (dp_mem (s := 1) (kW C) (kO C)).1 c hc with h9 | h9
      · exact k8 c h9
      · have := (hops c h9).2; omega
end
