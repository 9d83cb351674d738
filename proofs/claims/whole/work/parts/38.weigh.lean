/-! Needs.weighTown. -/
section
variable {l : Launch} {E : sw_E} {d : Nat} {σ : sw_M} {Q : Option Value → sw_M → Prop} {s n : Nat}
/-- the rows asked and able hold the sets of the first k skills -/
def WI (σ : sw_M) (D W : Nat → Nat) (k : Nat) (τ : sw_M) : Prop := Fr [57, 58] σ τ ∧ ∀ i, i < 2 ^ cntD D k → τ.1 57 i = nI (needF D (subS D k i)) ∧ τ.1 58 i = nI (whoF W (subS D k i))
/-- while the sets with skill k are being added: j of them stand -/
def WJ (σ : sw_M) (D W : Nat → Nat) (k j : Nat) (τ : sw_M) : Prop := Fr [57, 58] σ τ ∧ (∀ i, i < 2 ^ cntD D k → τ.1 57 i = nI (needF D (subS D k i)) ∧ τ.1 58 i = nI (whoF W (subS D k i))) ∧ ∀ i, i < j → τ.1 57 (2 ^ cntD D k + i) = nI (needF D (subS D k i ||| 2 ^ k)) ∧ τ.1 58 (2 ^ cntD D k + i) = nI (whoF W (subS D k i ||| 2 ^ k))
theorem WJ_0 {D W : Nat → Nat} {k : Nat} {τ : sw_M} (h : WI σ D W k τ) : WJ σ D W k 0 τ := ⟨h.1, h.2, fun i hi => absurd hi (by omega)⟩
theorem WJ_all {D W : Nat → Nat} {k : Nat} {τ : sw_M} (hD : 0 < D k) (h : WJ σ D W k (2 ^ cntD D k) τ) : WI σ D W (k + 1) τ := by
  refine ⟨h.1, fun i hi => ?_⟩
  rw [cntD, if_pos hD, Nat.pow_succ] at hi
  rw [subS, if_pos hD]
  split
  · rename_i c; exact h.2.1 i c
  · rename_i c
    have := h.2.2 (i - 2 ^ cntD D k) (by omega)
    rw [show 2 ^ cntD D k + (i - 2 ^ cntD D k) = i by omega] at this
    exact this
theorem WI_no {D W : Nat → Nat} {k : Nat} {τ : sw_M} (hD : ¬ 0 < D k) (h : WI σ D W k τ) : WI σ D W (k + 1) τ := by
  refine ⟨h.1, fun i hi => ?_⟩
  rw [cntD, if_neg hD] at hi
  rw [subS, if_neg hD]
  exact h.2 i hi
theorem cnt256 {D : Nat → Nat} {k : Nat} (hk : k < 8) : 2 ^ cntD D k ≤ 128 := by
  have h1 := cntD_le D k
  exact Nat.le_trans (Nat.pow_le_pow_right (n := 2) (by decide) (by omega : cntD D k ≤ 7)) (by decide)
theorem weigh_in {D W : Nat → Nat} {k t P : Nat} {x3 x5 : Int32} (hk : k < 8) (hD : 0 < D k) (hDb : ∀ s, s < 8 → D s < 1000) (hW : ∀ s, s < 8 → W s < 4096)
    (hnext : ∀ τ, WI σ D W (k + 1) τ → vX6_weighTown l E d Q (fun _ _ => False) 0 97 [some (.ref 55), some (.ref s), some (.int (nI t)), some (.int (nI P)), some (.int (nI (2 ^ cntD D k))), some (.int (nI k)), some (.int (nI (D k))), some (.int (nI (W k))), some (.int (nI (2 ^ cntD D k)))] [] τ) :
    ∀ c j, j + c = 2 ^ cntD D k → ∀ τ, WJ σ D W k j τ → vX6_weighTown l E d Q (fun _ _ => False) 0 55 [some (.ref 55), some (.ref s), some (.int (nI t)), some (.int (nI P)), some (.int (nI (2 ^ cntD D k))), some (.int (nI k)), some (.int (nI (D k))), some (.int (nI (W k))), some (.int (nI j))] [] τ := by
  have h128 := cnt256 (D := D) hk
  intro c
  induction c with
  | zero =>
    intro j hj τ hJ
    have hj : j = 2 ^ cntD D k := hj
    subst hj
    rw [vX6_weighTown_55]
    have h9 := hnext τ (WJ_all hD hJ)
    trace_state
    sorry
  | succ c ih =>
    intro j hj τ hJ
    rw [vX6_weighTown_55]
    generalize hM : 2 ^ cntD D k = M at *
    simp (disch := omega) only [wI, wL, wR, w1i, w1r, woI, woL, woR, wn0, wnS, wp00, wp0S, wp0, wpS, wl0, wlS, w1I, w1R, w1N, wA0, wAS, wrv, true_and, and_true, List.length_cons, List.length_nil, Option.toList_some, Option.toList_none, List.cons_append, List.nil_append, wmI, wmI2, wmL, wmL1, Nat.reduceAdd, Nat.reduceSub, Nat.reduceMul, Nat.reduceLeDiff, Nat.reduceLT, Nat.reduceEqDiff, reduceIte, Nat.zero_le, nI_leI, nI_ltI, nI_eq, nI_clamp, vp_in_nI, nI_1, bz_and, bz_or, bz_andn, kd_0, kd_1, kd_2, kd_3, kd_4, kd_5, kd_6, kd_7, kd_8, kd_9, kd_10, kd_11, kd_12, kd_13, kd_14, kd_15, kd_16, kd_17, kd_18, kd_19, kd_20, kd_21, kd_22, kd_23, kd_24, kd_25, kd_26, kd_27, kd_28, kd_29, kd_30, kd_31, kd_32, kd_33, kd_34, kd_35, kd_36, kd_37, kd_38, kd_39, kd_40, kd_41, kd_42, kd_43, kd_44, kd_45, kd_46, kd_47, kd_48, kd_49, kd_50, kd_51, kd_52, kd_53, kd_54, kd_55, kd_56, kd_57, kd_58, kd_59, kd_60, kd_61, kd_62, kd_63, kd_64, kd_65, kd_66, kd_67, kd_68, kd_69, kd_70, kd_71, kd_72, kd_73, kd_74, kd_75, kd_76, kd_77, kd_78, kd_79, kd_80, kd_81, kd_82, kd_83, kd_84, kd_85, kd_86, kd_87, kd_88, kd_89, kd_90, kd_91, kd_92, kd_93, kd_94, kd_95, kd_96, kd_97, kd_98, kd_99, kd_100, kd_101, kd_102, kd_103, kd_104, kd_105, kd_106, kd_107, kd_108, kd_109, kd_110, kd_111, kdf_3, kdf_5, kdf_6, kdf_7, kdf_8, kdf_9, kdf_10, kdf_11, kdf_12, kdf_13, kdf_15, kdf_17, kdf_18, kdf_19, kdf_20, kdf_21, kdf_22, kdf_23, kdf_24, kdf_25, kdf_27, kdf_29, kdf_30, kdf_31, kdf_32, kdf_33, kdf_34, kdf_35, kdf_36, kdf_38, kdf_39, kdf_40, kdf_41, kdf_42, kdf_43, kdf_44, kdf_45, kdf_47, kdf_48, kdf_49, kdf_50, kdf_51, kdf_52, kdf_53, kdf_54, kdf_56, kdf_57, kdf_58, kdf_59, kdf_60, kdf_62, kdf_63, kdf_64, kdf_65, kdf_67, kdf_68, kdf_70, kdf_72, kdf_73, kdf_74, kdf_76, kdf_77, kdf_78, kdf_79, kdf_80, kdf_81, kdf_82, kdf_83, kdf_84, kdf_85, kdf_86, kdf_87, kdf_88, kdf_89, kdf_90, kdf_91, kdf_92, kdf_93, kdf_94, kdf_95, kdf_96, kdf_97, kdf_98, kdf_99, kdf_100, kdf_101, kdf_102, kdf_103, kdf_104, kdf_105, kdf_106, kdf_107, kdf_108, kdf_109, kdf_110, kdf_111, kds_3, kds_5, kds_6, kds_7, kds_8, kds_9, kds_10, kds_11, kds_12, kds_13, kds_15, kds_17, kds_18, kds_19, kds_20, kds_21, kds_22, kds_23, kds_24, kds_25, kds_27, kds_29, kds_30, kds_31, kds_32, kds_33, kds_34, kds_35, kds_36, kds_38, kds_39, kds_40, kds_41, kds_42, kds_43, kds_44, kds_45, kds_47, kds_48, kds_49, kds_50, kds_51, kds_52, kds_53, kds_54, kds_56, kds_57, kds_58, kds_59, kds_60, kds_62, kds_63, kds_64, kds_65, kds_67, kds_68, kds_70, kds_72, kds_73, kds_74, kds_76, kds_77, kds_78, kds_79, kds_80, kds_81, kds_82, kds_83, kds_84, kds_85, kds_86, kds_87, kds_88, kds_89, kds_90, kds_91, kds_92, kds_93, kds_94, kds_95, kds_96, kds_97, kds_98, kds_99, kds_100, kds_101, kds_102, kds_103, kds_104, kds_105, kds_106, kds_107, kds_108, kds_109, kds_110, kds_111, vX6_weighTown_0, vX6_weighTown_1, vX6_weighTown_3, vX6_weighTown_4, vX6_weighTown_7, vX6_weighTown_8, vX6_weighTown_9, vX6_weighTown_10, vX6_weighTown_11, vX6_weighTown_14, vX6_weighTown_15, vX6_weighTown_16, vX6_weighTown_17, vX6_weighTown_18, vX6_weighTown_22, vX6_weighTown_24, vX6_weighTown_27, vX6_weighTown_28, vX6_weighTown_29, vX6_weighTown_31, vX6_weighTown_34, vX6_weighTown_36, vX6_weighTown_38, vX6_weighTown_41, vX6_weighTown_42, vX6_weighTown_43, vX6_weighTown_45, vX6_weighTown_48, vX6_weighTown_49, vX6_weighTown_50, vX6_weighTown_52, vX6_weighTown_53, vX6_weighTown_57, vX6_weighTown_59, vX6_weighTown_62, vX6_weighTown_63, vX6_weighTown_66, vX6_weighTown_68, vX6_weighTown_70, vX6_weighTown_71, vX6_weighTown_72, vX6_weighTown_75, vX6_weighTown_77, vX6_weighTown_78, vX6_weighTown_80, vX6_weighTown_81, vX6_weighTown_82, vX6_weighTown_83, vX6_weighTown_86, vX6_weighTown_88, vX6_weighTown_90, vX6_weighTown_91, vX6_weighTown_92, vX6_weighTown_95, vX6_weighTown_97, vX6_weighTown_98, vX6_weighTown_100, vX6_weighTown_101, vX6_weighTown_102, vX6_weighTown_105, vX6_weighTown_108, vX6_weighTown_110, vX6_weighTown_111, vX6_weighTown_112, vX6_weighTown_114, vX6_weighTown_117, vX6_weighTown_120, vX6_weighTown_122, mo_27, mo_28, nI_add]
    trace_state
    sorry
end
