/-! Land: loops over works, bonds, people. -/
def orU : Nat → (Nat → Nat) → Nat
  | 0, _ => 0
  | n + 1, f => orU n f ||| f n
def sumU : Nat → (Nat → Nat) → Nat
  | 0, _ => 0
  | n + 1, f => sumU n f + f n
def amax (f : Nat → Nat) : Nat → Nat
  | 0 => 0
  | k + 1 => if f (amax f k) < f (k + 1) then k + 1 else amax f k
theorem sumU_le {f : Nat → Nat} {b : Nat} : ∀ n, (∀ i, i < n → f i ≤ b) → sumU n f ≤ n * b
  | 0, _ => by simp [sumU]
  | n + 1, h => by
    have h1 := sumU_le (f := f) (b := b) n (fun i hi => h i (by omega))
    have h2 := h n (by omega)
    rw [sumU, Nat.succ_mul]
    omega
theorem sumU_congr {f g : Nat → Nat} : ∀ n, (∀ i, i < n → f i = g i) → sumU n f = sumU n g
  | 0, _ => rfl
  | n + 1, h => by rw [sumU, sumU, sumU_congr n (fun i hi => h i (by omega)), h n (by omega)]
def isL (a : Nat) : Prop := a = 4 ∨ a = 16
def wT (σ : sw_M) (a w : Nat) : Nat := vN σ (a + 4) w
def wS (σ : sw_M) (a w : Nat) : Nat := vN σ (a + 5) w
def wF (σ : sw_M) (a w : Nat) : Nat := vN σ (a + 6) w
def wO (σ : sw_M) (a w : Nat) : Nat := vN σ (a + 7) w
def wP (σ : sw_M) (a w : Nat) : Nat := vN σ (a + 8) w
/-- the pieces of a work in a month of the year -/
def wIn (σ : sw_M) (a m w : Nat) : Nat := if isW (wF σ a w) (wO σ a w) m then wP σ a w else 0
def pieces (σ : sw_M) (a m : Nat) : Nat := sumU (vN σ a 4) (wIn σ a m)
/-- a land's rows are in bounds, as far as they are told -/
def Lk (σ : sw_M) (a : Nat) : Prop := sm 13 (σ.1 a 0) ∧ sm 15 (σ.1 a 4) ∧ sm 9 (σ.1 a 10) ∧ sm 25 (σ.1 a 12) ∧
  (∀ p, p < vN σ a 0 → sm 4 (σ.1 (a + 1) p) ∧ sm 10 (σ.1 (a + 2) p) ∧ sm 256 (σ.1 (a + 3) p)) ∧
  (∀ w, w < vN σ a 4 → sm 4 (σ.1 (a + 4) w) ∧ sm 8 (σ.1 (a + 5) w) ∧ sm 12 (σ.1 (a + 6) w) ∧ sm 12 (σ.1 (a + 7) w) ∧ sm 5 (σ.1 (a + 8) w)) ∧
  (∀ i, i < vN σ a 10 → sm 4096 (σ.1 (a + 9) i))
section
variable {l : Launch} {E : sw_E} {d : Nat} {σ : sw_M} {Q : Option Value → sw_M → Prop} {a : Nat}
theorem isWorkOf_at {w m : Nat} (ha : isL a) (hL : Lk σ a) (hw : w < vN σ a 4) (hm : m < 12) (hd : 0 < d) (h : Q (some (.int (b01 (isW (wF σ a w) (wO σ a w) m)))) σ) : sw_Con l E d 20 [.ref a, .int (nI w), .int (nI m)] σ Q := by
  obtain ⟨-, h4, -, -, -, hW, -⟩ := hL
  obtain ⟨-, -, h6, h7, -⟩ := hW w hw
  have := h4.2
  exact isWorkOf_ok ha (by unfold vN at hw; omega) hm h6.2 h7.2 h6.1 h7.1 hd h
theorem wIn_le {m w : Nat} (hL : Lk σ a) (hw : w < vN σ a 4) : wIn σ a m w ≤ 4 := by
  obtain ⟨-, -, -, -, -, hW, -⟩ := hL
  have := (hW w hw).2.2.2.2.2
  unfold wIn wP vN
  split <;> omega
theorem piecesIn_loop {m : Nat} (ha : isL a) (hL : Lk σ a) (hm : m < 12) (hd : 0 < d) : ∀ k i, i + k = vN σ a 4 → Q (some (.int (nI (pieces σ a m)))) σ → vX3_piecesIn l E d Q (fun _ _ => False) 0 4 [some (.ref a), some (.int (nI m)), some (.int (nI (sumU i (wIn σ a m)))), some (.int (nI i))] [] σ := by
  have hL' := hL
  have ha' := ha
  obtain ⟨-, ⟨en, hn⟩, -, -, -, hW, -⟩ := hL
  have en : σ.1 a 4 = nI (vN σ a 4) := en
  have hn : vN σ a 4 < 15 := hn
  intro k
  induction k with
  | zero =>
    intro i hi h
    rw [vX3_piecesIn_4]
    have hi : i = vN σ a 4 := hi
    rcases ha with rfl | rfl
    all_goals
      simp (maxSteps := 4000000) (disch := omega) only [wI, wL, wR, w1i, w1r, woI, woL, woR, wn0, wnS, wp00, wp0S, wp0, wpS, wl0, wlS, w1I, w1R, w1N, wA0, wAS, wrv, true_and, and_true, List.length_cons, List.length_nil, Option.toList_some, Option.toList_none, List.cons_append, List.nil_append, wmI, wmI2, wmL, wmL1, Nat.reduceAdd, Nat.reduceSub, Nat.reduceMul, Nat.reduceLeDiff, Nat.reduceLT, Nat.reduceEqDiff, reduceIte, Nat.zero_le, nI_leI, nI_ltI, nI_eq, nI_clamp, vp_in_nI, nI_1, bz_and, bz_or, bz_andn, kd_0, kd_1, kd_2, kd_3, kd_4, kd_5, kd_6, kd_7, kd_8, kd_9, kd_10, kd_11, kd_12, kd_13, kd_14, kd_15, kd_16, kd_17, kd_18, kd_19, kd_20, kd_21, kd_22, kd_23, kd_24, kd_25, kd_26, kd_27, kd_28, kd_29, kd_30, kd_31, kd_32, kd_33, kd_34, kd_35, kd_36, kd_37, kd_38, kd_39, kd_40, kd_41, kd_42, kd_43, kd_44, kd_45, kd_46, kd_47, kd_48, kd_49, kd_50, kd_51, kd_52, kd_53, kd_54, kd_55, kd_56, kd_57, kd_58, kd_59, kd_60, kd_61, kd_62, kd_63, kd_64, kd_65, kd_66, kd_67, kd_68, kd_69, kd_70, kd_71, kd_72, kd_73, kd_74, kd_75, kd_76, kd_77, kd_78, kd_79, kd_80, kd_81, kd_82, kd_83, kd_84, kd_85, kd_86, kd_87, kd_88, kd_89, kd_90, kd_91, kd_92, kd_93, kd_94, kd_95, kd_96, kd_97, kd_98, kd_99, kd_100, kd_101, kd_102, kd_103, kd_104, kd_105, kd_106, kd_107, kd_108, kd_109, kd_110, kd_111, kdf_3, kdf_5, kdf_6, kdf_7, kdf_8, kdf_9, kdf_10, kdf_11, kdf_12, kdf_13, kdf_15, kdf_17, kdf_18, kdf_19, kdf_20, kdf_21, kdf_22, kdf_23, kdf_24, kdf_25, kdf_27, kdf_29, kdf_30, kdf_31, kdf_32, kdf_33, kdf_34, kdf_35, kdf_36, kdf_38, kdf_39, kdf_40, kdf_41, kdf_42, kdf_43, kdf_44, kdf_45, kdf_47, kdf_48, kdf_49, kdf_50, kdf_51, kdf_52, kdf_53, kdf_54, kdf_56, kdf_57, kdf_58, kdf_59, kdf_60, kdf_62, kdf_63, kdf_64, kdf_65, kdf_67, kdf_68, kdf_70, kdf_72, kdf_73, kdf_74, kdf_76, kdf_77, kdf_78, kdf_79, kdf_80, kdf_81, kdf_82, kdf_83, kdf_84, kdf_85, kdf_86, kdf_87, kdf_88, kdf_89, kdf_90, kdf_91, kdf_92, kdf_93, kdf_94, kdf_95, kdf_96, kdf_97, kdf_98, kdf_99, kdf_100, kdf_101, kdf_102, kdf_103, kdf_104, kdf_105, kdf_106, kdf_107, kdf_108, kdf_109, kdf_110, kdf_111, kds_3, kds_5, kds_6, kds_7, kds_8, kds_9, kds_10, kds_11, kds_12, kds_13, kds_15, kds_17, kds_18, kds_19, kds_20, kds_21, kds_22, kds_23, kds_24, kds_25, kds_27, kds_29, kds_30, kds_31, kds_32, kds_33, kds_34, kds_35, kds_36, kds_38, kds_39, kds_40, kds_41, kds_42, kds_43, kds_44, kds_45, kds_47, kds_48, kds_49, kds_50, kds_51, kds_52, kds_53, kds_54, kds_56, kds_57, kds_58, kds_59, kds_60, kds_62, kds_63, kds_64, kds_65, kds_67, kds_68, kds_70, kds_72, kds_73, kds_74, kds_76, kds_77, kds_78, kds_79, kds_80, kds_81, kds_82, kds_83, kds_84, kds_85, kds_86, kds_87, kds_88, kds_89, kds_90, kds_91, kds_92, kds_93, kds_94, kds_95, kds_96, kds_97, kds_98, kds_99, kds_100, kds_101, kds_102, kds_103, kds_104, kds_105, kds_106, kds_107, kds_108, kds_109, kds_110, kds_111, vX3_piecesIn_0, vX3_piecesIn_1, vX3_piecesIn_2, vX3_piecesIn_3, vX3_piecesIn_5, vX3_piecesIn_6, vX3_piecesIn_9, vX3_piecesIn_12, vX3_piecesIn_13, vX3_piecesIn_14, vX3_piecesIn_15, vX3_piecesIn_18, vX3_piecesIn_21, vX3_piecesIn_22, vX3_piecesIn_23, vX3_piecesIn_26, vX3_piecesIn_27, vX3_piecesIn_28, vX3_piecesIn_29, vX3_piecesIn_30, vX3_piecesIn_33, vX3_piecesIn_36, vX3_piecesIn_37, mo_20, en]
      refine ⟨fun _ => ?_, fun c => absurd (by omega) c⟩
      rw [hi]
      exact h
  | succ k ih =>
    intro i hi h
    rw [vX3_piecesIn_4]
    have ih := ih (i + 1) (by omega) h
    rw [sumU] at ih
    obtain ⟨-, -, -, -, e9⟩ := hW i (by omega)
    have e9 : σ.1 (a + 8) i = nI (wP σ a i) := e9.1
    rcases ha with rfl | rfl
    all_goals
      simp only [Nat.reduceAdd] at e9
      simp (maxSteps := 4000000) (disch := omega) only [wI, wL, wR, w1i, w1r, woI, woL, woR, wn0, wnS, wp00, wp0S, wp0, wpS, wl0, wlS, w1I, w1R, w1N, wA0, wAS, wrv, true_and, and_true, List.length_cons, List.length_nil, Option.toList_some, Option.toList_none, List.cons_append, List.nil_append, wmI, wmI2, wmL, wmL1, Nat.reduceAdd, Nat.reduceSub, Nat.reduceMul, Nat.reduceLeDiff, Nat.reduceLT, Nat.reduceEqDiff, reduceIte, Nat.zero_le, nI_leI, nI_ltI, nI_eq, nI_clamp, vp_in_nI, nI_1, bz_and, bz_or, bz_andn, kd_0, kd_1, kd_2, kd_3, kd_4, kd_5, kd_6, kd_7, kd_8, kd_9, kd_10, kd_11, kd_12, kd_13, kd_14, kd_15, kd_16, kd_17, kd_18, kd_19, kd_20, kd_21, kd_22, kd_23, kd_24, kd_25, kd_26, kd_27, kd_28, kd_29, kd_30, kd_31, kd_32, kd_33, kd_34, kd_35, kd_36, kd_37, kd_38, kd_39, kd_40, kd_41, kd_42, kd_43, kd_44, kd_45, kd_46, kd_47, kd_48, kd_49, kd_50, kd_51, kd_52, kd_53, kd_54, kd_55, kd_56, kd_57, kd_58, kd_59, kd_60, kd_61, kd_62, kd_63, kd_64, kd_65, kd_66, kd_67, kd_68, kd_69, kd_70, kd_71, kd_72, kd_73, kd_74, kd_75, kd_76, kd_77, kd_78, kd_79, kd_80, kd_81, kd_82, kd_83, kd_84, kd_85, kd_86, kd_87, kd_88, kd_89, kd_90, kd_91, kd_92, kd_93, kd_94, kd_95, kd_96, kd_97, kd_98, kd_99, kd_100, kd_101, kd_102, kd_103, kd_104, kd_105, kd_106, kd_107, kd_108, kd_109, kd_110, kd_111, kdf_3, kdf_5, kdf_6, kdf_7, kdf_8, kdf_9, kdf_10, kdf_11, kdf_12, kdf_13, kdf_15, kdf_17, kdf_18, kdf_19, kdf_20, kdf_21, kdf_22, kdf_23, kdf_24, kdf_25, kdf_27, kdf_29, kdf_30, kdf_31, kdf_32, kdf_33, kdf_34, kdf_35, kdf_36, kdf_38, kdf_39, kdf_40, kdf_41, kdf_42, kdf_43, kdf_44, kdf_45, kdf_47, kdf_48, kdf_49, kdf_50, kdf_51, kdf_52, kdf_53, kdf_54, kdf_56, kdf_57, kdf_58, kdf_59, kdf_60, kdf_62, kdf_63, kdf_64, kdf_65, kdf_67, kdf_68, kdf_70, kdf_72, kdf_73, kdf_74, kdf_76, kdf_77, kdf_78, kdf_79, kdf_80, kdf_81, kdf_82, kdf_83, kdf_84, kdf_85, kdf_86, kdf_87, kdf_88, kdf_89, kdf_90, kdf_91, kdf_92, kdf_93, kdf_94, kdf_95, kdf_96, kdf_97, kdf_98, kdf_99, kdf_100, kdf_101, kdf_102, kdf_103, kdf_104, kdf_105, kdf_106, kdf_107, kdf_108, kdf_109, kdf_110, kdf_111, kds_3, kds_5, kds_6, kds_7, kds_8, kds_9, kds_10, kds_11, kds_12, kds_13, kds_15, kds_17, kds_18, kds_19, kds_20, kds_21, kds_22, kds_23, kds_24, kds_25, kds_27, kds_29, kds_30, kds_31, kds_32, kds_33, kds_34, kds_35, kds_36, kds_38, kds_39, kds_40, kds_41, kds_42, kds_43, kds_44, kds_45, kds_47, kds_48, kds_49, kds_50, kds_51, kds_52, kds_53, kds_54, kds_56, kds_57, kds_58, kds_59, kds_60, kds_62, kds_63, kds_64, kds_65, kds_67, kds_68, kds_70, kds_72, kds_73, kds_74, kds_76, kds_77, kds_78, kds_79, kds_80, kds_81, kds_82, kds_83, kds_84, kds_85, kds_86, kds_87, kds_88, kds_89, kds_90, kds_91, kds_92, kds_93, kds_94, kds_95, kds_96, kds_97, kds_98, kds_99, kds_100, kds_101, kds_102, kds_103, kds_104, kds_105, kds_106, kds_107, kds_108, kds_109, kds_110, kds_111, vX3_piecesIn_0, vX3_piecesIn_1, vX3_piecesIn_2, vX3_piecesIn_3, vX3_piecesIn_5, vX3_piecesIn_6, vX3_piecesIn_9, vX3_piecesIn_12, vX3_piecesIn_13, vX3_piecesIn_14, vX3_piecesIn_15, vX3_piecesIn_18, vX3_piecesIn_21, vX3_piecesIn_22, vX3_piecesIn_23, vX3_piecesIn_26, vX3_piecesIn_27, vX3_piecesIn_28, vX3_piecesIn_29, vX3_piecesIn_30, vX3_piecesIn_33, vX3_piecesIn_36, vX3_piecesIn_37, mo_20, en]
      refine ⟨fun c => absurd c (by omega), fun _ => ?_⟩
      refine isWorkOf_at ha' hL' (by omega) hm hd ?_
      simp (maxSteps := 4000000) (disch := omega) only [wI, wL, wR, w1i, w1r, woI, woL, woR, wn0, wnS, wp00, wp0S, wp0, wpS, wl0, wlS, w1I, w1R, w1N, wA0, wAS, wrv, true_and, and_true, List.length_cons, List.length_nil, Option.toList_some, Option.toList_none, List.cons_append, List.nil_append, wmI, wmI2, wmL, wmL1, Nat.reduceAdd, Nat.reduceSub, Nat.reduceMul, Nat.reduceLeDiff, Nat.reduceLT, Nat.reduceEqDiff, reduceIte, Nat.zero_le, nI_leI, nI_ltI, nI_eq, nI_clamp, vp_in_nI, nI_1, bz_and, bz_or, bz_andn, kd_0, kd_1, kd_2, kd_3, kd_4, kd_5, kd_6, kd_7, kd_8, kd_9, kd_10, kd_11, kd_12, kd_13, kd_14, kd_15, kd_16, kd_17, kd_18, kd_19, kd_20, kd_21, kd_22, kd_23, kd_24, kd_25, kd_26, kd_27, kd_28, kd_29, kd_30, kd_31, kd_32, kd_33, kd_34, kd_35, kd_36, kd_37, kd_38, kd_39, kd_40, kd_41, kd_42, kd_43, kd_44, kd_45, kd_46, kd_47, kd_48, kd_49, kd_50, kd_51, kd_52, kd_53, kd_54, kd_55, kd_56, kd_57, kd_58, kd_59, kd_60, kd_61, kd_62, kd_63, kd_64, kd_65, kd_66, kd_67, kd_68, kd_69, kd_70, kd_71, kd_72, kd_73, kd_74, kd_75, kd_76, kd_77, kd_78, kd_79, kd_80, kd_81, kd_82, kd_83, kd_84, kd_85, kd_86, kd_87, kd_88, kd_89, kd_90, kd_91, kd_92, kd_93, kd_94, kd_95, kd_96, kd_97, kd_98, kd_99, kd_100, kd_101, kd_102, kd_103, kd_104, kd_105, kd_106, kd_107, kd_108, kd_109, kd_110, kd_111, kdf_3, kdf_5, kdf_6, kdf_7, kdf_8, kdf_9, kdf_10, kdf_11, kdf_12, kdf_13, kdf_15, kdf_17, kdf_18, kdf_19, kdf_20, kdf_21, kdf_22, kdf_23, kdf_24, kdf_25, kdf_27, kdf_29, kdf_30, kdf_31, kdf_32, kdf_33, kdf_34, kdf_35, kdf_36, kdf_38, kdf_39, kdf_40, kdf_41, kdf_42, kdf_43, kdf_44, kdf_45, kdf_47, kdf_48, kdf_49, kdf_50, kdf_51, kdf_52, kdf_53, kdf_54, kdf_56, kdf_57, kdf_58, kdf_59, kdf_60, kdf_62, kdf_63, kdf_64, kdf_65, kdf_67, kdf_68, kdf_70, kdf_72, kdf_73, kdf_74, kdf_76, kdf_77, kdf_78, kdf_79, kdf_80, kdf_81, kdf_82, kdf_83, kdf_84, kdf_85, kdf_86, kdf_87, kdf_88, kdf_89, kdf_90, kdf_91, kdf_92, kdf_93, kdf_94, kdf_95, kdf_96, kdf_97, kdf_98, kdf_99, kdf_100, kdf_101, kdf_102, kdf_103, kdf_104, kdf_105, kdf_106, kdf_107, kdf_108, kdf_109, kdf_110, kdf_111, kds_3, kds_5, kds_6, kds_7, kds_8, kds_9, kds_10, kds_11, kds_12, kds_13, kds_15, kds_17, kds_18, kds_19, kds_20, kds_21, kds_22, kds_23, kds_24, kds_25, kds_27, kds_29, kds_30, kds_31, kds_32, kds_33, kds_34, kds_35, kds_36, kds_38, kds_39, kds_40, kds_41, kds_42, kds_43, kds_44, kds_45, kds_47, kds_48, kds_49, kds_50, kds_51, kds_52, kds_53, kds_54, kds_56, kds_57, kds_58, kds_59, kds_60, kds_62, kds_63, kds_64, kds_65, kds_67, kds_68, kds_70, kds_72, kds_73, kds_74, kds_76, kds_77, kds_78, kds_79, kds_80, kds_81, kds_82, kds_83, kds_84, kds_85, kds_86, kds_87, kds_88, kds_89, kds_90, kds_91, kds_92, kds_93, kds_94, kds_95, kds_96, kds_97, kds_98, kds_99, kds_100, kds_101, kds_102, kds_103, kds_104, kds_105, kds_106, kds_107, kds_108, kds_109, kds_110, kds_111, vX3_piecesIn_0, vX3_piecesIn_1, vX3_piecesIn_2, vX3_piecesIn_3, vX3_piecesIn_5, vX3_piecesIn_6, vX3_piecesIn_9, vX3_piecesIn_12, vX3_piecesIn_13, vX3_piecesIn_14, vX3_piecesIn_15, vX3_piecesIn_18, vX3_piecesIn_21, vX3_piecesIn_22, vX3_piecesIn_23, vX3_piecesIn_26, vX3_piecesIn_27, vX3_piecesIn_28, vX3_piecesIn_29, vX3_piecesIn_30, vX3_piecesIn_33, vX3_piecesIn_36, vX3_piecesIn_37, mo_20, b01_0, e9]
      refine ⟨fun c => ?_, fun c => ?_⟩
      · rw [wIn, c, if_neg (by decide), Nat.add_zero] at ih; exact ih
      · rw [Bool.not_eq_false] at c
        rw [wIn, c, if_pos rfl] at ih
        rw [nI_add]
        exact ih
theorem piecesIn_ok {m : Nat} (ha : isL a) (hL : Lk σ a) (hm : m < 12) (hd : 1 < d) (h : Q (some (.int (nI (pieces σ a m)))) σ) : sw_Con l E d 116 [.ref a, .int (nI m)] σ Q := by
  obtain ⟨d, rfl⟩ := d_pos (by omega : 0 < d)
  refine con_X3_piecesIn ?_
  simp (maxSteps := 4000000) (disch := omega) only [wI, wL, wR, w1i, w1r, woI, woL, woR, wn0, wnS, wp00, wp0S, wp0, wpS, wl0, wlS, w1I, w1R, w1N, wA0, wAS, wrv, true_and, and_true, List.length_cons, List.length_nil, Option.toList_some, Option.toList_none, List.cons_append, List.nil_append, wmI, wmI2, wmL, wmL1, Nat.reduceAdd, Nat.reduceSub, Nat.reduceMul, Nat.reduceLeDiff, Nat.reduceLT, Nat.reduceEqDiff, reduceIte, Nat.zero_le, nI_leI, nI_ltI, nI_eq, nI_clamp, vp_in_nI, nI_1, bz_and, bz_or, bz_andn, kd_0, kd_1, kd_2, kd_3, kd_4, kd_5, kd_6, kd_7, kd_8, kd_9, kd_10, kd_11, kd_12, kd_13, kd_14, kd_15, kd_16, kd_17, kd_18, kd_19, kd_20, kd_21, kd_22, kd_23, kd_24, kd_25, kd_26, kd_27, kd_28, kd_29, kd_30, kd_31, kd_32, kd_33, kd_34, kd_35, kd_36, kd_37, kd_38, kd_39, kd_40, kd_41, kd_42, kd_43, kd_44, kd_45, kd_46, kd_47, kd_48, kd_49, kd_50, kd_51, kd_52, kd_53, kd_54, kd_55, kd_56, kd_57, kd_58, kd_59, kd_60, kd_61, kd_62, kd_63, kd_64, kd_65, kd_66, kd_67, kd_68, kd_69, kd_70, kd_71, kd_72, kd_73, kd_74, kd_75, kd_76, kd_77, kd_78, kd_79, kd_80, kd_81, kd_82, kd_83, kd_84, kd_85, kd_86, kd_87, kd_88, kd_89, kd_90, kd_91, kd_92, kd_93, kd_94, kd_95, kd_96, kd_97, kd_98, kd_99, kd_100, kd_101, kd_102, kd_103, kd_104, kd_105, kd_106, kd_107, kd_108, kd_109, kd_110, kd_111, kdf_3, kdf_5, kdf_6, kdf_7, kdf_8, kdf_9, kdf_10, kdf_11, kdf_12, kdf_13, kdf_15, kdf_17, kdf_18, kdf_19, kdf_20, kdf_21, kdf_22, kdf_23, kdf_24, kdf_25, kdf_27, kdf_29, kdf_30, kdf_31, kdf_32, kdf_33, kdf_34, kdf_35, kdf_36, kdf_38, kdf_39, kdf_40, kdf_41, kdf_42, kdf_43, kdf_44, kdf_45, kdf_47, kdf_48, kdf_49, kdf_50, kdf_51, kdf_52, kdf_53, kdf_54, kdf_56, kdf_57, kdf_58, kdf_59, kdf_60, kdf_62, kdf_63, kdf_64, kdf_65, kdf_67, kdf_68, kdf_70, kdf_72, kdf_73, kdf_74, kdf_76, kdf_77, kdf_78, kdf_79, kdf_80, kdf_81, kdf_82, kdf_83, kdf_84, kdf_85, kdf_86, kdf_87, kdf_88, kdf_89, kdf_90, kdf_91, kdf_92, kdf_93, kdf_94, kdf_95, kdf_96, kdf_97, kdf_98, kdf_99, kdf_100, kdf_101, kdf_102, kdf_103, kdf_104, kdf_105, kdf_106, kdf_107, kdf_108, kdf_109, kdf_110, kdf_111, kds_3, kds_5, kds_6, kds_7, kds_8, kds_9, kds_10, kds_11, kds_12, kds_13, kds_15, kds_17, kds_18, kds_19, kds_20, kds_21, kds_22, kds_23, kds_24, kds_25, kds_27, kds_29, kds_30, kds_31, kds_32, kds_33, kds_34, kds_35, kds_36, kds_38, kds_39, kds_40, kds_41, kds_42, kds_43, kds_44, kds_45, kds_47, kds_48, kds_49, kds_50, kds_51, kds_52, kds_53, kds_54, kds_56, kds_57, kds_58, kds_59, kds_60, kds_62, kds_63, kds_64, kds_65, kds_67, kds_68, kds_70, kds_72, kds_73, kds_74, kds_76, kds_77, kds_78, kds_79, kds_80, kds_81, kds_82, kds_83, kds_84, kds_85, kds_86, kds_87, kds_88, kds_89, kds_90, kds_91, kds_92, kds_93, kds_94, kds_95, kds_96, kds_97, kds_98, kds_99, kds_100, kds_101, kds_102, kds_103, kds_104, kds_105, kds_106, kds_107, kds_108, kds_109, kds_110, kds_111, vX3_piecesIn_0, vX3_piecesIn_1, vX3_piecesIn_2, vX3_piecesIn_3, vX3_piecesIn_5, vX3_piecesIn_6, vX3_piecesIn_9, vX3_piecesIn_12, vX3_piecesIn_13, vX3_piecesIn_14, vX3_piecesIn_15, vX3_piecesIn_18, vX3_piecesIn_21, vX3_piecesIn_22, vX3_piecesIn_23, vX3_piecesIn_26, vX3_piecesIn_27, vX3_piecesIn_28, vX3_piecesIn_29, vX3_piecesIn_30, vX3_piecesIn_33, vX3_piecesIn_36, vX3_piecesIn_37, mo_20]
  exact piecesIn_loop ha hL hm (by omega) _ 0 (Nat.zero_add _) h
end
