/-! The JDK's own: bitCount of a set, floorMod by 12, max, min. -/
def us (x y : Int32) : Int32 := (x.toUInt32 >>> (y.toUInt32 &&& Int32.toUInt32 31)).toInt32
def bc1 (x : Int32) : Int32 := x - (us x 1 &&& 1431655765)
def bc2 (x : Int32) : Int32 := (x &&& 858993459) + (us x 2 &&& 858993459)
def bc3 (x : Int32) : Int32 := (x + us x 4) &&& 252645135
def bc4 (x : Int32) : Int32 := x + us x 8
def bc5 (x : Int32) : Int32 := x + us x 16
def bcE (x : Int32) : Int32 := bc5 (bc4 (bc3 (bc2 (bc1 x)))) &&& 63
theorem bcE_all : ∀ s, s < 4096 → bcE (nI s) = nI (pc s) := by decide +kernel
section
variable {l : Launch} {E : sw_E} {d : Nat} {σ : sw_M} {Q : Option Value → sw_M → Prop}
theorem d_pos {d : Nat} (h : 0 < d) : ∃ k, d = k + 1 := ⟨d - 1, by omega⟩
theorem bitCount_ok {s : Nat} (hs : s < 4096) (hd : 0 < d) (h : Q (some (.int (nI (pc s)))) σ) : sw_Con l E d 25 [.int (nI s)] σ Q := by
  obtain ⟨d, rfl⟩ := d_pos hd
  refine con_J6_bitCount_0f7a4 ?_
  simp only [wI, wL, wR, w1i, w1r, woI, woL, woR, wn0, wnS, wp00, wp0S, wp0, wpS, wl0, wlS, w1I, w1R, w1N, wA0, wAS, wrv, true_and, and_true, List.length_cons, List.length_nil, Option.toList_some, Option.toList_none, List.cons_append, List.nil_append, wmI, wmI2, wmL, wmL1, kd_0, kd_1, kd_2, kd_3, kd_4, kd_5, kd_6, kd_7, kd_8, kd_9, kd_10, kd_11, kd_12, kd_13, kd_14, kd_15, kd_16, kd_17, kd_18, kd_19, kd_20, kd_21, kd_22, kd_23, kd_24, kd_25, kd_26, kd_27, kd_28, kd_29, kd_30, kd_31, kd_32, kd_33, kd_34, kd_35, kd_36, kd_37, kd_38, kd_39, kd_40, kd_41, kd_42, kd_43, kd_44, kd_45, kd_46, kd_47, kd_48, kd_49, kd_50, kd_51, kd_52, kd_53, kd_54, kd_55, kd_56, kd_57, kd_58, kd_59, kd_60, kd_61, kd_62, kd_63, kd_64, kd_65, kd_66, kd_67, kd_68, kd_69, kd_70, kd_71, kd_72, kd_73, kd_74, kd_75, kd_76, kd_77, kd_78, kd_79, kd_80, kd_81, kd_82, kd_83, kd_84, kd_85, kd_86, kd_87, kd_88, kd_89, kd_90, kd_91, kd_92, kd_93, kd_94, kd_95, kd_96, kd_97, kd_98, kd_99, kd_100, kd_101, kd_102, kd_103, kd_104, kd_105, kd_106, kd_107, kd_108, kd_109, kd_110, kd_111, vJ6_bitCount_0f7a4_0, vJ6_bitCount_0f7a4_1, vJ6_bitCount_0f7a4_2, vJ6_bitCount_0f7a4_3, vJ6_bitCount_0f7a4_4, vJ6_bitCount_0f7a4_7, vJ6_bitCount_0f7a4_8, vJ6_bitCount_0f7a4_9, vJ6_bitCount_0f7a4_10, vJ6_bitCount_0f7a4_11, vJ6_bitCount_0f7a4_14, vJ6_bitCount_0f7a4_15, vJ6_bitCount_0f7a4_16, vJ6_bitCount_0f7a4_17, vJ6_bitCount_0f7a4_18, vJ6_bitCount_0f7a4_21, vJ6_bitCount_0f7a4_22, vJ6_bitCount_0f7a4_23, vJ6_bitCount_0f7a4_24, vJ6_bitCount_0f7a4_25, vJ6_bitCount_0f7a4_26, vJ6_bitCount_0f7a4_27, vJ6_bitCount_0f7a4_28, vJ6_bitCount_0f7a4_29, vJ6_bitCount_0f7a4_32, vJ6_bitCount_0f7a4_33, vJ6_bitCount_0f7a4_34, vJ6_bitCount_0f7a4_35, vJ6_bitCount_0f7a4_36, vJ6_bitCount_0f7a4_38, vJ6_bitCount_0f7a4_39, vJ6_bitCount_0f7a4_40, vJ6_bitCount_0f7a4_41, vJ6_bitCount_0f7a4_42, vJ6_bitCount_0f7a4_43, vJ6_bitCount_0f7a4_45, vJ6_bitCount_0f7a4_46, vJ6_bitCount_0f7a4_47, vJ6_bitCount_0f7a4_48, vJ6_bitCount_0f7a4_49, vJ6_bitCount_0f7a4_51, vJ6_bitCount_0f7a4_52]
  rw [← bcE_all s hs] at h
  exact h
theorem max_ok {x y : Int32} (hd : 0 < d) (h : Q (some (.int (if x < y then y else x))) σ) : sw_Con l E d 85 [.int x, .int y] σ Q := by
  obtain ⟨d, rfl⟩ := d_pos hd
  refine con_J9_max_7cf53 ?_
  simp only [wI, wL, wR, w1i, w1r, woI, woL, woR, wn0, wnS, wp00, wp0S, wp0, wpS, wl0, wlS, w1I, w1R, w1N, wA0, wAS, wrv, true_and, and_true, List.length_cons, List.length_nil, Option.toList_some, Option.toList_none, List.cons_append, List.nil_append, wmI, wmI2, wmL, wmL1, kd_0, kd_1, kd_2, kd_3, kd_4, kd_5, kd_6, kd_7, kd_8, kd_9, kd_10, kd_11, kd_12, kd_13, kd_14, kd_15, kd_16, kd_17, kd_18, kd_19, kd_20, kd_21, kd_22, kd_23, kd_24, kd_25, kd_26, kd_27, kd_28, kd_29, kd_30, kd_31, kd_32, kd_33, kd_34, kd_35, kd_36, kd_37, kd_38, kd_39, kd_40, kd_41, kd_42, kd_43, kd_44, kd_45, kd_46, kd_47, kd_48, kd_49, kd_50, kd_51, kd_52, kd_53, kd_54, kd_55, kd_56, kd_57, kd_58, kd_59, kd_60, kd_61, kd_62, kd_63, kd_64, kd_65, kd_66, kd_67, kd_68, kd_69, kd_70, kd_71, kd_72, kd_73, kd_74, kd_75, kd_76, kd_77, kd_78, kd_79, kd_80, kd_81, kd_82, kd_83, kd_84, kd_85, kd_86, kd_87, kd_88, kd_89, kd_90, kd_91, kd_92, kd_93, kd_94, kd_95, kd_96, kd_97, kd_98, kd_99, kd_100, kd_101, kd_102, kd_103, kd_104, kd_105, kd_106, kd_107, kd_108, kd_109, kd_110, kd_111, vJ9_max_7cf53_0, vJ9_max_7cf53_1, vJ9_max_7cf53_2, vJ9_max_7cf53_5, vJ9_max_7cf53_6, vJ9_max_7cf53_9, vJ9_max_7cf53_10]
  refine ⟨fun c => ?_, fun c => ?_⟩
  · rw [if_pos c] at h; exact h
  · rw [if_neg c] at h; exact h
theorem min_ok {x y : Int32} (hd : 0 < d) (h : Q (some (.int (if y < x then y else x))) σ) : sw_Con l E d 79 [.int x, .int y] σ Q := by
  obtain ⟨d, rfl⟩ := d_pos hd
  refine con_J9_min_7cf53 ?_
  simp only [wI, wL, wR, w1i, w1r, woI, woL, woR, wn0, wnS, wp00, wp0S, wp0, wpS, wl0, wlS, w1I, w1R, w1N, wA0, wAS, wrv, true_and, and_true, List.length_cons, List.length_nil, Option.toList_some, Option.toList_none, List.cons_append, List.nil_append, wmI, wmI2, wmL, wmL1, kd_0, kd_1, kd_2, kd_3, kd_4, kd_5, kd_6, kd_7, kd_8, kd_9, kd_10, kd_11, kd_12, kd_13, kd_14, kd_15, kd_16, kd_17, kd_18, kd_19, kd_20, kd_21, kd_22, kd_23, kd_24, kd_25, kd_26, kd_27, kd_28, kd_29, kd_30, kd_31, kd_32, kd_33, kd_34, kd_35, kd_36, kd_37, kd_38, kd_39, kd_40, kd_41, kd_42, kd_43, kd_44, kd_45, kd_46, kd_47, kd_48, kd_49, kd_50, kd_51, kd_52, kd_53, kd_54, kd_55, kd_56, kd_57, kd_58, kd_59, kd_60, kd_61, kd_62, kd_63, kd_64, kd_65, kd_66, kd_67, kd_68, kd_69, kd_70, kd_71, kd_72, kd_73, kd_74, kd_75, kd_76, kd_77, kd_78, kd_79, kd_80, kd_81, kd_82, kd_83, kd_84, kd_85, kd_86, kd_87, kd_88, kd_89, kd_90, kd_91, kd_92, kd_93, kd_94, kd_95, kd_96, kd_97, kd_98, kd_99, kd_100, kd_101, kd_102, kd_103, kd_104, kd_105, kd_106, kd_107, kd_108, kd_109, kd_110, kd_111, vJ9_min_7cf53_0, vJ9_min_7cf53_1, vJ9_min_7cf53_2, vJ9_min_7cf53_5, vJ9_min_7cf53_6, vJ9_min_7cf53_9, vJ9_min_7cf53_10]
  refine ⟨fun c => ?_, fun c => ?_⟩
  · rw [if_pos c] at h; exact h
  · rw [if_neg c] at h; exact h
theorem floorMod_x : ∀ r, r < 12 → 0 ≤ nI r ^^^ (12 : Int32) := by decide +kernel
theorem floorMod_ok {a : Nat} (ha : a < 2 ^ 31) (hd : 0 < d) (h : Q (some (.int (nI (a % 12)))) σ) : sw_Con l E d 17 [.int (nI a), .int 12] σ Q := by
  obtain ⟨d, rfl⟩ := d_pos hd
  refine con_J9_floorMod_7cf53 ?_
  simp only [wI, wL, wR, w1i, w1r, woI, woL, woR, wn0, wnS, wp00, wp0S, wp0, wpS, wl0, wlS, w1I, w1R, w1N, wA0, wAS, wrv, true_and, and_true, List.length_cons, List.length_nil, Option.toList_some, Option.toList_none, List.cons_append, List.nil_append, wmI, wmI2, wmL, wmL1, kd_0, kd_1, kd_2, kd_3, kd_4, kd_5, kd_6, kd_7, kd_8, kd_9, kd_10, kd_11, kd_12, kd_13, kd_14, kd_15, kd_16, kd_17, kd_18, kd_19, kd_20, kd_21, kd_22, kd_23, kd_24, kd_25, kd_26, kd_27, kd_28, kd_29, kd_30, kd_31, kd_32, kd_33, kd_34, kd_35, kd_36, kd_37, kd_38, kd_39, kd_40, kd_41, kd_42, kd_43, kd_44, kd_45, kd_46, kd_47, kd_48, kd_49, kd_50, kd_51, kd_52, kd_53, kd_54, kd_55, kd_56, kd_57, kd_58, kd_59, kd_60, kd_61, kd_62, kd_63, kd_64, kd_65, kd_66, kd_67, kd_68, kd_69, kd_70, kd_71, kd_72, kd_73, kd_74, kd_75, kd_76, kd_77, kd_78, kd_79, kd_80, kd_81, kd_82, kd_83, kd_84, kd_85, kd_86, kd_87, kd_88, kd_89, kd_90, kd_91, kd_92, kd_93, kd_94, kd_95, kd_96, kd_97, kd_98, kd_99, kd_100, kd_101, kd_102, kd_103, kd_104, kd_105, kd_106, kd_107, kd_108, kd_109, kd_110, kd_111, vJ9_floorMod_7cf53_0, vJ9_floorMod_7cf53_1, vJ9_floorMod_7cf53_2, vJ9_floorMod_7cf53_3, vJ9_floorMod_7cf53_4, vJ9_floorMod_7cf53_5, vJ9_floorMod_7cf53_6, vJ9_floorMod_7cf53_7, vJ9_floorMod_7cf53_10, vJ9_floorMod_7cf53_11, vJ9_floorMod_7cf53_14, vJ9_floorMod_7cf53_15, vJ9_floorMod_7cf53_16, vJ9_floorMod_7cf53_17, vJ9_floorMod_7cf53_18, vJ9_floorMod_7cf53_19]
  have e : nI a - nI a / 12 * 12 = nI (a % 12) := pk_rem (d := 12) ha (by omega) (by omega)
  rw [e]
  refine ⟨by decide, fun _ => h, fun c => absurd (floorMod_x _ (Nat.mod_lt _ (by decide))) c⟩
end
