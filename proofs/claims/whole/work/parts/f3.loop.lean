/-! The law's switch and its loop. -/
theorem and63 (x : Int32) : ∃ k, k < 64 ∧ x &&& 63 = nI k := by
  refine ⟨(x.toBitVec &&& 63#32).toNat, ?_, ?_⟩
  · rw [BitVec.toNat_and]
    exact Nat.lt_of_le_of_lt Nat.and_le_right (by decide)
  · refine Int32.toBitVec.inj ?_
    show (x &&& 63).toBitVec = BitVec.ofNat 32 (x.toBitVec &&& 63#32).toNat
    rw [BitVec.ofNat_toNat, BitVec.setWidth_eq]
    rfl
theorem lim_ok {L i : Nat} (hL : L ≤ 3072) (hi : i ≤ 3072) (h : ¬ (Int32.ofNat L - 6 < nI i)) : i + 6 ≤ L := by
  rcases Nat.lt_or_ge L 6 with q | q
  · exfalso
    refine h (Int32.lt_of_lt_of_le ((by decide : ∀ L, L < 6 → Int32.ofNat L - 6 < 0) L q) (nI_pos' (by omega)))
  · rcases Nat.lt_or_ge L (i + 6) with w | w
    · exfalso
      refine h ?_
      have e : Int32.ofNat L - 6 = nI (L - 6) := by
        have e1 : Int32.ofNat L = nI (L - 6) + 6 := by
          have e2 := nI_add (L - 6) 6
          rw [show L - 6 + 6 = L by omega] at e2
          exact e2.symm
        rw [e1, Int32.add_sub_cancel]
      rw [e]
      exact nI_lt (by omega) (by omega)
    · exact w
section
variable {l : Launch} {E : sw_E} {d : Nat} {p : Program} {e : Env} {R : Room} {s : State} {m : MethodId} {args : Array Value} {below : List Frame} {meth : Method} {c : Code} {A : Nat → Prop} {F : State → Prop} {k n : Nat} {L : Nat} {xs : Nat → Int32} {i cN : Nat} {σ : sw_M}

set_option maxRecDepth 100000 in
theorem law_d40 : decode cL_law 40 = .ok (.tableswitch 2161 0 40 #[180, 253, 309, 322, 378, 446, 514, 527, 583, 639, 726, 794, 819, 832, 907, 963, 1043, 1056, 1112, 1168, 1224, 1292, 1360, 1373, 1441, 1452, 1508, 1588, 1668, 1681, 1694, 1708, 1764, 1820, 1876, 1889, 1945, 2001, 2057, 2137, 2148], 180) := by decide +kernel
theorem INV_up {σ : sw_M} {c : Nat} (h : INV σ c) : INV σ (c + 1) := by
  obtain ⟨a, b, L, H, g, m, h⟩ := h
  exact ⟨a, b, L, H, g, m, INV_q h (fun _ _ => rfl) (fun _ _ _ => rfl) (fun _ _ => rfl) (JB_up h.2.2.1.2.2.2.2.2.2 (by omega))⟩
theorem law_sw (hl : l.stackTraces = false) (X : LX E d p R s m args c A k n L xs) (hi : i + 6 ≤ L) (h : INV σ cN) (hc : cN ≤ 512) (h64 : 64 < d) (K : ∀ υ, INV υ (cN + 1) → sw_G l E 7 p e R s m args below meth c A (k + 4) (n + 24) F 2201 (lwLS i) [] υ) (x : Int32) : sw_G l E 7 p e R s m args below meth c A k n F 40 (lwLS i) [.int (x &&& 63)] σ := by
  obtain ⟨j, hj, e⟩ := and63 x
  rw [e]
  have C := X.1
  have hd : j = 0 ∨ j = 1 ∨ j = 2 ∨ j = 3 ∨ j = 4 ∨ j = 5 ∨ j = 6 ∨ j = 7 ∨ j = 8 ∨ j = 9 ∨ j = 10 ∨ j = 11 ∨ j = 12 ∨ j = 13 ∨ j = 14 ∨ j = 15 ∨ j = 16 ∨ j = 17 ∨ j = 18 ∨ j = 19 ∨ j = 20 ∨ j = 21 ∨ j = 22 ∨ j = 23 ∨ j = 24 ∨ j = 25 ∨ j = 26 ∨ j = 27 ∨ j = 28 ∨ j = 29 ∨ j = 30 ∨ j = 31 ∨ j = 32 ∨ j = 33 ∨ j = 34 ∨ j = 35 ∨ j = 36 ∨ j = 37 ∨ j = 38 ∨ j = 39 ∨ j = 40 ∨ 41 ≤ j := by omega
  rcases hd with rfl | rfl | rfl | rfl | rfl | rfl | rfl | rfl | rfl | rfl | rfl | rfl | rfl | rfl | rfl | rfl | rfl | rfl | rfl | rfl | rfl | rfl | rfl | rfl | rfl | rfl | rfl | rfl | rfl | rfl | rfl | rfl | rfl | rfl | rfl | rfl | rfl | rfl | rfl | rfl | rfl | hd
  · exact gg_swI C law_d40 (by decide) (by decide) (o := 180) rfl (t := 220) (by decide) (k_0 hl X hi h hc h64 K)
  · exact gg_swI C law_d40 (by decide) (by decide) (o := 253) rfl (t := 293) (by decide) (k_1 hl X hi h hc h64 K)
  · exact gg_swI C law_d40 (by decide) (by decide) (o := 309) rfl (t := 349) (by decide) (k_2 hl X hi h hc h64 K)
  · exact gg_swI C law_d40 (by decide) (by decide) (o := 322) rfl (t := 362) (by decide) (k_3 hl X hi h hc h64 K)
  · exact gg_swI C law_d40 (by decide) (by decide) (o := 378) rfl (t := 418) (by decide) (k_4 hl X hi h hc h64 K)
  · exact gg_swI C law_d40 (by decide) (by decide) (o := 446) rfl (t := 486) (by decide) (k_5 hl X hi h hc h64 K)
  · exact gg_swI C law_d40 (by decide) (by decide) (o := 514) rfl (t := 554) (by decide) (k_6 hl X hi h hc h64 K)
  · exact gg_swI C law_d40 (by decide) (by decide) (o := 527) rfl (t := 567) (by decide) (k_7 hl X hi h hc h64 K)
  · exact gg_swI C law_d40 (by decide) (by decide) (o := 583) rfl (t := 623) (by decide) (k_8 hl X hi h hc h64 K)
  · exact gg_swI C law_d40 (by decide) (by decide) (o := 639) rfl (t := 679) (by decide) (k_9 hl X hi h hc h64 K)
  · exact gg_swI C law_d40 (by decide) (by decide) (o := 726) rfl (t := 766) (by decide) (k_10 hl X hi h hc h64 K)
  · exact gg_swI C law_d40 (by decide) (by decide) (o := 794) rfl (t := 834) (by decide) (k_11 hl X hi h hc h64 K)
  · exact gg_swI C law_d40 (by decide) (by decide) (o := 819) rfl (t := 859) (by decide) (k_12 hl X hi h hc h64 K)
  · exact gg_swI C law_d40 (by decide) (by decide) (o := 832) rfl (t := 872) (by decide) (k_13 hl X hi h hc h64 K)
  · exact gg_swI C law_d40 (by decide) (by decide) (o := 907) rfl (t := 947) (by decide) (k_14 hl X hi h hc h64 K)
  · exact gg_swI C law_d40 (by decide) (by decide) (o := 963) rfl (t := 1003) (by decide) (k_15 hl X hi h hc h64 K)
  · exact gg_swI C law_d40 (by decide) (by decide) (o := 1043) rfl (t := 1083) (by decide) (k_16 hl X hi h hc h64 K)
  · exact gg_swI C law_d40 (by decide) (by decide) (o := 1056) rfl (t := 1096) (by decide) (k_17 hl X hi h hc h64 K)
  · exact gg_swI C law_d40 (by decide) (by decide) (o := 1112) rfl (t := 1152) (by decide) (k_18 hl X hi h hc h64 K)
  · exact gg_swI C law_d40 (by decide) (by decide) (o := 1168) rfl (t := 1208) (by decide) (k_19 hl X hi h hc h64 K)
  · exact gg_swI C law_d40 (by decide) (by decide) (o := 1224) rfl (t := 1264) (by decide) (k_20 hl X hi h hc h64 K)
  · exact gg_swI C law_d40 (by decide) (by decide) (o := 1292) rfl (t := 1332) (by decide) (k_21 hl X hi h hc h64 K)
  · exact gg_swI C law_d40 (by decide) (by decide) (o := 1360) rfl (t := 1400) (by decide) (k_22 hl X hi h hc h64 K)
  · exact gg_swI C law_d40 (by decide) (by decide) (o := 1373) rfl (t := 1413) (by decide) (k_23 hl X hi h hc h64 K)
  · exact gg_swI C law_d40 (by decide) (by decide) (o := 1441) rfl (t := 1481) (by decide) (k_24 hl X hi h hc h64 K)
  · exact gg_swI C law_d40 (by decide) (by decide) (o := 1452) rfl (t := 1492) (by decide) (k_25 hl X hi h hc h64 K)
  · exact gg_swI C law_d40 (by decide) (by decide) (o := 1508) rfl (t := 1548) (by decide) (k_26 hl X hi h hc h64 K)
  · exact gg_swI C law_d40 (by decide) (by decide) (o := 1588) rfl (t := 1628) (by decide) (k_27 hl X hi h hc h64 K)
  · exact gg_swI C law_d40 (by decide) (by decide) (o := 1668) rfl (t := 1708) (by decide) (k_28 hl X hi h hc h64 K)
  · exact gg_swI C law_d40 (by decide) (by decide) (o := 1681) rfl (t := 1721) (by decide) (k_29 hl X hi h hc h64 K)
  · exact gg_swI C law_d40 (by decide) (by decide) (o := 1694) rfl (t := 1734) (by decide) (k_30 hl X hi h hc h64 K)
  · exact gg_swI C law_d40 (by decide) (by decide) (o := 1708) rfl (t := 1748) (by decide) (k_31 hl X hi h hc h64 K)
  · exact gg_swI C law_d40 (by decide) (by decide) (o := 1764) rfl (t := 1804) (by decide) (k_32 hl X hi h hc h64 K)
  · exact gg_swI C law_d40 (by decide) (by decide) (o := 1820) rfl (t := 1860) (by decide) (k_33 hl X hi h hc h64 K)
  · exact gg_swI C law_d40 (by decide) (by decide) (o := 1876) rfl (t := 1916) (by decide) (k_34 hl X hi h hc h64 K)
  · exact gg_swI C law_d40 (by decide) (by decide) (o := 1889) rfl (t := 1929) (by decide) (k_35 hl X hi h hc h64 K)
  · exact gg_swI C law_d40 (by decide) (by decide) (o := 1945) rfl (t := 1985) (by decide) (k_36 hl X hi h hc h64 K)
  · exact gg_swI C law_d40 (by decide) (by decide) (o := 2001) rfl (t := 2041) (by decide) (k_37 hl X hi h hc h64 K)
  · exact gg_swI C law_d40 (by decide) (by decide) (o := 2057) rfl (t := 2097) (by decide) (k_38 hl X hi h hc h64 K)
  · exact gg_swI C law_d40 (by decide) (by decide) (o := 2137) rfl (t := 2177) (by decide) (k_39 hl X hi h hc h64 K)
  · exact gg_swI C law_d40 (by decide) (by decide) (o := 2148) rfl (t := 2188) (by decide) (k_40 hl X hi h hc h64 K)
  · refine gg_swO C law_d40 (Or.inr ?_) (t := 2201) (by decide) ?_
    · rw [nI_toInt (by omega)]
      omega
    · refine gg_wide (Nat.le_add_right k 4) (Nat.le_add_right n 24) (K σ ?_)
      exact INV_up h
set_option maxRecDepth 100000 in
theorem law_loop {k0 n0 : Nat} (hl : l.stackTraces = false) (h64 : 64 < d) (C : sw_C E 12 cL_law 7 p s m args c A) (hX : va_X (E.2.1 4000) L xs s s.heap) (hbl : E.2.1 4000 < s.heap.size) (hbA : ¬ A (E.2.1 4000)) (hNc : va_Nc sw_xi1 sw_xi0 s) (hL : L ≤ 3072) (hRf : d + 2 ≤ R.frames) (hRl : 64 * (d + 2) ≤ R.locals) (hkc : k0 + 2100 ≤ R.cells) (hkn : n0 + 13000 ≤ R.slots)
    (KE : ∀ (k n i : Nat) (σ : sw_M), k ≤ k0 + 2048 → n ≤ n0 + 12288 → sw_G l E 7 p e R s m args below meth c A k n F 2207 (lwLS i) [] σ) :
    ∀ (w cN : Nat) (σ : sw_M), INV σ cN → cN ≤ 512 → L + 1 ≤ 6 * cN + w → sw_G l E 7 p e R s m args below meth c A (k0 + 4 * cN) (n0 + 24 * cN) F 23 (lwLS (6 * cN)) [] σ := by
  intro w
  induction w with
  | zero =>
    intro cN σ h hc hw
    refine gg_il2 C (show decode cL_law 23 = .ok (.iload 4, 2) from by decide +kernel) rfl (gg_al C (show decode cL_law 25 = .ok (.aload_n 0, 1) from by decide +kernel) rfl (gg_slen C hX hbl hbA (show decode cL_law 26 = .ok (.arraylength, 1) from by decide +kernel) (gg_bp C (x := 6) (show decode cL_law 27 = .ok (.bipush 6, 2) from by decide +kernel) rfl (gg_isub C (show decode cL_law 29 = .ok (.isub, 1) from by decide +kernel) (gg_igt C (show decode cL_law 30 = .ok (.if_icmp .gt 2177, 3) from by decide +kernel) (t := 2207) (by decide) (fun _ => KE _ _ _ _ (by omega) (by omega)) (fun q => absurd (lim_ok hL (by omega) q) (by omega)))))))
  | succ w ih =>
    intro cN σ h hc hw
    refine gg_il2 C (show decode cL_law 23 = .ok (.iload 4, 2) from by decide +kernel) rfl (gg_al C (show decode cL_law 25 = .ok (.aload_n 0, 1) from by decide +kernel) rfl (gg_slen C hX hbl hbA (show decode cL_law 26 = .ok (.arraylength, 1) from by decide +kernel) (gg_bp C (x := 6) (show decode cL_law 27 = .ok (.bipush 6, 2) from by decide +kernel) rfl (gg_isub C (show decode cL_law 29 = .ok (.isub, 1) from by decide +kernel) (gg_igt C (show decode cL_law 30 = .ok (.if_icmp .gt 2177, 3) from by decide +kernel) (t := 2207) (by decide) (fun _ => KE _ _ _ _ (by omega) (by omega)) (fun q => ?_))))))
    have hi : 6 * cN + 6 ≤ L := lim_ok hL (by omega) q
    refine gg_al C (show decode cL_law 33 = .ok (.aload_n 0, 1) from by decide +kernel) rfl (gg_il2 C (show decode cL_law 34 = .ok (.iload 4, 2) from by decide +kernel) rfl (gg_sld C hX hbl hbA (vp_in_nI (by omega) (by omega)) (show decode cL_law 36 = .ok (.iaload, 1) from by decide +kernel) (gg_bp C (x := 63) (show decode cL_law 37 = .ok (.bipush 63, 2) from by decide +kernel) rfl (gg_iand C (show decode cL_law 39 = .ok (.iand, 1) from by decide +kernel) ?_))))
    refine law_sw hl ⟨C, hX, hbl, hbA, hNc, hL, hRf, hRl, by omega, by omega⟩ hi h hc h64 (fun υ hI => ?_) _
    refine gg_iinc C (show decode cL_law 2201 = .ok (.iinc 4 6, 3) from by decide +kernel) rfl rfl (gg_goto C (show decode cL_law 2204 = .ok (.goto (-2181), 3) from by decide +kernel) (t := 23) (by decide) ?_)
    have e6 : nI (6 * cN) + Int32.ofInt 6 = nI (6 * (cN + 1)) := by
      rw [show 6 * (cN + 1) = 6 * cN + 6 by omega, ← nI_add]
      rfl
    have g := ih (cN + 1) υ hI (by omega) (by omega)
    rw [show k0 + 4 * (cN + 1) = k0 + 4 * cN + 4 by omega, show n0 + 24 * (cN + 1) = n0 + 24 * cN + 24 by omega] at g
    show sw_G l E 7 p e R s m args below meth c A (k0 + 4 * cN + 4) (n0 + 24 * cN + 24) F 23 [some (.ref 4000), some (.ref 0), some (.ref 75), some (.ref 111), some (.int (nI (6 * cN) + Int32.ofInt 6))] [] υ
    rw [e6]
    exact g
end
