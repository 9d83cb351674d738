/-! The law's method: a call of a catching method, the script's numbers, what a case ends with. -/
theorem thrown_ok {l : Launch} {E : sw_E} {d : Nat} {σ : sw_M} {Q : Option Value → sw_M → Prop} (hd : 0 < d) (h : Q (some (.int (σ.1 75 0))) σ) : sw_Con l E d 177 [.ref 75] σ Q := by
  obtain ⟨d, rfl⟩ := d_pos hd
  refine con_X11_thrown ?_
  simp (maxSteps := 4000000) (disch := omega) only [wI, wL, wR, w1i, w1r, woI, woL, woR, wn0, wnS, wp00, wp0S, wp0, wpS, wl0, wlS, w1I, w1R, w1N, wA0, wAS, wrv, true_and, and_true, List.length_cons, List.length_nil, Option.toList_some, Option.toList_none, List.cons_append, List.nil_append, wmI, wmI2, wmL, wmL1, Nat.reduceAdd, Nat.reduceSub, Nat.reduceMul, Nat.reduceLeDiff, Nat.reduceLT, Nat.reduceEqDiff, reduceIte, Nat.zero_le, nI_leI, nI_ltI, nI_eq, nI_clamp, vp_in_nI, nI_1, bz_and, bz_or, bz_andn, kd_0, kd_1, kd_2, kd_3, kd_4, kd_5, kd_6, kd_7, kd_8, kd_9, kd_10, kd_11, kd_12, kd_13, kd_14, kd_15, kd_16, kd_17, kd_18, kd_19, kd_20, kd_21, kd_22, kd_23, kd_24, kd_25, kd_26, kd_27, kd_28, kd_29, kd_30, kd_31, kd_32, kd_33, kd_34, kd_35, kd_36, kd_37, kd_38, kd_39, kd_40, kd_41, kd_42, kd_43, kd_44, kd_45, kd_46, kd_47, kd_48, kd_49, kd_50, kd_51, kd_52, kd_53, kd_54, kd_55, kd_56, kd_57, kd_58, kd_59, kd_60, kd_61, kd_62, kd_63, kd_64, kd_65, kd_66, kd_67, kd_68, kd_69, kd_70, kd_71, kd_72, kd_73, kd_74, kd_75, kd_76, kd_77, kd_78, kd_79, kd_80, kd_81, kd_82, kd_83, kd_84, kd_85, kd_86, kd_87, kd_88, kd_89, kd_90, kd_91, kd_92, kd_93, kd_94, kd_95, kd_96, kd_97, kd_98, kd_99, kd_100, kd_101, kd_102, kd_103, kd_104, kd_105, kd_106, kd_107, kd_108, kd_109, kd_110, kd_111, kdf_3, kdf_5, kdf_6, kdf_7, kdf_8, kdf_9, kdf_10, kdf_11, kdf_12, kdf_13, kdf_15, kdf_17, kdf_18, kdf_19, kdf_20, kdf_21, kdf_22, kdf_23, kdf_24, kdf_25, kdf_27, kdf_29, kdf_30, kdf_31, kdf_32, kdf_33, kdf_34, kdf_35, kdf_36, kdf_38, kdf_39, kdf_40, kdf_41, kdf_42, kdf_43, kdf_44, kdf_45, kdf_47, kdf_48, kdf_49, kdf_50, kdf_51, kdf_52, kdf_53, kdf_54, kdf_56, kdf_57, kdf_58, kdf_59, kdf_60, kdf_62, kdf_63, kdf_64, kdf_65, kdf_67, kdf_68, kdf_70, kdf_72, kdf_73, kdf_74, kdf_76, kdf_77, kdf_78, kdf_79, kdf_80, kdf_81, kdf_82, kdf_83, kdf_84, kdf_85, kdf_86, kdf_87, kdf_88, kdf_89, kdf_90, kdf_91, kdf_92, kdf_93, kdf_94, kdf_95, kdf_96, kdf_97, kdf_98, kdf_99, kdf_100, kdf_101, kdf_102, kdf_103, kdf_104, kdf_105, kdf_106, kdf_107, kdf_108, kdf_109, kdf_110, kdf_111, kds_3, kds_5, kds_6, kds_7, kds_8, kds_9, kds_10, kds_11, kds_12, kds_13, kds_15, kds_17, kds_18, kds_19, kds_20, kds_21, kds_22, kds_23, kds_24, kds_25, kds_27, kds_29, kds_30, kds_31, kds_32, kds_33, kds_34, kds_35, kds_36, kds_38, kds_39, kds_40, kds_41, kds_42, kds_43, kds_44, kds_45, kds_47, kds_48, kds_49, kds_50, kds_51, kds_52, kds_53, kds_54, kds_56, kds_57, kds_58, kds_59, kds_60, kds_62, kds_63, kds_64, kds_65, kds_67, kds_68, kds_70, kds_72, kds_73, kds_74, kds_76, kds_77, kds_78, kds_79, kds_80, kds_81, kds_82, kds_83, kds_84, kds_85, kds_86, kds_87, kds_88, kds_89, kds_90, kds_91, kds_92, kds_93, kds_94, kds_95, kds_96, kds_97, kds_98, kds_99, kds_100, kds_101, kds_102, kds_103, kds_104, kds_105, kds_106, kds_107, kds_108, kds_109, kds_110, kds_111, vX11_thrown_0, vX11_thrown_1, vX11_thrown_4, updN]
  exact h
theorem lc_self (u : Int64) : lg_cmp u u = 0 := by
  unfold lg_cmp
  simp
theorem nI_plus (a b : Nat) : nI a + nI b = nI (a + b) := (Int32.ofNat_add a b).symm
theorem nth_app {v : Value} : ∀ (pre t : List (Option Value)) (j : Nat), sw_nth pre j = some v → sw_nth (pre ++ t) j = some v
  | [], t, j, h => by simp [sw_nth] at h
  | a :: pre, t, 0, h => h
  | a :: pre, t, j + 1, h => nth_app pre t j h
/-- the code from pc on -/
noncomputable def lw_ck (pc : Nat) : List (Instr × Nat) → Bool
  | [] => true
  | q :: r => decide (decode cL_law pc = .ok (q.1, q.2)) && lw_ck (pc + q.2) r
theorem wr_blind {E : sw_E} (av : List Value) (σ : sw_M) (sz : Nat) : FrameBlind (va_Pc av (wr_H E σ sz)) := by
  intro a U g mk h
  obtain ⟨h0, ⟨h1, h2, h3, h4, h5⟩, h6⟩ := h
  exact ⟨h0, ⟨h1, h2, va_K.moved (u := U) (U := U.calling g mk a) (Vm.Alike.refl U.vm) h3, h4, sw_N_same rfl rfl h5⟩, va_Nc.moved (u := U) (U := U.calling g mk a) (Vm.Alike.refl U.vm) h6⟩
section LGW
variable {l : Launch} {E : sw_E} {d nL : Nat} {cc : ByteArray} {p : Program} {e : Env} {R : Room} {s : State} {m : MethodId} {args : Array Value} {below : List Frame} {meth : Method} {c : Code} {A : Nat → Prop} {F : State → Prop} {k n : Nat} {pc : Nat} {ls ls2 : List (Option Value)} {st r : List Value} {σ : sw_M}
theorem gg_weak (t : List (Option Value)) (g : sw_G l E nL p e R s m args below meth c A k n F pc ls st σ) : sw_G l E nL p e R s m args below meth c A k n F pc (ls ++ t) st σ := fun H locs la hP hD hS hl => g H locs la hP hD hS ⟨hl.1, hl.2.1, fun j v h => hl.2.2 j v (nth_app ls t j h)⟩
theorem gg_w (C : sw_C E 12 cc nL p s m args c A) (hNc : va_Nc sw_xi1 sw_xi0 s) (hRf : d + 1 ≤ R.frames) (hRl : 64 * (d + 1) ≤ R.locals) (hkc : k + 4 ≤ R.cells) (hkn : n + 24 ≤ R.slots) {idx nY : Nat} {y : MethodName} {cy : ByteArray} {hh : List (Nat × Nat × Nat × Nat)} {av : List Value} {Q : Option Value → sw_M → Prop} (hlk : Cond.methodLink (sw_R 12) idx y ∈ sw_T) (hst : Cond.static y ∈ sw_T) (hin : Cond.initialized y.cls ∈ sw_T) (h7 : y.cls ≠ "java/lang/invoke/MethodHandle" ∧ y.cls ≠ "java/lang/invoke/VarHandle") (h5 : (parseMethodDescriptor y.desc).map (fun d => d.parameters.length) = some av.length) (hn30 : nY ≤ 30) (hr : r.length ≤ 4) (hc : sw_ConW l E d y cy nY hh av σ Q) (hd : decode cc pc = .ok (.invokestatic idx, 3))
    (g : ∀ v σ', Q v σ' → sw_G l E nL p e R s m args below meth c A (k + 4) (n + 24) F (pc + 3) ls (v.toList ++ r) σ') : sw_G l E nL p e R s m args below meth c A k n F pc ls (av.reverse ++ r) σ := by
  intro H locs la hP hD hS hl
  obtain ⟨hcode, hM⟩ := hc
  have hG : GoodIn sw_T (va_wsS (sw_R 12) idx y (Cond.codeWith y cy nY (some .int) hh :: sw_T)) := by
    intro w hw
    unfold va_wsS at hw
    simp only [List.cons_append, List.nil_append, List.mem_cons] at hw
    have : w ∈ sw_T := by rcases hw with rfl | rfl | rfl | rfl | h <;> assumption
    exact ⟨this, good_of_word (sw_T_good this)⟩
  have hcw := vx_cwSW (R := R) (s := s) (args := args) (own := sw_R 12) (index := idx) (y := y) (bytes := cy) (maxL := nY) (ret := some .int) (hh := hh) (ws := Cond.codeWith y cy nY (some .int) hh :: sw_T) (ws' := sw_T) (rm := sw_rm d 4) (mc := 4) (ms := 24) av.length C.2.2.2.2.1 hG rfl rfl rfl ⟨h7.1, h7.2, h5⟩ ⟨hRf, by show 8 + (nY + 11) + 64 * d ≤ R.locals; omega⟩
  have hrun := vx_runSW (e := e) (below := below) (meth := meth) (cells := k) (slots := n) (locs := locs) (g := F0 m pc la ((av.reverse ++ r).map (sw_c E))) (As := av.map (sw_c E)) (rest := r.map (sw_c E)) ⟨C.1, C.2.1, C.2.2.1, C.2.2.2.1, C.2.2.2.2.1⟩ (hM H.size) hcw ⟨wr_blind _ σ H.size, fun U hU hW => ⟨rfl, sw_pre C hP hD hS hU hW, hNc.moved hW.alike⟩⟩ rfl (by simp) hl.1 (by simp) (lv_room (sw_sum hr)) hd ⟨hkc, hkn⟩
  have hAle := sw_A_le C hS
  intro T hT X
  obtain ⟨v, st₀, t, T', L, h0, X', hL, e1, e2, ⟨⟨r9, σ', hv, hq, hP1, hD1⟩, hz, hk⟩, st⟩ := hrun T hT X
  cases hv
  rw [h0] at hz hk
  have hS1 : va_S A s.heap T'.heap (locs ++ L) := by
    refine ⟨by rw [e1]; exact Nat.le_trans hS.1 hz, fun q h1 h2 => ?_, fun z hz => ?_⟩
    · rw [e1, hk q (Nat.lt_of_lt_of_le h1 hS.1) (fun h => h2 (hAle q h))]
      exact hS.2.1 q h1 h2
    · rcases List.mem_append.mp hz with h | h
      · exact hS.2.2 z h
      · exact hAle _ (hL z h)
  have g9 := g r9 σ' hq T'.heap (locs ++ L) la (by rw [e1]; exact hP1) (sw_D_A hD1 (fun k hk => Or.inl ⟨k, hk, rfl⟩) _ C.2.2.2.2.2.2.2.2) hS1 hl
  have e9 : (r9.map (sw_c E)).toList ++ r.map (sw_c E) = (r9.toList ++ r).map (sw_c E) := by cases r9 <;> simp
  rw [← e9] at g9
  obtain ⟨t2, a1, b1⟩ := g9 T' rfl X'
  exact ⟨t2, st t2 a1, b1⟩
/-- a number of the script -/
theorem gg_arg (C : sw_C E 12 cc nL p s m args c A) {L : Nat} {xs : Nat → Int32} (hX : va_X (E.2.1 4000) L xs s s.heap) (hbl : E.2.1 4000 < s.heap.size) (hbA : ¬ A (E.2.1 4000)) {i j : Nat} {o : Int} (hi : i + j < L) (hL : L ≤ 3072) (h0 : sw_nth ls 0 = some (.ref 4000)) (h4 : sw_nth ls 4 = some (.int (nI i))) (d0 : decode cc pc = .ok (.aload_n 0, 1)) (d1 : decode cc (pc + 1) = .ok (.iload 4, 2)) (d2 : decode cc (pc + 1 + 2) = .ok (.iconst o, 1)) (hj : Int32.ofInt o = nI j) (d3 : decode cc (pc + 1 + 2 + 1) = .ok (.iadd, 1)) (d4 : decode cc (pc + 1 + 2 + 1 + 1) = .ok (.iaload, 1)) (g : sw_G l E nL p e R s m args below meth c A k n F (pc + 1 + 2 + 1 + 1 + 1) ls (.int (xs (i + j)) :: st) σ) : sw_G l E nL p e R s m args below meth c A k n F pc ls st σ := by
  refine gg_al C d0 h0 (gg_il2 C d1 h4 (gg_ic C d2 hj (gg_iadd C d3 ?_)))
  rw [nI_plus]
  refine gg_sld C hX hbl hbA (vp_in_nI hi (by omega)) d4 ?_
  rw [nI_clamp (by omega)]
  exact g
end LGW
