/-! What the Statement gives of the start. -/
noncomputable def hs_F : List Cond := flatC (Jvm.Cond.and given_1 narrow_1)
noncomputable def hs_tm (i : Nat) : Term := .string (sw_strs.getD i ("", 0, "")).1 (sw_strs.getD i ("", 0, "")).2.1
noncomputable def hs_B : List Nat := [71, 84, 91, 99, 107, 115, 122, 129, 141, 151, 159, 167, 176, 184, 191, 37, 197, 214, 232, 261, 277, 304, 321, 349, 376, 405, 439, 470, 486, 514, 541, 563, 590, 621]
noncomputable def hs_R : List Nat := [919, 1012, 1061, 1066, 1079, 1084, 1109, 1135, 1136, 1137, 1138, 1139, 1140, 1145, 1146, 859, 1186, 1204, 1209, 1217, 1219, 1255, 1282, 1291, 1299, 1321, 1353, 1381, 1408, 1429, 1430, 1455, 1468, 1499]
noncomputable def hs_vf (i : Nat) : Term := .field (hs_tm i) "java/lang/String" "value" "[B"
noncomputable def hs_k1 (i : Nat) : Bool := decide (hs_F[hs_B.getD i 0]? = some (Cond.exactly (hs_tm i) "java/lang/String")) && decide (lw_tbl[hs_R.getD i 0]? = some (Cond.stringRef (sw_strs.getD i ("", 0, "")).1 (sw_strs.getD i ("", 0, "")).2.1 (sw_strs.getD i ("", 0, "")).2.2))
noncomputable def hs_k2 (i : Nat) : Bool := decide (hs_F[hs_B.getD i 0 + 1]? = some (Cond.eq (.field (hs_tm i) "java/lang/String" "coder" "B") (.int 0))) && decide (hs_F[hs_B.getD i 0 + 2]? = some (Cond.arrayOf (hs_vf i) .byte)) && decide (hs_F[hs_B.getD i 0 + 3]? = some (Cond.eq (.length (hs_vf i)) (.int (Int32.ofNat (sw_slen.getD i 0))))) && (List.range (sw_slen.getD i 0)).all (fun j => decide (hs_F[hs_B.getD i 0 + 4 + j]? = some (Cond.eq (.elem (hs_vf i) (.int (Int32.ofNat j))) (.int ((sw_sbyt.getD i []).getD j 0)))))
set_option maxRecDepth 100000 in
theorem hs_c1 : (List.range 34).all hs_k1 = true := by decide +kernel
set_option maxRecDepth 100000 in
theorem hs_c2 : (List.range 16).all hs_k2 = true := by decide +kernel
theorem hs_ex {i : Nat} (hi : i < 34) : Cond.exactly (hs_tm i) "java/lang/String" ∈ hs_F ∧ Cond.stringRef (sw_strs.getD i ("", 0, "")).1 (sw_strs.getD i ("", 0, "")).2.1 (sw_strs.getD i ("", 0, "")).2.2 ∈ lw_tbl := by
  have h1 := List.all_eq_true.mp hs_c1 i (List.mem_range.mpr hi)
  unfold hs_k1 at h1
  simp only [Bool.and_eq_true, decide_eq_true_eq] at h1
  exact ⟨List.mem_of_getElem? h1.1, List.mem_of_getElem? h1.2⟩
theorem hs_w {i : Nat} (hi : i < 16) : Cond.eq (.field (hs_tm i) "java/lang/String" "coder" "B") (.int 0) ∈ hs_F ∧ Cond.arrayOf (hs_vf i) .byte ∈ hs_F ∧ Cond.eq (.length (hs_vf i)) (.int (Int32.ofNat (sw_slen.getD i 0))) ∈ hs_F ∧ ∀ j, j < sw_slen.getD i 0 → Cond.eq (.elem (hs_vf i) (.int (Int32.ofNat j))) (.int ((sw_sbyt.getD i []).getD j 0)) ∈ hs_F := by
  have h1 := List.all_eq_true.mp hs_c2 i (List.mem_range.mpr hi)
  unfold hs_k2 at h1
  simp only [Bool.and_eq_true, decide_eq_true_eq] at h1
  obtain ⟨⟨⟨a, b⟩, c⟩, d⟩ := h1
  refine ⟨List.mem_of_getElem? a, List.mem_of_getElem? b, List.mem_of_getElem? c, fun j hj => ?_⟩
  have h2 := List.all_eq_true.mp d j (List.mem_range.mpr hj)
  exact List.mem_of_getElem? (of_decide_eq_true h2)
noncomputable def hs_dk (i j : Nat) : Bool := decide (i = j) || decide (Int32.ofNat (sw_slen.getD i 0) ≠ Int32.ofNat (sw_slen.getD j 0)) || (List.range (min (sw_slen.getD i 0) (sw_slen.getD j 0))).any (fun k => decide ((sw_sbyt.getD i []).getD k 0 ≠ (sw_sbyt.getD j []).getD k 0))
set_option maxRecDepth 100000 in
theorem hs_dif : (List.range 16).all (fun i => (List.range 16).all (fun j => hs_dk i j)) = true := by decide +kernel
theorem hs_inj {i j : Nat} (hi : i < 16) (hj : j < 16) (h1 : Int32.ofNat (sw_slen.getD i 0) = Int32.ofNat (sw_slen.getD j 0)) (h2 : ∀ k, k < sw_slen.getD i 0 → k < sw_slen.getD j 0 → (sw_sbyt.getD i []).getD k 0 = (sw_sbyt.getD j []).getD k 0) : i = j := by
  have h3 := List.all_eq_true.mp (List.all_eq_true.mp hs_dif i (List.mem_range.mpr hi)) j (List.mem_range.mpr hj)
  unfold hs_dk at h3
  rw [Bool.or_eq_true, Bool.or_eq_true] at h3
  rcases h3 with (h | h) | h
  · exact of_decide_eq_true h
  · exact absurd h1 (of_decide_eq_true h)
  · obtain ⟨k, hk, h4⟩ := List.any_eq_true.mp h
    have hk := List.mem_range.mp hk
    exact absurd (h2 k (by omega) (by omega)) (of_decide_eq_true h4)
theorem hs_len {i : Nat} : sw_slen.getD i 0 < 2 ^ 31 := by
  rcases Nat.lt_or_ge i 34 with h | h
  · have : (List.range 34).all (fun i => decide (sw_slen.getD i 0 < 2 ^ 31)) = true := by decide +kernel
    exact of_decide_eq_true (List.all_eq_true.mp this i (List.mem_range.mpr h))
  · rw [List.getD_eq_getElem?_getD, List.getElem?_eq_none (by rw [show sw_slen.length = 34 from rfl]; exact h)]
    exact Nat.lt_of_sub_pos (by decide)
theorem hs_S {args : Array Value} {s : State} {A : Nat → Prop} (h : ∀ w ∈ hs_F, w.before args s = true) (hA : ∀ a : Nat, a < s.heap.size → ¬ A a) : ∃ adK adV : Nat → Nat, vk_S 16 sw_slen sw_sbyt adK adV A s s.heap ∧ ∀ i, i < 34 → (hs_tm i).eval args s none [] s = some (.ref (adK i)) := by
  have h0 : ∀ i : Nat, ∃ q : Nat × Nat, (i < 34 → (hs_tm i).eval args s none [] s = some (.ref q.1)) ∧ (i < 16 → va_O "java/lang/String" q.1 A s s.heap ∧ va_OF "java/lang/String" "coder" "B" (.int 0) q.1 A s s.heap ∧ va_OF "java/lang/String" "value" "[B" (.ref q.2) q.1 A s s.heap ∧ va_T .byte q.2 (sw_slen.getD i 0) (fun j => .int ((sw_sbyt.getD i []).getD j 0)) A s s.heap) := by
    intro i
    by_cases hi : i < 34
    · obtain ⟨a, c, cA, kA, q1, q2, q3, q4, q5, q6, -⟩ := Cond.exactly_spec (args := args) (first := s) (o := none) (s := s) (idx := []) (t := hs_tm i) (cls := "java/lang/String") (h _ (hs_ex hi).1)
      by_cases h16 : i < 16
      · obtain ⟨w1, w2, w3, w4⟩ := hs_w h16
        obtain ⟨t, ht, hT⟩ := va_Tof (f := fun j => .int ((sw_sbyt.getD i []).getD j 0)) (A := A) hs_len (h _ w2) (va_eqt (h _ w3)) (fun j hj => va_eqt (h _ (w4 j hj))) hA
        exact ⟨(a, t), fun _ => q1, fun _ => ⟨⟨cA, q3, q5, by rw [q6]; exact q2, hA a (Array.getElem?_eq_some_iff.mp q3).1⟩, vk_OFof q1 (va_eqt (h _ w1)) hA, vk_OFof q1 ht hA, hT⟩⟩
      · exact ⟨(a, 0), fun _ => q1, fun h => absurd h h16⟩
    · exact ⟨(0, 0), fun h => absurd h hi, fun h => absurd h (by omega)⟩
  obtain ⟨ad, had⟩ := Classical.axiomOfChoice h0
  refine ⟨fun i => (ad i).1, fun i => (ad i).2, ⟨fun i hi => (had i).2 hi, fun i j hi hj e => ?_⟩, fun i hi => (had i).1 hi⟩
  obtain ⟨-, -, ⟨cf, k, fi, f, cell, a1, -, a3, -, a5, -⟩, ⟨ce, b1, -, -, -, b5, b6, -⟩⟩ := (had i).2 hi
  obtain ⟨-, -, ⟨cf', k', fi', f', cell', a1', -, a3', -, a5', -⟩, ⟨ce', b1', -, -, -, b5', b6', -⟩⟩ := (had j).2 hj
  have e' : (ad i).1 = (ad j).1 := e
  rw [a1] at a1'
  cases a1'
  rw [e', a3'] at a3
  cases a3
  rw [a5] at a5'
  have e2 : (ad i).2 = (ad j).2 := by
    injection a5' with h1
    injection h1
  rw [e2, b1'] at b1
  cases b1
  exact hs_inj hi hj (b5.symm.trans b5') (fun k h1 h2 => by
    have h3 := (b6 k h1).symm.trans (b6' k h2)
    injection h3 with h4
    injection h4)
theorem hs_Sc {N : Nat} {len : List Nat} {byt : List (List Int32)} {aK aV bK bV : Nat → Nat} {A : Nat → Prop} {U : State} {H : Heap} (h : vk_S N len byt aK aV A U H) (h1 : ∀ i, i < N → bK i = aK i) (h2 : ∀ i, i < N → bV i = aV i) : vk_S N len byt bK bV A U H := by
  refine ⟨fun i hi => ?_, fun i j hi hj e => ?_⟩
  · rw [h1 i hi, h2 i hi]
    exact h.1 i hi
  · rw [h1 i hi, h1 j hj] at e
    exact h.2 i j hi hj e
noncomputable def hs_ik (ci : Nat) : Bool := match vwCl[ci]? with
  | some q => sw_inT (.instantiable q.1 q.2.2)
  | none => false
set_option maxRecDepth 100000 in
theorem hs_ik_all : (List.range 12).all hs_ik = true := by decide +kernel
theorem hs_K {args : Array Value} {s : State} (hts : ∀ w ∈ sw_T, w.before args s = true) : ∃ D : va_G, ∀ (c : Nat) (q : vw_C), vwCl[c]? = some q → u_Kn s q.1 q.2.1 q.2.2 (D.1 c) (D.2 c) := by
  have h0 : ∀ c : Nat, ∃ y : ClassId × (Nat → Nat), ∀ q : vw_C, vwCl[c]? = some q → u_Kn s q.1 q.2.1 q.2.2 y.1 y.2 := by
    intro c
    cases hq : vwCl[c]? with
    | none => exact ⟨(0, fun _ => 0), fun q e => by cases e⟩
    | some q =>
      have h1 := List.all_eq_true.mp hs_ik_all c (List.mem_range.mpr (sw_cl_lt hq))
      unfold hs_ik at h1
      rw [hq] at h1
      obtain ⟨cC, iS, h⟩ := u_known hts (sw_cl_in hq) (hts _ (sw_inT_in h1))
      exact ⟨(cC, iS), fun q' e => by cases e; exact h⟩
  obtain ⟨y, hy⟩ := Classical.axiomOfChoice h0
  exact ⟨(fun c => (y c).1, fun c => (y c).2), fun c q hq => hy c q hq⟩
theorem hs_A {args : Array Value} {s : State} {ty : FieldType} (h : (Cond.arrayClass ty).before args s = true) : ∃ cA : ClassId, ArrOfT s cA ty ∧ s.vm.findClass ("[" ++ ty.toString) = some cA := by
  obtain ⟨c, k, comp, h1, h2, h3⟩ := Cond.arrayClass_spec h
  exact ⟨c, fun n z => ⟨fun k h => (by cases h), k, h2, comp, h3⟩, h1⟩
noncomputable def hs_nk : Bool := gb_ns.all (fun q => decide (Cond.methodLinkNest q.1 q.2.1 q.2.2 RX10 ∈ lw_tbl))
set_option maxRecDepth 100000 in
theorem hs_nk_ok : hs_nk = true := by decide +kernel
theorem hs_in {args : Array Value} {s : State} (hts : ∀ w ∈ lw_tbl, w.before args s = true) {i : Nat} {w : Cond} (h : lw_tbl[i]? = some w) : w.before args s = true := hts _ (List.mem_of_getElem? h)
set_option maxRecDepth 100000 in
theorem hs_E {p : Program} {s : State} {m : MethodId} {meth : Method} {c : Code} {b L : Nat} {xs : Nat → Int32} (C0 : lw_At p s m meth c b L xs) : ∃ E : sw_E, (∀ k, k < 112 → E.2.1 k = s.heap.size + k) ∧ E.2.1 4000 = b ∧ va_K E.1 vwCl (sw_ty E) s ∧ sw_N E (fun q => s.heap.size ≤ q) s ∧ va_Nc sw_xi1 sw_xi0 s ∧ gb_N s := by
  obtain ⟨-, -, -, -, -, hts, -, -, -, hgv⟩ := C0
  have hf : ∀ w ∈ hs_F, w.before #[Value.ref b] s = true := flat_of_before _ hgv
  have hA : ∀ a : Nat, a < s.heap.size → ¬ (fun q : Nat => s.heap.size ≤ q) a := fun a h1 h2 => absurd h1 (Nat.not_lt.mpr h2)
  obtain ⟨aK, aV, hS, hev⟩ := hs_S (A := fun q => s.heap.size ≤ q) hf hA
  obtain ⟨D, hD⟩ := hs_K (fun w hw => hts w (List.mem_filter.mp hw).1)
  obtain ⟨ci, i1, i2⟩ := hs_A (hs_in hts (i := 199) (w := .arrayClass .int) (by decide +kernel))
  obtain ⟨cl, l1, l2⟩ := hs_A (hs_in hts (i := 455) (w := .arrayClass .long) (by decide +kernel))
  obtain ⟨cz, z1, z2⟩ := hs_A (hs_in hts (i := 1743) (w := .arrayClass .boolean) (by decide +kernel))
  have hfi : ∀ {i : Nat} {w : Cond}, hs_F[i]? = some w → w.before #[Value.ref b] s = true := fun h => hf _ (List.mem_of_getElem? h)
  have hp := va_Zqof (A := fun q => s.heap.size ≤ q) (hs_in hts (i := 974) (w := .laysStatic "jdk/internal/util/Preconditions" "SIOOBE_FORMATTER" "Ljava/util/function/BiFunction;") (by decide +kernel)) (hs_in hts (i := 143) (by decide +kernel)) (hfi (i := 7) (by decide +kernel)) hA
  have hp : ∃ t : Nat, va_Z "jdk/internal/util/Preconditions" "SIOOBE_FORMATTER" "Ljava/util/function/BiFunction;" .null (fun q => s.heap.size ≤ q) s s.heap ∨ va_Z "jdk/internal/util/Preconditions" "SIOOBE_FORMATTER" "Ljava/util/function/BiFunction;" (.ref t) (fun q => s.heap.size ≤ q) s s.heap := by
    rcases hp with h | ⟨t, h⟩
    · exact ⟨0, Or.inl h⟩
    · exact ⟨t, Or.inr h⟩
  obtain ⟨t, hp⟩ := hp
  refine ⟨(D, fun k => if k < 1000 then s.heap.size + k else if k < 2000 then aK (k - 1000) else if k < 3000 then aV (k - 2000) else if k < 4000 then t else b, (ci, cl, cz)), fun k hk => if_pos (by omega), rfl, ⟨hD, ?_⟩, ⟨?_, ?_, ?_, ?_, ?_, ?_, ?_, ?_, ?_, ?_⟩, ?_, ?_⟩
  · intro k q hq
    match k, hq with
    | 0, hq => cases hq; exact ⟨i1, i2⟩
    | 1, hq => cases hq; exact ⟨l1, l2⟩
    | 2, hq => cases hq; exact ⟨z1, z2⟩
    | k + 3, hq => cases hq
  · exact va_Nw.of rfl (hs_in hts (i := 221) (by decide +kernel))
  · exact va_Nw.of rfl (hs_in hts (i := 384) (by decide +kernel))
  · intro i hi
    refine vk_R.of (hts _ (hs_ex hi).2) ?_
    have h1 := hev i hi
    show _ = some (Value.ref (if 1000 + i < 1000 then s.heap.size + (1000 + i) else if 1000 + i < 2000 then aK (1000 + i - 1000) else _))
    rw [if_neg (by omega), if_pos (by omega), show 1000 + i - 1000 = i by omega]
    exact h1
  · refine hs_Sc hS (fun i hi => ?_) (fun i hi => ?_)
    · show (if 1000 + i < 1000 then s.heap.size + (1000 + i) else if 1000 + i < 2000 then aK (1000 + i - 1000) else _) = aK i
      rw [if_neg (by omega), if_pos (by omega), show 1000 + i - 1000 = i by omega]
    · show (if 2000 + i < 1000 then s.heap.size + (2000 + i) else if 2000 + i < 2000 then aK (2000 + i - 1000) else if 2000 + i < 3000 then aV (2000 + i - 2000) else _) = aV i
      rw [if_neg (by omega), if_neg (by omega), if_pos (by omega), show 2000 + i - 2000 = i by omega]
  · exact vx_Zqof (hs_in hts (i := 846) (by decide +kernel)) (hs_in hts (i := 135) (by decide +kernel)) (hfi (i := 4) (by decide +kernel)) hA
  · exact vx_Zqof (hs_in hts (i := 848) (by decide +kernel)) (hs_in hts (i := 135) (by decide +kernel)) (hfi (i := 5) (by decide +kernel)) hA
  · exact va_Nw.of rfl (hs_in hts (i := 821) (by decide +kernel))
  · exact va_Nw.of rfl (hs_in hts (i := 1179) (by decide +kernel))
  · exact va_Zof (hs_in hts (i := 933) (by decide +kernel)) (hs_in hts (i := 140) (by decide +kernel)) (va_eqt (hfi (i := 6) (by decide +kernel))) hA
  · exact hp
  · exact va_Nc.of (hfi (i := 36) (by decide +kernel))
  · intro q hq
    exact va_Nw.of rfl (hts _ (of_decide_eq_true (List.all_eq_true.mp hs_nk_ok q hq)))
